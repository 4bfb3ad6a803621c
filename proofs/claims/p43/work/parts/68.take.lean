/-! taking off a shelf, on both sides -/
theorem setI_same (σ : St) (i k : Nat) : setI σ i k (σ.1 i k) = σ := by
  obtain ⟨a, b⟩ := σ
  show ((fun j => if j = i then upd (a i) k (a i k) else a j), b) = (a, b)
  congr 1
  funext j
  by_cases e : j = i
  · subst e
    rw [if_pos rfl]
    funext l
    unfold upd
    by_cases e2 : l = k
    · rw [if_pos e2, e2]
    · rw [if_neg e2]
  · rw [if_neg e]
section TKE
variable {σ : St} {o : Nat} {w : Nat → Int32} {f : Nat → UInt32}
abbrev OK1 (o : Nat) : Nat → Prop := fun j => ¬ (o ≤ j ∧ j < o + 17)
theorem inH_none {c r h : Nat} (h20 : cnt w ≤ 20) : inH w c r h = -1 ↔ ∀ i, i < cnt w → ¬ atH w i c r h := by
  rcases inH_cases h20 c r h with ⟨z1, z2⟩ | ⟨j, z1, z2, z3, z4, z5⟩
  · exact ⟨fun _ => z2, fun _ => z1⟩
  · exact ⟨fun q => absurd q z3, fun q => absurd z5 (q j z1)⟩
theorem cl_takeFrom (hO : Off σ o w f) (hI : Inv w f) {c r h : Nat} (hc : c < 6) (hr : r < 2) (hh : h < hls r) :
    ok_X6_takeFrom σ o (nI c) (nI r) (nI h) ∧ ∃ w', Off (f_X6_takeFrom σ o (nI c) (nI r) (nI h)).1 o w' f ∧ Inv w' f ∧ Tk c w w' ∧ cn (onS w c) (cnt w) = cn (onS w' c) (cnt w) + (if (f_X6_takeFrom σ o (nI c) (nI r) (nI h)).2 = true then 1 else 0) ∧ inH w' c r h = -1 ∧ (∀ r' h', inH w c r' h' = -1 → inH w' c r' h' = -1) ∧ Kp (OK1 o) σ (f_X6_takeFrom σ o (nI c) (nI r) (nI h)).1 := by
  have hA := cl_itemAt hO hI hc hr hh
  have h20 := hI.n20
  have hp := place_lt hc hr hh
  have hcp : (nI (5 * c + 3 * r + h)).toNatClampNeg = 5 * c + 3 * r + h := nI_clamp (by omega)
  have hvp : vp_in (nI (5 * c + 3 * r + h)) 30 := vp_in_nI hp (by decide)
  have hcc : (nI c).toNatClampNeg = c := nI_clamp (by omega)
  have hvc : vp_in (nI c) 6 := vp_in_nI hc (by decide)
  rcases inH_cases h20 c r h with ⟨z1, z2⟩ | ⟨i, z1, z2, z3, z4, z5⟩
  · have e : f_X6_takeFrom σ o (nI c) (nI r) (nI h) = (σ, false) := by
      unfold f_X6_takeFrom
      rw [hA.2, z1]; rfl
    refine ⟨?_, w, ?_⟩
    · unfold ok_X6_takeFrom
      rw [hA.2, z1]
      exact ⟨hA.1, fun _ => trivial, fun q => absurd rfl q⟩
    · rw [e]
      exact ⟨hO, hI, Tk.rf, rfl, z1, fun _ _ q => q, Kp.rf⟩
  · have hi20 : i < 20 := by omega
    have hci : (nI i).toNatClampNeg = i := nI_clamp (by omega)
    have hvi : vp_in (nI i) 20 := vp_in_nI hi20 (by decide)
    have hm : ¬ nI i = -1 := nI_m1 (by omega)
    have h3 : (3 : Int32) = nI 3 := rfl
    have hrest : Inv (leave w i 3) f ∧ Tk c w (leave w i 3) ∧ cn (onS w c) (cnt w) = cn (onS (leave w i 3) c) (cnt w) + 1 ∧ inH (leave w i 3) c r h = -1 ∧ (∀ r' h', inH w c r' h' = -1 → inH (leave w i 3) c r' h' = -1) := by
      refine ⟨hI.leave z1 z5 (Or.inl rfl) (fun q => absurd q (by decide)), Tk.leave z1 z5.1 z5.2.1, ?_, ?_, fun r' h' q => ?_⟩
      · refine cn_upd (a := i) ?_ ?_ (fun a ha => ?_) _ z1
        · rw [onS_leave (by decide) (by decide)]; simp
        · unfold onS; simp [z5.1, z5.2.1]
        · rw [onS_leave (by decide) (by decide)]; simp [ha]
      · refine (inH_none (by rw [cnt_leave]; exact h20)).mpr (fun a ha q => ?_)
        rw [cnt_leave] at ha
        obtain ⟨n1, n2⟩ := (atH_leave (by decide) (by decide)).mp q
        exact n1 (hI.2.2.1 a i c r h ha z1 n2 z5)
      · refine (inH_none (by rw [cnt_leave]; exact h20)).mpr (fun a ha q2 => ?_)
        rw [cnt_leave] at ha
        exact (inH_none h20).mp q a ha ((atH_leave (by decide) (by decide)).mp q2).2
    by_cases hr0 : r = 0
    · subst hr0
      have e : f_X6_takeFrom σ o (nI c) (nI 0) (nI h) = (setI (setI (setI (setI σ (o + 13 + 1) (5 * c + 3 * 0 + h) (-1)) (o + 4 + 5) i (nI 3)) (o + 4 + 6) i (-1)) (o + 13 + 2) c (nI (cn (tkn w c) (cnt w) + 1)), true) := by
        unfold f_X6_takeFrom f_X8_put f_X5_leaveShelf
        simp only [bnd, hA.2, z2, placeOf_nI, hcp, hci, hcc]
        rw [if_neg hm, if_pos (show nI 0 = 0 from rfl)]
        have e1 : (setI (setI (setI σ (o + 13 + 1) (5 * c + 3 * 0 + h) (-1)) (o + 4 + 5) i 3) (o + 4 + 6) i (-1)).1 (o + 13 + 2) c = nI (cn (tkn w c) (cnt w)) := by
          rw [q1n (by omega), q1n (by omega), q1n (by omega)]
          exact hO.2.2.1.2 c hc
        rw [e1, nI_1]
        rfl
      refine ⟨?_, leave w i 3, ?_⟩
      · unfold ok_X6_takeFrom ok_X8_put ok_X5_leaveShelf
        simp only [bndP, hA.2, z2, placeOf_nI]
        exact ⟨hA.1, fun q => absurd q hm, fun _ => ⟨hvp, ⟨hvi, hvi⟩, fun _ => ⟨hvc, hvc⟩, fun q => absurd rfl q⟩⟩
      · rw [e]
        refine ⟨?_, hrest.1, hrest.2.1, by rw [if_pos rfl]; exact hrest.2.2.1, hrest.2.2.2.1, hrest.2.2.2.2, ?_⟩
        · refine leave_off hO hI z1 hc (by decide) hh z5 (by decide) (by decide) (fun d hd => ?_)
          rw [tkn_leave_one z1 z5 hc d hd]
          by_cases ed : d = c
          · rw [if_pos ed, if_pos ed, ed]
          · rw [if_neg ed, if_neg ed]; exact hO.2.2.1.2 d hd
        · exact kp_setI (kp_setI (kp_setI (kp_setI Kp.rf (fun q => q ⟨by omega, by omega⟩)) (fun q => q ⟨by omega, by omega⟩)) (fun q => q ⟨by omega, by omega⟩)) (fun q => q ⟨by omega, by omega⟩)
    · have hr1 : r = 1 := by omega
      subst hr1
      have e : f_X6_takeFrom σ o (nI c) (nI 1) (nI h) = (setI (setI (setI σ (o + 13 + 1) (5 * c + 3 * 1 + h) (-1)) (o + 4 + 5) i (nI 3)) (o + 4 + 6) i (-1), true) := by
        unfold f_X6_takeFrom f_X8_put f_X5_leaveShelf
        simp only [bnd, hA.2, z2, placeOf_nI, hcp, hci, hcc]
        rw [if_neg hm, if_neg (show ¬ nI 1 = 0 by decide)]
        rfl
      refine ⟨?_, leave w i 3, ?_⟩
      · unfold ok_X6_takeFrom ok_X8_put ok_X5_leaveShelf
        simp only [bndP, hA.2, z2, placeOf_nI]
        exact ⟨hA.1, fun q => absurd q hm, fun _ => ⟨hvp, ⟨hvi, hvi⟩, fun _ => ⟨hvc, hvc⟩, fun _ => trivial⟩⟩
      · rw [e]
        refine ⟨?_, hrest.1, hrest.2.1, by rw [if_pos rfl]; exact hrest.2.2.1, hrest.2.2.2.1, hrest.2.2.2.2, ?_⟩
        · have q0 := leave_off (q := (setI (setI (setI σ (o + 13 + 1) (5 * c + 3 * 1 + h) (-1)) (o + 4 + 5) i (nI 3)) (o + 4 + 6) i (-1)).1 (o + 13 + 2) c) hO hI z1 hc (by decide) hh z5 (t := 3) (by decide) (by decide) (fun d hd => by
            rw [tkn_leave_same z1 z5 (by decide) (Or.inr (by decide)) (by decide) d]
            by_cases ed : d = c
            · subst ed
              rw [if_pos rfl, q1n (by omega), q1n (by omega), q1n (by omega)]
              exact hO.2.2.1.2 d hd
            · rw [if_neg ed]; exact hO.2.2.1.2 d hd)
          rw [setI_same] at q0
          exact q0
        · exact kp_setI (kp_setI (kp_setI Kp.rf (fun q => q ⟨by omega, by omega⟩)) (fun q => q ⟨by omega, by omega⟩)) (fun q => q ⟨by omega, by omega⟩)
theorem cl_takeRow {c r : Nat} (hc : c < 6) (hr : r < 2) (k4 : St → Int32 → Int32 → Int32 → St × Int32) (p4 : St → Int32 → Int32 → Int32 → Prop) : ∀ (m fu h : Nat) (σ : St) (w : Nat → Int32) (n0 : Nat), m < fu → h + m = hls r → Off σ o w f → Inv w f →
    ∃ (σ' : St) (w' : Nat → Int32) (d : Nat), (p4 σ' (nI c) (nI (n0 + d)) (nI (r + 1)) → okX6_takeAll_L12 o p4 fu σ (nI c) (nI n0) (nI r) (nI h)) ∧ fX6_takeAll_L12 o k4 fu σ (nI c) (nI n0) (nI r) (nI h) = k4 σ' (nI c) (nI (n0 + d)) (nI (r + 1)) ∧ Off σ' o w' f ∧ Inv w' f ∧ Tk c w w' ∧ cn (onS w c) (cnt w) = cn (onS w' c) (cnt w) + d ∧ (∀ h', h ≤ h' → h' < hls r → inH w' c r h' = -1) ∧ (∀ r' h', inH w c r' h' = -1 → inH w' c r' h' = -1) ∧ Kp (OK1 o) σ σ' := by
  have hh := (holes_nI hr).1
  have h3 := hls_le r
  intro m
  induction m with
  | zero =>
    intro fu h σ w n0 hf hm hO hI
    obtain ⟨fu, rfl⟩ : ∃ z, fu = z + 1 := ⟨fu - 1, by omega⟩
    have : h = hls r := by omega
    subst this
    refine ⟨σ, w, 0, fun q => ?_, ?_, hO, hI, Tk.rf, rfl, fun h' a b => absurd b (by omega), fun _ _ q => q, Kp.rf⟩
    · simp [okX6_takeAll_L12, hh, nI_1]; exact q
    · simp [fX6_takeAll_L12, hh, nI_1]
  | succ m ih =>
    intro fu h σ w n0 hf hm hO hI
    obtain ⟨fu, rfl⟩ : ∃ z, fu = z + 1 := ⟨fu - 1, by omega⟩
    have hlt : ¬ nI (hls r) ≤ nI h := nI_ge (by omega) (by omega)
    obtain ⟨t1, w1, t2, t3, t4, t5, t6, t7, t8⟩ := cl_takeFrom hO hI hc hr (h := h) (by omega)
    generalize hz : f_X6_takeFrom σ o (nI c) (nI r) (nI h) = z at t2 t5 t8
    have hc1 : cnt w1 = cnt w := t4.cnt
    cases hb : z.2 with
    | true =>
      obtain ⟨σ', w', d, e1, e2, e3, e4, e5, e6, e7, e8, e9⟩ := ih fu (h + 1) z.1 w1 (n0 + 1) (by omega) (by omega) t2 t3
      rw [hc1] at e6
      refine ⟨σ', w', 1 + d, fun q => ?_, ?_, e3, e4, t4.tr e5, ?_, fun h' a b => ?_, fun r' h' q => e8 r' h' (t7 r' h' q), t8.tr e9⟩
      · have := e1 (by rw [show n0 + 1 + d = n0 + (1 + d) by omega]; exact q)
        simp [okX6_takeAll_L12, hh, hlt, t1, hz, bndP, hb, nI_1, this]
      · simp [fX6_takeAll_L12, hh, hlt, hz, bnd, hb, nI_1, e2]
        rw [show n0 + 1 + d = n0 + (1 + d) by omega]
      · rw [t5, hb, if_pos rfl, e6]; omega
      · rcases Nat.lt_or_ge h h' with y | y
        · exact e7 h' y b
        · rw [show h' = h by omega]; exact e8 r h t6
    | false =>
      obtain ⟨σ', w', d, e1, e2, e3, e4, e5, e6, e7, e8, e9⟩ := ih fu (h + 1) z.1 w1 n0 (by omega) (by omega) t2 t3
      rw [hc1] at e6
      refine ⟨σ', w', d, fun q => ?_, ?_, e3, e4, t4.tr e5, ?_, fun h' a b => ?_, fun r' h' q => e8 r' h' (t7 r' h' q), t8.tr e9⟩
      · have := e1 q
        simp [okX6_takeAll_L12, hh, hlt, t1, hz, bndP, hb, nI_1, this]
      · simp [fX6_takeAll_L12, hh, hlt, hz, bnd, hb, nI_1, e2]
      · rw [t5, hb, if_neg (by decide), e6]; rfl
      · rcases Nat.lt_or_ge h h' with y | y
        · exact e7 h' y b
        · rw [show h' = h by omega]; exact e8 r h t6
theorem cl_takeAll (hO : Off σ o w f) (hI : Inv w f) {c : Nat} (hc : c < 6) : ok_X6_takeAll σ o (nI c) ∧ ∃ (σ' : St) (w' : Nat → Int32), f_X6_takeAll σ o (nI c) = (σ', nI (cn (onS w c) (cnt w))) ∧ Off σ' o w' f ∧ Inv w' f ∧ Tk c w w' ∧ (∀ a, a < cnt w → onS w' c a = false) ∧ Kp (OK1 o) σ σ' := by
  obtain ⟨σ1, w1, d1, a1, a2, a3, a4, a5, a6, a7, a8, a9⟩ := cl_takeRow (o := o) hc (r := 0) (by decide) (fun σ x1 x2 x3 => fX6_takeAll_L4 o 1999 σ x1 x2 x3) (fun σ x1 x2 x3 => okX6_takeAll_L4 o 1999 σ x1 x2 x3) 3 2000 0 σ w 0 (by decide) rfl hO hI
  obtain ⟨σ2, w2, d2, b1, b2, b3, b4, b5, b6, b7, b8, b9⟩ := cl_takeRow (o := o) hc (r := 1) (by decide) (fun σ x1 x2 x3 => fX6_takeAll_L4 o 1998 σ x1 x2 x3) (fun σ x1 x2 x3 => okX6_takeAll_L4 o 1998 σ x1 x2 x3) 2 2000 0 σ1 w1 (0 + d1) (by decide) rfl a3 a4
  have hc1 : cnt w1 = cnt w := a5.cnt
  rw [hc1] at b6
  have hc2 : cnt w2 = cnt w := by rw [b5.cnt, hc1]
  have hend : cn (onS w2 c) (cnt w2) = 0 := (bare_all b4 hc).mp ⟨bare_iff.mpr (fun h hh => b8 0 h (a7 h (Nat.zero_le h) hh)), bare_iff.mpr (fun h hh => b7 h (Nat.zero_le h) hh)⟩
  rw [hc2] at hend
  have hsum : cn (onS w c) (cnt w) = 0 + d1 + d2 := by omega
  have n0 : ¬ (1 : Int32) < nI 0 := by decide
  have n1 : ¬ (1 : Int32) < nI 1 := by decide
  have n2 : (1 : Int32) < nI 2 := by decide
  have e2 : fX6_takeAll_L4 o 1998 σ2 (nI c) (nI (0 + d1 + d2)) (nI 2) = (σ2, nI (0 + d1 + d2)) := by
    rw [show (1998 : Nat) = 1997 + 1 from rfl, fX6_takeAll_L4, if_pos n2]
  have o2 : okX6_takeAll_L4 o 1998 σ2 (nI c) (nI (0 + d1 + d2)) (nI 2) := by
    rw [show (1998 : Nat) = 1997 + 1 from rfl, okX6_takeAll_L4]
    exact ⟨fun _ => trivial, fun q => absurd n2 q⟩
  have e1 : fX6_takeAll_L4 o 1999 σ1 (nI c) (nI (0 + d1)) (nI 1) = (σ2, nI (0 + d1 + d2)) := by
    rw [show (1999 : Nat) = 1998 + 1 from rfl, fX6_takeAll_L4, if_neg n1]
    exact b2.trans e2
  have o1 : okX6_takeAll_L4 o 1999 σ1 (nI c) (nI (0 + d1)) (nI 1) := by
    rw [show (1999 : Nat) = 1998 + 1 from rfl, okX6_takeAll_L4]
    exact ⟨fun q => absurd q n1, fun _ => b1 o2⟩
  refine ⟨?_, σ2, w2, ?_, b3, b4, a5.tr b5, fun a ha => (cn_zero _).mp hend a ha, a9.tr b9⟩
  · unfold ok_X6_takeAll
    rw [show (2000 : Nat) = 1999 + 1 from rfl, okX6_takeAll_L4]
    exact ⟨fun q => absurd q n0, fun _ => a1 o1⟩
  · unfold f_X6_takeAll
    rw [show (2000 : Nat) = 1999 + 1 from rfl, fX6_takeAll_L4, hsum]
    exact (if_neg n0).trans (a2.trans e1)
end TKE
