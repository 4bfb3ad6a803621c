/-! all is well, on both sides, always -/
section WELL
variable {σ : St} {o : Nat} {w : Nat → Int32} {f : Nat → UInt32}
theorem inH_at (hI : Inv w f) {i c r h : Nat} (hi : i < cnt w) (ha : atH w i c r h) : inH w c r h = nI i :=
  hp_uniq hI.2.2.1 (inH_hp w c r h) (Or.inr ⟨i, hi, rfl, ha⟩)
theorem hole_is {c r h : Nat} (hc : c < 6) (hr : r < 2) (hh : h < hls r) : f_X8_isHole (nI c) (nI r) (nI h) = true := by
  have h3 := hls_le r
  have e1 : f_X9_isChild (nI c) = true := nI_ir (a := 0) (b := 5) (by omega) (by omega) (by decide)
  have e2 : f_X9_inRange (nI r) 0 1 = true := nI_ir (a := 0) (b := 1) (by omega) (by omega) (by decide)
  have e3 : f_X9_inRange (nI h) 0 (nI (hls r) - 1) = true := by rw [hasB_in (by omega)]; exact hasB_nI hh (by omega)
  unfold f_X8_isHole
  rw [e1, e2, (holes_nI hr).1, e3]
  rfl
theorem cl_inHole (hO : Off σ o w f) (hI : Inv w f) {i : Nat} (hi : i < cnt w) (h2 : it w i 4 = 2) : ok_X6_isInItsHole σ o (nI i) ∧ f_X6_isInItsHole σ o (nI i) = true := by
  have h20 := hI.n20
  have hcl : (nI i).toNatClampNeg = i := nI_clamp (by omega)
  have hv := vp20 hi h20
  obtain ⟨c, r, h, hc, hr, hh, ha⟩ := (hI.2.1 i hi).2.2.2.1 h2
  have e1 : σ.1 (o + 4 + 3) i = nI c := (hO.to_ hi).trans ha.2.1
  have e2 : σ.1 (o + 4 + 1) i = nI r := (hO.kind hi).trans ha.2.2.1
  have e3 : σ.1 (o + 4 + 6) i = nI h := by rw [hO.hole hi, ha.2.2.2, nI_pred]
  have g := cl_itemAt hO hI hc hr hh
  unfold ok_X6_isInItsHole f_X6_isInItsHole
  rw [hcl, e1, e2, e3, hole_is hc hr hh, g.2, inH_at hI hi ha]
  exact ⟨⟨hv, hv, hv, fun _ => g.1, fun _ => trivial⟩, by simp⟩
theorem cl_itemsWell (hO : Off σ o w f) (hI : Inv w f) : ok_X6_areItemsWell σ o ∧ f_X6_areItemsWell σ o = true := by
  have hn := hO.n hI
  have h20 := hI.n20
  have n24 : ¬ (2 : Int32) = 4 := by decide
  exact wh_run (fun fu k => fX6_areItemsWell_L2 σ o fu (nI k)) (fun fu k => okX6_areItemsWell_L2 σ o fu (nI k)) (cnt w) true
    (fun fu => by simp [okX6_areItemsWell_L2, fX6_areItemsWell_L2, hn])
    (fun fu k hk => by
      have hlt : ¬ nI (cnt w) ≤ nI k := nI_ge hk (by omega)
      have hcl : (nI k).toNatClampNeg = k := nI_clamp (by omega)
      have hv := vp20 hk h20
      by_cases h2 : it w k 4 = 2
      · have g := cl_inHole hO hI hk h2
        simp [okX6_areItemsWell_L2, fX6_areItemsWell_L2, hn, hlt, hcl, hv, hO.state hk, h2, g.1, g.2, n24, nI_1]
      · by_cases h4 : it w k 4 = 4
        · have h0 := (hI.2.1 k hk).2.2.2.2.2 h4
          have n42 : ¬ (4 : Int32) = 2 := by decide
          simp [okX6_areItemsWell_L2, fX6_areItemsWell_L2, hn, hlt, hcl, hv, hO.state hk, hO.kind hk, h4, n42, h0, nI_1]
        · simp [okX6_areItemsWell_L2, fX6_areItemsWell_L2, hn, hlt, hcl, hv, hO.state hk, h2, h4, nI_1])
    (cnt w) 2000 0 (by omega) (Nat.zero_add _)
def pc (p : Nat) : Nat := p / 5
def pr (p : Nat) : Nat := if p % 5 < 3 then 0 else 1
def ph (p : Nat) : Nat := if p % 5 < 3 then p % 5 else p % 5 - 3
theorem p_ok {p : Nat} (h : p < 30) : pc p < 6 ∧ pr p < 2 ∧ ph p < hls (pr p) ∧ 5 * pc p + 3 * pr p + ph p = p := by
  unfold pc pr ph hls
  split
  · rw [if_pos rfl]; omega
  · rw [if_neg (by decide)]; omega
theorem p_of {c r h : Nat} (hr : r < 2) (hh : h < hls r) : pc (5 * c + 3 * r + h) = c ∧ pr (5 * c + 3 * r + h) = r ∧ ph (5 * c + 3 * r + h) = h := by
  unfold hls at hh
  unfold pc pr ph
  rcases (show r = 0 ∨ r = 1 by omega) with rfl | rfl
  · rw [if_pos rfl] at hh
    have h1 : (5 * c + 3 * 0 + h) % 5 = h := by omega
    rw [h1, if_pos hh, if_pos hh]
    omega
  · rw [if_neg (by decide)] at hh
    have h1 : (5 * c + 3 * 1 + h) % 5 = 3 + h := by omega
    rw [h1, if_neg (by omega), if_neg (by omega)]
    omega
def aB (w : Nat → Int32) (i c r h : Nat) : Bool := decide (it w i 4 = 2 ∧ it w i 2 = nI c ∧ it w i 0 = nI r ∧ it w i 5 = nI (h + 1))
theorem aB_t {w : Nat → Int32} {i c r h : Nat} (q : atH w i c r h) : aB w i c r h = true := decide_eq_true q
theorem aB_f {w : Nat → Int32} {i c r h : Nat} (q : ¬ atH w i c r h) : aB w i c r h = false := decide_eq_false q
theorem aB_o {w : Nat → Int32} {i c r h : Nat} (q : aB w i c r h = true) : atH w i c r h := by
  unfold aB at q
  simp only [decide_eq_true_eq] at q
  exact q
theorem holes_count (hO : Off σ o w f) (hI : Inv w f) : cn (fun p => decide (¬ σ.1 (o + 13 + 1) p = -1)) 30 = cn (fun i => decide (it w i 4 = 2)) (cnt w) := by
  have h20 := hI.n20
  rw [← sm_cn, ← sm_cn]
  rw [sm_congr (h := fun p => sm (fun i => if aB w i (pc p) (pr p) (ph p) = true then 1 else 0) (cnt w)) 30 (fun p hp => by
    obtain ⟨p1, p2, p3, p4⟩ := p_ok hp
    have hh : Hp w (pc p) (pr p) (ph p) (σ.1 (o + 13 + 1) p) := by
      have := hO.2.2.1.1 _ _ _ p1 p2 p3
      rw [p4] at this
      exact this
    rw [sm_cn]
    rcases hh with ⟨e, h⟩ | ⟨i, hi, e, h⟩
    · rw [if_neg (by simp [e])]
      exact ((cn_zero _).mpr (fun i hi => aB_f (h i hi))).symm
    · have : ¬ nI i = -1 := nI_m1 (by omega)
      rw [if_pos (by simp [e, this])]
      exact (cn_one (p := fun i => aB w i (pc p) (pr p) (ph p)) hi (aB_t h) (fun j hj q => hI.2.2.1 j i _ _ _ hj hi (aB_o q) h)).symm)]
  rw [sm_swap]
  refine sm_congr _ (fun i hi => ?_)
  rw [sm_cn]
  by_cases h2 : it w i 4 = 2
  · rw [if_pos (by simp [h2])]
    obtain ⟨c, r, h, hc, hr, hh, ha⟩ := (hI.2.1 i hi).2.2.2.1 h2
    obtain ⟨e1, e2, e3⟩ := p_of (c := c) hr hh
    refine cn_one (p := fun p => aB w i (pc p) (pr p) (ph p)) (place_lt hc hr hh) (aB_t (by rw [e1, e2, e3]; exact ha)) (fun p hp q => ?_)
    obtain ⟨p1, p2, p3, p4⟩ := p_ok hp
    obtain ⟨u1, u2, u3⟩ := atH_uniq p1 p2 (hls3 p3) hc hr (hls3 hh) (aB_o q) ha
    rw [← p4, u1, u2, u3]
  · rw [if_neg (by simp [h2])]
    exact (cn_zero _).mpr (fun p _ => aB_f (fun q => h2 q.1))
theorem cl_holesWell (hO : Off σ o w f) (hI : Inv w f) : ok_X6_areHolesWell σ o ∧ f_X6_areHolesWell σ o = true := by
  have g := cl_inState hO hI 2
  have h20 := hI.n20
  have key := lp_run0 (n := 30) (fun fu a k => fX6_areHolesWell_L4 σ o fu a k) (fun fu a k => okX6_areHolesWell_L4 σ o fu a k) (fun p a => if decide (¬ σ.1 (o + 13 + 1) p = -1) = true then a + 1 else a) (fun a => if a = f_X5_inState σ (o + 4) 2 then true else false) (fun _ _ => True) 0 (by decide) trivial
    (fun fu a _ => by
      have h : (30 : Int32) ≤ nI 30 := by decide
      simp [okX6_areHolesWell_L4, fX6_areHolesWell_L4, h, g.1])
    (fun fu k a hk _ => by
      have hlt : ¬ (30 : Int32) ≤ nI k := nI_ge (b := 30) hk (by decide)
      have hcl : (nI k).toNatClampNeg = k := nI_clamp (by omega)
      have hv : vp_in (nI k) 30 := vp_in_nI hk (by decide)
      by_cases h : σ.1 (o + 13 + 1) k = -1
      · simp [okX6_areHolesWell_L4, fX6_areHolesWell_L4, hlt, hcl, hv, h, nI_1]
      · simp [okX6_areHolesWell_L4, fX6_areHolesWell_L4, hlt, hcl, hv, h, nI_1])
  refine ⟨key.1, key.2.1.trans ?_⟩
  rw [cn_lp, holes_count hO hI, g.2, if_pos rfl]
theorem cl_readersWell (hO : Off σ o w f) (hI : Inv w f) : ok_X6_areReadersWell σ o ∧ f_X6_areReadersWell σ o = true := by
  exact wh_run (fun fu k => fX6_areReadersWell_L2 σ o fu (nI k)) (fun fu k => okX6_areReadersWell_L2 σ o fu (nI k)) 6 true
    (fun fu => by
      have h : (6 : Int32) ≤ nI 6 := by decide
      simp [okX6_areReadersWell_L2, fX6_areReadersWell_L2, h])
    (fun fu k hk => by
      have hlt : ¬ (6 : Int32) ≤ nI k := nI_ge (b := 6) hk (by decide)
      have hcl : (nI k).toNatClampNeg = k := nI_clamp (by omega)
      have hv : vp_in (nI k) 6 := vp_in_nI hk (by decide)
      have g := cl_taken hO hI k
      have e : σ.1 (o + 13 + 2) k = nI (cn (tkn w k) (cnt w)) := hO.2.2.1.2 k hk
      simp [okX6_areReadersWell_L2, fX6_areReadersWell_L2, hlt, hcl, hv, g.1, g.2, e, nI_1])
    6 2000 0 (by decide) rfl
end WELL
