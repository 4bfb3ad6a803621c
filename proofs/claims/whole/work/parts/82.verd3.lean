/-! .. shelves, takings, feedings -/
section VERD3
variable {σ : St} {w : Nat → Int32} {f : Nat → UInt32}
theorem row_cases (x : Int32) : (f_X9_inRange x 0 1 = true ∧ ∃ r, r < 2 ∧ x = nI r) ∨ f_X9_inRange x 0 1 = false := by
  cases h : f_X9_inRange x 0 1 with
  | false => exact Or.inr rfl
  | true =>
    obtain ⟨c, e, -, h2⟩ := ir_nI (a := 0) (b := 1) (by decide) (by decide) h
    exact Or.inl ⟨rfl, c, by omega, e⟩
abbrev PSh (w : Nat → Int32) (x1 x2 : Int32) : Prop := ∃ i c r, x1 = nI i ∧ x2 = nI r ∧ i < cnt w ∧ c < 6 ∧ r < 2 ∧ it w i 4 = 1 ∧ it w i 2 = nI c ∧ it w i 0 = nI r ∧ ¬ lof w c r = -1
theorem vd_shelve (hO : Off σ 2 w f) (hI : Inv w f) (x1 x2 : Int32) : Vd σ w f (f_X1_mayShelve σ x1 x2) (ok_X1_mayShelve σ x1 x2) (fun τ => f_X10_notShelve τ x1 x2) (fun τ => ok_X10_notShelve τ x1 x2) 1 0 (PSh w x1 x2) := by
  have h20 := hI.n20
  have hit := cl_hasItem hO hI x1
  have c1s := hasB_cases x1 (n := cnt w) (by omega)
  rcases c1s with ⟨c1, i, hi, rfl⟩ | c1
  · have hci : (nI i).toNatClampNeg = i := nI_clamp (by omega)
    have hi20 : i < 20 := by omega
    have e5 : σ.1 11 i = it w i 4 := hO.state hi
    have e3 : σ.1 9 i = it w i 2 := hO.to_ hi
    have e1 : σ.1 7 i = it w i 0 := hO.kind hi
    have hvi : vp_in (nI i) 20 := vp_in_nI (by omega) (by decide)
    obtain ⟨⟨r0, hr0, er0⟩, ⟨c, hc, ec⟩, -⟩ := hI.2.1 i hi
    rcases row_cases x2 with ⟨c2, r, hr, rfl⟩ | c2
    · have hl := cl_lowest hO hI hc hr
      have hl1 : ok_X8_lowestFree σ 15 (nI c) (nI r) := hl.1
      have hl2 : f_X8_lowestFree σ 15 (nI c) (nI r) = lof w c r := hl.2
      have hh := (holes_nI hr).2
      refine ⟨⟨fun h1 => ⟨fun h2 => ⟨hvi, fun _ => ⟨hvi, by rw [hci, e3, ec]; exact hl1, fun _ => trivial, fun _ => hvi⟩, fun _ => hvi⟩, fun _ => trivial⟩, fun _ => trivial⟩, fun τ hm => ⟨fun h1 => ⟨fun h2 => ⟨mk4 hi20, fun _ => ⟨mk2 hi20, by rw [mo2 hm.1 hi20, ec]; exact (md_free hm.1 hI hr).1, fun _ => trivial, fun _ => mk0 hi20⟩, fun _ => mk4 hi20⟩, fun _ => trivial⟩, fun _ => trivial⟩, ?_⟩
      by_cases q1 : it w i 4 = 1
      · by_cases q2 : lof w c r = -1
        · refine Or.inr (Or.inr (Or.inr ⟨8, nI r, by decide, by decide, by decide, ?_, fun τ hm => ?_⟩))
          · simp only [f_X1_mayShelve, hit, c1, c2, hci, e5, e3, q1, ec, hl2, q2, bnd_eq, cl_refuse, if_true]
          · have hf := (md_free (c := c) hm.1 hI hr).2
            rw [if_pos q2] at hf
            simp only [f_X10_notShelve, md_isItem hm.1 hI, c1, isn_bt, c2, mo4 hm.1 hi20, q1, mo2 hm.1 hi20, ec, hf, hh, bnd_eq, md_isNot, if_true]
        · have hne : ¬ lof w c r = nI (hls r) := by
            rcases lof_cases (w := w) (c := c) (r := r) with ⟨z, -⟩ | ⟨b, b1, b2, -⟩
            · exact absurd z q2
            · rw [b2]
              have := hls_le r
              exact fun e => by have := nI_inj (by omega) (by omega) e; omega
          by_cases q3 : it w i 0 = nI r
          · refine Or.inl ⟨?_, ⟨i, c, r, rfl, rfl, hi, hc, hr, q1, ec, q3, q2⟩, fun τ hm => ?_⟩
            · simp only [f_X1_mayShelve, hit, c1, c2, hci, e5, e3, e1, q1, ec, hl2, q2, q3, bnd_eq, cl_refuse, if_true, if_false]
            · have hf := (md_free (c := c) hm.1 hI hr).2
              rw [if_neg q2] at hf
              simp only [f_X10_notShelve, md_isItem hm.1 hI, c1, isn_bt, c2, mo4 hm.1 hi20, q1, mo2 hm.1 hi20, mo0 hm.1 hi20, ec, hf, hh, hne, q3, bnd_eq, md_isNot, if_true, if_false]
          · refine Or.inr (Or.inr (Or.inr ⟨9, nI r, by decide, by decide, by decide, ?_, fun τ hm => ?_⟩))
            · simp only [f_X1_mayShelve, hit, c1, c2, hci, e5, e3, e1, q1, ec, hl2, q2, q3, bnd_eq, cl_refuse, if_true, if_false]
            · have hf := (md_free (c := c) hm.1 hI hr).2
              rw [if_neg q2] at hf
              simp only [f_X10_notShelve, md_isItem hm.1 hI, c1, isn_bt, c2, mo4 hm.1 hi20, q1, mo2 hm.1 hi20, mo0 hm.1 hi20, ec, hf, hh, hne, q3, bnd_eq, md_isNot, if_true, if_false]
      · refine Or.inr (Or.inr (Or.inr ⟨7, it w i 4, by decide, by decide, by decide, ?_, fun τ hm => ?_⟩))
        · simp only [f_X1_mayShelve, hit, c1, c2, hci, e5, q1, bnd_eq, cl_refuse, if_true, if_false]
        · simp only [f_X10_notShelve, md_isItem hm.1 hI, c1, isn_bt, c2, mo4 hm.1 hi20, q1, bnd_eq, md_isNot, if_true, if_false]
    · refine ⟨by simp [ok_X1_mayShelve, hit, c1, c2], fun τ hm => by simp [ok_X10_notShelve, md_isItem hm.1 hI, c1, isn_bt, c2], Or.inr (Or.inl ⟨?_, by decide, by decide, fun τ hm => ?_⟩)⟩
      · simp [f_X1_mayShelve, hit, c1, c2]
      · simp [f_X10_notShelve, md_isItem hm.1 hI, c1, isn_bt, c2]
  · refine ⟨by simp [ok_X1_mayShelve, hit, c1], fun τ hm => by simp [ok_X10_notShelve, md_isItem hm.1 hI, c1], Or.inr (Or.inl ⟨?_, by decide, by decide, fun τ hm => ?_⟩)⟩
    · simp [f_X1_mayShelve, hit, c1]
    · simp [f_X10_notShelve, md_isItem hm.1 hI, c1]
theorem dz_shelve (hI : Inv w f) {x1 x2 : Int32} (P : PSh w x1 x2) : Dz w f (fun q => f_X6_shelveItem q 2 x1 x2) (fun q => ok_X6_shelveItem q 2 x1 x2) (fun q => f_X10_shelves q x1 x2) (fun q => ok_X10_shelves q x1 x2) := by
  obtain ⟨i, c, r, rfl, rfl, hi, hc, hr, h1, h2, h0, hf⟩ := P
  intro τ ρ hO hm
  obtain ⟨a1, σ1, b, b1, b2, b3, a2, a3, a4, a5⟩ := cl_shelve hO hI hi hc hr h1 h2 h0 hf
  obtain ⟨d1, σ2, d2, d3, d4, d5⟩ := md_shelve hm.1 hI hi hr h2 b2 hf
  have e2 : σ2.2.1 201 = f := d4.trans hm.2
  exact ⟨a1, d1, σ1, σ2, _, a2, d2, by rw [d3, e2]; exact a3, by rw [d3, e2]; exact a4, a5, d5⟩
theorem vd_take (hO : Off σ 2 w f) (hI : Inv w f) (x1 : Int32) : Vd σ w f (f_X1_mayTake σ x1) (ok_X1_mayTake σ x1) (fun τ => f_X10_notTake τ x1) (fun τ => ok_X10_notTake τ x1) 1 0 (∃ c, c < 6 ∧ x1 = nI c) := by
  have h20 := hI.n20
  rcases child_cases x1 with ⟨c1, c, hc, rfl⟩ | c1
  · have hb := cl_isBare hO hI hc
    have hb1 : ok_X8_isBare σ 15 (nI c) := hb.1
    have hb2 : f_X8_isBare σ 15 (nI c) = decide (cn (onS w c) (cnt w) = 0) := hb.2
    have hle := cn_le (onS w c) (cnt w)
    have hs : ∀ τ, MR τ w f → ok_X10_onShelf τ (nI c) ∧ f_X10_onShelf τ (nI c) = nI (cn (onS w c) (cnt w)) := fun τ hm => md_onShelf hm.1 hI c
    refine ⟨⟨fun _ => hb1, fun _ => trivial⟩, fun τ hm => ⟨fun _ => (hs τ hm).1, fun _ => trivial⟩, ?_⟩
    by_cases q : cn (onS w c) (cnt w) = 0
    · refine Or.inr (Or.inr (Or.inr ⟨10, nI c, by decide, by decide, by decide, ?_, fun τ hm => ?_⟩))
      · simp [f_X1_mayTake, c1, hb2, q, bnd_eq, cl_refuse]
      · have hz : nI (cn (onS w c) (cnt w)) = 0 := by rw [q]; rfl
        simp only [f_X10_notTake, isn_ch, c1, (hs τ hm).2, hz, bnd_eq, md_isNot, if_true]
    · have hz : ¬ nI (cn (onS w c) (cnt w)) = 0 := nI_ne0 (by omega) (by omega)
      refine Or.inl ⟨?_, ⟨c, hc, rfl⟩, fun τ hm => ?_⟩
      · simp [f_X1_mayTake, c1, hb2, q]
      · simp only [f_X10_notTake, isn_ch, c1, (hs τ hm).2, hz, if_true, if_false]
  · refine ⟨by simp [ok_X1_mayTake, c1], fun τ hm => by simp [ok_X10_notTake, isn_ch, c1], Or.inr (Or.inl ⟨?_, by decide, by decide, fun τ hm => ?_⟩)⟩
    · simp [f_X1_mayTake, c1]
    · simp [f_X10_notTake, isn_ch, c1]
theorem dz_take (hI : Inv w f) {x1 : Int32} (P : ∃ c, c < 6 ∧ x1 = nI c) : Dz w f (fun q => f_X6_takeAll q 2 x1) (fun q => ok_X6_takeAll q 2 x1) (fun q => f_X10_takes q x1) (fun q => ok_X10_takes q x1) := by
  obtain ⟨c, hc, rfl⟩ := P
  intro τ ρ hO hm
  have h20 := hI.n20
  obtain ⟨a1, σ1, w1, a2, a3, a4, a5, a6, a7⟩ := cl_takeAll hO hI hc
  have hs : ok_X10_onShelf ρ (nI c) ∧ f_X10_onShelf ρ (nI c) = nI (cn (onS w c) (cnt w)) := md_onShelf hm.1 hI c
  obtain ⟨b1, σ2, b2, b3, b4, b5⟩ := md_takes hI.1.1 h20 c (nI (cn (onS w c) (cnt w))) (cnt w) 2000 0 ρ (by omega) (Nat.zero_add _) (by rw [hm.1]; exact Tk.rf) (fun a ha => by omega)
  have eq := Tk.all h20 a5 b3 a6 b4
  have e2 : σ2.2.1 201 = f := (b5.1 201 (by decide)).2.trans hm.2
  refine ⟨a1, ⟨hs.1, by rw [hs.2]; exact b1⟩, σ1, σ2, _, a2, ?_, ?_, ?_, a7, b5.wk (fun j hj => hj.1)⟩
  · show f_X10_takes ρ (nI c) = _
    unfold f_X10_takes
    rw [hs.2]
    exact b2
  · rw [e2]; exact a3.congr a4.n20 (fun k hk => (eq k hk).symm) (fun _ _ => rfl)
  · rw [e2]; exact a4.congr (fun k hk => (eq k hk).symm) (fun _ _ => rfl)
theorem nI_sub' {a b : Nat} (h : b ≤ a) (ha : a < 2 ^ 31) : nI a - nI b = nI (a - b) := by
  apply Int32.toInt_inj.mp
  rw [Int32.toInt_sub, nI_toInt ha, nI_toInt (by omega), nI_toInt (by omega)]
  rw [Int.bmod_eq_of_le (by omega) (by omega)]
  omega
abbrev PFd (w : Nat → Int32) (x1 : Int32) : Prop := ∃ k s, x1 = nI k ∧ k ≤ 9 ∧ k ≤ s ∧ s ≤ 50 ∧ w 4 = nI s
theorem vd_feed (hO : Off σ 2 w f) (hI : Inv w f) (x1 : Int32) : Vd σ w f (f_X1_mayFeed σ x1) True (fun τ => f_X10_notFeed τ x1) (fun τ => True) 0 1 (PFd w x1) := by
  obtain ⟨s, hs, es⟩ := hI.1.2.2.2.2
  have e4 : σ.1 18 1 = nI s := hO.2.2.2.2.1.trans es
  refine ⟨trivial, fun _ _ => trivial, ?_⟩
  cases c1 : f_X9_inRange x1 1 9 with
  | true =>
    obtain ⟨k, rfl, k1, k2⟩ := ir_nI (a := 1) (b := 9) (by decide) (by decide) c1
    rcases Nat.lt_or_ge s k with q | q
    · have r : ¬ nI k ≤ nI s := nI_ge q (by omega)
      refine Or.inr (Or.inr (Or.inr ⟨11, nI s, by decide, by decide, by decide, ?_, fun τ hm => ?_⟩))
      · simp only [f_X1_mayFeed, c1, e4, r, bnd_eq, cl_refuse, if_true, if_false]
      · simp only [f_X10_notFeed, isn_bt, c1, hm.1, cl_4, es, r, bnd_eq, md_isNot, if_true, if_false]
    · have r : nI k ≤ nI s := nI_le q (by omega)
      refine Or.inl ⟨?_, ⟨k, s, rfl, k2, q, hs, es⟩, fun τ hm => ?_⟩
      · simp only [f_X1_mayFeed, c1, e4, r, if_true]
      · simp only [f_X10_notFeed, isn_bt, c1, hm.1, cl_4, es, r, if_true]
  | false =>
    refine Or.inr (Or.inr (Or.inl ⟨?_, by decide, by decide, fun τ hm => ?_⟩))
    · simp [f_X1_mayFeed, c1]
    · simp [f_X10_notFeed, isn_bt, c1]
theorem dz_feed (hI : Inv w f) {x1 : Int32} (P : PFd w x1) : Dz w f (fun q => (f_X3_eatSnacks q 18 x1, f_X0_ofFloat ((f_X3_eatSnacks q 18 x1).2.1 18 0))) (fun q => ok_X3_eatSnacks q 18 x1 ∧ ok_X0_ofFloat ((f_X3_eatSnacks q 18 x1).2.1 18 0)) (fun q => f_X10_feeds q x1) (fun q => ok_X10_feeds q x1) := by
  obtain ⟨k, s, rfl, hk, hks, hs, es⟩ := P
  intro τ ρ hO hm
  have hH := hI.hung
  have hB := hfI_b k hH
  obtain ⟨a1, a2, a3⟩ := cl_feed (o := 2) hk k 2000 0 τ w f (by omega) (Nat.zero_add _) hO hH
  have a1' : ok_X3_eatSnacks τ 18 (nI k) := a1
  have a2' : Off (f_X3_eatSnacks τ 18 (nI k)) 2 (upd (upd w 4 (w 4 - nI k)) 5 (w 5 + nI k)) (vf_upd f 15 (hfI k (f 15))) := a2
  have a3' : Kp (OK1 2) τ (f_X3_eatSnacks τ 18 (nI k)) := a3
  have e0 : (f_X3_eatSnacks τ 18 (nI k)).2.1 18 0 = hfI k (f 15) := by
    have := a2'.2.2.2.1
    rw [ve rfl] at this
    exact this
  obtain ⟨b1, σ2, b2, b3, b4, b5⟩ := md_feed hk k 2000 0 (setI (setI ρ 197 4 (w 4 - nI k)) 197 5 (w 5 + nI k)) f (by omega) (Nat.zero_add _) hm.2 hH
  have e3 : σ2.1 197 = upd (upd w 4 (w 4 - nI k)) 5 (w 5 + nI k) := by rw [b3, q1e rfl, q1e rfl, hm.1]
  have e4 : ρ.1 197 4 = w 4 := by rw [hm.1]
  have e5 : (setI ρ 197 4 (w 4 - nI k)).1 197 5 = w 5 := by rw [q1e rfl, un (by decide), hm.1]
  refine ⟨⟨a1', by rw [e0]; exact (b32_of (hb_p hB)).1⟩, ?_, f_X3_eatSnacks τ 18 (nI k), σ2, _, rfl, ?_, ?_, ?_, a3', ?_⟩
  · show ok_X10_feeds ρ (nI k)
    unfold ok_X10_feeds
    rw [bndP_eq, bndP_eq, cl_4, cl_5, e4, e5]
    exact b1
  · show f_X10_feeds ρ (nI k) = _
    unfold f_X10_feeds
    rw [bnd_eq, bnd_eq, cl_4, cl_5, e4, e5, e0, b32_same (hb_p hB)]
    exact b2
  · rw [e3, b4]; exact a2'
  · rw [e3, b4]
    refine Inv.setl (Inv.setl (hI.setf (fun _ => by omega) (fun _ _ => by omega) (fun _ => by omega) (fun _ => by omega) (fun _ => hB) (fun _ => by omega)) (by decide) (by decide) (fun q => by omega) (fun q => by omega) (fun _ => ⟨s - k, by omega, by rw [es, nI_sub' hks (by omega)]⟩)) (by decide) (by decide) (fun q => by omega) (fun q => by omega) (fun q => by omega)
  · exact (kp_setI (kp_setI Kp.rf (fun q => q.1 rfl)) (fun q => q.1 rfl)).tr (b5.wk (fun j hj => hj.2))
end VERD3
