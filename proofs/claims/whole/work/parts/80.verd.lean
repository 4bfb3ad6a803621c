/-! what each order is told, on both sides, and what it does -/
section VERD
variable {σ : St} {w : Nat → Int32} {f : Nat → UInt32}
theorem cl_refuse (σ : St) (k v : Int32) : f_X1_refuse σ k v = (setI (setI σ 1 1 k) 1 2 v, k) := rfl
theorem md_isNot (σ : St) (k v : Int32) : f_X10_isNot σ k v = (setI (setI σ 196 3 k) 196 4 v, 9) := rfl
theorem n20_cases (hI : Inv w f) : (nI (cnt w) < (20 : Int32) ∧ cnt w < 20 ∧ ¬ nI (cnt w) = (20 : Int32)) ∨ (¬ nI (cnt w) < (20 : Int32) ∧ nI (cnt w) = (20 : Int32)) := by
  rcases nI_lt8 hI.n20 (by decide) with h | ⟨h, e⟩
  · exact Or.inl h
  · exact Or.inr ⟨h, by rw [e]; rfl⟩
theorem isn_bt (x lo hi : Int32) : f_X10_isBetween x lo hi = f_X9_inRange x lo hi := rfl
theorem isn_ch (x : Int32) : f_X10_isChild x = f_X9_isChild x := rfl
theorem isn_sd (x y z : Int32) : f_X10_areSides x y z = f_X9_areSides x y z := rfl
theorem vd_letter (hO : Off σ 2 w f) (hI : Inv w f) (x1 x2 x3 x4 : Int32) : Vd σ w f (f_X1_mayWrite σ x1 x2 x3 x4) (ok_X1_mayWrite σ x1 x2 x3 x4) (fun τ => f_X10_notLetter τ x1 x2 x3 x4) (fun τ => ok_X10_notLetter τ x1 x2 x3 x4) 1 2
    (∃ a b k x, x1 = nI a ∧ x2 = nI b ∧ x3 = nI k ∧ x4 = nI x ∧ b < 6 ∧ cnt w < 20 ∧ x < 8 ∧ k < 41 ∧ (cw k).toNat ≤ (f x).toNat) := by
  have hn : σ.1 6 8 = nI (cnt w) := hO.n hI
  have hw2 : w 2 = nI (cnt w) := hI.1.1
  have hcr := cl_hasCray hO hI x4
  have c8 := cray8 hI
  have hcs := hasB_cases x4 (n := (w 1).toNatClampNeg) (by omega)
  refine ⟨⟨fun h1 => ⟨fun h2 => ⟨fun h3 => ⟨fun h4 => ?_, fun _ => trivial⟩, fun _ => trivial⟩, fun _ => trivial⟩, fun _ => trivial⟩, fun τ hm => ⟨fun h1 => ⟨fun h2 => ⟨fun h3 => ⟨fun h4 => ⟨fun _ => trivial, fun _ => ⟨fun _ => trivial, fun _ => ?_⟩⟩, fun _ => trivial⟩, fun _ => trivial⟩, fun _ => trivial⟩, fun _ => trivial⟩, ?_⟩
  · rw [hcr] at h3
    rcases hcs with ⟨-, x, hx, rfl⟩ | q
    · obtain ⟨k, rfl, k1, k2⟩ := ir_nI (a := 1) (b := 40) (by decide) (by decide) h4
      rw [bndP_eq]
      exact ⟨fun _ => ⟨vp_in_nI (by omega) (by decide), (cw_ok (by omega)).1⟩, fun _ => trivial⟩
    · rw [q] at h3; cases h3
  · rw [md_isCray hm.1 hI] at h3
    rcases hcs with ⟨-, x, hx, rfl⟩ | q
    · obtain ⟨k, rfl, k1, k2⟩ := ir_nI (a := 1) (b := 40) (by decide) (by decide) h4
      exact ⟨vp_in_nI (by omega) (by decide), (cw_ok (by omega)).2⟩
    · rw [q] at h3; cases h3
  rcases child_cases x1 with ⟨c1, a, ha, rfl⟩ | c1
  · rcases child_cases x2 with ⟨c2, b, hb, rfl⟩ | c2
    · rcases hcs with ⟨c3, x, hx, rfl⟩ | c3
      · have hcx : (nI x).toNatClampNeg = x := nI_clamp (by omega)
        cases c4 : f_X9_inRange x3 1 40 with
        | true =>
          obtain ⟨k, rfl, k1, k2⟩ := ir_nI (a := 1) (b := 40) (by decide) (by decide) c4
          have hck : f_X9_crayonNeeded (nI k) = cw k := rfl
          have hcm : f_X10_wears (nI k) = cw k := rfl
          have e4 : σ.2.1 4 x = f x := hO.cray (k := x) (by omega)
          have hP1 := lb_p (hI.lens (k := x) (by omega))
          have hP2 := cw_b (k := k) (by omega)
          have n10 : ¬ (1 : Int32) = 0 := by decide
          have n20 : ¬ (2 : Int32) = 0 := by decide
          rcases n20_cases hI with ⟨d1, d2, d3⟩ | ⟨d1, d3⟩
          · by_cases e : nI a = nI b
            · exact Or.inr (Or.inr (Or.inr ⟨2, nI a, by decide, by decide, by decide, by simp [f_X1_mayWrite, f_X1_mayMake, bnd_eq, c1, c2, hcr, c3, c4, hn, d1, e, cl_refuse, n20], fun τ hm => by simp [f_X10_notLetter, bnd_eq, isn_ch, isn_bt, c1, c2, md_isCray hm.1 hI, c3, c4, hm.1, cl_2, hw2, d3, e, md_isNot]⟩))
            · by_cases q : (cw k).toNat ≤ (f x).toNat
              · refine Or.inl ⟨?_, ⟨a, b, k, x, rfl, rfl, rfl, rfl, hb, d2, by omega, by omega, q⟩, fun τ hm => ?_⟩
                · have z := (fl_ge0 hP1 hP2 CmpOp.g).mpr q
                  simp [f_X1_mayWrite, f_X1_mayMake, bnd_eq, c1, c2, hcr, c3, c4, hn, d1, e, hcx, e4, hck, z]
                · have z : ¬ Op.cmpValue (FP.fcmp (f x) (cw k)) CmpOp.l < 0 := fun z => by have := (fl_lt0 hP1 hP2 CmpOp.l).mp z; omega
                  simp only [f_X10_notLetter, bnd_eq, isn_ch, isn_bt, c1, c2, md_isCray hm.1 hI, c3, c4, hm.1, hm.2, cl_2, hw2, d3, e, hcx, hcm, z, if_true, if_false]
              · refine Or.inr (Or.inr (Or.inr ⟨3, nI x, by decide, by decide, by decide, ?_, fun τ hm => ?_⟩))
                · have z : ¬ 0 ≤ Op.cmpValue (FP.fcmp (f x) (cw k)) CmpOp.g := fun z => q ((fl_ge0 hP1 hP2 CmpOp.g).mp z)
                  simp only [f_X1_mayWrite, f_X1_mayMake, bnd_eq, c1, c2, hcr, c3, c4, hn, d1, e, hcx, e4, hck, z, cl_refuse, if_true, if_false]
                · have z := (fl_lt0 hP1 hP2 CmpOp.l).mpr (show (f x).toNat < (cw k).toNat by omega)
                  simp only [f_X10_notLetter, bnd_eq, isn_ch, isn_bt, c1, c2, md_isCray hm.1 hI, c3, c4, hm.1, hm.2, cl_2, hw2, d3, e, hcx, hcm, z, md_isNot, if_true, if_false]
          · exact Or.inr (Or.inr (Or.inr ⟨1, 20, by decide, by decide, by decide, by simp [f_X1_mayWrite, f_X1_mayMake, bnd_eq, c1, c2, hcr, c3, c4, hn, d1, cl_refuse, n10], fun τ hm => by simp [f_X10_notLetter, bnd_eq, isn_ch, isn_bt, c1, c2, md_isCray hm.1 hI, c3, c4, hm.1, cl_2, hw2, d3, md_isNot]⟩))
        | false => exact Or.inr (Or.inr (Or.inl ⟨by simp [f_X1_mayWrite, c1, c2, hcr, c3, c4], by decide, by decide, fun τ hm => by simp [f_X10_notLetter, isn_ch, isn_bt, c1, c2, md_isCray hm.1 hI, c3, c4]⟩))
      · exact Or.inr (Or.inl ⟨by simp [f_X1_mayWrite, c1, c2, hcr, c3], by decide, by decide, fun τ hm => by simp [f_X10_notLetter, isn_ch, c1, c2, md_isCray hm.1 hI, c3]⟩)
    · exact Or.inr (Or.inl ⟨by simp [f_X1_mayWrite, c1, c2], by decide, by decide, fun τ hm => by simp [f_X10_notLetter, isn_ch, c1, c2]⟩)
  · exact Or.inr (Or.inl ⟨by simp [f_X1_mayWrite, c1], by decide, by decide, fun τ hm => by simp [f_X10_notLetter, isn_ch, c1]⟩)
theorem dz_letter (hI : Inv w f) {x1 x2 x3 x4 : Int32} (P : ∃ a b k x, x1 = nI a ∧ x2 = nI b ∧ x3 = nI k ∧ x4 = nI x ∧ b < 6 ∧ cnt w < 20 ∧ x < 8 ∧ k < 41 ∧ (cw k).toNat ≤ (f x).toNat) :
    Dz w f (fun q => f_X6_writeLetter q 2 x1 x2 x3 x4) (fun q => ok_X6_writeLetter q 2 x1 x2 x3 x4) (fun q => f_X10_writes q x1 x2 x3 x4) (fun q => ok_X10_writes q x1 x2 x3 x4) := by
  obtain ⟨a, b, k, x, rfl, rfl, rfl, rfl, hb, hl, hx, hk, hle⟩ := P
  intro τ ρ hO hm
  obtain ⟨a1, σ1, a2, a3, a4⟩ := cl_write hO hI (nI a) (nI b) hl hx hk hle
  obtain ⟨b1, σ2, b2, b3, b4, b5⟩ := md_writes hm.1 hm.2 hI (nI a) (nI b) hl hx hk hle
  exact ⟨a1, b1, σ1, σ2, _, a2, b2, by rw [b3, b4]; exact a3, by rw [b3, b4]; exact hI.write hl hb hx hk hle, a4, b5⟩
end VERD
