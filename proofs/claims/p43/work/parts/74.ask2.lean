/-! more calls that only ask -/
section ASK2
theorem col_cases {j : Nat} (h : j ≤ 6) : j = 0 ∨ j = 1 ∨ j = 2 ∨ j = 3 ∨ j = 4 ∨ j = 5 ∨ j = 6 := by omega
theorem cl_number {σ : St} {w : Nat → Int32} {f : Nat → UInt32} (hO : Off σ 2 w f) {k j : Nat} (hk : k < cnt w) (hk2 : k < 20) (hj : j ≤ 6) : ok_X5_numberOf σ 6 (nI k) (nI j) ∧ f_X5_numberOf σ 6 (nI k) (nI j) = cv j (it w k j) := by
  have hcl : (nI k).toNatClampNeg = k := nI_clamp (by omega)
  have hv : vp_in (nI k) 20 := vp_in_nI hk2 (by decide)
  have hz := hO.2.1.2.1 j (by omega) k hk
  rcases col_cases hj with rfl | rfl | rfl | rfl | rfl | rfl | rfl
  · exact ⟨by simp [ok_X5_numberOf, hv], hz ▸ (by simp [f_X5_numberOf, hcl, nI_0])⟩
  · have a0 : ¬ nI 1 = 0 := by decide
    have a1 : nI 1 = 1 := by decide
    exact ⟨by simp [ok_X5_numberOf, hv], hz ▸ (by simp [f_X5_numberOf, hcl, a0, a1])⟩
  · have a2 : nI 2 = 2 := by decide
    exact ⟨by simp [ok_X5_numberOf, hv], hz ▸ (by simp [f_X5_numberOf, hcl, a2])⟩
  · have a2 : nI 3 = 3 := by decide
    exact ⟨by simp [ok_X5_numberOf, hv], hz ▸ (by simp [f_X5_numberOf, hcl, a2])⟩
  · have a2 : nI 4 = 4 := by decide
    exact ⟨by simp [ok_X5_numberOf, hv], hz ▸ (by simp [f_X5_numberOf, hcl, a2])⟩
  · have a2 : nI 5 = 5 := by decide
    exact ⟨by simp [ok_X5_numberOf, hv], hz ▸ (by simp [f_X5_numberOf, hcl, a2])⟩
  · have a2 : nI 6 = 6 := by decide
    exact ⟨by simp [ok_X5_numberOf, hv], hz ▸ (by simp [f_X5_numberOf, hcl, a2])⟩
/-- three sides -/
theorem sides {x y z : Int32} (h : f_X9_areSides x y z = true) : ∃ a b c, x = nI a ∧ y = nI b ∧ z = nI c ∧ a < 10 ∧ b < 10 ∧ c < 10 ∧ 1 ≤ a ∧ 1 ≤ b ∧ 1 ≤ c := by
  unfold f_X9_areSides at h
  cases h1 : f_X9_inRange x 1 9 with
  | false => rw [h1] at h; cases h
  | true =>
    cases h2 : f_X9_inRange y 1 9 with
    | false => rw [h1, h2] at h; cases h
    | true =>
      cases h3 : f_X9_inRange z 1 9 with
      | false => rw [h1, h2, h3] at h; cases h
      | true =>
        obtain ⟨a, e1, a1, a2⟩ := ir_nI (a := 1) (b := 9) (by decide) (by decide) h1
        obtain ⟨b, e2, b1, b2⟩ := ir_nI (a := 1) (b := 9) (by decide) (by decide) h2
        obtain ⟨c, e3, c1, c2⟩ := ir_nI (a := 1) (b := 9) (by decide) (by decide) h3
        exact ⟨a, b, c, e1, e2, e3, by omega, by omega, by omega, a1, b1, c1⟩
theorem child_cases (x : Int32) : (f_X9_isChild x = true ∧ ∃ c, c < 6 ∧ x = nI c) ∨ f_X9_isChild x = false := by
  cases h : f_X9_isChild x with
  | false => exact Or.inr rfl
  | true =>
    obtain ⟨c, e, -, h2⟩ := ir_nI (a := 0) (b := 5) (by decide) (by decide) h
    exact Or.inl ⟨rfl, c, by omega, e⟩
end ASK2
