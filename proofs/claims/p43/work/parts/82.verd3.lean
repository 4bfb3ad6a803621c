/-! .. shelves, takings, feedings -/
section VERD3
variable {σ : St} {w : Nat → Int32} {f : Nat → UInt32}
theorem row_cases (x : Int32) : (f_X9_inRange x 0 1 = true ∧ ∃ r, r < 2 ∧ x = nI r) ∨ f_X9_inRange x 0 1 = false := by
  cases h : f_X9_inRange x 0 1 with
  | false => exact Or.inr rfl
  | true =>
    obtain ⟨c, e, -, h2⟩ := ir_nI (a := 0) (b := 1) (by decide) (by decide) h
    exact Or.inl ⟨rfl, c, by omega, e⟩
abbrev PSh (w : Nat → Int32) (x1 x2 : Int32) : Prop := ∃ i c r, x1 = nI i ∧ x2 = nI r ∧ i < cnt w ∧ c < 6 ∧ r < 2 ∧ it w i 4 = 1 ∧ it w i 2 = nI c ∧ it w i 0 = nI r ∧ ¬ lof w c r = -1
theorem nI_sub' {a b : Nat} (h : b ≤ a) (ha : a < 2 ^ 31) : nI a - nI b = nI (a - b) := by
  apply Int32.toInt_inj.mp
  rw [Int32.toInt_sub, nI_toInt ha, nI_toInt (by omega), nI_toInt (by omega)]
  rw [Int.bmod_eq_of_le (by omega) (by omega)]
  omega
abbrev PFd (w : Nat → Int32) (x1 : Int32) : Prop := ∃ k s, x1 = nI k ∧ k ≤ 9 ∧ k ≤ s ∧ s ≤ 50 ∧ w 4 = nI s
end VERD3
