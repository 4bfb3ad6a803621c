/-! what each order is told, on both sides, and what it does -/
section VERD
variable {σ : St} {w : Nat → Int32} {f : Nat → UInt32}
theorem cl_refuse (σ : St) (k v : Int32) : f_X1_refuse σ k v = (setI (setI σ 1 1 k) 1 2 v, k) := rfl
theorem n20_cases (hI : Inv w f) : (nI (cnt w) < (20 : Int32) ∧ cnt w < 20 ∧ ¬ nI (cnt w) = (20 : Int32)) ∨ (¬ nI (cnt w) < (20 : Int32) ∧ nI (cnt w) = (20 : Int32)) := by
  rcases nI_lt8 hI.n20 (by decide) with h | ⟨h, e⟩
  · exact Or.inl h
  · exact Or.inr ⟨h, by rw [e]; rfl⟩
end VERD
