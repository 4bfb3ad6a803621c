/-! the line of orders as a whole -/
section RUN
variable {inp : Nat → Int32} {n : Nat}
theorem cl_run_f {σ : St} (h1 : ok_X7_scan σ) (h : ¬ (f_X7_scan σ).1 191 5 = -1) : f_X9_run σ = (1, f_X7_scan σ, 0) ∧ ok_X9_run σ := by
  constructor
  · unfold f_X9_run
    rw [bnd_eq, if_neg h, dm2]
    rfl
  · unfold ok_X9_run
    rw [bndP_eq]
    refine ⟨h1, fun q => absurd q h, fun _ => ?_⟩
    rw [dm2, bndP_eq]
    exact fun q => absurd q (show ¬ (1 : Nat) = 0 by decide)
theorem cl_run_t {σ : St} (h1 : ok_X7_scan σ) (h : (f_X7_scan σ).1 191 5 = -1) : f_X9_run σ = fX9_run_L42 2000 (f_X6_copyFrom (f_X7_scan σ) 19 2) 0 0 ∧ (okX9_run_L42 2000 (f_X6_copyFrom (f_X7_scan σ) 19 2) 0 0 → ok_X9_run σ) := by
  constructor
  · unfold f_X9_run
    rw [bnd_eq, if_pos h, dm0, bnd_eq]
    dsimp only
    rw [if_pos rfl, bnd_eq]
  · intro z
    unfold ok_X9_run
    rw [bndP_eq]
    refine ⟨h1, fun _ => ?_, fun q => absurd h q⟩
    rw [dm0, bndP_eq]
    intro _
    rw [bndP_eq]
    exact z
theorem sA_le : ∀ (fu p : Nat), p ≤ n → (sA inp n fu p).2.1 ≤ n := by
  intro fu
  induction fu with
  | zero => intro p hp; exact hp
  | succ fu ih =>
    intro p hp
    have l1 := (sO_len (inp := inp) hp).1
    rw [sA]
    split
    · split
      · exact Nat.le_refl _
      · split
        · rename_i q
          exact ih _ (isS_lt q).1
        · exact l1
    · exact l1
end RUN
