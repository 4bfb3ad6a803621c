section READ2
variable {inp : Nat → Int32} {n : Nat}
theorem cl_scan {σ : St} (h3 : σ.1 191 3 = nI n) (hc : ∀ k, k < n → σ.1 192 k = inp k) (hn : n ≤ 60) :
    ok_X7_scan σ ∧ (f_X7_scan σ).1 191 5 = (if (sA inp n 61 0).1 = true then -1 else nI (sA inp n 61 0).2.1) ∧ (f_X7_scan σ).1 191 3 = 0 ∧ (∀ j, ¬ j = 191 → ¬ j = 193 → ¬ j = 194 → (f_X7_scan σ).1 j = σ.1 j) ∧ (f_X7_scan σ).2 = σ.2 ∧ ((sA inp n 61 0).1 = true → (f_X7_scan σ).1 191 4 = nI (sA inp n 61 0).2.2.length ∧ Tb (f_X7_scan σ) 0 (sA inp n 61 0).2.2) := by
  obtain ⟨σ0, hσ0⟩ : ∃ z, z = setI (setI σ 191 6 0) 191 4 0 := ⟨_, rfl⟩
  have o0 : CO σ0 inp n 0 0 := by
    rw [hσ0]
    refine ⟨?_, ?_, ?_, ?_⟩
    · rw [q1e rfl, un (by decide), q1e rfl, un (by decide)]; exact h3
    · rw [q1e rfl, un (by decide), q1e rfl, ue rfl]; rfl
    · rw [q1e rfl, ue rfl]; rfl
    · intro k hk; rw [q1n (by decide), q1n (by decide)]; exact hc k hk
  have f0 : ∀ j, ¬ j = 191 → σ0.1 j = σ.1 j := fun j hj => by rw [hσ0, q1n hj, q1n hj]
  have g0 : σ0.2 = σ.2 := by rw [hσ0]; rfl
  obtain ⟨a1, σ1, a2, a3, a4, a5, a6⟩ := cl_orders hn 61 2000 0 0 σ0 (by omega) (by decide) o0 (by decide) (Nat.zero_le _)
  have k1 : ∀ j, ¬ j = 191 → ¬ j = 193 → ¬ j = 194 → σ1.1 j = σ.1 j := fun j a b c => (a5.1 j a b c).trans (f0 j a)
  have k2 : σ1.2 = σ.2 := a5.2.1.trans g0
  unfold ok_X7_scan f_X7_scan ok_X7_scanOrders f_X7_scanOrders
  simp only [bnd_eq, bndP_eq]
  rw [← hσ0, a2]
  refine ⟨a1, ?_⟩
  cases hb : (sA inp n 61 0).1 with
  | true =>
    obtain ⟨b1, b2⟩ := a6 hb
    simp only [if_true]
    refine ⟨?_, ?_, ?_, k2, fun _ => ⟨?_, fun i κ a hi => ?_⟩⟩
    · rw [q1e rfl, un (by decide), q1e rfl, ue rfl]
    · rw [q1e rfl, ue rfl]
    · intro j a b c; rw [q1n a, q1n a]; exact k1 j a b c
    · rw [q1e rfl, un (by decide), q1e rfl, un (by decide), b1, Nat.zero_add]
    · rw [q1n (by decide), q1n (by decide), q1n (by decide), q1n (by decide)]
      exact b2 i κ a hi
  | false =>
    simp only [if_neg (show ¬ (false = true) by decide)]
    refine ⟨?_, ?_, ?_, k2, (fun q => by cases q)⟩
    · rw [q1e rfl, un (by decide), q1e rfl, ue rfl]; exact a4
    · rw [q1e rfl, ue rfl]
    · intro j a b c; rw [q1n a, q1n a]; exact k1 j a b c
end READ2
