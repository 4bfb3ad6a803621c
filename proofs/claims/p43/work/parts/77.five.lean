/-! crayons, potatoes, string, ink and snacks -/
section FIVE
def G9 (may : St × Int32) (act : St → St × Int32) : Nat × St × Int32 := (bnd may (fun q1 => (bnd (f_X9_demand q1.1 q1.2) (fun q2 => (if q2.1 = 0 then (bnd (f_X4_remember q2.2 2) (fun q4 => (bnd (act q4) (fun q6 => (0, q6.1, q6.2))))) else (q2.1, q2.2, 0))))))
def O9 (may : St × Int32) (okA : St → Prop) : Prop := (bndP may (fun q2 => (bndP (f_X9_demand q2.1 q2.2) (fun q3 => q3.1 = 0 → (ok_X4_remember q3.2 2 ∧ (bndP (f_X4_remember q3.2 2) okA))))))
theorem g9_0 {σ : St} {may : St × Int32} {act : St → St × Int32} (h : may = (σ, 0)) : G9 may act = (0, (act (f_X4_remember σ 2)).1, (act (f_X4_remember σ 2)).2) := by
  subst h; rfl
theorem g9_2 {σ : St} {may : St × Int32} {act : St → St × Int32} (h : may = (σ, -1)) : G9 may act = (2, σ, 0) := by
  subst h; rfl
theorem g9_1 {σ : St} {may : St × Int32} {act : St → St × Int32} (h : may = (σ, -2)) : G9 may act = (1, σ, 0) := by
  subst h; rfl
theorem g9_3 {σ : St} {k : Int32} {may : St × Int32} {act : St → St × Int32} (h : may = (σ, k)) (h0 : ¬ k = 0) (h1 : ¬ k = -1) (h2 : ¬ k = -2) : G9 may act = (3, σ, 0) := by
  subst h
  unfold G9
  simp only [bnd]
  rw [dm3 σ h1 h2 h0]
  rfl
theorem o9_0 {σ : St} {may : St × Int32} {okA : St → Prop} (h : may = (σ, 0)) (h1 : ok_X4_remember σ 2) (h2 : okA (f_X4_remember σ 2)) : O9 may okA := by
  subst h
  exact fun _ => ⟨h1, h2⟩
theorem o9_n {σ : St} {k : Int32} {may : St × Int32} {okA : St → Prop} (h : may = (σ, k)) (h0 : ¬ k = 0) : O9 may okA := by
  subst h
  unfold O9
  simp only [bndP]
  intro q
  exfalso
  revert q
  unfold f_X9_demand
  split
  · intro q; exact absurd q (show ¬ (2 : Nat) = 0 by decide)
  · split
    · intro q; exact absurd q (show ¬ (1 : Nat) = 0 by decide)
    · intro q; exact absurd q (show ¬ (3 : Nat) = 0 by decide)
theorem nI_lt8 {p n : Nat} (hp : p ≤ n) (hn : n < 100) : (nI p < nI n ∧ p < n ∧ ¬ nI p = nI n) ∨ (¬ nI p < nI n ∧ p = n) := by
  rcases Nat.lt_or_ge p n with q | q
  · refine Or.inl ⟨?_, q, fun e => by have := nI_inj (by omega) (by omega) e; omega⟩
    rw [Int32.lt_iff_toInt_lt, nI_toInt (by omega), nI_toInt (by omega)]
    omega
  · have : p = n := by omega
    subst this
    exact Or.inr ⟨fun q => absurd q (Int32.lt_irrefl), rfl⟩
end FIVE
