/-! crayons, potatoes, string, ink and snacks -/
section FIVE
def G9 (may : St × Int32) (act : St → St × Int32) : Nat × St × Int32 := (bnd may (fun q1 => (bnd (f_X9_demand q1.1 q1.2) (fun q2 => (if q2.1 = 0 then (bnd (f_X4_remember q2.2 2) (fun q4 => (bnd (act q4) (fun q6 => (0, q6.1, q6.2))))) else (q2.1, q2.2, 0))))))
def O9 (may : St × Int32) (okA : St → Prop) : Prop := (bndP may (fun q2 => (bndP (f_X9_demand q2.1 q2.2) (fun q3 => q3.1 = 0 → (ok_X4_remember q3.2 2 ∧ (bndP (f_X4_remember q3.2 2) okA))))))
theorem g9_0 {σ : St} {may : St × Int32} {act : St → St × Int32} (h : may = (σ, 0)) : G9 may act = (0, (act (f_X4_remember σ 2)).1, (act (f_X4_remember σ 2)).2) := by
  subst h; rfl
theorem g9_2 {σ : St} {may : St × Int32} {act : St → St × Int32} (h : may = (σ, -1)) : G9 may act = (2, σ, 0) := by
  subst h; rfl
theorem g9_1 {σ : St} {may : St × Int32} {act : St → St × Int32} (h : may = (σ, -2)) : G9 may act = (1, σ, 0) := by
  subst h; rfl
theorem g9_3 {σ : St} {k : Int32} {may : St × Int32} {act : St → St × Int32} (h : may = (σ, k)) (h0 : ¬ k = 0) (h1 : ¬ k = -1) (h2 : ¬ k = -2) : G9 may act = (3, σ, 0) := by
  subst h
  unfold G9
  simp only [bnd]
  rw [dm3 σ h1 h2 h0]
  rfl
theorem o9_0 {σ : St} {may : St × Int32} {okA : St → Prop} (h : may = (σ, 0)) (h1 : ok_X4_remember σ 2) (h2 : okA (f_X4_remember σ 2)) : O9 may okA := by
  subst h
  exact fun _ => ⟨h1, h2⟩
theorem o9_n {σ : St} {k : Int32} {may : St × Int32} {okA : St → Prop} (h : may = (σ, k)) (h0 : ¬ k = 0) : O9 may okA := by
  subst h
  unfold O9
  simp only [bndP]
  intro q
  exfalso
  revert q
  unfold f_X9_demand
  split
  · intro q; exact absurd q (show ¬ (2 : Nat) = 0 by decide)
  · split
    · intro q; exact absurd q (show ¬ (1 : Nat) = 0 by decide)
    · intro q; exact absurd q (show ¬ (3 : Nat) = 0 by decide)
theorem sim_gen2 {σ : St} (hS : Sim σ) {cl : St × Int32} {okC : Prop} {md : St → St × Int32} {okN : St → Prop} {eI eR e3 : Int32} {P : Prop} {act does : St → St × Int32} {okA okD okM : St → Prop} {okL : Prop} {fL : St × Int32} {fM : St → St × Int32} {E : Nat × St × Int32 → St × Int32}
    (V : Vd σ (σ.1 197) (σ.2.1 201) cl okC md okN eI eR P) (D : P → Dz (σ.1 197) (σ.2.1 201) act okA does okD) (h3 : (∃ s k, cl = (s, k) ∧ ¬ k = 0 ∧ ¬ k = -1 ∧ ¬ k = -2) → ¬ e3 = 0)
    (L : fL = E (G9 cl act)) (E0 : ∀ s v, E (0, s, v) = (setJ s 208 0 v.toInt64, 0)) (E2 : ∀ s v, E (2, s, v) = (s, eI)) (E1 : ∀ s v, E (1, s, v) = (s, eR)) (E3 : ∀ s v, E (3, s, v) = (s, e3))
    (K : okC → O9 cl okA → ((G9 cl act).1 = 0 ∨ ((G9 cl act).1 = 2 ∧ ¬ eI = 0) ∨ ((G9 cl act).1 = 1 ∧ ¬ eR = 0) ∨ ((G9 cl act).1 = 3 ∧ ¬ e3 = 0)) → okL)
    (M0 : ∀ τ, md (setI τ 196 0 0) = (setI τ 196 0 0, 0) → fM τ = does (f_X10_remembers (setI τ 196 0 0)))
    (M1 : ∀ τ s k, md (setI τ 196 0 0) = (s, k) → ¬ k = 0 → fM τ = f_X10_refuses s k e3)
    (N0 : ∀ τ, okN (setI τ 196 0 0) → md (setI τ 196 0 0) = (setI τ 196 0 0, 0) → ok_X10_remembers (setI τ 196 0 0) → okD (f_X10_remembers (setI τ 196 0 0)) → okM τ)
    (N1 : ∀ τ s k, okN (setI τ 196 0 0) → md (setI τ 196 0 0) = (s, k) → ¬ k = 0 → okM τ) : simI Sim okL fL okM fM := by
  have n1 : ¬ (-1 : Int32) = 0 := by decide
  have n2 : ¬ (-2 : Int32) = 0 := by decide
  refine sim_gen hS (e3 := e3) V D (fun s k a b c d => h3 ⟨s, k, a, b, c, d⟩) (fun h => ?_) (fun h _ => ?_) (fun h _ => ?_) (fun s k h a b c => ?_) (fun o h a b => ?_) (fun o h a => ?_) (fun o h a => ?_) (fun o s k h a b c => ?_) M0 M1 N0 N1
  · rw [L, g9_0 h, E0]
  · rw [L, g9_2 h, E2]
  · rw [L, g9_1 h, E1]
  · rw [L, g9_3 h a b c, E3]
  · exact K o (o9_0 h a b) (Or.inl (by rw [g9_0 h]))
  · exact K o (o9_n h n1) (Or.inr (Or.inl ⟨by rw [g9_2 h], a⟩))
  · exact K o (o9_n h n2) (Or.inr (Or.inr (Or.inl ⟨by rw [g9_1 h], a⟩)))
  · exact K o (o9_n h a) (Or.inr (Or.inr (Or.inr ⟨by rw [g9_3 h a b c], h3 ⟨s, k, h, a, b, c⟩⟩)))
theorem nI_lt8 {p n : Nat} (hp : p ≤ n) (hn : n < 100) : (nI p < nI n ∧ p < n ∧ ¬ nI p = nI n) ∨ (¬ nI p < nI n ∧ p = n) := by
  rcases Nat.lt_or_ge p n with q | q
  · refine Or.inl ⟨?_, q, fun e => by have := nI_inj (by omega) (by omega) e; omega⟩
    rw [Int32.lt_iff_toInt_lt, nI_toInt (by omega), nI_toInt (by omega)]
    omega
  · have : p = n := by omega
    subst this
    exact Or.inr ⟨fun q => absurd q (Int32.lt_irrefl), rfl⟩
theorem sim_0 : Sim_0 Sim := by
  intro σ x1 hS
  obtain ⟨⟨hO, hI⟩, -⟩ := id hS
  obtain ⟨p, hp, ep⟩ := hI.crays
  have e0 : σ.1 3 2 = nI p := hO.1.1.trans ep
  refine sim_gen2 hS (cl := f_X1_mayAddCrayon σ x1) (okC := True) (act := fun q => f_X2_addCrayon q 3 (FP.fmul (1036831949 : UInt32) (FP.i2f x1))) (okA := fun q => vf_n32 (FP.fmul (1036831949 : UInt32) (FP.i2f x1)) ∧ ok_X2_addCrayon q 3 (FP.fmul (1036831949 : UInt32) (FP.i2f x1)))
    (E := fun q => if q.1 = 0 then (setJ q.2.1 208 0 (q.2.2).toInt64, (0 : Int32)) else if q.1 = 1 then (q.2.1, (1 : Int32)) else if q.1 = 3 then (q.2.1, (2 : Int32)) else (q.2.1, (0 : Int32)))
    (md := fun q1 => if (f_X10_isBetween x1 (10 : Int32) (120 : Int32)) = true then (if (q1.1 197 1) = (8 : Int32) then f_X10_isNot q1 (1 : Int32) (8 : Int32) else (q1, 0)) else (q1, 1)) (okN := fun _ => True) (eI := 0) (eR := 1) (e3 := 2)
    (does := fun q3 => (setF (setI q3 197 1 ((q3.1 197 1) + (1 : Int32))) 201 (q3.1 197 1).toNatClampNeg (FP.fmul (1036831949 : UInt32) (FP.i2f x1)), q3.1 197 1))
    (okD := fun q3 => vf_n32 (FP.fmul (1036831949 : UInt32) (FP.i2f x1)) ∧ vp_in (q3.1 197 1) 36)
    (P := ∃ k, x1 = nI k ∧ k ≤ 120 ∧ p < 8) ?_ ?_ (fun _ => by decide) rfl (fun _ _ => rfl) (fun _ _ => rfl) (fun _ _ => rfl) (fun _ _ => rfl) (fun _ a b => ⟨a, ?_⟩) ?_ ?_ ?_ ?_
  · refine ⟨trivial, fun _ _ => trivial, ?_⟩
    by_cases hr : f_X9_inRange x1 10 120 = true
    · obtain ⟨k, e1, k1, k2⟩ := ir_nI (a := 10) (b := 120) (by decide) (by decide) hr
      rcases nI_lt8 hp (by decide) with ⟨a, b, c⟩ | ⟨a, b⟩
      · refine Or.inl ⟨?_, ⟨k, e1, k2, b⟩, fun τ hm => ?_⟩
        · unfold f_X1_mayAddCrayon
          rw [hr, if_pos rfl, e0]
          exact if_pos a
        · show (if f_X9_inRange x1 10 120 = true then _ else _) = _
          rw [if_pos hr, hm.1, ep]
          exact if_neg c
      · refine Or.inr (Or.inr (Or.inr ⟨1, 8, by decide, by decide, by decide, ?_, fun τ hm => ?_⟩))
        · unfold f_X1_mayAddCrayon
          rw [hr, if_pos rfl, e0]
          exact if_neg a
        · show (if f_X9_inRange x1 10 120 = true then _ else _) = _
          rw [if_pos hr, hm.1, ep, b]
          rfl
    · refine Or.inr (Or.inr (Or.inl ⟨?_, by decide, by decide, fun τ hm => ?_⟩))
      · unfold f_X1_mayAddCrayon
        exact if_neg hr
      · exact if_neg hr
  · rintro ⟨k, e1, k2, k3⟩ τ ρ hO hm
    have hL : LB (tw k) := tw_tab k (by omega)
    have hn : vf_n32 (tw k) := fl_n (Nat.le_of_lt (lb_p hL))
    have hcp : (nI p).toNatClampNeg = p := nI_clamp (by omega)
    have et : FP.fmul (1036831949 : UInt32) (FP.i2f x1) = tw k := by rw [e1]; rfl
    have e0 : τ.1 3 2 = nI p := hO.1.1.trans ep
    have em : ρ.1 197 1 = nI p := by rw [hm.1, ep]
    refine ⟨⟨by rw [et]; exact hn, by unfold ok_X2_addCrayon; rw [e0]; exact vp_in_nI k3 (by decide)⟩, ⟨by rw [et]; exact hn, by rw [em]; exact vp_in_nI (by omega) (by decide)⟩, setI (setF τ 4 p (tw k)) 3 2 (nI p + 1), setF (setI ρ 197 1 (nI p + 1)) 201 p (tw k), nI p, ?_, ?_, ?_, ?_, ?_, ?_⟩
    · show f_X2_addCrayon τ 3 (FP.fmul (1036831949 : UInt32) (FP.i2f x1)) = _
      unfold f_X2_addCrayon
      simp only [bnd]
      have e2 : (setF τ (3 + 1) (nI p).toNatClampNeg (FP.fmul (1036831949 : UInt32) (FP.i2f x1))).1 3 2 = nI p := e0
      rw [e0, e2, et, hcp]
    · show (_, _) = _
      rw [em, hcp, et]
    · have q1 : (setF (setI ρ 197 1 (nI p + 1)) 201 p (tw k)).1 197 = upd (σ.1 197) 1 (nI p + 1) := by rw [s1_setF, q1e rfl, hm.1]
      have q2 : (setF (setI ρ 197 1 (nI p + 1)) 201 p (tw k)).2.1 201 = vf_upd (σ.2.1 201) p (tw k) := by rw [q2e rfl]; show vf_upd (ρ.2.1 201) _ _ = _; rw [hm.2]
      rw [q1, q2]
      exact (hO.P1 k3).P7
    · have q1 : (setF (setI ρ 197 1 (nI p + 1)) 201 p (tw k)).1 197 = upd (σ.1 197) 1 (nI p + 1) := by rw [s1_setF, q1e rfl, hm.1]
      have q2 : (setF (setI ρ 197 1 (nI p + 1)) 201 p (tw k)).2.1 201 = vf_upd (σ.2.1 201) p (tw k) := by rw [q2e rfl]; show vf_upd (ρ.2.1 201) _ _ = _; rw [hm.2]
      rw [q1, q2]
      exact (hI.setf (fun _ => hL) (fun _ _ => by omega) (fun _ => by omega) (fun _ => by omega) (fun _ => by omega) (fun _ => by omega)).setl (by decide) (by decide) (fun _ => ⟨p + 1, by omega, nI_1 p⟩) (fun q => by omega) (fun q => by omega)
    · exact kp_setI (kp_setF Kp.rf (fun q => q ⟨by omega, by omega⟩)) (fun q => q ⟨by omega, by omega⟩)
    · exact kp_setF (kp_setI Kp.rf (fun q => q.1 rfl)) (fun q => q.2 rfl)
  · rcases b with b | ⟨b, c⟩ | ⟨b, c⟩ | ⟨b, c⟩
    · exact Or.inl b
    · exact absurd rfl c
    · exact Or.inr (Or.inl b)
    · exact Or.inr (Or.inr b)
  · intro τ h
    try dsimp only at h
    unfold f_X10_crayon
    simp only [bnd_eq, cl_1]
    split at h
    · rename_i h1
      split at h
      · have := congrArg Prod.snd h
        exact absurd this (show ¬ (9 : Int32) = 0 by decide)
      · rename_i h2
        rw [if_pos h1, if_neg h2]
    · have := congrArg Prod.snd h
      exact absurd this (show ¬ (1 : Int32) = 0 by decide)
  · intro τ s k h hk
    try dsimp only at h
    unfold f_X10_crayon
    simp only [bnd_eq, cl_1]
    split at h
    · rename_i h1
      split at h
      · rename_i h2
        rw [if_pos h1, if_pos h2, h]
      · exact absurd (congrArg Prod.snd h).symm hk
    · rename_i h1
      obtain ⟨rfl, rfl⟩ := Prod.mk.inj h
      rw [if_neg h1, f_refuses_e _ (by decide)]
      rfl
  · intro τ _ h a b
    try dsimp only at h
    unfold ok_X10_crayon
    simp only [bndP_eq, cl_1]
    exact ⟨fun _ => ⟨fun _ => trivial, fun _ => ⟨a, b⟩⟩, fun _ => trivial⟩
  · intro τ s k _ h hk
    try dsimp only at h
    unfold ok_X10_crayon
    simp only [bndP_eq, cl_1]
    split at h
    · rename_i h1
      split at h
      · rename_i h2
        exact ⟨fun _ => ⟨fun _ => trivial, fun q => absurd h2 q⟩, fun _ => trivial⟩
      · exact absurd (congrArg Prod.snd h).symm hk
    · rename_i h1
      exact ⟨fun q => absurd q h1, fun _ => trivial⟩
end FIVE
