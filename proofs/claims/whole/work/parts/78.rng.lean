/-! string, ink, snacks, hours; potatoes -/
section RNG
theorem sim_rng {σ : St} (hS : Sim σ) {b : Bool} {act does : St → St × Int32} {okA okD okM : St → Prop} {okL : Prop} {fL : St × Int32} {fM : St → St × Int32} {E : Nat × St × Int32 → St × Int32}
    (D : b = true → Dz (σ.1 197) (σ.2.1 201) act okA does okD)
    (L : fL = E (G9 (σ, if b = true then 0 else -2) act)) (E0 : ∀ s v, E (0, s, v) = (setJ s 208 0 v.toInt64, 0)) (E2 : ∀ s v, E (2, s, v) = (s, 0)) (E1 : ∀ s v, E (1, s, v) = (s, 1)) (E3 : ∀ s v, E (3, s, v) = (s, 0))
    (K : (b = true → ok_X4_remember σ 2 ∧ okA (f_X4_remember σ 2)) → ((G9 (σ, if b = true then 0 else -2) act).1 = 0 ∨ (G9 (σ, if b = true then 0 else -2) act).1 = 1) → okL)
    (M0 : b = true → ∀ τ, fM τ = does (f_X10_remembers (setI τ 196 0 0))) (M1 : b = false → ∀ τ, fM τ = f_X10_fails (setI τ 196 0 0) 1)
    (N0 : ∀ τ, (b = true → ok_X10_remembers (setI τ 196 0 0) ∧ okD (f_X10_remembers (setI τ 196 0 0))) → okM τ) : simI Sim okL fL okM fM := by
  have n1 : ¬ (0 : Int32) = -2 := by decide
  have n2 : ¬ (-2 : Int32) = 0 := by decide
  refine sim_gen2 hS (cl := (σ, if b = true then 0 else -2)) (okC := True) (md := fun τ => (τ, if b = true then 0 else 1)) (okN := fun _ => True) (eI := 0) (eR := 1) (e3 := 0) (P := b = true) (okA := okA) (okD := okD) ?_ D ?_ L E0 E2 E1 E3 ?_ ?_ ?_ ?_ ?_
  · refine ⟨trivial, fun _ _ => trivial, ?_⟩
    cases b with
    | true => exact Or.inl ⟨rfl, rfl, fun _ _ => rfl⟩
    | false => exact Or.inr (Or.inr (Or.inl ⟨rfl, by decide, by decide, fun _ _ => rfl⟩))
  · rintro ⟨s, k, e, k0, k1, k2⟩
    exfalso
    cases b with
    | true => exact k0 (congrArg Prod.snd e).symm
    | false => exact k2 (congrArg Prod.snd e).symm
  · intro _ o q
    refine K (fun hb => ?_) ?_
    · subst hb; exact o rfl
    · rcases q with q | ⟨q, z⟩ | ⟨q, z⟩ | ⟨q, z⟩
      · exact Or.inl q
      · exact absurd rfl z
      · exact Or.inr q
      · exact absurd rfl z
  · intro τ h
    cases b with
    | true => exact M0 rfl τ
    | false => exact absurd (congrArg Prod.snd h) (show ¬ (1 : Int32) = 0 by decide)
  · intro τ s k h hk
    cases b with
    | true => exact absurd (congrArg Prod.snd h).symm hk
    | false =>
      obtain ⟨rfl, rfl⟩ := Prod.mk.inj h
      rw [M1 rfl τ]
      exact (f_refuses_e _ (show ¬ (1 : Int32) = 9 by decide)).symm
  · intro τ _ _ h1 h2
    exact N0 τ (fun _ => ⟨h1, h2⟩)
  · intro τ s k _ h hk
    refine N0 τ (fun hb => ?_)
    subst hb
    exact absurd (congrArg Prod.snd h).symm hk
theorem mw_p {k : Nat} (h : k < 21) {x : UInt32} (hx : x.toNat ≤ 1120272384) : P32 (FP.fadd x (mw k)) := by
  have h1 := mw_tab k h
  have h2 := fl_add_mono (a := x) (b := mw k) (a' := 1120272384) (b' := 1101004800) (by decide) (by decide) hx h1
  have h3 : (FP.fadd 1120272384 1101004800).toNat < 2139095040 := by decide +kernel
  show _ < 2139095040
  omega
theorem iw_p {k : Nat} (h : k < 121) {x : UInt32} (hx : IB x) : P32 (FP.fadd x (tw k)) := by
  have h1 := tw_tab k h
  have h2 := fl_add_mono (a := x) (b := tw k) (a' := 1091567616) (b' := 1094713344) (by decide) (by decide) hx h1
  have h3 : (FP.fadd 1091567616 1094713344).toNat < 2139095040 := by decide +kernel
  show _ < 2139095040
  omega
theorem sim_7 : Sim_7 Sim := by
  intro σ x1 hS
  obtain ⟨⟨hO, hI⟩, -⟩ := id hS
  refine sim_rng hS (b := f_X9_inRange x1 1 20) (act := fun q => (f_X2_addString q 3 (FP.i2f x1), f_X0_ofFloat ((f_X2_addString q 3 (FP.i2f x1)).2.1 3 4))) (okA := fun q => ok_X2_addString q 3 (FP.i2f x1) ∧ ok_X0_ofFloat ((f_X2_addString q 3 (FP.i2f x1)).2.1 3 4))
    (E := fun q => if q.1 = 0 then (setJ q.2.1 208 0 (q.2.2).toInt64, (0 : Int32)) else if q.1 = 1 then (q.2.1, (1 : Int32)) else (q.2.1, (0 : Int32)))
    (does := fun q3 => bnd (setF q3 201 (13 : Int32).toNatClampNeg (FP.fadd (q3.2.1 201 (13 : Int32).toNatClampNeg) (FP.i2f x1))) (fun q5 => (if (Op.cmpValue (FP.fcmp (q5.2.1 201 (13 : Int32).toNatClampNeg) (1120272384 : UInt32)) CmpOp.l) ≤ 0 then (q5, (f_Jxf58ca_floatToIntBits_5c35a (q5.2.1 201 (13 : Int32).toNatClampNeg))) else (bnd (setF q5 201 (13 : Int32).toNatClampNeg (1120272384 : UInt32)) (fun q6 => (q6, (f_Jxf58ca_floatToIntBits_5c35a (q6.2.1 201 (13 : Int32).toNatClampNeg))))))))
    (okD := fun q3 => vf_n32 (FP.fadd (q3.2.1 201 (13 : Int32).toNatClampNeg) (FP.i2f x1))) ?_ ?_ (fun _ _ => rfl) (fun _ _ => rfl) (fun _ _ => rfl) (fun _ _ => rfl) (fun a b => ?_) ?_ ?_ ?_
  · intro hr τ ρ hO hm
    obtain ⟨k, e1, k1, k2⟩ := ir_nI (a := 1) (b := 20) (by decide) (by decide) hr
    have et : FP.i2f x1 = mw k := by rw [e1]; rfl
    have hme := hI.metres
    have hp := mw_p (k := k) (by omega) hme
    have hc : ∀ a, Op.cmpValue (FP.fcmp (FP.fadd (σ.2.1 201 13) (mw k)) 1120272384) a ≤ 0 ↔ (FP.fadd (σ.2.1 201 13) (mw k)).toNat ≤ 1120272384 := fun a => fl_le0 hp (by decide) a
    have e4 : τ.2.1 3 4 = σ.2.1 201 13 := hO.1.2.2.1
    have em : ρ.2.1 201 13 = σ.2.1 201 13 := by rw [hm.2]
    rw [et]
    by_cases q : (FP.fadd (σ.2.1 201 13) (mw k)).toNat ≤ 1120272384
    · have ea : f_X2_addString τ 3 (mw k) = setF τ 3 4 (FP.fadd (σ.2.1 201 13) (mw k)) := by
        unfold f_X2_addString
        rw [e4, if_pos ((hc _).mpr q)]
        rfl
      have eb : (setF τ 3 4 (FP.fadd (σ.2.1 201 13) (mw k))).2.1 3 4 = FP.fadd (σ.2.1 201 13) (mw k) := by rw [q2e rfl, ve rfl]
      have ec : (setF ρ 201 13 (FP.fadd (σ.2.1 201 13) (mw k))).2.1 201 13 = FP.fadd (σ.2.1 201 13) (mw k) := by rw [q2e rfl, ve rfl]
      have ed : (setF ρ 201 13 (FP.fadd (σ.2.1 201 13) (mw k))).2.1 201 = vf_upd (σ.2.1 201) 13 (FP.fadd (σ.2.1 201 13) (mw k)) := by rw [q2e rfl, hm.2]
      have eg : (setF ρ 201 13 (FP.fadd (σ.2.1 201 13) (mw k))).1 197 = σ.1 197 := hm.1
      refine ⟨?_, ?_, setF τ 3 4 (FP.fadd (σ.2.1 201 13) (mw k)), setF ρ 201 13 (FP.fadd (σ.2.1 201 13) (mw k)), nI (FP.fadd (σ.2.1 201 13) (mw k)).toNat, ?_, ?_, ?_, ?_, ?_, ?_⟩
      · dsimp only
        rw [ea, eb]
        unfold ok_X2_addString
        rw [e4]
        exact ⟨fl_n (Nat.le_of_lt hp), (b32_of hp).1⟩
      · dsimp only
        rw [cl_13, em]
        exact fl_n (Nat.le_of_lt hp)
      · dsimp only
        rw [ea, eb, (b32_of hp).2]
      · dsimp only
        rw [bnd_eq, cl_13, em, ec, if_pos ((hc _).mpr q), b32_raw hp]
      · rw [ed, eg]; exact hO.P3
      · rw [ed, eg]; exact hI.setf (fun _ => by omega) (fun _ _ => by omega) (fun _ => q) (fun _ => by omega) (fun _ => by omega) (fun _ => by omega)
      · exact kp_setF Kp.rf (fun q => q ⟨by omega, by omega⟩)
      · exact kp_setF Kp.rf (fun q => q.2 rfl)
    · have ea : f_X2_addString τ 3 (mw k) = setF τ 3 4 1120272384 := by
        unfold f_X2_addString
        rw [e4, if_neg (fun z => q ((hc _).mp z))]
        rfl
      have eb : (setF τ 3 4 1120272384).2.1 3 4 = 1120272384 := by rw [q2e rfl, ve rfl]
      have ec : (setF ρ 201 13 (FP.fadd (σ.2.1 201 13) (mw k))).2.1 201 13 = FP.fadd (σ.2.1 201 13) (mw k) := by rw [q2e rfl, ve rfl]
      have ed : (setF (setF ρ 201 13 (FP.fadd (σ.2.1 201 13) (mw k))) 201 13 1120272384).2.1 201 = vf_upd (σ.2.1 201) 13 1120272384 := by rw [q2e rfl, q2e rfl, hm.2, vfu_twice]
      have ef : (setF (setF ρ 201 13 (FP.fadd (σ.2.1 201 13) (mw k))) 201 13 1120272384).2.1 201 13 = 1120272384 := by rw [q2e rfl, ve rfl]
      have eg : (setF (setF ρ 201 13 (FP.fadd (σ.2.1 201 13) (mw k))) 201 13 1120272384).1 197 = σ.1 197 := hm.1
      have hP : (1120272384 : UInt32).toNat < 2139095040 := by decide
      refine ⟨?_, ?_, setF τ 3 4 1120272384, setF (setF ρ 201 13 (FP.fadd (σ.2.1 201 13) (mw k))) 201 13 1120272384, nI (1120272384 : UInt32).toNat, ?_, ?_, ?_, ?_, ?_, ?_⟩
      · dsimp only
        rw [ea, eb]
        unfold ok_X2_addString
        rw [e4]
        exact ⟨fl_n (Nat.le_of_lt hp), (b32_of hP).1⟩
      · dsimp only
        rw [cl_13, em]
        exact fl_n (Nat.le_of_lt hp)
      · dsimp only
        rw [ea, eb, (b32_of hP).2]
      · dsimp only
        rw [bnd_eq, cl_13, em, ec, if_neg (fun z => q ((hc _).mp z)), bnd_eq, ef, b32_raw hP]
      · rw [ed, eg]; exact hO.P3
      · rw [ed, eg]; exact hI.setf (fun _ => by omega) (fun _ _ => by omega) (fun _ => by decide) (fun _ => by omega) (fun _ => by omega) (fun _ => by omega)
      · exact kp_setF Kp.rf (fun q => q ⟨by omega, by omega⟩)
      · exact kp_setF (kp_setF Kp.rf (fun q => q.2 rfl)) (fun q => q.2 rfl)
  · unfold f_L_string f_X9_string
    cases f_X9_inRange x1 1 20 <;> rfl
  · refine ⟨?_, ?_⟩
    · unfold ok_X9_string
      cases hb : f_X9_inRange x1 1 20 with
      | true => exact ⟨fun _ _ => a hb, fun q => by cases q⟩
      | false => exact ⟨(fun q => by cases q), fun _ q => absurd q (show ¬ (1 : Nat) = 0 by decide)⟩
    · revert b
      unfold f_X9_string
      cases f_X9_inRange x1 1 20 <;> exact fun b => b
  · intro hb τ
    unfold f_X10_string
    rw [bnd_eq, bt_iff, if_pos hb, bnd_eq]
  · intro hb τ
    unfold f_X10_string
    rw [bnd_eq, bt_iff, hb]
    rfl
  · intro τ h
    unfold ok_X10_string
    rw [bndP_eq, bt_iff]
    exact ⟨fun hb => by rw [bndP_eq]; exact h hb, fun _ => trivial⟩
end RNG
