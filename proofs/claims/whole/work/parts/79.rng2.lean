/-! ink, snacks, hours, potatoes -/
section RNG2
theorem sim_16 : Sim_16 Sim := by
  intro σ x1 hS
  obtain ⟨⟨hO, hI⟩, -⟩ := id hS
  refine sim_rng hS (b := f_X9_inRange x1 1 50) (act := fun q => (f_X2_addInk q 3 (FP.fmul (1036831949 : UInt32) (FP.i2f x1)), f_X0_ofFloat ((f_X2_addInk q 3 (FP.fmul (1036831949 : UInt32) (FP.i2f x1))).2.1 3 5))) (okA := fun q => vf_n32 (FP.fmul (1036831949 : UInt32) (FP.i2f x1)) ∧ ok_X2_addInk q 3 (FP.fmul (1036831949 : UInt32) (FP.i2f x1)) ∧ ok_X0_ofFloat ((f_X2_addInk q 3 (FP.fmul (1036831949 : UInt32) (FP.i2f x1))).2.1 3 5))
    (E := fun q => if q.1 = 0 then (setJ q.2.1 208 0 (q.2.2).toInt64, (0 : Int32)) else if q.1 = 1 then (q.2.1, (1 : Int32)) else (q.2.1, (0 : Int32)))
    (does := fun q3 => bnd (setF q3 201 (14 : Int32).toNatClampNeg (FP.fadd (q3.2.1 201 (14 : Int32).toNatClampNeg) (FP.fmul (1036831949 : UInt32) (FP.i2f x1)))) (fun q5 => (if (Op.cmpValue (FP.fcmp (q5.2.1 201 (14 : Int32).toNatClampNeg) (1091567616 : UInt32)) CmpOp.l) ≤ 0 then (q5, (f_Jxf58ca_floatToIntBits_5c35a (q5.2.1 201 (14 : Int32).toNatClampNeg))) else (bnd (setF q5 201 (14 : Int32).toNatClampNeg (1091567616 : UInt32)) (fun q6 => (q6, (f_Jxf58ca_floatToIntBits_5c35a (q6.2.1 201 (14 : Int32).toNatClampNeg))))))))
    (okD := fun q3 => vf_n32 (FP.fmul (1036831949 : UInt32) (FP.i2f x1)) ∧ vf_n32 (FP.fadd (q3.2.1 201 (14 : Int32).toNatClampNeg) (FP.fmul (1036831949 : UInt32) (FP.i2f x1)))) ?_ ?_ (fun _ _ => rfl) (fun _ _ => rfl) (fun _ _ => rfl) (fun _ _ => rfl) (fun a b => ?_) ?_ ?_ ?_
  · intro hr τ ρ hO hm
    obtain ⟨k, e1, k1, k2⟩ := ir_nI (a := 1) (b := 50) (by decide) (by decide) hr
    have et : FP.fmul (1036831949 : UInt32) (FP.i2f x1) = tw k := by rw [e1]; rfl
    have hme := hI.ink
    have hnt : vf_n32 (tw k) := fl_n (by have := tw_tab k (by omega); omega)
    have hp := iw_p (k := k) (by omega) hme
    have hc : ∀ a, Op.cmpValue (FP.fcmp (FP.fadd (σ.2.1 201 14) (tw k)) 1091567616) a ≤ 0 ↔ (FP.fadd (σ.2.1 201 14) (tw k)).toNat ≤ 1091567616 := fun a => fl_le0 hp (by decide) a
    have e4 : τ.2.1 3 5 = σ.2.1 201 14 := hO.1.2.2.2.1
    have em : ρ.2.1 201 14 = σ.2.1 201 14 := by rw [hm.2]
    rw [et]
    by_cases q : (FP.fadd (σ.2.1 201 14) (tw k)).toNat ≤ 1091567616
    · have ea : f_X2_addInk τ 3 (tw k) = setF τ 3 5 (FP.fadd (σ.2.1 201 14) (tw k)) := by
        unfold f_X2_addInk
        rw [e4, if_pos ((hc _).mpr q)]
        rfl
      have eb : (setF τ 3 5 (FP.fadd (σ.2.1 201 14) (tw k))).2.1 3 5 = FP.fadd (σ.2.1 201 14) (tw k) := by rw [q2e rfl, ve rfl]
      have ec : (setF ρ 201 14 (FP.fadd (σ.2.1 201 14) (tw k))).2.1 201 14 = FP.fadd (σ.2.1 201 14) (tw k) := by rw [q2e rfl, ve rfl]
      have ed : (setF ρ 201 14 (FP.fadd (σ.2.1 201 14) (tw k))).2.1 201 = vf_upd (σ.2.1 201) 14 (FP.fadd (σ.2.1 201 14) (tw k)) := by rw [q2e rfl, hm.2]
      have eg : (setF ρ 201 14 (FP.fadd (σ.2.1 201 14) (tw k))).1 197 = σ.1 197 := hm.1
      refine ⟨?_, ?_, setF τ 3 5 (FP.fadd (σ.2.1 201 14) (tw k)), setF ρ 201 14 (FP.fadd (σ.2.1 201 14) (tw k)), nI (FP.fadd (σ.2.1 201 14) (tw k)).toNat, ?_, ?_, ?_, ?_, ?_, ?_⟩
      · dsimp only
        rw [ea, eb]
        unfold ok_X2_addInk
        rw [e4]
        exact ⟨hnt, fl_n (Nat.le_of_lt hp), (b32_of hp).1⟩
      · dsimp only
        rw [cl_14, em]
        exact ⟨hnt, fl_n (Nat.le_of_lt hp)⟩
      · dsimp only
        rw [ea, eb, (b32_of hp).2]
      · dsimp only
        rw [bnd_eq, cl_14, em, ec, if_pos ((hc _).mpr q), b32_raw hp]
      · rw [ed, eg]; exact hO.P4
      · rw [ed, eg]; exact hI.setf (fun _ => by omega) (fun _ _ => by omega) (fun _ => by omega) (fun _ => q) (fun _ => by omega) (fun _ => by omega)
      · exact kp_setF Kp.rf (fun q => q ⟨by omega, by omega⟩)
      · exact kp_setF Kp.rf (fun q => q.2 rfl)
    · have ea : f_X2_addInk τ 3 (tw k) = setF τ 3 5 1091567616 := by
        unfold f_X2_addInk
        rw [e4, if_neg (fun z => q ((hc _).mp z))]
        rfl
      have eb : (setF τ 3 5 1091567616).2.1 3 5 = 1091567616 := by rw [q2e rfl, ve rfl]
      have ec : (setF ρ 201 14 (FP.fadd (σ.2.1 201 14) (tw k))).2.1 201 14 = FP.fadd (σ.2.1 201 14) (tw k) := by rw [q2e rfl, ve rfl]
      have ed : (setF (setF ρ 201 14 (FP.fadd (σ.2.1 201 14) (tw k))) 201 14 1091567616).2.1 201 = vf_upd (σ.2.1 201) 14 1091567616 := by rw [q2e rfl, q2e rfl, hm.2, vfu_twice]
      have ef : (setF (setF ρ 201 14 (FP.fadd (σ.2.1 201 14) (tw k))) 201 14 1091567616).2.1 201 14 = 1091567616 := by rw [q2e rfl, ve rfl]
      have eg : (setF (setF ρ 201 14 (FP.fadd (σ.2.1 201 14) (tw k))) 201 14 1091567616).1 197 = σ.1 197 := hm.1
      have hP : (1091567616 : UInt32).toNat < 2139095040 := by decide
      refine ⟨?_, ?_, setF τ 3 5 1091567616, setF (setF ρ 201 14 (FP.fadd (σ.2.1 201 14) (tw k))) 201 14 1091567616, nI (1091567616 : UInt32).toNat, ?_, ?_, ?_, ?_, ?_, ?_⟩
      · dsimp only
        rw [ea, eb]
        unfold ok_X2_addInk
        rw [e4]
        exact ⟨hnt, fl_n (Nat.le_of_lt hp), (b32_of hP).1⟩
      · dsimp only
        rw [cl_14, em]
        exact ⟨hnt, fl_n (Nat.le_of_lt hp)⟩
      · dsimp only
        rw [ea, eb, (b32_of hP).2]
      · dsimp only
        rw [bnd_eq, cl_14, em, ec, if_neg (fun z => q ((hc _).mp z)), bnd_eq, ef, b32_raw hP]
      · rw [ed, eg]; exact hO.P4
      · rw [ed, eg]; exact hI.setf (fun _ => by omega) (fun _ _ => by omega) (fun _ => by omega) (fun _ => by decide) (fun _ => by omega) (fun _ => by omega)
      · exact kp_setF Kp.rf (fun q => q ⟨by omega, by omega⟩)
      · exact kp_setF (kp_setF Kp.rf (fun q => q.2 rfl)) (fun q => q.2 rfl)
  · unfold f_L_ink f_X9_ink
    cases f_X9_inRange x1 1 50 <;> rfl
  · refine ⟨?_, ?_⟩
    · unfold ok_X9_ink
      cases hb : f_X9_inRange x1 1 50 with
      | true => exact ⟨fun _ _ => a hb, fun q => by cases q⟩
      | false => exact ⟨(fun q => by cases q), fun _ q => absurd q (show ¬ (1 : Nat) = 0 by decide)⟩
    · revert b
      unfold f_X9_ink
      cases f_X9_inRange x1 1 50 <;> exact fun b => b
  · intro hb τ
    unfold f_X10_ink
    rw [bnd_eq, bt_iff, if_pos hb, bnd_eq]
  · intro hb τ
    unfold f_X10_ink
    rw [bnd_eq, bt_iff, hb]
    rfl
  · intro τ h
    unfold ok_X10_ink
    rw [bndP_eq, bt_iff]
    exact ⟨fun hb => by rw [bndP_eq]; exact h hb, fun _ => trivial⟩
theorem sim_23 : Sim_23 Sim := by
  intro σ x1 hS
  obtain ⟨⟨hO, hI⟩, -⟩ := id hS
  obtain ⟨s, hs, es⟩ := hI.1.2.2.2.2
  refine sim_rng hS (b := f_X9_inRange x1 1 20) (act := fun q => (f_X3_addSnacks q 18 x1, (f_X3_addSnacks q 18 x1).1 18 1)) (okA := fun _ => True)
    (E := fun q => if q.1 = 0 then (setJ q.2.1 208 0 (q.2.2).toInt64, (0 : Int32)) else if q.1 = 1 then (q.2.1, (1 : Int32)) else (q.2.1, (0 : Int32)))
    (does := fun q3 => (if ((q3.1 197 (4 : Int32).toNatClampNeg) + x1) ≤ (50 : Int32) then (bnd (setI q3 197 (4 : Int32).toNatClampNeg ((q3.1 197 (4 : Int32).toNatClampNeg) + x1)) (fun q4 => (q4, (q4.1 197 (4 : Int32).toNatClampNeg)))) else (bnd (setI q3 197 (4 : Int32).toNatClampNeg (50 : Int32)) (fun q5 => (q5, (q5.1 197 (4 : Int32).toNatClampNeg))))))
    (okD := fun _ => True) ?_ ?_ (fun _ _ => rfl) (fun _ _ => rfl) (fun _ _ => rfl) (fun _ _ => rfl) (fun a b => ?_) ?_ ?_ ?_
  · intro hr τ ρ hO hm
    obtain ⟨k, e1, k1, k2⟩ := ir_nI (a := 1) (b := 20) (by decide) (by decide) hr
    have e4 : τ.1 18 1 = nI s := hO.2.2.2.2.1.trans es
    have em : ρ.1 197 4 = nI s := by rw [hm.1, es]
    have key : ∃ m, m ≤ 50 ∧ f_X3_addSnacks τ 18 x1 = setI τ 18 1 (nI m) ∧ (if ((ρ.1 197 (4 : Int32).toNatClampNeg) + x1) ≤ (50 : Int32) then (bnd (setI ρ 197 (4 : Int32).toNatClampNeg ((ρ.1 197 (4 : Int32).toNatClampNeg) + x1)) (fun q4 => (q4, (q4.1 197 (4 : Int32).toNatClampNeg)))) else (bnd (setI ρ 197 (4 : Int32).toNatClampNeg (50 : Int32)) (fun q5 => (q5, (q5.1 197 (4 : Int32).toNatClampNeg))))) = (setI ρ 197 4 (nI m), nI m) := by
      have e50 : (50 : Int32) = nI 50 := rfl
      have ez : ∀ v, (setI ρ 197 4 v).1 197 4 = v := fun v => by rw [q1e rfl, ue rfl]
      rw [cl_4, em, e1, nI_add]
      unfold f_X3_addSnacks
      rw [e4, nI_add]
      simp only [bnd, ez]
      rcases Nat.lt_or_ge 50 (s + k) with q | q
      · have h1 : ¬ nI (s + k) ≤ (50 : Int32) := by rw [e50]; exact nI_ge q (by omega)
        have h2 : (50 : Int32) < nI (s + k) := by rw [e50]; exact nI_lt q (by omega)
        exact ⟨50, Nat.le_refl _, by rw [if_pos h2, e50], by rw [if_neg h1, e50]⟩
      · have h1 : nI (s + k) ≤ (50 : Int32) := by rw [e50]; exact nI_le q (by omega)
        have h2 : ¬ (50 : Int32) < nI (s + k) := by rw [e50]; exact nI_nlt q (by omega)
        exact ⟨s + k, q, by rw [if_neg h2], by rw [if_pos h1]⟩
    obtain ⟨m, m1, m2, m3⟩ := key
    have ea : (setI τ 18 1 (nI m)).1 18 1 = nI m := by rw [q1e rfl, ue rfl]
    have eb : (setI ρ 197 4 (nI m)).1 197 = upd (σ.1 197) 4 (nI m) := by rw [q1e rfl, hm.1]
    have ec : (setI ρ 197 4 (nI m)).2.1 201 = σ.2.1 201 := hm.2
    refine ⟨trivial, trivial, setI τ 18 1 (nI m), setI ρ 197 4 (nI m), nI m, ?_, m3, ?_, ?_, ?_, ?_⟩
    · dsimp only
      rw [m2, ea]
    · rw [eb, ec]; exact hO.P9
    · rw [eb, ec]; exact hI.setl (by decide) (by decide) (fun q => by omega) (fun q => by omega) (fun _ => ⟨m, m1, rfl⟩)
    · exact kp_setI Kp.rf (fun q => q ⟨by omega, by omega⟩)
    · exact kp_setI Kp.rf (fun q => q.1 rfl)
  · unfold f_L_snacks f_X9_snacks G9
    cases f_X9_inRange x1 1 20 <;> simp [bnd_eq, dm0, dm2]
  · refine ⟨?_, ?_⟩
    · unfold ok_X9_snacks
      cases hb : f_X9_inRange x1 1 20 with
      | true => simp [bndP_eq, dm0, (a hb).1]
      | false => simp [bndP_eq, dm2]
    · revert b
      unfold f_X9_snacks G9
      cases f_X9_inRange x1 1 20 <;> simp [bnd_eq, dm0, dm2]
  · intro hb τ
    unfold f_X10_snacks
    rw [bnd_eq, bt_iff, if_pos hb, bnd_eq]
  · intro hb τ
    unfold f_X10_snacks
    rw [bnd_eq, bt_iff, hb]
    rfl
  · intro τ h
    unfold ok_X10_snacks
    rw [bndP_eq, bt_iff]
    exact ⟨fun hb => (h hb).1, fun _ => trivial⟩
theorem sim_28 : Sim_28 Sim := by
  intro σ x1 hS
  obtain ⟨⟨hO, hI⟩, -⟩ := id hS
  refine sim_rng hS (b := f_X9_inRange x1 1 60) (act := fun q => f_X6_passHours q 2 x1) (okA := fun q => ok_X6_passHours q 2 x1)
    (E := fun q => if q.1 = 0 then (setJ q.2.1 208 0 (q.2.2).toInt64, (0 : Int32)) else if q.1 = 1 then (q.2.1, (1 : Int32)) else (q.2.1, (0 : Int32)))
    (does := fun q3 => f_X10_passes q3 x1) (okD := fun q3 => ok_X10_passes q3 x1) ?_ ?_ (fun _ _ => rfl) (fun _ _ => rfl) (fun _ _ => rfl) (fun _ _ => rfl) (fun a b => ?_) ?_ ?_ ?_
  · intro hr τ ρ hO hm
    obtain ⟨k, e1, k1, k2⟩ := ir_nI (a := 1) (b := 60) (by decide) (by decide) hr
    obtain ⟨a1, σ1, a2, a3, a4⟩ := cl_hours2 (N := k) k2 k 2000 0 0 τ (σ.1 197) (σ.2.1 201) (by omega) (Nat.zero_add _) hO hI
    obtain ⟨b1, σ2, b2, b3, b4, b5⟩ := md_hours2 (N := k) k2 k 2000 0 0 ρ (σ.1 197) (σ.2.1 201) (by omega) (Nat.zero_add _) hm.1 hm.2 hI
    rw [e1]
    exact ⟨a1, b1, σ1, σ2, _, a2, b2, by rw [b3, b4]; exact a3, by rw [b3, b4]; exact hr_I _ _ _ hI, a4, b5⟩
  · unfold f_L_pass f_X9_pass f_X1_mayPass G9
    cases f_X9_inRange x1 1 60 <;> simp [bnd_eq, dm0, dm2]
  · refine ⟨?_, ?_⟩
    · unfold ok_X9_pass f_X1_mayPass
      cases hb : f_X9_inRange x1 1 60 with
      | true => simp [bndP_eq, dm0, (a hb).1, (a hb).2]
      | false => simp [bndP_eq, dm2]
    · revert b
      unfold f_X9_pass f_X1_mayPass G9
      cases f_X9_inRange x1 1 60 <;> simp [bnd_eq, dm0, dm2]
  · intro hb τ
    unfold f_X10_pass f_X10_notPass
    rw [bnd_eq, bt_iff, if_pos hb, if_pos rfl, bnd_eq, bnd_eq]
  · intro hb τ
    unfold f_X10_pass f_X10_notPass
    rw [bnd_eq, bt_iff, hb]
    rfl
  · intro τ h
    unfold ok_X10_pass f_X10_notPass
    rw [bndP_eq, bt_iff]
    cases hb : f_X9_inRange x1 1 60 with
    | true => exact ⟨fun _ => h hb, fun _ => trivial⟩
    | false => exact ⟨fun q => absurd q (show ¬ (1 : Int32) = 0 by decide), fun _ => trivial⟩
theorem sim_11 : Sim_11 Sim := by
  intro σ hS
  obtain ⟨⟨hO, hI⟩, -⟩ := id hS
  obtain ⟨p, hp, ep, -⟩ := hI.pots
  have e0 : σ.1 3 3 = nI p := hO.1.2.1.trans ep
  refine sim_gen2 hS (cl := f_X1_mayCut σ) (okC := True) (act := fun q => f_X2_addPotato q 3) (okA := fun q => ok_X2_addPotato q 3)
    (E := fun q => if q.1 = 0 then (setJ q.2.1 208 0 (q.2.2).toInt64, (0 : Int32)) else if q.1 = 3 then (q.2.1, (1 : Int32)) else (q.2.1, (0 : Int32)))
    (md := fun q1 => if (q1.1 197 3) = (5 : Int32) then f_X10_isNot q1 (1 : Int32) (5 : Int32) else (q1, 0)) (okN := fun _ => True) (eI := 0) (eR := 0) (e3 := 1)
    (does := fun q3 => (setF (setI q3 197 3 ((q3.1 197 3) + (1 : Int32))) 201 ((8 : Int32) + (q3.1 197 3)).toNatClampNeg FP.fconst1, q3.1 197 3))
    (okD := fun q3 => vp_in ((8 : Int32) + (q3.1 197 3)) 36)
    (P := p < 5) ?_ ?_ (fun _ => by decide) rfl (fun _ _ => rfl) (fun _ _ => rfl) (fun _ _ => rfl) (fun _ _ => rfl) (fun _ a b => ⟨a, ?_⟩) ?_ ?_ ?_ ?_
  · refine ⟨trivial, fun _ _ => trivial, ?_⟩
    rcases nI_lt8 hp (by decide) with ⟨a, b, c⟩ | ⟨a, b⟩
    · refine Or.inl ⟨?_, b, fun τ hm => ?_⟩
      · unfold f_X1_mayCut
        rw [e0]
        exact if_pos a
      · dsimp only
        rw [hm.1, ep]
        exact if_neg c
    · refine Or.inr (Or.inr (Or.inr ⟨1, 5, by decide, by decide, by decide, ?_, fun τ hm => ?_⟩))
      · unfold f_X1_mayCut
        rw [e0]
        exact if_neg a
      · dsimp only
        rw [hm.1, ep, b]
        rfl
  · intro k3 τ ρ hO hm
    have hcp : (nI p).toNatClampNeg = p := nI_clamp (by omega)
    have hF : FB FP.fconst1 := by decide
    have e0 : τ.1 3 3 = nI p := hO.1.2.1.trans ep
    have em : ρ.1 197 3 = nI p := by rw [hm.1, ep]
    have q1 : (setF (setI ρ 197 3 (nI p + 1)) 201 (8 + p) FP.fconst1).1 197 = upd (σ.1 197) 3 (nI p + 1) := by rw [s1_setF, q1e rfl, hm.1]
    have q2 : (setF (setI ρ 197 3 (nI p + 1)) 201 (8 + p) FP.fconst1).2.1 201 = vf_upd (σ.2.1 201) (8 + p) FP.fconst1 := by rw [q2e rfl]; show vf_upd (ρ.2.1 201) _ _ = _; rw [hm.2]
    refine ⟨by dsimp only; unfold ok_X2_addPotato; rw [e0]; exact vp_in_nI k3 (by decide), by dsimp only; rw [em]; exact v8 (by omega), setI (setF τ 5 p FP.fconst1) 3 3 (nI p + 1), setF (setI ρ 197 3 (nI p + 1)) 201 (8 + p) FP.fconst1, nI p, ?_, ?_, ?_, ?_, ?_, ?_⟩
    · show f_X2_addPotato τ 3 = _
      unfold f_X2_addPotato
      simp only [bnd]
      have e2 : (setF τ (3 + 2) (nI p).toNatClampNeg FP.fconst1).1 3 3 = nI p := e0
      rw [e0, e2, hcp]
    · show (_, _) = _
      rw [em, m8 (by omega)]
    · rw [q1, q2]
      exact (hO.P2 k3).P8
    · rw [q1, q2]
      exact (hI.setf (fun _ => by omega) (fun _ _ => hF) (fun _ => by omega) (fun _ => by omega) (fun _ => by omega) (fun _ => by omega)).setl (by decide) (by decide) (fun q => by omega) (fun _ => ⟨p + 1, by omega, nI_1 p⟩) (fun q => by omega)
    · exact kp_setI (kp_setF Kp.rf (fun q => q ⟨by omega, by omega⟩)) (fun q => q ⟨by omega, by omega⟩)
    · exact kp_setF (kp_setI Kp.rf (fun q => q.1 rfl)) (fun q => q.2 rfl)
  · rcases b with b | ⟨b, c⟩ | ⟨b, c⟩ | ⟨b, c⟩
    · exact Or.inl b
    · exact absurd rfl c
    · exact absurd rfl c
    · exact Or.inr b
  · intro τ h
    try dsimp only at h
    unfold f_X10_potato
    simp only [bnd_eq, cl_3]
    split at h
    · exact absurd (congrArg Prod.snd h) (show ¬ (9 : Int32) = 0 by decide)
    · rename_i h2
      rw [if_neg h2]
  · intro τ s k h hk
    try dsimp only at h
    unfold f_X10_potato
    simp only [bnd_eq, cl_3]
    split at h
    · rename_i h2
      rw [if_pos h2, h]
    · exact absurd (congrArg Prod.snd h).symm hk
  · intro τ _ h a b
    unfold ok_X10_potato
    simp only [bndP_eq, cl_3]
    exact ⟨fun _ => trivial, fun _ => ⟨a, b⟩⟩
  · intro τ s k _ h hk
    try dsimp only at h
    unfold ok_X10_potato
    simp only [bndP_eq, cl_3]
    split at h
    · rename_i h2
      exact ⟨fun _ => trivial, fun q => absurd h2 q⟩
    · exact absurd (congrArg Prod.snd h).symm hk
end RNG2
