/-! the calls that only ask -/
section ASK
theorem n64_0 : vf_n64 (FP.f2d 0) := (do_f2dH (by decide)).1
theorem sim_1 : Sim_1 Sim := by
  intro σ x hS
  obtain ⟨⟨hO, hI⟩, -⟩ := id hS
  have h8 := cray8 hI
  have hc := cl_hasCray hO hI x
  rcases hasB_cases x (n := (σ.1 197 1).toNatClampNeg) (by omega) with ⟨hb, k, hk, rfl⟩ | hb
  · rw [hb] at hc
    have hcl : (nI k).toNatClampNeg = k := nI_clamp (by omega)
    have hv : vp_in (nI k) 8 := vp_in_nI (by omega) (by decide)
    have hv2 : vp_in (nI k) 36 := vp_in_nI (by omega) (by decide)
    have e : f_X9_crayonOf σ (nI k) = (0, σ, σ.2.1 201 k) := by
      have := hO.cray (k := k) (by omega)
      simp [f_X9_crayonOf, hc, dm0, bnd_eq, hcl]
      exact this
    have hB : HB (σ.2.1 201 k) := Nat.le_trans (hI.lens (k := k) (by omega)) (by decide)
    obtain ⟨n1, n2⟩ := do_f2dH hB
    refine simF_ok (σ1 := σ) (v := σ.2.1 201 k) (by unfold f_L_crayonOf; rw [bnd_eq, e]; rfl) ⟨by simp [ok_X9_crayonOf, hc, dm0, bndP_eq, hv], by rw [e]; exact Or.inl rfl, by rw [e]; exact n1⟩ n1 n2 ?_
    have hm := md_isCray (σ := setI (setD σ 209 0 (FP.f2d (σ.2.1 201 k))) 196 0 0) (w := σ.1 197) rfl hI (nI k)
    rw [hb] at hm
    exact ⟨by simp [ok_X10_crayonOf, bndP_eq, hm, hv2], setI (setD σ 209 0 (FP.f2d (σ.2.1 201 k))) 196 0 0, by simp [f_X10_crayonOf, bnd_eq, hm, hcl]; rfl, thr0, rfl, (hS.D _).t 0⟩
  · rw [hb] at hc
    have e : f_X9_crayonOf σ x = (2, σ, 0) := by simp [f_X9_crayonOf, hc, dm1, bnd_eq]
    refine simF_no (σ1 := σ) (k := 1) (by unfold f_L_crayonOf; rw [bnd_eq, e]; rfl) (by decide) ⟨by simp [ok_X9_crayonOf, hc, dm1, bndP_eq], by rw [e]; exact Or.inr rfl, by rw [e]; exact n64_0⟩ ?_
    have hm := md_isCray (σ := setI σ 196 0 0) (w := σ.1 197) rfl hI x
    rw [hb] at hm
    exact ⟨by simp [ok_X10_crayonOf, bndP_eq, hm], setI (setI σ 196 0 0) 196 0 1, FP.i2f 0, by simp [f_X10_crayonOf, bnd_eq, hm, f_fails], thr0, hS.tt 0 1⟩
theorem sim_12 : Sim_12 Sim := by
  intro σ x hS
  obtain ⟨⟨hO, hI⟩, -⟩ := id hS
  have h5 := pot5 hI
  have hc := cl_hasPot hO hI x
  rcases hasB_cases x (n := (σ.1 197 3).toNatClampNeg) (by omega) with ⟨hb, k, hk, rfl⟩ | hb
  · rw [hb] at hc
    have hcl : (nI k).toNatClampNeg = k := nI_clamp (by omega)
    have hv : vp_in (nI k) 5 := vp_in_nI (by omega) (by decide)
    have e : f_X9_firmness σ (nI k) = (0, σ, σ.2.1 201 (8 + k)) := by
      have := hO.pot (k := k) (by omega)
      simp [f_X9_firmness, dp_t hc, bnd_eq, hcl]
      exact this
    have hB : HB (σ.2.1 201 (8 + k)) := Nat.le_trans (hI.firm (k := k) (by omega)) (by decide)
    obtain ⟨n1, n2⟩ := do_f2dH hB
    refine simF_ok (σ1 := σ) (v := σ.2.1 201 (8 + k)) (by unfold f_L_firmness; rw [bnd_eq, e]; rfl) ⟨by simp [ok_X9_firmness, dp_t hc, bndP_eq, hv], by rw [e]; exact Or.inl rfl, by rw [e]; exact n1⟩ n1 n2 ?_
    have hm := md_isPot (σ := setI (setD σ 209 0 (FP.f2d (σ.2.1 201 (8 + k)))) 196 0 0) (w := σ.1 197) rfl hI (nI k)
    rw [hb] at hm
    exact ⟨by simp [ok_X10_firmness, bndP_eq, hm, v8 (show k < 20 by omega)], setI (setD σ 209 0 (FP.f2d (σ.2.1 201 (8 + k)))) 196 0 0, by simp [f_X10_firmness, bnd_eq, hm, m8 (show k < 20 by omega)]; rfl, thr0, rfl, (hS.D _).t 0⟩
  · rw [hb] at hc
    have e : f_X9_firmness σ x = (2, σ, 0) := by simp [f_X9_firmness, dp_f hc, bnd_eq]
    refine simF_no (σ1 := σ) (k := 1) (by unfold f_L_firmness; rw [bnd_eq, e]; rfl) (by decide) ⟨by simp [ok_X9_firmness, dp_f hc, bndP_eq], by rw [e]; exact Or.inr rfl, by rw [e]; exact n64_0⟩ ?_
    have hm := md_isPot (σ := setI σ 196 0 0) (w := σ.1 197) rfl hI x
    rw [hb] at hm
    exact ⟨by simp [ok_X10_firmness, bndP_eq, hm], setI (setI σ 196 0 0) 196 0 1, FP.i2f 0, by simp [f_X10_firmness, bnd_eq, hm, f_fails], thr0, hS.tt 0 1⟩
theorem sim_13 : Sim_13 Sim := by
  intro σ x hS
  obtain ⟨⟨hO, hI⟩, -⟩ := id hS
  have h5 := pot5 hI
  have hc := cl_hasPot hO hI x
  rcases hasB_cases x (n := (σ.1 197 3).toNatClampNeg) (by omega) with ⟨hb, k, hk, rfl⟩ | hb
  · rw [hb] at hc
    have hk5 : k < 5 := by omega
    have hp := cl_print hO hI hk5
    have hp1 : ok_X2_printNow σ 3 (nI k) := hp.1
    have hp2 : f_X2_printNow σ 3 (nI k) = _ := hp.2
    have hP := fl_pr (hI.firm hk5) hI.ink
    have hB := b32_of hP
    have hs := b32_same hP
    obtain ⟨v, hv⟩ : ∃ v, v = f_Jxf58ca_floatToIntBits_5c35a (f_X9_printOf (σ.2.1 201 (8 + k)) (σ.2.1 201 14)) := ⟨_, rfl⟩
    have e : f_X9_print σ (nI k) = (0, σ, v) := by simp [f_X9_print, dp_t hc, bnd_eq, hp2, hs, hv]
    refine simI_ok (σ1 := σ) (by unfold f_L_print; rw [bnd_eq, e]; rfl) ⟨by simp [ok_X9_print, dp_t hc, bndP_eq, hp1, hp2, hB.1], by rw [e]; exact Or.inl rfl⟩ ?_
    have hm := md_isPot (σ := setI (setJ σ 208 0 v.toInt64) 196 0 0) (w := σ.1 197) rfl hI (nI k)
    rw [hb] at hm
    have hq : ok_X10_printNow (setI (setJ σ 208 0 v.toInt64) 196 0 0) (nI k) ∧ f_X10_printNow (setI (setJ σ 208 0 v.toInt64) 196 0 0) (nI k) = f_X9_printOf (σ.2.1 201 (8 + k)) (σ.2.1 201 14) := md_print rfl hI hk5
    exact ⟨by simp [ok_X10_print, bndP_eq, hm, hq.1], setI (setJ σ 208 0 v.toInt64) 196 0 0, by simp [f_X10_print, bnd_eq, hm, hq.2, hv.symm], thr0, rfl, (hS.J _).t 0⟩
  · rw [hb] at hc
    have e : f_X9_print σ x = (2, σ, 0) := by simp [f_X9_print, dp_f hc, bnd_eq]
    refine simI_no (σ1 := σ) (k := 1) (by unfold f_L_print; rw [bnd_eq, e]; rfl) (by decide) ⟨by simp [ok_X9_print, dp_f hc, bndP_eq], by rw [e]; exact Or.inr rfl⟩ ?_
    have hm := md_isPot (σ := setI σ 196 0 0) (w := σ.1 197) rfl hI x
    rw [hb] at hm
    exact ⟨by simp [ok_X10_print, bndP_eq, hm], setI (setI σ 196 0 0) 196 0 1, 0, by simp [f_X10_print, bnd_eq, hm, f_fails], thr0, hS.tt 0 1⟩
theorem sim_14 : Sim_14 Sim := by
  intro σ x hS
  obtain ⟨⟨hO, hI⟩, -⟩ := id hS
  have h5 := pot5 hI
  have hc := cl_hasPot hO hI x
  rcases hasB_cases x (n := (σ.1 197 3).toNatClampNeg) (by omega) with ⟨hb, k, hk, rfl⟩ | hb
  · rw [hb] at hc
    have hk5 : k < 5 := by omega
    have hcl : (nI k).toNatClampNeg = k := nI_clamp (by omega)
    have hv5 : vp_in (nI k) 5 := vp_in_nI hk5 (by decide)
    obtain ⟨N, a1, a2, a3, a4⟩ := itf_ex (hI.firm hk5) hI.ink
    have q1 : σ.2.1 5 k = σ.2.1 201 (8 + k) := hO.pot hk5
    have q2 : σ.2.1 3 5 = σ.2.1 201 14 := hO.1.2.2.2.1
    have c1 := cl_stamps (σ := σ) (nI k) a1 a2 a3 a4
    have e : f_X9_stampsOf σ (nI k) = (0, σ, nI N) := by
      unfold f_X9_stampsOf
      rw [dp_t hc, bnd_eq]
      dsimp only
      rw [if_pos rfl, hcl, q1, q2]
      exact c1.2
    refine simI_ok (σ1 := σ) (by unfold f_L_stampsOf; rw [bnd_eq, e]; rfl) ⟨?_, by rw [e]; exact Or.inl rfl⟩ ?_
    · unfold ok_X9_stampsOf
      rw [dp_t hc, bndP_eq]
      dsimp only
      rw [hcl, q1, q2]
      exact fun _ => ⟨hv5, c1.1⟩
    · have hm := md_isPot (σ := setI (setJ σ 208 0 (nI N).toInt64) 196 0 0) (w := σ.1 197) rfl hI (nI k)
      rw [hb] at hm
      have c2 := md_stamps (σ := setI (setJ σ 208 0 (nI N).toInt64) 196 0 0) (nI k) a1 a2 a3 a4
      have r1 : (setI (setJ σ 208 0 (nI N).toInt64) 196 0 0).2.1 201 = σ.2.1 201 := rfl
      refine ⟨?_, setI (setJ σ 208 0 (nI N).toInt64) 196 0 0, ?_, thr0, rfl, (hS.J _).t 0⟩
      · unfold ok_X10_stampsOf
        rw [bndP_eq]
        rw [hm, m8 (show k < 20 by omega), cl_14, r1]
        exact ⟨fun _ => ⟨v8 (by omega), c2.1⟩, fun q => by cases q⟩
      · unfold f_X10_stampsOf
        rw [bnd_eq]
        rw [hm, if_pos rfl, m8 (show k < 20 by omega), cl_14, r1]
        exact c2.2
  · rw [hb] at hc
    have e : f_X9_stampsOf σ x = (2, σ, 0) := by unfold f_X9_stampsOf; rw [dp_f hc, bnd_eq]; rfl
    refine simI_no (σ1 := σ) (k := 1) (by unfold f_L_stampsOf; rw [bnd_eq, e]; rfl) (by decide) ⟨by unfold ok_X9_stampsOf; rw [dp_f hc, bndP_eq]; exact (fun q => by cases q), by rw [e]; exact Or.inr rfl⟩ ?_
    have hm := md_isPot (σ := setI σ 196 0 0) (w := σ.1 197) rfl hI x
    rw [hb] at hm
    exact ⟨by unfold ok_X10_stampsOf; rw [bndP_eq, hm]; exact ⟨(fun q => by cases q), fun _ => trivial⟩, setI (setI σ 196 0 0) 196 0 1, 0, by unfold f_X10_stampsOf; rw [bnd_eq, hm]; rfl, thr0, hS.tt 0 1⟩
theorem sim_15 : Sim_15 Sim := by
  intro σ hS
  obtain ⟨⟨hO, hI⟩, -⟩ := id hS
  have hb := cl_best hO hI
  have hb1 : ok_X2_strongest σ 3 := hb.1
  have hb2 : f_X2_strongest σ 3 = bst (σ.1 197) (σ.2.1 201) := hb.2.1
  by_cases h : bst (σ.1 197) (σ.2.1 201) = -1
  · have e : f_X9_best σ = (4, σ, 0) := by simp [f_X9_best, hb2, h, df0, bnd_eq]
    refine simI_no (σ1 := σ) (k := 1) (by unfold f_L_best; rw [bnd_eq, e]; rfl) (by decide) ⟨hb1, by rw [e]; exact Or.inr rfl⟩ ?_
    have hm := md_best (σ := setI σ 196 0 0) (w := σ.1 197) (f := σ.2.1 201) rfl rfl hI
    rw [if_pos h] at hm
    exact ⟨by unfold ok_X10_best; rw [bndP_eq]; exact hm.1, setI (setI σ 196 0 0) 196 0 1, 0, by unfold f_X10_best; rw [bnd_eq, hm.2]; rfl, thr0, hS.tt 0 1⟩
  · obtain ⟨v, hv⟩ : ∃ v, v = bst (σ.1 197) (σ.2.1 201) := ⟨_, rfl⟩
    have e : f_X9_best σ = (0, σ, v) := by simp [f_X9_best, hb2, h, df1, bnd_eq, hv]
    refine simI_ok (σ1 := σ) (by unfold f_L_best; rw [bnd_eq, e]; rfl) ⟨hb1, by rw [e]; exact Or.inl rfl⟩ ?_
    have hm := md_best (σ := setI (setJ σ 208 0 v.toInt64) 196 0 0) (w := σ.1 197) (f := σ.2.1 201) rfl rfl hI
    rw [if_neg h, ← hv] at hm
    exact ⟨by unfold ok_X10_best; rw [bndP_eq]; exact hm.1, setI (setJ σ 208 0 v.toInt64) 196 0 0, by unfold f_X10_best; rw [bnd_eq, hm.2], thr0, rfl, (hS.J _).t 0⟩
theorem sim_17 : Sim_17 Sim := by
  intro σ hS
  obtain ⟨⟨hO, hI⟩, -⟩ := id hS
  have q2 : σ.2.1 3 5 = σ.2.1 201 14 := hO.1.2.2.2.1
  obtain ⟨n1, n2⟩ := do_f2dH (a := σ.2.1 201 14) (Nat.le_trans hI.ink (by decide))
  have e : f_X9_inkNow σ = σ.2.1 201 14 := q2
  unfold simG
  rw [e]
  exact ⟨rfl, n1, (do_eq0 n2 n2 CmpOp.l).mpr rfl, hS.t 0⟩
theorem sim_25 : Sim_25 Sim := by
  intro σ hS
  obtain ⟨⟨hO, hI⟩, -⟩ := id hS
  have q2 : σ.2.1 18 0 = σ.2.1 201 15 := hO.2.2.2.1
  obtain ⟨n1, n2⟩ := do_f2dH (a := σ.2.1 201 15) hI.hung
  have e : f_X9_hunger σ = σ.2.1 201 15 := q2
  unfold simG
  rw [e]
  exact ⟨rfl, n1, (do_eq0 n2 n2 CmpOp.l).mpr rfl, hS.t 0⟩
theorem sim_32 : Sim_32 Sim := by
  intro σ hS
  exact ⟨hS.2.2.2.2.2, hS.t 0⟩
theorem sim_10 : Sim_10 Sim := by
  intro σ x hS
  obtain ⟨⟨hO, hI⟩, -⟩ := id hS
  have hb := cl_ranked hO hI x
  have hb1 : ok_X5_letterAt σ 6 x := hb.1
  have hb2 : f_X5_letterAt σ 6 x = rkd (σ.1 197) (σ.2.1 201) x := hb.2
  by_cases h : rkd (σ.1 197) (σ.2.1 201) x = -1
  · have e : f_X9_ranked σ x = (4, σ, 0) := by simp [f_X9_ranked, hb2, h, df0, bnd_eq]
    refine simI_no (σ1 := σ) (k := 1) (by unfold f_L_ranked; rw [bnd_eq, e]; rfl) (by decide) ⟨hb1, by rw [e]; exact Or.inr rfl⟩ ?_
    have hm := md_ranked (σ := setI σ 196 0 0) (w := σ.1 197) (f := σ.2.1 201) rfl rfl hI x
    rw [if_pos h] at hm
    exact ⟨by unfold ok_X10_ranked; rw [bndP_eq]; exact hm.1, setI (setI σ 196 0 0) 196 0 1, 0, by unfold f_X10_ranked; rw [bnd_eq, hm.2]; rfl, thr0, hS.tt 0 1⟩
  · obtain ⟨v, hv⟩ : ∃ v, v = rkd (σ.1 197) (σ.2.1 201) x := ⟨_, rfl⟩
    have e : f_X9_ranked σ x = (0, σ, v) := by simp [f_X9_ranked, hb2, h, df1, bnd_eq, hv]
    refine simI_ok (σ1 := σ) (by unfold f_L_ranked; rw [bnd_eq, e]; rfl) ⟨hb1, by rw [e]; exact Or.inl rfl⟩ ?_
    have hm := md_ranked (σ := setI (setJ σ 208 0 v.toInt64) 196 0 0) (w := σ.1 197) (f := σ.2.1 201) rfl rfl hI x
    rw [if_neg h, ← hv] at hm
    exact ⟨by unfold ok_X10_ranked; rw [bndP_eq]; exact hm.1, setI (setJ σ 208 0 v.toInt64) 196 0 0, by unfold f_X10_ranked; rw [bnd_eq, hm.2], thr0, rfl, (hS.J _).t 0⟩
theorem sim_26 : Sim_26 Sim := by
  intro σ hS
  obtain ⟨⟨hO, hI⟩, -⟩ := id hS
  have hb := cl_worst hO hI
  have hb1 : ok_X5_worstOnShelf σ 6 := hb.1
  have hb2 : f_X5_worstOnShelf σ 6 = wst (σ.1 197) (σ.2.1 201) := hb.2.1
  by_cases h : wst (σ.1 197) (σ.2.1 201) = -1
  · have e : f_X9_prey σ = (4, σ, 0) := by simp [f_X9_prey, hb2, h, df0, bnd_eq]
    refine simI_no (σ1 := σ) (k := 1) (by unfold f_L_prey; rw [bnd_eq, e]; rfl) (by decide) ⟨hb1, by rw [e]; exact Or.inr rfl⟩ ?_
    have hm := md_worst (σ := setI σ 196 0 0) (w := σ.1 197) (f := σ.2.1 201) rfl rfl hI
    rw [h] at hm
    have hz : ¬ (0 : Int32) ≤ -1 := by decide
    exact ⟨by simp [ok_X10_prey, bndP_eq, hm.1, hm.2, hz], setI (setI σ 196 0 0) 196 0 1, 0, by simp [f_X10_prey, bnd_eq, hm.2, hz, f_fails], thr0, hS.tt 0 1⟩
  · obtain ⟨i, c, b, e1, e2, e3, e4, e5, e6⟩ := prey_at hI h
    have h20 := hI.n20
    have hz : (0 : Int32) ≤ nI i := nI_pos' (by omega)
    have hm1 : ¬ nI i = -1 := nI_m1 (by omega)
    have e : f_X9_prey σ = (0, σ, nI i) := by simp [f_X9_prey, hb2, e1, hm1, df1, bnd_eq]
    refine simI_ok (σ1 := σ) (by unfold f_L_prey; rw [bnd_eq, e]; rfl) ⟨hb1, by rw [e]; exact Or.inl rfl⟩ ?_
    have hm := md_worst (σ := setI (setJ σ 208 0 (nI i).toInt64) 196 0 0) (w := σ.1 197) (f := σ.2.1 201) rfl rfl hI
    rw [e1] at hm
    exact ⟨by simp [ok_X10_prey, bndP_eq, hm.1, hm.2, hz], setI (setJ σ 208 0 (nI i).toInt64) 196 0 0, by simp [f_X10_prey, bnd_eq, hm.2, hz], thr0, rfl, (hS.J _).t 0⟩
theorem sim_5 : Sim_5 Sim := by
  intro σ x hS
  obtain ⟨⟨hO, hI⟩, -⟩ := id hS
  have h20 := hI.n20
  have hc := cl_hasItem hO hI x
  rcases hasB_cases x (n := cnt (σ.1 197)) (by omega) with ⟨hb, k, hk, rfl⟩ | hb
  · rw [hb] at hc
    have hk20 : k < 20 := by omega
    have hcl : (nI k).toNatClampNeg = k := nI_clamp (by omega)
    have hv20 : vp_in (nI k) 20 := vp_in_nI hk20 (by decide)
    have q1 : σ.1 7 k = it (σ.1 197) k 0 := hO.kind hk
    have q2 : σ.2.1 14 k = σ.2.1 201 (16 + k) := hO.read hk
    have hP : P32 (σ.2.1 201 (16 + k)) := fb_p (hI.reads hk20)
    by_cases h0 : it (σ.1 197) k 0 = 0
    · obtain ⟨v, hv⟩ : ∃ v, v = f_Jxf58ca_floatToIntBits_5c35a (σ.2.1 201 (16 + k)) := ⟨_, rfl⟩
      have e : f_X9_reads σ (nI k) = (0, σ, v) := by simp [f_X9_reads, di_t hc, bnd_eq, hcl, q1, h0, df1, q2, b32_same hP, hv]
      refine simI_ok (σ1 := σ) (by unfold f_L_reads; rw [bnd_eq, e]; rfl) ⟨by simp [ok_X9_reads, di_t hc, bndP_eq, hcl, q1, h0, df1, q2, (b32_of hP).1, hv20], by rw [e]; exact Or.inl rfl⟩ ?_
      have hm := md_isItem (σ := setI (setJ σ 208 0 v.toInt64) 196 0 0) (w := σ.1 197) rfl hI (nI k)
      rw [hb] at hm
      have hq := mL (σ := setI (setJ σ 208 0 v.toInt64) 196 0 0) (w := σ.1 197) rfl hk20
      have r1 : (setI (setJ σ 208 0 v.toInt64) 196 0 0).2.1 201 (16 + k) = σ.2.1 201 (16 + k) := rfl
      exact ⟨by simp [ok_X10_reads, bndP_eq, hm, hq, mkL hk20, h0, v16 hk20], setI (setJ σ 208 0 v.toInt64) 196 0 0, by simp [f_X10_reads, bnd_eq, hm, hq, h0, m16 hk20, r1, hv.symm], thr0, rfl, (hS.J _).t 0⟩
    · have e : f_X9_reads σ (nI k) = (4, σ, 0) := by simp [f_X9_reads, di_t hc, bnd_eq, hcl, q1, h0, df0]
      refine simI_no (σ1 := σ) (k := 2) (by unfold f_L_reads; rw [bnd_eq, e]; rfl) (by decide) ⟨by simp [ok_X9_reads, di_t hc, bndP_eq, hcl, q1, h0, df0, hv20], by rw [e]; exact Or.inr (Or.inr rfl)⟩ ?_
      have hm := md_isItem (σ := setI σ 196 0 0) (w := σ.1 197) rfl hI (nI k)
      rw [hb] at hm
      have hq := mL (σ := setI σ 196 0 0) (w := σ.1 197) rfl hk20
      exact ⟨by simp [ok_X10_reads, bndP_eq, hm, hq, mkL hk20, h0], setI (setI σ 196 0 0) 196 0 2, 0, by simp [f_X10_reads, bnd_eq, hm, hq, h0, f_fails], thr0, hS.tt 0 2⟩
  · rw [hb] at hc
    have e : f_X9_reads σ x = (2, σ, 0) := by simp [f_X9_reads, di_f hc, bnd_eq]
    refine simI_no (σ1 := σ) (k := 1) (by unfold f_L_reads; rw [bnd_eq, e]; rfl) (by decide) ⟨by simp [ok_X9_reads, di_f hc, bndP_eq], by rw [e]; exact Or.inr (Or.inl rfl)⟩ ?_
    have hm := md_isItem (σ := setI σ 196 0 0) (w := σ.1 197) rfl hI x
    rw [hb] at hm
    exact ⟨by simp [ok_X10_reads, bndP_eq, hm], setI (setI σ 196 0 0) 196 0 1, 0, by simp [f_X10_reads, bnd_eq, hm, f_fails], thr0, hS.tt 0 1⟩
end ASK
