section KEEP2
theorem sim_37 : Sim_37 Sim := by
  intro σ hS
  obtain ⟨hN, hW, hSS, ⟨l, hR, hU⟩, hI, hE⟩ := id hS
  cases l with
  | nil =>
    have z1 : σ.1 189 2 = 0 := hR.2.1
    have z2 : σ.1 196 13 = 0 := hU.2.1
    have e : f_X9_undo σ = (5, σ, 0) := by
      unfold f_X9_undo
      exact if_pos z1
    have g : (setI σ 196 0 0).1 196 13 = 0 := by rw [q1e rfl, un (by decide), z2]
    refine simI_no (σ1 := σ) (k := 1) (by unfold f_L_undo; rw [bnd_eq, e]; rfl) (by decide) ⟨⟨fun _ => trivial, fun q => absurd z1 q⟩, by rw [e]; exact Or.inr rfl⟩ ⟨?_, setI (setI σ 196 0 0) 196 0 1, 0, ?_, thr0, hS.tt 0 1⟩
    · unfold ok_X10_undo
      rw [bndP_eq, g]
      exact ⟨fun _ => trivial, fun q => absurd rfl q⟩
    · unfold f_X10_undo
      rw [bnd_eq, g, if_pos rfl]
      rfl
  | cons D l =>
    obtain ⟨c1, c2, c3, c4, c5, c6⟩ := cl_back hR
    obtain ⟨u1, u2, fc, u3, u4, u5⟩ := id hU
    rw [List.length_cons] at u1 u2
    have z1 : ¬ σ.1 189 2 = 0 := by
      have h : σ.1 189 2 = nI (l.length + 1) := hR.2.1
      rw [h]
      exact nI_ne0 (by omega) (by omega)
    obtain ⟨σ1, hσ1⟩ : ∃ z, z = f_X4_bringBack σ 2 := ⟨_, rfl⟩
    rw [← hσ1] at c2 c3 c5 c6
    have e : f_X9_undo σ = (0, σ1, nI l.length) := by
      unfold f_X9_undo
      rw [if_neg z1, bnd_eq, ← hσ1, c5]
    refine simI_ok (σ1 := σ1) (v := nI l.length) (by unfold f_L_undo; rw [bnd_eq, e]; rfl) ⟨⟨fun _ => trivial, fun _ => c1⟩, by rw [e]; exact Or.inl rfl⟩ ?_
    obtain ⟨τ0, hτ0⟩ : ∃ z, z = setI (setJ σ1 208 0 (nI l.length).toInt64) 196 0 0 := ⟨_, rfl⟩
    have k0 : KR (fun j => ¬ (2 ≤ j ∧ j < 19) ∧ ¬ j = 189 ∧ ¬ j = 196) σ τ0 := fun j hj => by
      rw [hτ0]
      exact ⟨by rw [q1n hj.2.2]; exact (c6.1 j ⟨hj.1, hj.2.1⟩).1, (c6.1 j ⟨hj.1, hj.2.1⟩).2⟩
    have k1 : KR (fun j => ¬ j = 196) σ1 τ0 := fun j hj => by
      rw [hτ0]
      exact ⟨q1n hj, rfl⟩
    have h196 : ∀ k, ¬ k = 0 → τ0.1 196 k = σ.1 196 k := fun k hk => by
      rw [hτ0, q1e rfl, un hk]
      exact congrFun (c6.1 196 (by decide)).1 k
    have h0 : τ0.1 196 0 = 0 := by rw [hτ0]; exact thr0
    have h13 : τ0.1 196 13 = nI (l.length + 1) := (h196 13 (by decide)).trans u2
    have hne : ¬ nI (l.length + 1) = 0 := nI_ne0 (by omega) (by omega)
    obtain ⟨τ1, hτ1⟩ : ∃ z, z = setI τ0 196 13 (nI l.length) := ⟨_, rfl⟩
    have g13 : τ1.1 196 13 = nI l.length := by rw [hτ1, q1e rfl, ue rfl]
    have g14 : τ1.1 196 14 = nI fc := by rw [hτ1, q1e rfl, un (by decide), h196 14 (by decide)]; exact u4
    have hp : (fc + l.length) % 8 < 8 := Nat.mod_lt _ (by decide)
    have em : (nI fc + nI l.length) - (nI fc + nI l.length) / (8 : Int32) * (8 : Int32) = nI ((fc + l.length) % 8) := by
      rw [nI_add]
      exact mod8_a _ (by omega)
    obtain ⟨d1, τ2, d2, d3, d4, d5⟩ := md_undo τ1 hp
    have kz : KR (fun j => ¬ j = 196 ∧ ¬ j = 197 ∧ ¬ j = 201) σ1 τ2 := fun j hj => by
      have h1 := d5.1 j ⟨hj.2.1, hj.2.2⟩
      have h2 := k1 j hj.1
      have h3 : τ1.1 j = τ0.1 j ∧ τ1.2.1 j = τ0.2.1 j := by rw [hτ1]; exact ⟨q1n hj.1, rfl⟩
      exact ⟨h1.1.trans (h3.1.trans h2.1), h1.2.trans (h3.2.trans h2.2)⟩
    have kk : KR (fun j => ¬ (2 ≤ j ∧ j < 19) ∧ ¬ j = 189 ∧ ¬ j = 196 ∧ ¬ j = 197 ∧ ¬ j = 201) σ τ2 := fun j hj => by
      have h1 := kz j ⟨hj.2.2.1, hj.2.2.2.1, hj.2.2.2.2⟩
      have h2 := c6.1 j ⟨hj.1, hj.2.1⟩
      exact ⟨h1.1.trans h2.1, h1.2.trans h2.2⟩
    have t196 : ∀ k, ¬ k = 13 → τ2.1 196 k = τ0.1 196 k := fun k hk => by
      rw [congrFun (d5.1 196 (by decide)).1 k, hτ1, q1e rfl, un hk]
    have f196 : ∀ k, ¬ k = 0 → ¬ k = 13 → τ2.1 196 k = σ.1 196 k := fun k x y => (t196 k y).trans (h196 k x)
    refine ⟨?_, τ2, ?_, ?_, ?_, ?_⟩
    · unfold ok_X10_undo
      rw [bndP_eq, ← hτ0, h13]
      refine ⟨fun _ => trivial, fun _ => ?_⟩
      rw [bndP_eq, nI_pred, ← hτ1, g13, g14, em]
      exact d1
    · unfold f_X10_undo
      rw [bnd_eq, ← hτ0, h13, if_neg hne, bnd_eq, nI_pred, ← hτ1, g13, g14, em, d2, g13]
    · rw [t196 0 (by decide)]; exact h0
    · rw [d5.2, hτ1]
      show τ0.2.2 = _
      rw [hτ0]; rfl
    have hd : ∀ k, k < 146 → τ2.1 197 k = D.1 k := fun k hk => by
      rw [d3 k hk, hτ1, q1n (by decide), (k0 198 (by decide)).1]
      have := (u5 0 D rfl).1 k hk
      rw [List.length_cons, show (fc + (l.length + 1) + 7 - 0) % 8 = (fc + l.length) % 8 by omega] at this
      exact this
    have hdf : ∀ k, k < 36 → τ2.2.1 201 k = D.2 k := fun k hk => by
      rw [d4 k hk, hτ1]
      show τ0.2.1 202 _ = _
      rw [(k0 202 (by decide)).2]
      have := (u5 0 D rfl).2 k hk
      rw [List.length_cons, show (fc + (l.length + 1) + 7 - 0) % 8 = (fc + l.length) % 8 by omega] at this
      exact this
    refine ⟨SN.congr (c3.kr kz (fun j hj => by omega)) c4 hd hdf, ?_, ?_, ⟨l, c2.kr kz (fun j x y => by omega), by omega, ?_, fc, u3, ?_, ?_⟩, ?_, ?_⟩
    · unfold SW
      rw [(kk 1 (by decide)).1, f196 1 (by decide) (by decide), f196 2 (by decide) (by decide)]
      exact hW
    · unfold SS
      rw [(kk 0 (by decide)).1, f196 15 (by decide) (by decide), (kk 199 (by decide)).1, (kk 203 (by decide)).2]
      refine ⟨hSS.1, ?_⟩
      rcases hSS.2 with a | ⟨a, b, c⟩
      · exact Or.inl a
      · exact Or.inr ⟨a, b.kr kk (fun j hj => by omega), c⟩
    · rw [congrFun (d5.1 196 (by decide)).1 13]; exact g13
    · rw [f196 14 (by decide) (by decide)]; exact u4
    · intro j E hj
      have hjl : j < l.length := (List.getElem?_eq_some_iff.mp hj).1
      have := u5 (j + 1) E hj
      rw [List.length_cons, show (fc + (l.length + 1) + 7 - (j + 1)) % 8 = (fc + l.length + 7 - j) % 8 by omega] at this
      rw [(kk 198 (by decide)).1, (kk 202 (by decide)).2]
      exact this
    · obtain ⟨n, n1, n2, n3, n4⟩ := hI
      refine ⟨n, n1, by rw [(kk 191 (by decide)).1]; exact n2, by rw [f196 18 (by decide) (by decide)]; exact n3, ?_⟩
      rw [(kk 192 (by decide)).1, (kk 206 (by decide)).1]
      exact n4
    · unfold SE
      rw [(kk 191 (by decide)).1, f196 20 (by decide) (by decide)]
      exact hE
theorem sim_38 : Sim_38 Sim := by
  intro σ hS
  obtain ⟨⟨hO, hI⟩, hW, hSS, ⟨l, hR, hU⟩, hIn, hE⟩ := id hS
  have kc := copy_kp σ 36 2
  have hC : Off (f_X6_copyFrom σ 36 2) 36 (σ.1 197) (σ.2.1 201) := hO.copy hI.n20 (by omega)
  obtain ⟨σ1, hσ1⟩ : ∃ z, z = setI (f_X6_copyFrom σ 36 2) 0 7 1 := ⟨_, rfl⟩
  have k1 : KR (fun j => ¬ (36 ≤ j ∧ j < 53) ∧ ¬ j = 0) σ σ1 := fun j hj => by
    rw [hσ1]
    exact ⟨by rw [q1n hj.2]; exact (kc.1 j (by omega)).1, (kc.1 j (by omega)).2⟩
  have hC1 : Off σ1 36 (σ.1 197) (σ.2.1 201) := by
    rw [hσ1]
    exact hC.kp (P := fun j => ¬ j = 0) (kp_setI Kp.rf (fun q => q rfl)) (fun j hj => by omega)
  have hn : σ.1 6 8 = nI (cnt (σ.1 197)) := hO.n hI
  have e : f_X9_save σ = (σ1, nI (cnt (σ.1 197))) := by
    unfold f_X9_save
    simp only [bnd]
    rw [← hσ1, (k1 6 (by decide)).1, hn]
  rw [e]
  obtain ⟨d1, τ, d2, d3, d4, d5⟩ := md_save (setI σ1 196 0 0)
  have e2 : (setI σ1 196 0 0).1 197 2 = nI (cnt (σ.1 197)) := by
    rw [q1n (by decide), (k1 197 (by decide)).1]
    exact hI.1.1
  rw [e2] at d2
  have eM : f_X10_save σ1 = (setI τ 196 15 1, nI (cnt (σ.1 197))) := by
    unfold f_X10_save
    rw [bnd_eq]
    exact d2
  have kt : KR (fun j => ¬ j = 196 ∧ ¬ j = 199 ∧ ¬ j = 203) σ1 (setI τ 196 15 1) := fun j hj => by
    have h1 := d5.1 j ⟨hj.2.1, hj.2.2⟩
    exact ⟨by rw [q1n hj.1, h1.1, q1n hj.1], h1.2⟩
  have kk : KR (fun j => ¬ (36 ≤ j ∧ j < 53) ∧ ¬ j = 0 ∧ ¬ j = 196 ∧ ¬ j = 199 ∧ ¬ j = 203) σ (setI τ 196 15 1) := fun j hj => by
    have h1 := kt j hj.2.2
    have h2 := k1 j ⟨hj.1, hj.2.1⟩
    exact ⟨h1.1.trans h2.1, h1.2.trans h2.2⟩
  have f196 : ∀ k, ¬ k = 0 → ¬ k = 15 → (setI τ 196 15 1).1 196 k = σ.1 196 k := fun k x y => by
    rw [q1e rfl, un y, congrFun (d5.1 196 (by decide)).1 k, q1e rfl, un x, (k1 196 (by decide)).1]
  refine ⟨?_, ?_, ?_⟩
  · show ok_X10_save σ1
    unfold ok_X10_save
    rw [bndP_eq]
    exact d1
  · show _ = (f_X10_save σ1).2
    rw [eM]
  show Sim (f_X10_save σ1).1
  rw [eM]
  refine ⟨SN.kr ⟨hO, hI⟩ kk (fun j x y => by omega) (by decide) (by decide), ?_, ⟨?_, Or.inr ⟨?_, ?_, ?_⟩⟩, ⟨l, hR.kr kk (fun j x y => by omega), hU.kp (f196 13 (by decide) (by decide)) (f196 14 (by decide) (by decide)) (kk 198 (by decide)).1 (kk 202 (by decide)).2⟩, ?_, ?_⟩
  · unfold SW
    rw [(kk 1 (by decide)).1, f196 1 (by decide) (by decide), f196 2 (by decide) (by decide)]
    exact hW
  · show (setI τ 196 15 1).1 0 7 = (setI τ 196 15 1).1 196 15
    rw [(kt 0 (by decide)).1, q1e (j := 196) rfl, ue rfl, hσ1, q1e rfl, ue rfl]
  · show (setI τ 196 15 1).1 196 15 = 1
    rw [q1e rfl, ue rfl]
  · refine (hC1.kr kt (fun j hj => by omega)).congr hI.n20 (fun k hk => ?_) (fun k hk => ?_)
    · show (setI τ 196 15 1).1 199 k = _
      rw [q1n (by decide), d3 k hk, q1n (by decide), (k1 197 (by decide)).1]
    · show τ.2.1 203 k = _
      rw [d4 k hk]
      exact congrFun (k1 201 (by decide)).2 k
  · refine hI.congr (fun k hk => ?_) (fun k hk => ?_)
    · show (setI τ 196 15 1).1 199 k = _
      rw [q1n (by decide), d3 k hk, q1n (by decide), (k1 197 (by decide)).1]
    · show τ.2.1 203 k = _
      rw [d4 k hk]
      exact congrFun (k1 201 (by decide)).2 k
  · obtain ⟨n, n1, n2, n3, n4⟩ := hIn
    refine ⟨n, n1, by rw [(kk 191 (by decide)).1]; exact n2, by rw [f196 18 (by decide) (by decide)]; exact n3, ?_⟩
    rw [(kk 192 (by decide)).1, (kk 206 (by decide)).1]
    exact n4
  · unfold SE
    rw [(kk 191 (by decide)).1, f196 20 (by decide) (by decide)]
    exact hE
theorem sim_39 : Sim_39 Sim := by
  intro σ hS
  obtain ⟨⟨hO, hI⟩, hW, hSS, ⟨l, hR, hU⟩, hIn, hE⟩ := id hS
  rcases hSS.2 with z | ⟨z, hO3, hI3⟩
  · have z1 : σ.1 0 7 = 0 := hSS.1.trans z
    have e : f_X9_restore σ = (5, σ, 0) := by
      unfold f_X9_restore
      exact if_pos z1
    have g : (setI σ 196 0 0).1 196 15 = 0 := by rw [q1e rfl, un (by decide), z]
    refine simI_no (σ1 := σ) (k := 1) (by unfold f_L_restore; rw [bnd_eq, e]; rfl) (by decide) (by unfold ok_L_restore; rw [e]; first | exact Or.inr rfl | exact ⟨trivial, Or.inr rfl⟩) ⟨?_, setI (setI σ 196 0 0) 196 0 1, 0, ?_, thr0, hS.tt 0 1⟩
    · unfold ok_X10_restore
      rw [bndP_eq, g]
      exact ⟨fun _ => trivial, fun q => absurd rfl q⟩
    · unfold f_X10_restore
      rw [bnd_eq, g, if_pos rfl]
      rfl
  · have z1 : ¬ σ.1 0 7 = 0 := by rw [hSS.1, z]; decide
    have kc := copy_kp σ 2 36
    have hC : Off (f_X6_copyFrom σ 2 36) 2 (σ.1 199) (σ.2.1 203) := hO3.copy hI3.n20 (by omega)
    obtain ⟨σ1, hσ1⟩ : ∃ z, z = setI (f_X6_copyFrom σ 2 36) 189 2 0 := ⟨_, rfl⟩
    have k1 : KR (fun j => ¬ (2 ≤ j ∧ j < 19) ∧ ¬ j = 189) σ σ1 := fun j hj => by
      rw [hσ1]
      exact ⟨by rw [q1n hj.2]; exact (kc.1 j (by omega)).1, (kc.1 j (by omega)).2⟩
    have hC1 : Off σ1 2 (σ.1 199) (σ.2.1 203) := by
      rw [hσ1]
      exact hC.kp (P := fun j => ¬ j = 189) (kp_setI Kp.rf (fun q => q rfl)) (fun j hj => by omega)
    have hn : σ1.1 6 8 = nI (cnt (σ.1 199)) := hC1.n hI3
    have e : f_X9_restore σ = (0, σ1, nI (cnt (σ.1 199))) := by
      unfold f_X9_restore f_X4_forget
      simp only [bnd]
      rw [if_neg z1, ← hσ1, hn]
    refine simI_ok (σ1 := σ1) (v := nI (cnt (σ.1 199))) (by unfold f_L_restore; rw [bnd_eq, e]; rfl) (by unfold ok_L_restore; rw [e]; first | exact Or.inl rfl | exact ⟨trivial, Or.inl rfl⟩) ?_
    obtain ⟨τ0, hτ0⟩ : ∃ z, z = setI (setJ σ1 208 0 (nI (cnt (σ.1 199))).toInt64) 196 0 0 := ⟨_, rfl⟩
    have k2 : KR (fun j => ¬ j = 196) σ1 τ0 := fun j hj => by
      rw [hτ0]
      exact ⟨q1n hj, rfl⟩
    have h196 : ∀ k, ¬ k = 0 → τ0.1 196 k = σ.1 196 k := fun k hk => by
      rw [hτ0, q1e rfl, un hk]
      exact congrFun (k1 196 (by decide)).1 k
    have h0 : τ0.1 196 0 = 0 := by rw [hτ0]; exact thr0
    have hz : ¬ (1 : Int32) = 0 := by decide
    obtain ⟨d1, τ, d2, d3, d4, d5⟩ := md_restore τ0
    have r197 : ∀ k, k < 146 → τ.1 197 k = σ.1 199 k := fun k hk => by
      rw [d3 k hk, (k2 199 (by decide)).1, (k1 199 (by decide)).1]
    have r201 : ∀ k, k < 36 → τ.2.1 201 k = σ.2.1 203 k := fun k hk => by
      rw [d4 k hk, (k2 203 (by decide)).2, (k1 203 (by decide)).2]
    have e2 : τ.1 197 2 = nI (cnt (σ.1 199)) := (r197 2 (by decide)).trans hI3.1.1
    rw [e2] at d2
    have kt : KR (fun j => ¬ j = 196 ∧ ¬ j = 197 ∧ ¬ j = 201) σ1 (setI (setI τ 196 13 0) 196 14 0) := fun j hj => by
      have h1 := d5.1 j hj.2
      have h2 := k2 j hj.1
      exact ⟨by rw [q1n hj.1, q1n hj.1]; exact h1.1.trans h2.1, h1.2.trans h2.2⟩
    have kk : KR (fun j => ¬ (2 ≤ j ∧ j < 19) ∧ ¬ j = 189 ∧ ¬ j = 196 ∧ ¬ j = 197 ∧ ¬ j = 201) σ (setI (setI τ 196 13 0) 196 14 0) := fun j hj => by
      have h1 := kt j hj.2.2
      have h2 := k1 j ⟨hj.1, hj.2.1⟩
      exact ⟨h1.1.trans h2.1, h1.2.trans h2.2⟩
    have f196 : ∀ k, ¬ k = 0 → ¬ k = 13 → ¬ k = 14 → (setI (setI τ 196 13 0) 196 14 0).1 196 k = σ.1 196 k := fun k x y z => by
      rw [q1e rfl, un z, q1e rfl, un y, congrFun (d5.1 196 (by decide)).1 k]; exact h196 k x
    refine ⟨?_, setI (setI τ 196 13 0) 196 14 0, ?_, ?_, ?_, ?_⟩
    · unfold ok_X10_restore
      rw [bndP_eq, ← hτ0]
      exact ⟨fun _ => trivial, fun _ => d1⟩
    · unfold f_X10_restore
      rw [bnd_eq, ← hτ0, h196 15 (by decide), z, if_neg hz]
      exact d2
    · rw [q1e rfl, un (by decide), q1e rfl, un (by decide), congrFun (d5.1 196 (by decide)).1 0]; exact h0
    · show τ.2.2 = _
      rw [d5.2, hτ0]; rfl
    obtain ⟨r1, r2, nx, r3, r4, r5⟩ := hR
    refine ⟨SN.congr (hC1.kr kt (fun j hj => by omega)) hI3 (fun k hk => ?_) r201, ?_, ?_, ⟨[], ⟨by simp, ?_, nx, r3, ?_, fun j D h => by simp at h⟩, ⟨by simp, ?_, 0, by decide, ?_, fun j D h => by simp at h⟩⟩, ?_, ?_⟩
    · rw [q1n (by decide), q1n (by decide)]; exact r197 k hk
    · unfold SW
      rw [(kk 1 (by decide)).1, f196 1 (by decide) (by decide) (by decide), f196 2 (by decide) (by decide) (by decide)]
      exact hW
    · unfold SS
      rw [(kk 0 (by decide)).1, f196 15 (by decide) (by decide) (by decide), (kk 199 (by decide)).1, (kk 203 (by decide)).2]
      exact ⟨hSS.1, Or.inr ⟨z, hO3.kr kk (fun j hj => by omega), hI3⟩⟩
    · rw [(kt 189 (by decide)).1, hσ1, q1e rfl, ue rfl]; rfl
    · rw [(kt 189 (by decide)).1, hσ1, q1e rfl, un (by decide), (kc.1 189 (by decide)).1]; exact r4
    · rw [q1e rfl, un (by decide), q1e rfl, ue rfl]; rfl
    · rw [q1e rfl, ue rfl]; rfl
    · obtain ⟨n, n1, n2, n3, n4⟩ := hIn
      refine ⟨n, n1, by rw [(kk 191 (by decide)).1]; exact n2, by rw [f196 18 (by decide) (by decide) (by decide)]; exact n3, ?_⟩
      rw [(kk 192 (by decide)).1, (kk 206 (by decide)).1]
      exact n4
    · unfold SE
      rw [(kk 191 (by decide)).1, f196 20 (by decide) (by decide) (by decide)]
      exact hE
end KEEP2
