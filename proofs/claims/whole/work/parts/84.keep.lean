/-! a sign more, back again, kept, fetched -/
section KEEP
theorem md_undo (σ : St) {p : Nat} (hp : p < 8) : okX10_undo_L43 2000 σ (nI p) 0 ∧ ∃ σ', fX10_undo_L43 2000 σ (nI p) 0 = (σ', σ.1 196 13) ∧ (∀ k, k < 146 → σ'.1 197 k = σ.1 198 (146 * p + k)) ∧ (∀ k, k < 36 → σ'.2.1 201 k = σ.2.1 202 (36 * p + k)) ∧ Kp (fun j => ¬ j = 197 ∧ ¬ j = 201) σ σ' := by
  obtain ⟨τ, a1, a2, a3, a4, a5, a6⟩ := cp1_0 (N := 146) (dst := 197) (src := 198) (fun fu σ k => fX10_undo_L43 fu σ (nI p) k) (fun fu σ k => okX10_undo_L43 fu σ (nI p) k) (fun σ => fX10_undo_L76 2000 σ (nI p) 0) (fun σ => okX10_undo_L76 2000 σ (nI p) 0) id (fun k => 146 * p + k) σ (by decide) (by decide) (fun _ _ _ _ h => h)
    (fun fu σ => by
      have h : (146 : Int32) ≤ nI 146 := by decide
      exact ⟨by simp [fX10_undo_L43, h], fun q => by simp [okX10_undo_L43, h, q]⟩)
    (fun fu σ k hk => by
      have h : ¬ (146 : Int32) ≤ nI k := nI_ge (b := 146) hk (by decide)
      have hc : (nI k).toNatClampNeg = k := nI_clamp (by omega)
      have hv : vp_in (nI k) 146 := vp_in_nI hk (by decide)
      obtain ⟨g1, g2⟩ := nI_at146 hp hk
      exact ⟨by simp [fX10_undo_L43, h, hc, g1, bnd, nI_1], fun q => by simp [okX10_undo_L43, h, hc, hv, g1, g2, bndP, nI_1]; exact q⟩)
  obtain ⟨τ2, b1, b2, b3, b4, b5, b6, b7⟩ := cp2_0 (N := 36) (dst := 201) (src := 202) (fun fu σ k => fX10_undo_L76 fu σ (nI p) k) (fun fu σ k => okX10_undo_L76 fu σ (nI p) k) (fun σ => (σ, σ.1 196 13)) (fun _ => True) id (fun k => 36 * p + k) τ (by decide) (by decide) (fun _ _ _ _ h => h)
    (fun fu σ => by
      have h : (36 : Int32) ≤ nI 36 := by decide
      exact ⟨by simp [fX10_undo_L76, h], fun q => by simp [okX10_undo_L76, h]⟩)
    (fun fu σ k hk => by
      have h : ¬ (36 : Int32) ≤ nI k := nI_ge (b := 36) hk (by decide)
      have hc : (nI k).toNatClampNeg = k := nI_clamp (by omega)
      have hv : vp_in (nI k) 36 := vp_in_nI hk (by decide)
      obtain ⟨g1, g2⟩ := nI_at36 hp hk
      exact ⟨by simp [fX10_undo_L76, h, hc, g1, bnd, nI_1], fun q => by simp [okX10_undo_L76, h, hc, hv, g1, g2, bndP, nI_1]; exact q⟩)
  refine ⟨a2 (b2 trivial), τ2, ?_, fun k hk => ?_, fun k hk => ?_, fun j hj => ⟨?_, ?_⟩, ?_⟩
  · have e13 : τ2.1 196 13 = σ.1 196 13 := by rw [b6, a5 196 (by decide)]
    rw [← e13]
    exact a1.trans b1
  · rw [b6]; exact a3 k hk
  · have := b3 k hk
    rw [show τ.2.1 202 = σ.2.1 202 by rw [a6]] at this
    exact this
  · rw [b6]; exact a5 j hj.1
  · rw [b5 j hj.2, a6]
  · rw [b7, a6]
theorem md_save (σ : St) : okX10_save_L7 2000 σ 0 ∧ ∃ σ', fX10_save_L7 2000 σ 0 = (setI σ' 196 15 1, σ.1 197 2) ∧ (∀ k, k < 146 → σ'.1 199 k = σ.1 197 k) ∧ (∀ k, k < 36 → σ'.2.1 203 k = σ.2.1 201 k) ∧ Kp (fun j => ¬ j = 199 ∧ ¬ j = 203) σ σ' := by
  obtain ⟨τ, a1, a2, a3, a4, a5, a6⟩ := cp1_0 (N := 146) (dst := 199) (src := 197) (fun fu σ k => fX10_save_L7 fu σ k) (fun fu σ k => okX10_save_L7 fu σ k) (fun σ => fX10_save_L34 2000 σ 0) (fun σ => okX10_save_L34 2000 σ 0) id id σ (by decide) (by decide) (fun _ _ _ _ h => h)
    (fun fu σ => by
      have h : (146 : Int32) ≤ nI 146 := by decide
      exact ⟨by simp [fX10_save_L7, h], fun q => by simp [okX10_save_L7, h, q]⟩)
    (fun fu σ k hk => by
      have h : ¬ (146 : Int32) ≤ nI k := nI_ge (b := 146) hk (by decide)
      have hc : (nI k).toNatClampNeg = k := nI_clamp (by omega)
      have hv : vp_in (nI k) 146 := vp_in_nI hk (by decide)
      exact ⟨by simp [fX10_save_L7, h, hc, bnd, nI_1], fun q => by simp [okX10_save_L7, h, hc, hv, bndP, nI_1]; exact q⟩)
  obtain ⟨τ2, b1, b2, b3, b4, b5, b6, b7⟩ := cp2_0 (N := 36) (dst := 203) (src := 201) (fun fu σ k => fX10_save_L34 fu σ k) (fun fu σ k => okX10_save_L34 fu σ k) (fun σ => (setI σ 196 15 1, σ.1 197 2)) (fun _ => True) id id τ (by decide) (by decide) (fun _ _ _ _ h => h)
    (fun fu σ => by
      have h : (36 : Int32) ≤ nI 36 := by decide
      have hq : (setI σ 196 15 1).1 197 2 = σ.1 197 2 := by rw [q1n (by decide)]
      exact ⟨by simp [fX10_save_L34, h, bnd, cl_2, hq], fun q => by simp [okX10_save_L34, h]⟩)
    (fun fu σ k hk => by
      have h : ¬ (36 : Int32) ≤ nI k := nI_ge (b := 36) hk (by decide)
      have hc : (nI k).toNatClampNeg = k := nI_clamp (by omega)
      have hv : vp_in (nI k) 36 := vp_in_nI hk (by decide)
      exact ⟨by simp [fX10_save_L34, h, hc, bnd, nI_1], fun q => by simp [okX10_save_L34, h, hc, hv, bndP, nI_1]; exact q⟩)
  refine ⟨a2 (b2 trivial), τ2, ?_, fun k hk => ?_, fun k hk => ?_, fun j hj => ⟨?_, ?_⟩, ?_⟩
  · have e2 : τ2.1 197 2 = σ.1 197 2 := by rw [b6, a5 197 (by decide)]
    rw [← e2]
    exact a1.trans b1
  · rw [b6]; exact a3 k hk
  · have := b3 k hk
    rw [show τ.2.1 201 = σ.2.1 201 by rw [a6]] at this
    exact this
  · rw [b6]; exact a5 j hj.1
  · rw [b5 j hj.2, a6]
  · rw [b7, a6]
theorem md_restore (σ : St) : okX10_restore_L20 2000 σ 0 ∧ ∃ σ', fX10_restore_L20 2000 σ 0 = (setI (setI σ' 196 13 0) 196 14 0, σ'.1 197 2) ∧ (∀ k, k < 146 → σ'.1 197 k = σ.1 199 k) ∧ (∀ k, k < 36 → σ'.2.1 201 k = σ.2.1 203 k) ∧ Kp (fun j => ¬ j = 197 ∧ ¬ j = 201) σ σ' := by
  obtain ⟨τ, a1, a2, a3, a4, a5, a6⟩ := cp1_0 (N := 146) (dst := 197) (src := 199) (fun fu σ k => fX10_restore_L20 fu σ k) (fun fu σ k => okX10_restore_L20 fu σ k) (fun σ => fX10_restore_L47 2000 σ 0) (fun σ => okX10_restore_L47 2000 σ 0) id id σ (by decide) (by decide) (fun _ _ _ _ h => h)
    (fun fu σ => by
      have h : (146 : Int32) ≤ nI 146 := by decide
      exact ⟨by simp [fX10_restore_L20, h], fun q => by simp [okX10_restore_L20, h, q]⟩)
    (fun fu σ k hk => by
      have h : ¬ (146 : Int32) ≤ nI k := nI_ge (b := 146) hk (by decide)
      have hc : (nI k).toNatClampNeg = k := nI_clamp (by omega)
      have hv : vp_in (nI k) 146 := vp_in_nI hk (by decide)
      exact ⟨by simp [fX10_restore_L20, h, hc, bnd, nI_1], fun q => by simp [okX10_restore_L20, h, hc, hv, bndP, nI_1]; exact q⟩)
  obtain ⟨τ2, b1, b2, b3, b4, b5, b6, b7⟩ := cp2_0 (N := 36) (dst := 201) (src := 203) (fun fu σ k => fX10_restore_L47 fu σ k) (fun fu σ k => okX10_restore_L47 fu σ k) (fun σ => (setI (setI σ 196 13 0) 196 14 0, σ.1 197 2)) (fun _ => True) id id τ (by decide) (by decide) (fun _ _ _ _ h => h)
    (fun fu σ => by
      have h : (36 : Int32) ≤ nI 36 := by decide
      have hq : (setI (setI σ 196 13 0) 196 14 0).1 197 2 = σ.1 197 2 := by rw [q1n (by decide), q1n (by decide)]
      exact ⟨by simp [fX10_restore_L47, h, bnd, cl_2, hq], fun q => by simp [okX10_restore_L47, h]⟩)
    (fun fu σ k hk => by
      have h : ¬ (36 : Int32) ≤ nI k := nI_ge (b := 36) hk (by decide)
      have hc : (nI k).toNatClampNeg = k := nI_clamp (by omega)
      have hv : vp_in (nI k) 36 := vp_in_nI hk (by decide)
      exact ⟨by simp [fX10_restore_L47, h, hc, bnd, nI_1], fun q => by simp [okX10_restore_L47, h, hc, hv, bndP, nI_1]; exact q⟩)
  refine ⟨a2 (b2 trivial), τ2, a1.trans b1, fun k hk => ?_, fun k hk => ?_, fun j hj => ⟨?_, ?_⟩, ?_⟩
  · rw [b6]; exact a3 k hk
  · have := b3 k hk
    rw [show τ.2.1 203 = σ.2.1 203 by rw [a6]] at this
    exact this
  · rw [b6]; exact a5 j hj.1
  · rw [b5 j hj.2, a6]
  · rw [b7, a6]
theorem sim_30 : Sim_30 Sim := by
  intro σ x1 hS _
  obtain ⟨hN, hW, hSS, hH, ⟨n, n1, n2, n3, n4⟩, hE⟩ := id hS
  rcases nI_lt8 n1 (by decide) with ⟨a, b, c⟩ | ⟨a, b⟩
  · have a' : nI n < (60 : Int32) := a
    have c' : ¬ nI n = (60 : Int32) := c
    have hcl : (nI n).toNatClampNeg = n := nI_clamp (by omega)
    obtain ⟨v, hv⟩ : ∃ v, v = vp_nar .char x1 := ⟨_, rfl⟩
    have g1 : (setI σ 192 n v).1 191 3 = nI n := by rw [q1n (by decide)]; exact n2
    have g2 : (setI (setI σ 192 n v) 191 3 (nI (n + 1))).1 191 3 = nI (n + 1) := by rw [q1e rfl, ue rfl]
    have e : f_X9_append σ x1 = (0, setI (setI σ 192 n v) 191 3 (nI (n + 1)), nI (n + 1)) := by
      unfold f_X9_append f_X7_add
      simp only [bnd]
      rw [n2, if_pos a', hcl, ← hv, g1, nI_1, g2]
    refine simI_ok (σ1 := setI (setI σ 192 n v) 191 3 (nI (n + 1))) (v := nI (n + 1)) (by unfold f_L_append; rw [bnd_eq, e]; rfl) ⟨⟨fun _ => by unfold ok_X7_add; rw [n2]; exact vp_in_nI b (by decide), fun _ => trivial⟩, by rw [e]; exact Or.inl rfl⟩ ?_
    obtain ⟨τ0, hτ0⟩ : ∃ z, z = setI (setJ (setI (setI σ 192 n v) 191 3 (nI (n + 1))) 208 0 (nI (n + 1)).toInt64) 196 0 0 := ⟨_, rfl⟩
    have k0 : KR (fun j => ¬ j = 191 ∧ ¬ j = 192 ∧ ¬ j = 196) σ τ0 := fun j hj => by
      rw [hτ0]
      exact ⟨by rw [q1n hj.2.2]; show (setI (setI σ 192 n v) 191 3 (nI (n + 1))).1 j = _; rw [q1n hj.1, q1n hj.2.1], rfl⟩
    have h196 : ∀ k, ¬ k = 0 → τ0.1 196 k = σ.1 196 k := fun k hk => by
      rw [hτ0, q1e rfl, un hk]
      rfl
    have h18 : τ0.1 196 18 = nI n := (h196 18 (by decide)).trans n3
    have h0 : τ0.1 196 0 = 0 := by rw [hτ0]; exact thr0
    have r191 : τ0.1 191 = upd (σ.1 191) 3 (nI (n + 1)) := by rw [hτ0, q1n (by decide)]; show (setI (setI σ 192 n v) 191 3 (nI (n + 1))).1 191 = _; rw [q1e rfl, q1n (by decide)]
    have r192 : τ0.1 192 = upd (σ.1 192) n v := by rw [hτ0, q1n (by decide)]; show (setI (setI σ 192 n v) 191 3 (nI (n + 1))).1 192 = _; rw [q1n (by decide), q1e rfl]
    have g3 : (setI τ0 206 n v).1 196 18 = nI n := by rw [q1n (by decide)]; exact h18
    have g4 : (setI (setI τ0 206 n v) 196 18 (nI (n + 1))).1 196 18 = nI (n + 1) := by rw [q1e rfl, ue rfl]
    refine ⟨?_, setI (setI τ0 206 n v) 196 18 (nI (n + 1)), ?_, ?_, ?_, ?_⟩
    · unfold ok_X10_append
      rw [bndP_eq, ← hτ0, h18]
      exact ⟨fun _ => trivial, fun _ => vp_in_nI b (by decide)⟩
    · unfold f_X10_append
      rw [bnd_eq, ← hτ0, h18, if_neg c', hcl, ← hv]
      simp only [bnd]
      rw [g3, nI_1, g4]
    · rw [q1e rfl, un (by decide), q1n (by decide)]; exact h0
    · rw [hτ0]; rfl
    have kk : KR (fun j => ¬ j = 191 ∧ ¬ j = 192 ∧ ¬ j = 196 ∧ ¬ j = 206) σ (setI (setI τ0 206 n v) 196 18 (nI (n + 1))) := fun j hj =>
      ⟨by rw [q1n hj.2.2.1, q1n hj.2.2.2]; exact (k0 j ⟨hj.1, hj.2.1, hj.2.2.1⟩).1, (k0 j ⟨hj.1, hj.2.1, hj.2.2.1⟩).2⟩
    have f196 : ∀ k, ¬ k = 0 → ¬ k = 18 → (setI (setI τ0 206 n v) 196 18 (nI (n + 1))).1 196 k = σ.1 196 k := fun k x y => by
      rw [q1e rfl, un y, q1n (by decide)]; exact h196 k x
    refine ⟨hN.kr kk (fun j x y => by omega) (by decide) (by decide), ?_, ?_, ?_, ⟨n + 1, by omega, ?_, g4, ?_⟩, ?_⟩
    · unfold SW
      rw [(kk 1 (by decide)).1, f196 1 (by decide) (by decide), f196 2 (by decide) (by decide)]
      exact hW
    · unfold SS
      rw [(kk 0 (by decide)).1, f196 15 (by decide) (by decide), (kk 199 (by decide)).1, (kk 203 (by decide)).2]
      refine ⟨hSS.1, ?_⟩
      rcases hSS.2 with a | ⟨a, b, c⟩
      · exact Or.inl a
      · exact Or.inr ⟨a, b.kr kk (fun j hj => by omega), c⟩
    · obtain ⟨l, x, y⟩ := hH
      exact ⟨l, x.kr kk (fun j x y => by omega), y.kp (f196 13 (by decide) (by decide)) (f196 14 (by decide) (by decide)) (kk 198 (by decide)).1 (kk 202 (by decide)).2⟩
    · rw [q1n (by decide), q1n (by decide), r191, ue rfl]
    · intro k hk
      rw [q1n (by decide), q1n (by decide), r192, q1n (by decide), q1e rfl]
      by_cases ek : k = n
      · rw [ue ek, ue ek]
      · rw [un ek, un ek, (k0 206 (by decide)).1]
        exact n4 k (by omega)
    · unfold SE
      rw [f196 20 (by decide) (by decide), q1n (by decide), q1n (by decide), r191, un (by decide)]
      exact hE
  · have a' : ¬ σ.1 191 3 < (60 : Int32) := by rw [n2]; exact a
    have c' : nI n = (60 : Int32) := by rw [b]; rfl
    have e : f_X9_append σ x1 = (5, σ, 0) := by
      unfold f_X9_append
      exact if_neg a'
    have g : (setI σ 196 0 0).1 196 18 = 60 := by rw [q1e rfl, un (by decide), n3, c']
    refine simI_no (σ1 := σ) (k := 1) (by unfold f_L_append; rw [bnd_eq, e]; rfl) (by decide) ⟨⟨fun q => absurd q a', fun _ => trivial⟩, by rw [e]; exact Or.inr rfl⟩ ⟨?_, setI (setI σ 196 0 0) 196 0 1, 0, ?_, thr0, hS.tt 0 1⟩
    · unfold ok_X10_append
      rw [bndP_eq, g]
      exact ⟨fun _ => trivial, fun q => absurd rfl q⟩
    · unfold f_X10_append
      rw [bnd_eq, g, if_pos rfl]
      rfl
end KEEP
