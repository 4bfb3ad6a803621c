/-! the last calls that only ask -/
section ASK3
theorem sim_36 : Sim_36 Sim := by
  intro σ hS
  obtain ⟨⟨hO, hI⟩, -⟩ := id hS
  have h20 := hI.n20
  have hl := cl_letters hO hI
  have hl1 : ok_X5_letters σ 6 := hl.1
  have hl2 : f_X5_letters σ 6 = nI (cn (fun i => decide (it (σ.1 197) i 0 = 0)) (cnt (σ.1 197))) := hl.2
  have hle := cn_le (fun i => decide (it (σ.1 197) i 0 = 0)) (cnt (σ.1 197))
  obtain ⟨n, hn⟩ : ∃ n, n = cn (fun i => decide (it (σ.1 197) i 0 = 0)) (cnt (σ.1 197)) := ⟨_, rfl⟩
  rw [← hn] at hl2 hle
  have hs := cl_sum hO hI
  have hs1 : ok_X5_sumOfReadings σ 6 := hs.1
  have hs2 : f_X5_sumOfReadings σ 6 = rds (σ.1 197) (σ.2.1 201) := hs.2.1
  by_cases h0 : n = 0
  · subst h0
    have hl2' : f_X5_letters σ 6 = 0 := hl2.trans rfl
    have e : f_X9_meanBits σ = (6, σ, 0) := by simp [f_X9_meanBits, hl2']
    refine simJ_no (σ1 := σ) (k := 1) (by unfold f_L_meanBits; rw [bnd_eq, e]; rfl) (by decide) ⟨by simp [ok_X9_meanBits, hl1, hl2'], by rw [e]; exact Or.inr rfl⟩ ?_
    have hm := md_letters (σ := setI σ 196 0 0) (w := σ.1 197) rfl hI
    rw [← hn] at hm
    have hm2 : f_X10_letters (setI σ 196 0 0) = 0 := hm.2
    exact ⟨by simp [ok_X10_meanBits, bndP_eq, hm.1, hm2], setI (setI σ 196 0 0) 196 0 1, (0 : Int32).toInt64, by simp [f_X10_meanBits, bnd_eq, hm2, f_fails], thr0, hS.tt 0 1⟩
  · have hne : ¬ nI n = 0 := fun z => h0 (nI_inj (b := 0) (by omega) (by decide) z)
    have hmn := do_mean (k := cnt (σ.1 197)) (n := n) (by omega) hs.2.2 (by omega) (by omega)
    have hB := b64_of hmn.2
    have hsame := b64_same hmn.2
    have hdk : FP.i2d (nI n) = dk n := rfl
    obtain ⟨v, hv⟩ : ∃ v, v = f_Jxe99ae_doubleToLongBits_ccdee (FP.ddiv (rds (σ.1 197) (σ.2.1 201)) (dk n)) := ⟨_, rfl⟩
    have e : f_X9_meanBits σ = (0, σ, v) := by
      unfold f_X9_meanBits
      rw [hl2, if_neg hne, hs2, hdk, hsame, hv]
    refine simJ_ok (σ1 := σ) (by unfold f_L_meanBits; rw [bnd_eq, e]; rfl) ⟨by unfold ok_X9_meanBits; rw [hl2, hs2, hdk]; exact ⟨hl1, fun _ => trivial, fun _ => ⟨hs1, hmn.1, hB.1⟩⟩, by rw [e]; exact Or.inl rfl⟩ ?_
    have hm := md_letters (σ := setI (setJ σ 208 0 v) 196 0 0) (w := σ.1 197) rfl hI
    rw [← hn] at hm
    have hq := md_sum (σ := setI (setJ σ 208 0 v) 196 0 0) (w := σ.1 197) (f := σ.2.1 201) rfl rfl hI (nI n) v (fun s hs => by rw [hs, hdk]; exact ⟨hmn.1, hv.symm⟩)
    refine ⟨?_, setI (setJ σ 208 0 v) 196 0 0, ?_, thr0, rfl, (hS.J _).t 0⟩
    · unfold ok_X10_meanBits
      rw [bndP_eq, hm.2]
      exact ⟨hm.1, fun _ => trivial, fun _ => hq.1⟩
    · unfold f_X10_meanBits
      rw [bnd_eq, hm.2, if_neg hne]
      exact hq.2
theorem acc_ok {σ : St} {x v : Int32} (hS : Sim σ) (e : f_X9_account σ x = (0, σ, v)) (o1 : ok_X9_account σ x) (o2 : ∀ τ : St, τ.1 = (setI σ 196 0 0).1 → τ.2.1 = σ.2.1 → (∀ (p : τ = τ), True) → True) (m : ∀ τ : St, τ.1 = σ.1 → τ.2.1 = σ.2.1 → ok_X10_account τ x ∧ f_X10_account τ x = (setI τ 196 0 0, v)) : simI Sim (ok_L_account σ x) (f_L_account σ x) (fun τ => ok_X10_account τ x) (fun τ => f_X10_account τ x) := by
  refine simI_ok (σ1 := σ) (by unfold f_L_account; rw [bnd_eq, e]; rfl) ⟨o1, by rw [e]; exact Or.inl rfl⟩ ?_
  obtain ⟨a, b⟩ := m (setJ σ 208 0 v.toInt64) rfl rfl
  exact ⟨a, setI (setJ σ 208 0 v.toInt64) 196 0 0, b, thr0, rfl, (hS.J _).t 0⟩
theorem sim_34 : Sim_34 Sim := by
  intro σ x hS
  obtain ⟨⟨hO, hI⟩, hW, hSS, ⟨l, hR, hU⟩, ⟨n, n1, n2, n3, n4⟩, hE⟩ := id hS
  obtain ⟨⟨d1, d2, -⟩, ⟨i1, -⟩, -, ⟨g1, g2, g3, g4⟩⟩ := id hO
  have hl1 : ok_X5_letters σ 6 := (cl_letters hO hI).1
  have hl2 : f_X5_letters σ 6 = _ := (cl_letters hO hI).2
  have hw1 : ok_X5_allWords σ 6 := (cl_words hO hI).1
  have hw2 : f_X5_allWords σ 6 = _ := (cl_words hO hI).2
  have hs1 : ∀ y, ok_X5_inState σ 6 y := fun y => (cl_inState hO hI y).1
  have hs2 : ∀ y, f_X5_inState σ 6 y = _ := fun y => (cl_inState hO hI y).2
  have e0 : σ.1 18 3 = σ.1 197 0 := g4
  have e1 : σ.1 3 2 = σ.1 197 1 := d1
  have e2 : σ.1 6 8 = σ.1 197 2 := i1
  have e4 : σ.1 3 3 = σ.1 197 3 := d2
  have e10 : σ.1 18 1 = σ.1 197 4 := g2
  have e11 : σ.1 18 2 = σ.1 197 5 := g3
  have e13 : σ.1 191 3 = σ.1 196 18 := n2.trans n3.symm
  have e14 : σ.1 189 2 = σ.1 196 13 := hR.2.1.trans hU.2.1.symm
  have ml : ∀ τ : St, τ.1 = σ.1 → ok_X10_letters (setI τ 196 0 0) ∧ f_X10_letters (setI τ 196 0 0) = nI (cn (fun i => decide (it (σ.1 197) i 0 = 0)) (cnt (σ.1 197))) := fun τ h => md_letters (by show τ.1 197 = _; rw [h]) hI
  have mw : ∀ τ : St, τ.1 = σ.1 → ok_X10_allWords (setI τ 196 0 0) ∧ f_X10_allWords (setI τ 196 0 0) = wds (σ.1 197) := fun τ h => md_words (by show τ.1 197 = _; rw [h]) hI
  have mi : ∀ (τ : St) (y : Int32), τ.1 = σ.1 → ok_X10_itemsIn (setI τ 196 0 0) y ∧ f_X10_itemsIn (setI τ 196 0 0) y = nI (cn (fun i => decide (it (σ.1 197) i 4 = y)) (cnt (σ.1 197))) := fun τ y h => md_itemsIn (by show τ.1 197 = _; rw [h]) hI y
  have r197 : ∀ (τ : St) (k : Nat), τ.1 = σ.1 → (setI τ 196 0 0).1 197 k = σ.1 197 k := fun τ k h => by rw [q1n (by decide), h]
  have r196 : ∀ (τ : St) (k : Nat), ¬ k = 0 → τ.1 = σ.1 → (setI τ 196 0 0).1 196 k = σ.1 196 k := fun τ k hk h => by rw [q1e rfl, un hk, h]
  have v0 : vp_in (0 : Int32) 146 := vp_in_nI (n := 0) (by decide) (by decide)
  have v1 : vp_in (1 : Int32) 146 := vp_in_nI (n := 1) (by decide) (by decide)
  have v2 : vp_in (2 : Int32) 146 := vp_in_nI (n := 2) (by decide) (by decide)
  by_cases x0 : x = 0
  · subst x0
    exact acc_ok hS (by simp [f_X9_account, e0]; rfl) (by simp [ok_X9_account]) (fun _ _ _ _ => trivial) (fun τ a b => ⟨by simp [ok_X10_account, bndP_eq, v0], by simp [f_X10_account, bnd_eq, r197 τ _ a]⟩)
  by_cases x1 : x = 1
  · subst x1
    exact acc_ok hS (by simp [f_X9_account, e1]; rfl) (by simp [ok_X9_account]) (fun _ _ _ _ => trivial) (fun τ a b => ⟨by simp [ok_X10_account, bndP_eq, v1], by simp [f_X10_account, bnd_eq, r197 τ _ a]⟩)
  by_cases x2 : x = 2
  · subst x2
    exact acc_ok hS (by simp [f_X9_account, e2]; rfl) (by simp [ok_X9_account]) (fun _ _ _ _ => trivial) (fun τ a b => ⟨by simp [ok_X10_account, bndP_eq, v2], by simp [f_X10_account, bnd_eq, r197 τ _ a]⟩)
  by_cases x3 : x = 3
  · subst x3
    exact acc_ok hS (by simp [f_X9_account, hl2]; rfl) (by simp [ok_X9_account, hl1]) (fun _ _ _ _ => trivial) (fun τ a b => ⟨by simp [ok_X10_account, bndP_eq, (ml τ a).1], by simp [f_X10_account, bnd_eq, (ml τ a).2]⟩)
  by_cases x4 : x = 4
  · subst x4
    exact acc_ok hS (by simp [f_X9_account, e4]; rfl) (by simp [ok_X9_account]) (fun _ _ _ _ => trivial) (fun τ a b => ⟨by simp [ok_X10_account, bndP_eq], by simp [f_X10_account, bnd_eq, r197 τ _ a, cl_3]⟩)
  by_cases x5 : x = 5
  · subst x5
    exact acc_ok hS (by simp [f_X9_account, hs2]; rfl) (by simp [ok_X9_account, hs1]) (fun _ _ _ _ => trivial) (fun τ a b => ⟨by simp [ok_X10_account, bndP_eq, (mi τ _ a).1], by simp [f_X10_account, bnd_eq, (mi τ _ a).2]⟩)
  by_cases x6 : x = 6
  · subst x6
    exact acc_ok hS (by simp [f_X9_account, hs2]; rfl) (by simp [ok_X9_account, hs1]) (fun _ _ _ _ => trivial) (fun τ a b => ⟨by simp [ok_X10_account, bndP_eq, (mi τ _ a).1], by simp [f_X10_account, bnd_eq, (mi τ _ a).2]⟩)
  by_cases x7 : x = 7
  · subst x7
    exact acc_ok hS (by simp [f_X9_account, hs2]; rfl) (by simp [ok_X9_account, hs1]) (fun _ _ _ _ => trivial) (fun τ a b => ⟨by simp [ok_X10_account, bndP_eq, (mi τ _ a).1], by simp [f_X10_account, bnd_eq, (mi τ _ a).2]⟩)
  by_cases x8 : x = 8
  · subst x8
    exact acc_ok hS (by simp [f_X9_account, hs2]; rfl) (by simp [ok_X9_account, hs1]) (fun _ _ _ _ => trivial) (fun τ a b => ⟨by simp [ok_X10_account, bndP_eq, (mi τ _ a).1], by simp [f_X10_account, bnd_eq, (mi τ _ a).2]⟩)
  by_cases x9 : x = 9
  · subst x9
    exact acc_ok hS (by simp [f_X9_account, hs2]; rfl) (by simp [ok_X9_account, hs1]) (fun _ _ _ _ => trivial) (fun τ a b => ⟨by simp [ok_X10_account, bndP_eq, (mi τ _ a).1], by simp [f_X10_account, bnd_eq, (mi τ _ a).2]⟩)
  by_cases x10 : x = 10
  · subst x10
    exact acc_ok hS (by simp [f_X9_account, e10]; rfl) (by simp [ok_X9_account]) (fun _ _ _ _ => trivial) (fun τ a b => ⟨by simp [ok_X10_account, bndP_eq], by simp [f_X10_account, bnd_eq, r197 τ _ a, cl_4]⟩)
  by_cases x11 : x = 11
  · subst x11
    exact acc_ok hS (by simp [f_X9_account, e11]; rfl) (by simp [ok_X9_account]) (fun _ _ _ _ => trivial) (fun τ a b => ⟨by simp [ok_X10_account, bndP_eq], by simp [f_X10_account, bnd_eq, r197 τ _ a, cl_5]⟩)
  by_cases x12 : x = 12
  · subst x12
    exact acc_ok hS (by simp [f_X9_account, hw2]; rfl) (by simp [ok_X9_account, hw1]) (fun _ _ _ _ => trivial) (fun τ a b => ⟨by simp [ok_X10_account, bndP_eq, (mw τ a).1], by simp [f_X10_account, bnd_eq, (mw τ a).2]⟩)
  by_cases x13 : x = 13
  · subst x13
    exact acc_ok hS (by simp [f_X9_account, e13]; rfl) (by simp [ok_X9_account]) (fun _ _ _ _ => trivial) (fun τ a b => ⟨by simp [ok_X10_account, bndP_eq], by simp [f_X10_account, bnd_eq, r196 τ 18 (by decide) a]⟩)
  by_cases x14 : x = 14
  · subst x14
    exact acc_ok hS (by simp [f_X9_account, e14]; rfl) (by simp [ok_X9_account]) (fun _ _ _ _ => trivial) (fun τ a b => ⟨by simp [ok_X10_account, bndP_eq], by simp [f_X10_account, bnd_eq, r196 τ 13 (by decide) a]⟩)
  · have e : f_X9_account σ x = (1, σ, 0) := by simp [f_X9_account, x0, x1, x2, x3, x4, x5, x6, x7, x8, x9, x10, x11, x12, x13, x14]
    refine simI_no (σ1 := σ) (k := 1) (by unfold f_L_account; rw [bnd_eq, e]; rfl) (by decide) ⟨by simp [ok_X9_account, x0, x1, x2, x3, x4, x5, x6, x7, x8, x9, x10, x11, x12, x13, x14], by rw [e]; exact Or.inr rfl⟩ ?_
    exact ⟨by simp [ok_X10_account, bndP_eq, x0, x1, x2, x3, x4, x5, x6, x7, x8, x9, x10, x11, x12], setI (setI σ 196 0 0) 196 0 1, 0, by simp [f_X10_account, bnd_eq, x0, x1, x2, x3, x4, x5, x6, x7, x8, x9, x10, x11, x12, x13, x14, f_fails], thr0, hS.tt 0 1⟩
/-- hours until a letter is eaten: the reference tries it out -/
theorem md_eats {w : Nat → Int32} {f : Nat → UInt32} (hI0 : Inv w f) (hne : ¬ wst w f = -1) {N : Nat} (a1 : N ≤ 6) (a2 : 1090519040 < (itH N (hgr f)).toNat) (a3 : ∀ m, m < N → (itH m (hgr f)).toNat ≤ 1090519040) :
    ∀ (m fu i : Nat) (τ : St), m < fu → i + m = N → Sit w (τ.1 197) → Inv (τ.1 197) (τ.2.1 201) → (∀ k, k < 20 → τ.2.1 201 (16 + k) = f (16 + k)) → hgr (τ.2.1 201) = itH i (hgr f) →
    okX10_eatsIn_L24 fu τ (nI (i + 1)) ∧ ∃ τ', fX10_eatsIn_L24 fu τ (nI (i + 1)) = (τ', nI (N + 1)) ∧ (∀ k, k < 146 → τ'.1 197 k = τ.1 200 k) ∧ (∀ k, k < 36 → τ'.2.1 201 k = τ.2.1 204 k) ∧ Kp (fun j => ¬ j = 197 ∧ ¬ j = 201) τ τ' := by
  intro m
  induction m with
  | zero =>
    intro fu i τ hf hi hs hI h16 hg
    obtain ⟨fu, rfl⟩ : ∃ z, fu = z + 1 := ⟨fu - 1, by omega⟩
    have : i = N := by omega
    subst this
    have hw : wst (τ.1 197) (τ.2.1 201) = wst w f := wst_same hs hI0.n20 h16
    have hE : hEat (τ.1 197) (τ.2.1 201) = true := by unfold hEat; rw [hw, hg]; simp [hne, a2]
    obtain ⟨b1, τ1, b2, b3, b4, b5⟩ := md_hour rfl rfl hI
    rw [hE] at b2
    obtain ⟨c1, c2, c3, c4⟩ := md_forgets τ1
    refine ⟨?_, f_X10_forgets τ1, ?_, fun k hk => ?_, fun k hk => ?_, b5.tr c4⟩
    · rw [okX10_eatsIn_L24, bndP_eq, b2]
      exact ⟨b1, fun _ => c1, (fun q => by cases q)⟩
    · rw [fX10_eatsIn_L24, bnd_eq, b2, if_pos rfl, bnd_eq]
    · rw [c2 k hk, (b5.1 200 (by decide)).1]
    · rw [c3 k hk, (b5.1 204 (by decide)).2]
  | succ m ih =>
    intro fu i τ hf hi hs hI h16 hg
    obtain ⟨fu, rfl⟩ : ∃ z, fu = z + 1 := ⟨fu - 1, by omega⟩
    have hE : hEat (τ.1 197) (τ.2.1 201) = false := by
      unfold hEat
      rw [hg]
      have := a3 i (by omega)
      have h : ¬ 1090519040 < (itH i (hgr f)).toNat := by omega
      simp [h]
    obtain ⟨b1, τ1, b2, b3, b4, b5⟩ := md_hour rfl rfl hI
    rw [hE] at b2
    unfold dHw at b3
    unfold dHf at b4
    rw [hE, if_neg (by decide)] at b3 b4
    have hI2 : Inv (τ1.1 197) (τ1.2.1 201) := by
      have := hI.hour
      unfold dHw dHf at this
      rw [hE, if_neg (by decide), if_neg (by decide)] at this
      rw [b3, b4]; exact this
    have s2 : Sit (τ.1 197) (τ1.1 197) := by rw [b3]; exact sit_lo (by decide) (by decide)
    obtain ⟨d1, τ', d2, d3, d4, d5⟩ := ih fu (i + 1) τ1 (by omega) (by omega) ⟨s2.1.trans hs.1, s2.2.1.trans hs.2.1, fun a j => (s2.2.2 a j).trans (hs.2.2 a j)⟩ hI2 (fun k hk => by rw [b4, vn (by omega)]; exact h16 k hk) (by
      unfold hgr at hg ⊢
      rw [b4, ve rfl, ith_s]
      unfold hgr
      rw [hg])
    refine ⟨?_, τ', ?_, fun k hk => ?_, fun k hk => ?_, b5.tr d5⟩
    · rw [okX10_eatsIn_L24, bndP_eq, b2, nI_1]
      exact ⟨b1, (fun q => by cases q), fun _ => d1⟩
    · rw [fX10_eatsIn_L24, bnd_eq, b2, if_neg (fun q => by cases q), nI_1]
      exact d2
    · rw [d3 k hk, (b5.1 200 (by decide)).1]
    · rw [d4 k hk, (b5.1 204 (by decide)).2]
theorem SN.congr {σ : St} {w : Nat → Int32} {f : Nat → UInt32} (hO : Off σ 2 w f) (hI : Inv w f) (hw : ∀ k, k < 146 → σ.1 197 k = w k) (hf : ∀ k, k < 36 → σ.2.1 201 k = f k) : SN σ :=
  ⟨hO.congr hI.n20 hw hf, hI.congr hw hf⟩
theorem sim_27 : Sim_27 Sim := by
  intro σ hS
  obtain ⟨⟨hO, hI⟩, hrest⟩ := id hS
  have hb := cl_worst hO hI
  have hb1 : ok_X5_worstOnShelf σ 6 := hb.1
  have hb2 : f_X5_worstOnShelf σ 6 = wst (σ.1 197) (σ.2.1 201) := hb.2.1
  have q15 : σ.2.1 18 0 = σ.2.1 201 15 := hO.2.2.2.1
  have hok : ok_X9_hungrier (σ.2.1 201 15) := fl_n (Nat.le_of_lt (hb_p (hgr_b hI)))
  have hgq : f_X9_hungrier (σ.2.1 201 15) = hgr (σ.2.1 201) := rfl
  by_cases h : wst (σ.1 197) (σ.2.1 201) = -1
  · have e : f_X9_eatsIn σ = (4, σ, 0) := by
      unfold f_X9_eatsIn
      rw [hb2, h, if_pos rfl, df0, bnd_eq]; rfl
    refine simI_no (σ1 := σ) (k := 1) (by unfold f_L_eatsIn; rw [bnd_eq, e]; rfl) (by decide) ⟨?_, by rw [e]; exact Or.inr rfl⟩ ?_
    · unfold ok_X9_eatsIn
      rw [hb2, h, df0, bndP_eq]
      exact ⟨hb1, fun _ => (fun q => by cases q), fun q => absurd rfl q⟩
    have hm := md_worst (σ := setI σ 196 0 0) (w := σ.1 197) (f := σ.2.1 201) rfl rfl hI
    rw [h] at hm
    have hz : ¬ (0 : Int32) ≤ -1 := by decide
    exact ⟨by unfold ok_X10_eatsIn; rw [bndP_eq, hm.2]; exact ⟨hm.1, fun q => absurd q hz, fun _ => trivial⟩, setI (setI σ 196 0 0) 196 0 1, 0, by unfold f_X10_eatsIn; rw [bnd_eq, hm.2, if_neg hz]; rfl, thr0, hS.tt 0 1⟩
  · obtain ⟨i, c, b, e1, e2, e3, e4, e5, e6⟩ := prey_at hI h
    have h20 := hI.n20
    have hz : (0 : Int32) ≤ nI i := nI_pos' (by omega)
    have hm1 : ¬ nI i = -1 := nI_m1 (by omega)
    obtain ⟨N, a1, a2, a3⟩ := ith_ex hI.hung
    have c1 := cl_hours (σ := σ) a1 a2 a3 (hgr_b hI)
    have e : f_X9_eatsIn σ = (0, σ, nI (N + 1)) := by
      unfold f_X9_eatsIn
      rw [hb2, e1, if_neg hm1, df1, bnd_eq]
      dsimp only
      rw [if_pos rfl, q15, hgq]
      exact c1.2
    refine simI_ok (σ1 := σ) (by unfold f_L_eatsIn; rw [bnd_eq, e]; rfl) ⟨?_, by rw [e]; exact Or.inl rfl⟩ ?_
    · unfold ok_X9_eatsIn
      rw [hb2, e1]
      refine ⟨hb1, fun q => absurd q hm1, fun _ => ?_⟩
      rw [df1, bndP_eq]
      dsimp only
      rw [q15, hgq]
      exact fun _ => ⟨hok, c1.1⟩
    · have hm := md_worst (σ := setI (setJ σ 208 0 (nI (N + 1)).toInt64) 196 0 0) (w := σ.1 197) (f := σ.2.1 201) rfl rfl hI
      rw [e1] at hm
      obtain ⟨t1, t2, t3, t4⟩ := md_thinks (setI (setJ σ 208 0 (nI (N + 1)).toInt64) 196 0 0)
      have w1 : (f_X10_thinks (setI (setJ σ 208 0 (nI (N + 1)).toInt64) 196 0 0)).1 197 = σ.1 197 := (t4.1 197 (by decide)).1
      have w2 : (f_X10_thinks (setI (setJ σ 208 0 (nI (N + 1)).toInt64) 196 0 0)).2.1 201 = σ.2.1 201 := (t4.1 201 (by decide)).2
      obtain ⟨d1, τ', d2, d3, d4, d5⟩ := md_eats hI h a1 a2 a3 N 2000 0 (f_X10_thinks (setI (setJ σ 208 0 (nI (N + 1)).toInt64) 196 0 0)) (by omega) (Nat.zero_add N) (by rw [w1]; exact ⟨rfl, rfl, fun _ _ => rfl⟩) (by rw [w1, w2]; exact hI) (fun k hk => by rw [w2]) (by rw [w2]; rfl)
      have kk : Kp (fun j => ¬ j = 197 ∧ ¬ j = 201 ∧ ¬ j = 200 ∧ ¬ j = 204) (setI (setJ σ 208 0 (nI (N + 1)).toInt64) 196 0 0) τ' := (t4.wk (fun i hi => ⟨hi.2.2.1, hi.2.2.2⟩)).tr (d5.wk (fun i hi => ⟨hi.1, hi.2.1⟩))
      refine ⟨?_, τ', ?_, ?_, ?_, ?_⟩
      · unfold ok_X10_eatsIn
        rw [bndP_eq, hm.2, bndP_eq]
        exact ⟨hm.1, fun _ => ⟨t1, d1⟩, fun q => absurd hz q⟩
      · unfold f_X10_eatsIn
        rw [bnd_eq, hm.2, if_pos hz, bnd_eq]
        exact d2
      · rw [(kk.1 196 (by decide)).1]; exact thr0
      · rw [kk.2]; rfl
      · obtain ⟨-, b2, b3, b4, b5, b6⟩ := (hS.J (nI (N + 1)).toInt64).t 0
        have hf : KF (setI (setJ σ 208 0 (nI (N + 1)).toInt64) 196 0 0) τ' := KF.row (kk.1 196 (by decide)).1
        have r1 : ∀ k, k < 146 → τ'.1 197 k = σ.1 197 k := fun k hk => (d3 k hk).trans (t2 k hk)
        have r2 : ∀ k, k < 36 → τ'.2.1 201 k = σ.2.1 201 k := fun k hk => (d4 k hk).trans (t3 k hk)
        have hO2 : Off τ' 2 (σ.1 197) (σ.2.1 201) := (hO.kr (fun j hj => ⟨q1n (by omega), rfl⟩ : KR (fun j => j < 19) σ (setI (setJ σ 208 0 (nI (N + 1)).toInt64) 196 0 0)) (fun j hj => by omega)).kp kk (fun j hj => by omega)
        exact ⟨SN.congr hO2 hI r1 r2, b2.kr kk.kr (by decide) hf, b3.kr kk.kr (fun j x y => by omega) (by decide) (by decide) (by decide) hf, b4.kr kk.kr (fun j x y => by omega) (by decide) (by decide) hf, b5.kr kk.kr (by decide) (by decide) (by decide) hf, b6.kr kk.kr (by decide) hf⟩
end ASK3
