/-! the line of orders as a whole -/
section RUN
variable {inp : Nat → Int32} {n : Nat}
theorem cl_run_f {σ : St} (h1 : ok_X7_scan σ) (h : ¬ (f_X7_scan σ).1 191 5 = -1) : f_X9_run σ = (1, f_X7_scan σ, 0) ∧ ok_X9_run σ := by
  constructor
  · unfold f_X9_run
    rw [bnd_eq, if_neg h, dm2]
    rfl
  · unfold ok_X9_run
    rw [bndP_eq]
    refine ⟨h1, fun q => absurd q h, fun _ => ?_⟩
    rw [dm2, bndP_eq]
    exact fun q => absurd q (show ¬ (1 : Nat) = 0 by decide)
theorem cl_run_t {σ : St} (h1 : ok_X7_scan σ) (h : (f_X7_scan σ).1 191 5 = -1) : f_X9_run σ = fX9_run_L42 2000 (f_X6_copyFrom (f_X7_scan σ) 19 2) 0 0 ∧ (okX9_run_L42 2000 (f_X6_copyFrom (f_X7_scan σ) 19 2) 0 0 → ok_X9_run σ) := by
  constructor
  · unfold f_X9_run
    rw [bnd_eq, if_pos h, dm0, bnd_eq]
    dsimp only
    rw [if_pos rfl, bnd_eq]
  · intro z
    unfold ok_X9_run
    rw [bndP_eq]
    refine ⟨h1, fun _ => ?_, fun q => absurd h q⟩
    rw [dm0, bndP_eq]
    intro _
    rw [bndP_eq]
    exact z
theorem rn_f {τ τ1 : St} (k : ok_X10_readsAll (setI τ 196 0 0)) (h : f_X10_readsAll (setI τ 196 0 0) = (τ1, false)) : f_X10_run τ = (setI (setI (setI τ1 196 20 (τ1.1 196 19)) 196 18 0) 196 0 1, 0) ∧ ok_X10_run τ := by
  unfold f_X10_run ok_X10_run
  simp only [bnd_eq, bndP_eq]
  rw [h]
  dsimp only
  refine ⟨rfl, k, (fun q => by cases q), fun _ => ⟨(fun q => by cases q), fun _ => trivial⟩⟩
theorem rn_t {τ τ1 : St} (k : ok_X10_readsAll (setI τ 196 0 0)) (h : f_X10_readsAll (setI τ 196 0 0) = (τ1, true)) (k2 : ok_X10_doesAll (f_X10_thinks (setI τ1 196 20 (-1)))) {τ4 : St} (h4 : τ4 = setI (f_X10_doesAll (f_X10_thinks (setI τ1 196 20 (-1)))) 196 18 0) :
    (τ4.1 196 24 = 0 → ok_X10_keepsMind τ4 → f_X10_run τ = (f_X10_keepsMind τ4, (f_X10_keepsMind τ4).1 196 23) ∧ ok_X10_run τ) ∧ (¬ τ4.1 196 24 = 0 → ok_X10_forgets τ4 → f_X10_run τ = (if (f_X10_forgets τ4).1 196 24 = 9 then f_X10_refuses (f_X10_forgets τ4) 9 2 else f_X10_fails (f_X10_forgets τ4) 1) ∧ ok_X10_run τ) := by
  have t1 := (md_thinks (setI τ1 196 20 (-1))).1
  subst h4
  unfold f_X10_run ok_X10_run
  simp only [bnd_eq, bndP_eq]
  rw [h]
  dsimp only
  refine ⟨fun e q => ⟨?_, k, fun _ => ⟨fun _ => ⟨t1, k2, fun _ => q, fun z => absurd e z⟩, (fun z => by cases z)⟩, (fun z => by cases z)⟩, fun e q => ⟨?_, k, fun _ => ⟨fun _ => ⟨t1, k2, fun z => absurd z e, fun _ => q⟩, (fun z => by cases z)⟩, (fun z => by cases z)⟩⟩
  · rw [if_pos rfl, if_pos rfl]
    generalize hz : setI (f_X10_doesAll (f_X10_thinks (setI τ1 196 20 (-1)))) 196 18 0 = z
    rw [hz] at e
    exact if_pos e
  · rw [if_pos rfl, if_pos rfl]
    generalize hz : setI (f_X10_doesAll (f_X10_thinks (setI τ1 196 20 (-1)))) 196 18 0 = z
    rw [hz] at e
    rw [if_neg e]
theorem md_run0 {τ : St} (hn : n ≤ 60) (h18 : τ.1 196 18 = nI n) (h206 : ∀ k, k < n → τ.1 206 k = inp k) : ok_X10_readsAll (setI τ 196 0 0) ∧ ∃ τ1, f_X10_readsAll (setI τ 196 0 0) = (τ1, (sA inp n 61 0).1) ∧ MO τ1 inp n (sA inp n 61 0).2.1 ∧ MF (setI τ 196 0 0) τ1 := by
  have h : MO (setI (setI τ 196 0 0) 196 19 0) inp n 0 := by
    refine ⟨?_, ?_, ?_⟩
    · rw [q1e rfl, un (by decide), q1e rfl, un (by decide)]; exact h18
    · rw [q1e rfl, ue rfl]; rfl
    · intro k hk; rw [q1n (by decide), q1n (by decide)]; exact h206 k hk
  obtain ⟨a1, τ1, a2, a3, a4⟩ := md_readsAll hn 61 2000 0 _ (by omega) (by decide) h (Nat.zero_le _)
  unfold ok_X10_readsAll f_X10_readsAll
  rw [bnd_eq, bndP_eq]
  refine ⟨a1, τ1, a2, a3, MF.tr (τ1 := setI (setI τ 196 0 0) 196 19 0) ⟨fun j x y => ?_, rfl, fun k x y => ?_⟩ a4⟩
  · rw [q1n x]
  · rw [q1e rfl, un x]
theorem md_runs {σ2 τ : St} {w : Nat → Int32} {f : Nat → UInt32} (hn : n ≤ 60) (h18 : τ.1 196 18 = nI n) (h206 : ∀ k, k < n → τ.1 206 k = inp k) (hm : MR τ w f) (hb : (sA inp n 61 0).1 = true) (hO2 : Off σ2 2 w f) (hI : Inv w f) (h4 : σ2.1 191 4 = nI (sA inp n 61 0).2.2.length) (hT : Tb σ2 0 (sA inp n 61 0).2.2) :
    ∃ τ3 τ4, τ4 = setI τ3 196 18 0 ∧ ((τ4.1 196 24 = 0 → ok_X10_keepsMind τ4 → f_X10_run τ = (f_X10_keepsMind τ4, (f_X10_keepsMind τ4).1 196 23) ∧ ok_X10_run τ) ∧ (¬ τ4.1 196 24 = 0 → ok_X10_forgets τ4 → f_X10_run τ = (if (f_X10_forgets τ4).1 196 24 = 9 then f_X10_refuses (f_X10_forgets τ4) 9 2 else f_X10_fails (f_X10_forgets τ4) 1) ∧ ok_X10_run τ)) ∧ Jt σ2 (crn (sA inp n 61 0).2.2.length σ2 0) τ3 (sA inp n 61 0).2.2.length ∧ (∀ k, k < 146 → τ3.1 200 k = w k) ∧ (∀ k, k < 36 → τ3.2.1 204 k = f k) ∧ Kp (fun j => ¬ j = 196 ∧ ¬ j = 197 ∧ ¬ j = 200 ∧ ¬ j = 201 ∧ ¬ j = 204 ∧ ¬ j = 207) τ τ3 ∧ τ3.1 196 0 = 0 ∧ τ3.1 196 20 = -1 ∧ ∀ k, (¬ k = 0 ∧ ¬ k = 3 ∧ ¬ k = 4 ∧ ¬ k = 19 ∧ ¬ k = 20 ∧ ¬ k = 22 ∧ ¬ k = 23 ∧ ¬ k = 24) → τ3.1 196 k = τ.1 196 k := by
  obtain ⟨a1, τ1, a2, a3, a4⟩ := md_run0 hn h18 h206
  rw [hb] at a2
  obtain ⟨t1, t2, t3, t4⟩ := md_thinks (setI τ1 196 20 (-1))
  obtain ⟨τ2, hτ2⟩ : ∃ z, z = f_X10_thinks (setI τ1 196 20 (-1)) := ⟨_, rfl⟩
  rw [← hτ2] at t2 t3 t4
  obtain ⟨τs, hτs⟩ : ∃ z, z = setI (setI (setI τ2 196 23 0) 196 24 0) 196 19 0 := ⟨_, rfl⟩
  have k1 : Kp (fun j => ¬ j = 196 ∧ ¬ j = 207) τ τ1 := ⟨fun j hj => ⟨(a4.1 j hj.1 hj.2).trans (q1n hj.1), congrFun (congrArg Prod.fst a4.2.1) j⟩, congrArg Prod.snd a4.2.1⟩
  have k2 : Kp (fun j => ¬ j = 196 ∧ ¬ j = 200 ∧ ¬ j = 204 ∧ ¬ j = 207) τ τ2 := ((k1.wk (fun j hj => ⟨hj.1, hj.2.2.2⟩)).tr (kp_setI Kp.rf (fun q => q.1 rfl))).tr (t4.wk (fun j hj => ⟨hj.2.1, hj.2.2.1⟩))
  have ks : Kp (fun j => ¬ j = 196 ∧ ¬ j = 200 ∧ ¬ j = 204 ∧ ¬ j = 207) τ τs := by
    rw [hτs]
    exact kp_setI (kp_setI (kp_setI k2 (fun q => q.1 rfl)) (fun q => q.1 rfl)) (fun q => q.1 rfl)
  have e1 : ∀ k, ¬ k = 0 → ¬ k = 19 → ¬ k = 22 → τ1.1 196 k = τ.1 196 k := fun k x y z => by
    rw [a4.2.2 k y z, q1e rfl, un x]
  have e10 : τ1.1 196 0 = 0 := by rw [a4.2.2 0 (by decide) (by decide), q1e rfl, ue rfl]
  have e2 : ∀ k, ¬ k = 20 → τ2.1 196 k = τ1.1 196 k := fun k x => by
    rw [congrFun (t4.1 196 (by decide)).1 k, q1e rfl, un x]
  have e220 : τ2.1 196 20 = -1 := by rw [congrFun (t4.1 196 (by decide)).1 20, q1e rfl, ue rfl]
  have es : ∀ k, ¬ k = 19 → ¬ k = 23 → ¬ k = 24 → τs.1 196 k = τ2.1 196 k := fun k x y z => by
    rw [hτs, q1e rfl, un x, q1e rfl, un z, q1e rfl, un y]
  have w1 : ∀ j, ¬ j = 196 → τs.1 j = τ2.1 j := fun j hj => by rw [hτs, q1n hj, q1n hj, q1n hj]
  have w2 : τs.2 = τ2.2 := by rw [hτs]; rfl
  have ms : MR τs w f := ⟨(ks.1 197 (by decide)).1.trans hm.1, (ks.1 201 (by decide)).2.trans hm.2⟩
  have mo : MO τs inp n 0 := by
    refine ⟨?_, ?_, ?_⟩
    · rw [es 18 (by decide) (by decide) (by decide), e2 18 (by decide)]; exact a3.1
    · rw [hτs, q1e rfl, ue rfl]; rfl
    · intro k hk; rw [(ks.1 206 (by decide)).1]; exact h206 k hk
  have s23 : τs.1 196 23 = nI 0 := by rw [hτs, q1e rfl, un (by decide), q1e rfl, un (by decide), q1e rfl, ue rfl]; rfl
  obtain ⟨-, r1, τ3, r2, r3, r4⟩ := run_loop hn 61 2000 2000 0 0 0 σ2 τs w f (by omega) hb (Nat.zero_le _) (by decide) (by decide) (by decide) hO2 hI ms mo (by rw [Nat.zero_add]; exact h4) hT s23
  rw [Nat.zero_add] at r3
  have d1 : ok_X10_doesAll τ2 ∧ f_X10_doesAll τ2 = τ3 := by
    unfold ok_X10_doesAll f_X10_doesAll
    simp only [bnd_eq, bndP_eq]
    rw [← hτs]
    exact ⟨r1, r2⟩
  refine ⟨τ3, _, rfl, rn_t a1 a2 (by rw [← hτ2]; exact d1.1) (by rw [← hτ2, d1.2]), r3, fun k hk => ?_, fun k hk => ?_, (ks.wk (fun j hj => ⟨hj.1, hj.2.2.1, hj.2.2.2.2.1, hj.2.2.2.2.2⟩)).tr (r4.1.wk (fun j hj => ⟨hj.1, hj.2.1, hj.2.2.2.1, hj.2.2.2.2.2⟩)), ?_, ?_, fun k hk => ?_⟩
  · rw [(r4.1.1 200 (by decide)).1, w1 200 (by decide), t2 k hk, q1n (by decide), (k1.1 197 (by decide)).1, hm.1]
  · rw [(r4.1.1 204 (by decide)).2, w2, t3 k hk]
    show τ1.2.1 201 k = _
    rw [(k1.1 201 (by decide)).2, hm.2]
  · rw [r4.2 0 (by decide), es 0 (by decide) (by decide) (by decide), e2 0 (by decide)]; exact e10
  · rw [r4.2 20 (by decide), es 20 (by decide) (by decide) (by decide)]; exact e220
  · rw [r4.2 k ⟨hk.2.1, hk.2.2.1, hk.2.2.2.1, hk.2.2.2.2.2.1, hk.2.2.2.2.2.2.1, hk.2.2.2.2.2.2.2⟩, es k hk.2.2.2.1 hk.2.2.2.2.2.2.1 hk.2.2.2.2.2.2.2, e2 k hk.2.2.2.2.1, e1 k hk.1 hk.2.2.2.1 hk.2.2.2.2.2.1]
/-- behind a line -/
theorem Sim.line {σ ω : St} (hSS : SS σ) (k : KR (fun j => j = 0 ∨ (36 ≤ j ∧ j < 53) ∨ j = 199 ∨ j = 203) σ ω) (h15 : ω.1 196 15 = σ.1 196 15) (a : SN ω) (b : SW ω) (c : SH ω) (h3 : ω.1 191 3 = 0) (h18 : ω.1 196 18 = 0) (e : SE ω) : Sim ω := by
  refine ⟨a, b, ?_, c, ⟨0, by decide, h3, h18, fun k hk => absurd hk (Nat.not_lt_zero k)⟩, e⟩
  unfold SS
  rw [(k 0 (by omega)).1, h15, (k 199 (by omega)).1, (k 203 (by omega)).2]
  refine ⟨hSS.1, ?_⟩
  rcases hSS.2 with x | ⟨x, y, z⟩
  · exact Or.inl x
  · exact Or.inr ⟨x, y.kr k (fun j hj => by omega), z⟩
theorem sA_le : ∀ (fu p : Nat), p ≤ n → (sA inp n fu p).2.1 ≤ n := by
  intro fu
  induction fu with
  | zero => intro p hp; exact hp
  | succ fu ih =>
    intro p hp
    have l1 := (sO_len (inp := inp) hp).1
    rw [sA]
    split
    · split
      · exact Nat.le_refl _
      · split
        · rename_i q
          exact ih _ (isS_lt q).1
        · exact l1
    · exact l1
theorem fail_sim {σ σ3 ω : St} {w : Nat → Int32} {f : Nat → UInt32} {l : List Dat} (hSS : SS σ) (hR : Ring σ l) (hU : Und σ l) (hI : Inv w f) (hO3 : Off σ3 2 w f) (k : KR (fun j => ¬ (1 ≤ j ∧ j < 36) ∧ ¬ j = 191 ∧ ¬ j = 193 ∧ ¬ j = 194 ∧ ¬ j = 196 ∧ ¬ j = 197 ∧ ¬ j = 200 ∧ ¬ j = 201 ∧ ¬ j = 204 ∧ ¬ j = 207) σ ω) (k2 : KR (fun j => 2 ≤ j ∧ j < 19) σ3 ω)
    (hw : ∀ k, k < 146 → ω.1 197 k = w k) (hf : ∀ k, k < 36 → ω.2.1 201 k = f k) (f13 : ω.1 196 13 = σ.1 196 13) (f14 : ω.1 196 14 = σ.1 196 14) (f15 : ω.1 196 15 = σ.1 196 15) (h3 : ω.1 191 3 = 0) (h18 : ω.1 196 18 = 0) (hE : SE ω) (hW : SW ω) : Sim ω :=
  Sim.line hSS (k.wk (fun j hj => by omega)) f15 (SN.congr (hO3.kr k2 (fun j hj => by omega)) hI hw hf) hW ⟨l, hR.kr k (fun j x y => by omega), hU.kp f13 f14 (k 198 (by decide)).1 (k 202 (by decide)).2⟩ h3 h18 hE
theorem sim_31 : Sim_31 Sim := by
  intro σ hS
  obtain ⟨⟨hO, hI⟩, hW, hSS, ⟨l, hR, hU⟩, ⟨n, n1, n2, n3, n4⟩, hE⟩ := id hS
  obtain ⟨s1, s2, s3, s4, s5, s6⟩ := cl_scan (inp := σ.1 192) n2 (fun _ _ => rfl) n1
  have cf := cl_run_f s1
  have ct := cl_run_t s1
  obtain ⟨σ1, hσ1⟩ : ∃ z, z = f_X7_scan σ := ⟨_, rfl⟩
  rw [← hσ1] at s2 s3 s4 s5 s6 cf ct
  have kS : Kp (fun j => ¬ j = 191 ∧ ¬ j = 193 ∧ ¬ j = 194) σ σ1 := ⟨fun j hj => ⟨s4 j hj.1 hj.2.1 hj.2.2, congrFun (congrArg Prod.fst s5) j⟩, congrArg Prod.snd s5⟩
  have hle := sA_le (inp := σ.1 192) (n := n) 61 0 (Nat.zero_le _)
  cases hb : (sA (σ.1 192) n 61 0).1 with
  | false =>
    rw [hb, if_neg (show ¬ (false = true) by decide)] at s2
    obtain ⟨e, ok⟩ := cf (by rw [s2]; exact nI_m1 (by omega))
    refine simI_no (σ1 := σ1) (k := 1) (by unfold f_L_run; rw [bnd_eq, e]; rfl) (by decide) ⟨ok, by rw [e]; exact Or.inr (Or.inl rfl)⟩ ?_
    have e18 : σ1.1 196 18 = nI n := by rw [(kS.1 196 (by decide)).1]; exact n3
    obtain ⟨a1, τ1, a2, a3, a4⟩ := md_run0 (inp := σ.1 192) (τ := σ1) n1 e18 (fun k hk => by rw [(kS.1 206 (by decide)).1]; exact (n4 k hk).symm)
    rw [hb] at a2
    obtain ⟨b1, b2⟩ := rn_f a1 a2
    refine ⟨b2, _, 0, b1, thr0, ?_⟩
    obtain ⟨ω, hω⟩ : ∃ z, z = setI (setI (setI τ1 196 20 (τ1.1 196 19)) 196 18 0) 196 0 1 := ⟨_, rfl⟩
    rw [← hω]
    have w1 : ∀ j, ¬ j = 196 → ¬ j = 207 → ω.1 j = σ1.1 j := fun j x y => by rw [hω, q1n x, q1n x, q1n x, a4.1 j x y, q1n x]
    have w2 : ω.2 = σ1.2 := by rw [hω]; exact a4.2.1
    have kω : KR (fun j => ¬ j = 191 ∧ ¬ j = 193 ∧ ¬ j = 194 ∧ ¬ j = 196 ∧ ¬ j = 207) σ ω := fun j hj =>
      ⟨(w1 j hj.2.2.2.1 hj.2.2.2.2).trans (kS.1 j ⟨hj.1, hj.2.1, hj.2.2.1⟩).1, (congrFun (congrArg Prod.fst w2) j).trans (kS.1 j ⟨hj.1, hj.2.1, hj.2.2.1⟩).2⟩
    have fω : ∀ k, ¬ k = 0 → ¬ k = 18 → ¬ k = 19 → ¬ k = 20 → ¬ k = 22 → ω.1 196 k = σ.1 196 k := fun k x0 x1 x2 x3 x4 => by
      rw [hω, q1e rfl, un x0, q1e rfl, un x1, q1e rfl, un x3, a4.2.2 k x2 x4, q1e rfl, un x0, (kS.1 196 (by decide)).1]
    refine Sim.line hSS (kω.wk (fun j hj => by omega)) (fω 15 (by decide) (by decide) (by decide) (by decide) (by decide)) (SN.kr ⟨hO, hI⟩ kω (fun j x y => by omega) (by decide) (by decide)) ?_ ⟨l, hR.kr kω (fun j x y => by omega), hU.kp (fω 13 (by decide) (by decide) (by decide) (by decide) (by decide)) (fω 14 (by decide) (by decide) (by decide) (by decide) (by decide)) (kω 198 (by decide)).1 (kω 202 (by decide)).2⟩ ?_ ?_ ?_
    · unfold SW
      rw [(kω 1 (by decide)).1, fω 1 (by decide) (by decide) (by decide) (by decide) (by decide), fω 2 (by decide) (by decide) (by decide) (by decide) (by decide)]
      exact hW
    · rw [w1 191 (by decide) (by decide)]; exact s3
    · rw [hω, q1e rfl, un (by decide), q1e rfl, ue rfl]
    · unfold SE
      rw [w1 191 (by decide) (by decide), s2, hω, q1e rfl, un (by decide), q1e rfl, un (by decide), q1e rfl, ue rfl]
      exact a3.2.1.symm
  | true =>
    rw [hb, if_pos rfl] at s2
    obtain ⟨u1, u2⟩ := s6 hb
    obtain ⟨e, ok⟩ := ct s2
    obtain ⟨σ2, hσ2⟩ : ∃ z, z = f_X6_copyFrom σ1 19 2 := ⟨_, rfl⟩
    rw [← hσ2] at e ok
    have kc : Kp (fun i => ¬ (19 ≤ i ∧ i < 36)) σ1 σ2 := by rw [hσ2]; exact copy_kp σ1 19 2
    have hO1 : Off σ1 2 (σ.1 197) (σ.2.1 201) := hO.kp kS (fun j hj => by omega)
    have hO2 : Off σ2 2 (σ.1 197) (σ.2.1 201) := hO1.kp kc (fun j hj => by omega)
    have hD2 : Off σ2 19 (σ.1 197) (σ.2.1 201) := by rw [hσ2]; exact hO1.copy hI.n20 (by omega)
    have v4 : σ2.1 191 4 = nI (sA (σ.1 192) n 61 0).2.2.length := by rw [(kc.1 191 (by decide)).1]; exact u1
    have v3 : σ2.1 191 3 = 0 := by rw [(kc.1 191 (by decide)).1]; exact s3
    have v5 : σ2.1 191 5 = -1 := by rw [(kc.1 191 (by decide)).1]; exact s2
    have vT : Tb σ2 0 (sA (σ.1 192) n 61 0).2.2 := fun i κ a hi => by rw [(kc.1 193 (by decide)).1, (kc.1 194 (by decide)).1]; exact u2 i κ a hi
    have k2 : Kp (fun j => ¬ (19 ≤ j ∧ j < 36) ∧ ¬ j = 191 ∧ ¬ j = 193 ∧ ¬ j = 194) σ σ2 := (kS.wk (fun j hj => hj.2)).tr (kc.wk (fun j hj => hj.1))
    have moA : MO (setI (setI σ 196 19 0) 196 23 0) (σ.1 192) n 0 := by
      refine ⟨?_, ?_, fun k hk => ?_⟩
      · rw [q1e rfl, un (by decide), q1e rfl, un (by decide)]; exact n3
      · rw [q1e rfl, un (by decide), q1e rfl, ue rfl]; rfl
      · rw [q1n (by decide), q1n (by decide)]; exact (n4 k hk).symm
    have mrA : MR (setI (setI σ 196 19 0) 196 23 0) (σ.1 197) (σ.2.1 201) := ⟨by rw [q1n (by decide), q1n (by decide)], rfl⟩
    obtain ⟨⟨r1, r2⟩, -, τA, -, jA, -⟩ := run_loop n1 61 2000 2000 0 0 0 σ2 (setI (setI σ 196 19 0) 196 23 0) (σ.1 197) (σ.2.1 201) (by omega) hb (Nat.zero_le _) (by decide) (by decide) (by decide) hO2 hI mrA moA (by rw [Nat.zero_add]; exact v4) vT (by rw [q1e rfl, ue rfl]; rfl)
    have runs := fun (τ : St) (h18 : τ.1 196 18 = nI n) (h206 : ∀ k, k < n → τ.1 206 k = (σ.1 192) k) (hm : MR τ (σ.1 197) (σ.2.1 201)) => md_runs (σ2 := σ2) n1 h18 h206 hm hb hO2 hI v4 vT
    generalize hq : crn (sA (σ.1 192) n 61 0).2.2.length σ2 0 = q at *
    have r1 : fX9_run_L42 2000 σ2 0 0 = rFin q := r1
    have r2 : okFin q → okX9_run_L42 2000 σ2 0 0 := r2
    have e := e.trans r1
    -- how the line fails, on both sides
    have fails : Kp (fun j => ¬ (2 ≤ j ∧ j < 19) ∧ ¬ j = 1) σ2 q.1 → ¬ q.2 = 0 → ∃ σ3 τ3 φ, σ3 = f_X6_copyFrom q.1 2 19 ∧ σ3.1 1 = q.1.1 1 ∧ Jt σ2 q τ3 (sA (σ.1 192) n 61 0).2.2.length ∧ (¬ τ3.1 196 24 = 0 → f_X10_run σ3 = (if φ.1 196 24 = 9 then f_X10_refuses φ 9 2 else f_X10_fails φ 1) ∧ ok_X10_run σ3) ∧ (∀ k, ¬ k = 18 → φ.1 196 k = τ3.1 196 k) ∧ (σ3.1 1 = σ.1 1 → φ.1 196 1 = σ.1 196 1 ∧ φ.1 196 2 = σ.1 196 2) ∧
        ∀ ω : St, (∀ j, ¬ j = 196 → ω.1 j = φ.1 j) → ω.2 = φ.2 → (∀ k, ¬ k = 0 → ¬ k = 1 → ¬ k = 2 → ω.1 196 k = φ.1 196 k) → (ω.1 1 = σ3.1 1 → SW ω) → Sim ω := by
      intro kq hq0
      obtain ⟨σ3, hσ3⟩ : ∃ z, z = f_X6_copyFrom q.1 2 19 := ⟨_, rfl⟩
      have kc3 : Kp (fun i => ¬ (2 ≤ i ∧ i < 19)) q.1 σ3 := by rw [hσ3]; exact copy_kp q.1 2 19
      have hO3 : Off σ3 2 (σ.1 197) (σ.2.1 201) := by rw [hσ3]; exact (hD2.kp kq (fun j hj => by omega)).copy hI.n20 (by omega)
      have k30 : Kp (fun j => ¬ (1 ≤ j ∧ j < 36) ∧ ¬ j = 191 ∧ ¬ j = 193 ∧ ¬ j = 194) σ σ3 := ((k2.wk (fun j hj => by omega)).tr (kq.wk (fun j hj => by omega))).tr (kc3.wk (fun j hj => by omega))
      obtain ⟨τ3, τ4, h4, ⟨-, g2⟩, j, x1, x2, x3, x4, x5, x6⟩ := runs σ3 (by rw [(k30.1 196 (by decide)).1]; exact n3) (fun k hk => by rw [(k30.1 206 (by decide)).1]; exact (n4 k hk).symm) ⟨(k30.1 197 (by decide)).1, (k30.1 201 (by decide)).2⟩
      obtain ⟨m1, m2, m3, m4⟩ := md_forgets τ4
      obtain ⟨φ, hφ⟩ : ∃ z, z = f_X10_forgets τ4 := ⟨_, rfl⟩
      rw [← hφ] at m2 m3 m4 g2
      have z1 : ∀ k, ¬ k = 18 → φ.1 196 k = τ3.1 196 k := fun k hk => by rw [congrFun (m4.1 196 (by decide)).1 k, h4, q1e rfl, un hk]
      have z18 : φ.1 196 18 = 0 := by rw [congrFun (m4.1 196 (by decide)).1 18, h4, q1e rfl, ue rfl]
      have zz : ∀ j, ¬ j = 196 → ¬ j = 197 → ¬ j = 201 → φ.1 j = τ3.1 j ∧ φ.2.1 j = τ3.2.1 j := fun j a b c => by
        have h := m4.1 j ⟨b, c⟩
        exact ⟨by rw [h.1, h4, q1n a], by rw [h.2, h4]; rfl⟩
      refine ⟨σ3, τ3, φ, hσ3, (kc3.1 1 (by decide)).1, j, fun h => ?_, z1, fun h1 => ?_, fun ω o1 o2 o3 o4 => ?_⟩
      · have h24 : τ4.1 196 24 = τ3.1 196 24 := by rw [h4, q1e rfl, un (by decide)]
        exact g2 (by rw [h24]; exact h) m1
      · rw [z1 1 (by decide), z1 2 (by decide), x6 1 (by decide), x6 2 (by decide), (k30.1 196 (by decide)).1]
        exact ⟨rfl, rfl⟩
      · have kω : KR (fun j => ¬ j = 196 ∧ ¬ j = 197 ∧ ¬ j = 200 ∧ ¬ j = 201 ∧ ¬ j = 204 ∧ ¬ j = 207) σ3 ω := fun j hj => by
          have h1 := zz j hj.1 hj.2.1 hj.2.2.2.1
          have h2 := x3.1 j hj
          exact ⟨(o1 j hj.1).trans (h1.1.trans h2.1), (congrFun (congrArg Prod.fst o2) j).trans (h1.2.trans h2.2)⟩
        have kk : KR (fun j => ¬ (1 ≤ j ∧ j < 36) ∧ ¬ j = 191 ∧ ¬ j = 193 ∧ ¬ j = 194 ∧ ¬ j = 196 ∧ ¬ j = 197 ∧ ¬ j = 200 ∧ ¬ j = 201 ∧ ¬ j = 204 ∧ ¬ j = 207) σ ω := (k30.kr.wk (fun j hj => ⟨hj.1, hj.2.1, hj.2.2.1, hj.2.2.2.1⟩)).tr (kω.wk (fun j hj => hj.2.2.2.2))
        have fω : ∀ k, (¬ k = 0 ∧ ¬ k = 1 ∧ ¬ k = 2 ∧ ¬ k = 3 ∧ ¬ k = 4 ∧ ¬ k = 18 ∧ ¬ k = 19 ∧ ¬ k = 20 ∧ ¬ k = 22 ∧ ¬ k = 23 ∧ ¬ k = 24) → ω.1 196 k = σ.1 196 k := fun k hk => by
          rw [o3 k (by omega) (by omega) (by omega), z1 k (by omega), x6 k (by omega), (k30.1 196 (by decide)).1]
        have h191 : ω.1 191 = σ2.1 191 := by rw [(kω 191 (by decide)).1, (kc3.1 191 (by decide)).1, (kq.1 191 (by decide)).1]
        refine fail_sim hSS hR hU hI hO3 kk (kω.wk (fun j hj => by omega)) (fun k hk => ?_) (fun k hk => ?_) (fω 13 (by decide)) (fω 14 (by decide)) (fω 15 (by decide)) (by rw [h191]; exact v3) ?_ ?_ (o4 (kω 1 (by decide)).1)
        · rw [o1 197 (by decide), m2 k hk, h4, q1n (by decide)]; exact x1 k hk
        · rw [congrFun (congrArg Prod.fst o2) 201, m3 k hk, h4]; exact x2 k hk
        · rw [o3 18 (by decide) (by decide) (by decide)]; exact z18
        · unfold SE
          rw [h191, v5, o3 20 (by decide) (by decide) (by decide), z1 20 (by decide), x5]
    rcases jA with ⟨q0, -, -, -, -, k3⟩ | ⟨q0, -, -, k3⟩ | ⟨q0, q1, q2, -, k, v, σ', q3, -, -, k3⟩
    · -- all is carried out
      have kq : Kp (fun j => ¬ (2 ≤ j ∧ j < 36) ∧ ¬ j = 191 ∧ ¬ j = 193 ∧ ¬ j = 194) σ q.1 := (k2.wk (fun j hj => by omega)).tr (k3.wk (fun j hj => by omega))
      obtain ⟨t1, t2, t3⟩ := cl_remember (o := 19) (by decide) (hR.kp kq (fun j x y => by omega)) (hD2.kp k3 (fun j hj => by omega)) hI
      obtain ⟨σ4, hσ4⟩ : ∃ z, z = f_X4_remember q.1 19 := ⟨_, rfl⟩
      rw [← hσ4] at t2 t3
      have e191 : σ4.1 191 = σ2.1 191 := by rw [(t3.1 191 (by decide)).1, (k3.1 191 (by decide)).1]
      have e5 : rFin q = (0, σ4, nI (sA (σ.1 192) n 61 0).2.2.length) := by
        unfold rFin
        rw [if_pos q0, ← hσ4, e191, v4]
      have k4 : Kp (fun j => ¬ (2 ≤ j ∧ j < 36) ∧ ¬ (53 ≤ j ∧ j < 190) ∧ ¬ j = 191 ∧ ¬ j = 193 ∧ ¬ j = 194) σ σ4 := (kq.wk (fun j hj => by omega)).tr (t3.wk (fun j hj => by omega))
      have eL := e.trans e5
      refine simI_ok (σ1 := σ4) (v := nI (sA (σ.1 192) n 61 0).2.2.length) (by unfold f_L_run; rw [bnd_eq, eL]; rfl) ⟨ok (r2 (fun _ => t1)), by rw [eL]; exact Or.inl rfl⟩ ?_
      obtain ⟨τ, hτ⟩ : ∃ z, z = setJ σ4 208 0 (nI (sA (σ.1 192) n 61 0).2.2.length).toInt64 := ⟨_, rfl⟩
      rw [← hτ]
      have kτ : ∀ j, τ.1 j = σ4.1 j ∧ τ.2.1 j = σ4.2.1 j := fun j => by rw [hτ]; exact ⟨rfl, rfl⟩
      obtain ⟨τ3, τ4, h4, ⟨g1, -⟩, j, x1, x2, x3, x4, x5, x6⟩ := runs τ (by rw [(kτ 196).1, (k4.1 196 (by decide)).1]; exact n3) (fun k hk => by rw [(kτ 206).1, (k4.1 206 (by decide)).1]; exact (n4 k hk).symm) ⟨(kτ 197).1.trans (k4.1 197 (by decide)).1, (kτ 201).2.trans (k4.1 201 (by decide)).2⟩
      have j2 : τ3.1 196 24 = 0 ∧ τ3.1 196 23 = nI (sA (σ.1 192) n 61 0).2.2.length ∧ Off q.1 2 (τ3.1 197) (τ3.2.1 201) ∧ Inv (τ3.1 197) (τ3.2.1 201) := by
        rcases j with ⟨-, y1, y2, y3, y4, -⟩ | ⟨z | z, -⟩ | ⟨z, -⟩
        · exact ⟨y1, y2, y3, y4⟩
        · rw [q0] at z; exact absurd z (show ¬ (0 : Int32) = -1 by decide)
        · rw [q0] at z; exact absurd z (show ¬ (0 : Int32) = -2 by decide)
        · exact absurd q0 z
      obtain ⟨y1, y2, y3, y4⟩ := j2
      have z1 : ∀ k, ¬ k = 18 → τ4.1 196 k = τ3.1 196 k := fun k hk => by rw [h4, q1e rfl, un hk]
      have z2 : ∀ j, ¬ j = 196 → τ4.1 j = τ3.1 j := fun j hj => by rw [h4, q1n hj]
      have z3 : τ4.2 = τ3.2 := by rw [h4]; rfl
      have f3 : ∀ k, (¬ k = 0 ∧ ¬ k = 3 ∧ ¬ k = 4 ∧ ¬ k = 18 ∧ ¬ k = 19 ∧ ¬ k = 20 ∧ ¬ k = 22 ∧ ¬ k = 23 ∧ ¬ k = 24) → τ4.1 196 k = σ.1 196 k := fun k hk => by
        rw [z1 k (by omega), x6 k (by omega), (kτ 196).1, (k4.1 196 (by decide)).1]
      have hU4 : Und τ4 l := hU.kp (f3 13 (by decide)) (f3 14 (by decide)) (by rw [z2 198 (by decide), (x3.1 198 (by decide)).1, (kτ 198).1, (k4.1 198 (by decide)).1]) (by rw [z3, (x3.1 202 (by decide)).2, (kτ 202).2, (k4.1 202 (by decide)).2])
      obtain ⟨m1, m2, m3, m4, -⟩ := md_keeps (D := (σ.1 197, σ.2.1 201)) hU4 (fun k hk => by rw [z2 200 (by decide)]; exact x1 k hk) (fun k hk => by rw [z3]; exact x2 k hk)
      obtain ⟨b1, b2⟩ := g1 (by rw [z1 24 (by decide)]; exact y1) m1
      obtain ⟨ω, hω⟩ : ∃ z, z = f_X10_keepsMind τ4 := ⟨_, rfl⟩
      rw [← hω] at m2 m3 m4 b1
      have kM : KR (fun j => ¬ j = 196 ∧ ¬ j = 197 ∧ ¬ j = 198 ∧ ¬ j = 200 ∧ ¬ j = 201 ∧ ¬ j = 202 ∧ ¬ j = 204 ∧ ¬ j = 207) σ4 ω := fun j hj => by
        have h1 := m3.1 j ⟨hj.1, hj.2.2.1, hj.2.2.2.2.2.1⟩
        have h2 := x3.1 j ⟨hj.1, hj.2.1, hj.2.2.2.1, hj.2.2.2.2.1, hj.2.2.2.2.2.2.1, hj.2.2.2.2.2.2.2⟩
        exact ⟨h1.1.trans ((z2 j hj.1).trans (h2.1.trans (kτ j).1)), h1.2.trans ((congrFun (congrArg Prod.fst z3) j).trans (h2.2.trans (kτ j).2))⟩
      have kk : KR (fun j => (¬ (2 ≤ j ∧ j < 36) ∧ ¬ (53 ≤ j ∧ j < 190) ∧ ¬ j = 191 ∧ ¬ j = 193 ∧ ¬ j = 194) ∧ ¬ j = 196 ∧ ¬ j = 197 ∧ ¬ j = 198 ∧ ¬ j = 200 ∧ ¬ j = 201 ∧ ¬ j = 202 ∧ ¬ j = 204 ∧ ¬ j = 207) σ ω := (k4.kr.wk (fun j hj => hj.1)).tr (kM.wk (fun j hj => hj.2))
      have w197 : ω.1 197 = τ3.1 197 := (m3.1 197 (by decide)).1.trans (z2 197 (by decide))
      have w201 : ω.2.1 201 = τ3.2.1 201 := (m3.1 201 (by decide)).2.trans (congrFun (congrArg Prod.fst z3) 201)
      have fω : ∀ k, ¬ k = 13 → ¬ k = 14 → ω.1 196 k = τ4.1 196 k := m4
      refine ⟨b2, ω, ?_, ?_, ?_, ?_⟩
      · show f_X10_run τ = (ω, nI (sA (σ.1 192) n 61 0).2.2.length)
        rw [b1, fω 23 (by decide) (by decide), z1 23 (by decide), y2]
      · rw [fω 0 (by decide) (by decide), z1 0 (by decide)]; exact x4
      · rw [m3.2, z3]; exact x3.2
      refine Sim.line hSS (kk.wk (fun j hj => by omega)) ((fω 15 (by decide) (by decide)).trans (f3 15 (by decide))) ⟨?_, ?_⟩ ?_ ⟨_, t2.kr kM (fun j x y => by omega), m2⟩ ?_ ?_ ?_
      · rw [w197, w201]
        exact (y3.kp t3 (fun j hj => by omega)).kr kM (fun j hj => by omega)
      · rw [w197, w201]; exact y4
      · unfold SW
        rw [(kk 1 (by decide)).1, fω 1 (by decide) (by decide), fω 2 (by decide) (by decide), f3 1 (by decide), f3 2 (by decide)]
        exact hW
      · rw [(kM 191 (by decide)).1, e191]; exact v3
      · rw [fω 18 (by decide) (by decide), h4, q1e rfl, ue rfl]
      · unfold SE
        rw [(kM 191 (by decide)).1, e191, v5, fω 20 (by decide) (by decide), z1 20 (by decide), x5]
    · -- an order that is not to be had
      have nq : ¬ q.2 = 0 := by
        rcases q0 with z | z
        · rw [z]; decide
        · rw [z]; decide
      obtain ⟨σ3, τ3, φ, f1, f2, f3, f4, f5, f6, f7⟩ := fails (k3.wk (fun j hj => by omega)) nq
      have e5 : rFin q = (1, σ3, 0) := by
        unfold rFin
        rw [if_neg nq, ← f1]
        rcases q0 with z | z
        · rw [if_pos z]
        · rw [if_pos z]
          exact ite_self _
      have eL := e.trans e5
      have h1 : σ3.1 1 = σ.1 1 := by rw [f2, (k3.1 1 (by decide)).1, (k2.1 1 (by decide)).1]
      have j2 : ¬ τ3.1 196 24 = 0 ∧ ¬ τ3.1 196 24 = 9 := by
        rcases f3 with ⟨z, -⟩ | ⟨-, y1, y2, -⟩ | ⟨-, z1, z2, -⟩
        · exact absurd z nq
        · exact ⟨y1, y2⟩
        · rcases q0 with z | z
          · exact absurd z z1
          · exact absurd z z2
      obtain ⟨b1, b2⟩ := f4 j2.1
      rw [f5 24 (by decide), if_neg j2.2] at b1
      refine simI_no (σ1 := σ3) (k := 1) (by unfold f_L_run; rw [bnd_eq, eL]; rfl) (by decide) ⟨ok (r2 (fun z => absurd z nq)), by rw [eL]; exact Or.inr (Or.inl rfl)⟩ ⟨b2, setI φ 196 0 1, 0, b1, thr0, ?_⟩
      refine f7 _ (fun j hj => q1n hj) rfl (fun k a _ _ => by rw [q1e rfl, un a]) (fun h => ?_)
      unfold SW
      rw [h, h1, q1e rfl, un (by decide), un (by decide), (f6 h1).1, (f6 h1).2]
      exact hW
    · -- an order that is refused
      have kq : Kp (fun j => ¬ (2 ≤ j ∧ j < 19) ∧ ¬ j = 1) σ2 q.1 := by
        rw [q3]
        exact kp_setI (kp_setI (k3.wk (fun j hj => by omega)) (fun z => z.2 rfl)) (fun z => z.2 rfl)
      obtain ⟨σ3, τ3, φ, f1, f2, f3, f4, f5, f6, f7⟩ := fails kq q0
      have e5 : rFin q = (3, σ3, 0) := by
        unfold rFin
        rw [if_neg q0, if_neg q1, if_neg q2, ← f1]
      have eL := e.trans e5
      have j2 : τ3.1 196 24 = 9 ∧ q.1.1 1 1 = τ3.1 196 3 ∧ q.1.1 1 2 = τ3.1 196 4 := by
        rcases f3 with ⟨z, -⟩ | ⟨z | z, -⟩ | ⟨-, -, -, y1, k', v', s', y2, y3, y4, -⟩
        · exact absurd z q0
        · exact absurd z q1
        · exact absurd z q2
        · refine ⟨y1, ?_, ?_⟩
          · rw [y2, q1e rfl, un (by decide), q1e rfl, ue rfl, y3]
          · rw [y2, q1e rfl, ue rfl, y4]
      obtain ⟨y1, y2, y3⟩ := j2
      obtain ⟨b1, b2⟩ := f4 (by rw [y1]; decide)
      rw [f5 24 (by decide), if_pos y1] at b1
      have g3 : (setI φ 196 1 (φ.1 196 3)).1 196 4 = φ.1 196 4 := by rw [q1e rfl, un (by decide)]
      have eR : f_X10_refuses φ 9 2 = (setI (setI (setI φ 196 1 (φ.1 196 3)) 196 2 (φ.1 196 4)) 196 0 2, 0) := by
        unfold f_X10_refuses
        rw [if_pos rfl]
        simp only [bnd_eq]
        rw [g3]
        rfl
      rw [eR] at b1
      refine simI_no (σ1 := σ3) (k := 2) (by unfold f_L_run; rw [bnd_eq, eL]; rfl) (by decide) ⟨ok (r2 (fun z => absurd z q0)), by rw [eL]; exact Or.inr (Or.inr rfl)⟩ ⟨b2, _, 0, b1, thr0, ?_⟩
      refine f7 _ (fun j hj => by rw [q1n hj, q1n hj, q1n hj]) rfl (fun k a b c => by rw [q1e rfl, un a, q1e rfl, un c, q1e rfl, un b]) (fun h => ?_)
      unfold SW
      rw [h, f2, y2, y3]
      constructor
      · rw [q1e rfl, un (by decide), q1e rfl, un (by decide), q1e rfl, ue rfl, f5 3 (by decide)]
      · rw [q1e rfl, un (by decide), q1e rfl, ue rfl, f5 4 (by decide)]
end RUN
