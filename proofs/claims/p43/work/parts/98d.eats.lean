/-! what is told ahead comes -/
section COMES
variable {σ : St} {w : Nat → Int32} {f : Nat → UInt32} {l : List Dat}
theorem nJ_add {a b : Nat} (h : a + b < 2 ^ 31) : (nI a).toInt64 + (nI b).toInt64 = (nI (a + b)).toInt64 := by
  refine Int64.toInt_inj.mp ?_
  rw [Int64.toInt_add, nJ_toInt (by omega), nJ_toInt (by omega), nJ_toInt h]
  simp only [Int.bmod]
  omega
theorem nJ_1 {a : Nat} (h : a + 1 < 2 ^ 31) : (nI a).toInt64 + 1 = (nI (a + 1)).toInt64 := nJ_add h
theorem nJ_0le {a : Nat} (h : a < 2 ^ 31) : (0 : Int64) ≤ (nI a).toInt64 := (nJ_le (a := 0) (by decide) h).mpr (Nat.zero_le _)
theorem wr_loop {w0 : Nat → Int32} {f0 : Nat → UInt32} {k n N : Nat} {x : UInt32} (n1 : 1 ≤ n) (hn : n < 41) (a2 : (itS (cw n) N x).toNat < (cw n).toNat) (a3 : ∀ i, i < N → (cw n).toNat ≤ (itS (cw n) i x).toNat) (h6 : N ≤ 6) (h20 : cnt w0 + N < 20) :
    ∀ (m fu j : Nat) (σ : St) (w : Nat → Int32) (f : Nat → UInt32) (l : List Dat), m < fu → j + m = N → Zs σ w f l → Sn σ w0 f0 → cnt w = cnt w0 + j → k < (w 1).toNatClampNeg → f k = itS (cw n) j x →
      okL_writes_L64 fu σ (nI k) (nI n) (nI N).toInt64 (mkV w0 f0) (nI j).toInt64 ∧ ∃ σ', fL_writes_L64 fu σ (nI k) (nI n) (nI N).toInt64 (mkV w0 f0) (nI j).toInt64 = (σ', true) ∧ Zs σ' w0 f0 [] := by
  intro m
  induction m with
  | zero =>
    intro fu j σ w f l hf hj hZ hS hc hk hx
    obtain ⟨fu, rfl⟩ : ∃ z, fu = z + 1 := ⟨fu - 1, by omega⟩
    have : j = N := by omega
    subst this
    obtain ⟨b1, b2⟩ := l_letter hZ hk n1 hn (by omega)
    rw [hx] at b2
    rcases b2 with ⟨-, σ1, b3, b4, b5⟩ | ⟨b3, -⟩
    · obtain ⟨c1, σ2, c2, c3, -⟩ := l_restore b4 (hS.kr b5)
      obtain ⟨d1, d2⟩ := l_mark c3.1 c3.2.1
      have h : 0 ≤ lg_cmp (nI j).toInt64 (nI j).toInt64 := lg_ge.mpr (Int64.le_refl _)
      have h1 : lg_cmp (-4000000000000000003 : Int64) (-4000000000000000003 : Int64) = 0 := lg_eq.mpr rfl
      have h2 : lg_cmp (mkV w0 f0) (mkV w0 f0) = 0 := lg_eq.mpr rfl
      refine ⟨?_, σ2, ?_, c3⟩
      · rw [okL_writes_L64]
        refine ⟨fun _ => ⟨b1, ?_⟩, fun z => absurd h z⟩
        rw [bndP_eq, b3]
        refine ⟨fun _ => ⟨c1, ?_⟩, fun z => absurd h1 z⟩
        rw [bndP_eq]
        dsimp only
        rw [c2]
        exact d1
      · rw [fL_writes_L64, if_pos h, bnd_eq, b3]
        dsimp only
        rw [if_pos h1, bnd_eq, c2]
        dsimp only
        rw [bnd_eq, d2]
        dsimp only
        rw [if_pos h2]
    · omega
  | succ m ih =>
    intro fu j σ w f l hf hj hZ hS hc hk hx
    obtain ⟨fu, rfl⟩ : ∃ z, fu = z + 1 := ⟨fu - 1, by omega⟩
    obtain ⟨b1, b2⟩ := l_letter hZ hk n1 hn (by omega)
    rw [hx] at b2
    have hle := a3 j (by omega)
    rcases b2 with ⟨b3, -⟩ | ⟨-, σ1, l1, b3, b4, b5⟩
    · omega
    · have hI := hZ.2.1
      have h20' := hI.n20
      have k8 := cray8 hI
      have h : ¬ 0 ≤ lg_cmp (nI j).toInt64 (nI N).toInt64 := fun z => by
        have := (nJ_le (by omega) (by omega)).mp (lg_ge.mp z)
        omega
      have h1 : 0 ≤ lg_cmp (nI (cnt w)).toInt64 0 := lg_ge.mpr (nJ_0le (by omega))
      have ew : cnt (dMk w 0 0 1 (nI n)) = cnt w + 1 := cnt_dMk hI.1.1 h20'
      have e1 : dMk w 0 0 1 (nI n) 1 = w 1 := by rw [lo_dMk (by decide), if_neg (by decide)]
      have ef : dWf w f k n k = itS (cw n) (j + 1) x := by
        unfold dWf
        rw [vn (by omega), ve rfl, hx, its_s]
      obtain ⟨g1, σ2, g2, g3⟩ := ih fu (j + 1) σ1 _ _ l1 (by omega) (by omega) b4 (hS.kr b5) (by omega) (by rw [e1]; exact hk) ef
      refine ⟨?_, σ2, ?_, g3⟩
      · rw [okL_writes_L64]
        refine ⟨fun z => absurd z h, fun _ => ⟨b1, ?_⟩⟩
        rw [bndP_eq, b3]
        refine ⟨fun _ => ?_, fun _ => trivial⟩
        rw [nJ_1 (by omega)]
        exact g1
      · rw [fL_writes_L64, if_neg h, bnd_eq, b3]
        dsimp only
        rw [if_pos h1, nJ_1 (by omega)]
        exact g2
theorem l_writes (hZ : Zs σ w f l) (x y : Int32) : ok_L_writes σ x y ∧ ∃ σ' l', f_L_writes σ x y = (σ', true) ∧ Zs σ' w f l' := by
  obtain ⟨hO, hI, hR, hin⟩ := id hZ
  have h20 := hI.n20
  obtain ⟨a1, a2, a3⟩ := l_told hO hI x y
  rcases a3 with ⟨r, hr, e1, e2⟩ | ⟨k, n, N, τ, rfl, rfl, hk, n1, hn, hN, t1, t2, e1, e2, kk⟩
  · have h0 : lg_cmp r r = 0 := lg_eq.mpr rfl
    have h1 : lg_cmp r 0 < 0 := by
      rcases hr with rfl | rfl | rfl <;> decide
    refine ⟨?_, σ, l, ?_, hZ⟩
    · unfold ok_L_writes
      simp only [bndP_eq, e1, e2]
      exact ⟨a1, a2, fun _ => ⟨fun _ => trivial, fun z => absurd h1 z⟩, fun _ => trivial⟩
    · unfold f_L_writes
      simp only [bnd_eq, e1, e2]
      rw [if_pos h0, if_pos h1]
  · have hZτ : Zs τ w f l := hZ.kp kk (fun j x y => by omega) (fun j x y => by omega) (by decide)
    obtain ⟨V, hV⟩ : ∃ V, V = (nI N).toInt64 := ⟨_, rfl⟩
    rw [← hV] at e1 e2
    have h0 : lg_cmp V V = 0 := lg_eq.mpr rfl
    have h1 : ¬ lg_cmp V 0 < 0 := fun z => by
      have := lg_lt.mp z
      rw [hV] at this
      have := (nJ_lt (a := N) (b := 0) (by omega) (by decide)).mp this
      omega
    by_cases q6 : N ≤ 6
    · have h2 : ¬ 0 < lg_cmp V 6 := fun z => by
        have := lg_gt.mp z
        rw [hV] at this
        have := (nJ_lt (a := 6) (b := N) (by decide) (by omega)).mp this
        omega
      have ac : ok_L_account τ 2 ∧ f_L_account τ 2 = (τ, (nI (cnt w)).toInt64) := by
        have h := l_account hZτ.1 hI (k := 2) (by decide)
        rw [show accV w 2 = nI (cnt w) from hI.1.1] at h
        exact h
      by_cases q20 : N + cnt w < 20
      · have h3 : lg_cmp (V + (nI (cnt w)).toInt64) 20 < 0 := by
          rw [hV, nJ_add (by omega)]
          exact lg_lt.mpr ((nJ_lt (b := 20) (by omega) (by decide)).mpr q20)
        obtain ⟨σ1, s1, s2, s3⟩ := l_save hZτ
        obtain ⟨m1, m2⟩ := l_mark s2.1 s2.2.1
        obtain ⟨g1, σ2, g2, g3⟩ := wr_loop n1 hn t1 t2 q6 (by omega) N 7 0 σ1 w f l (by omega) (Nat.zero_add _) s2 s3 rfl hk rfl
        rw [← hV] at g1 g2
        refine ⟨?_, σ2, [], ?_, g3⟩
        · unfold ok_L_writes
          simp only [bndP_eq, e1, e2, ac.2, s1, m2]
          exact ⟨a1, a2, fun _ => ⟨fun _ => trivial, fun _ => ⟨fun _ => trivial, fun _ => ⟨ac.1, fun _ => ⟨m1, g1⟩, fun _ => trivial⟩⟩⟩, fun _ => trivial⟩
        · unfold f_L_writes
          simp only [bnd_eq, e1, e2, ac.2, s1, m2]
          rw [if_pos h0, if_neg h1, if_neg h2, if_pos h3]
          exact g2
      · have h3 : ¬ lg_cmp (V + (nI (cnt w)).toInt64) 20 < 0 := fun z => by
          rw [hV, nJ_add (by omega)] at z
          have := (nJ_lt (b := 20) (by omega) (by decide)).mp (lg_lt.mp z)
          omega
        refine ⟨?_, τ, l, ?_, hZτ⟩
        · unfold ok_L_writes
          simp only [bndP_eq, e1, e2, ac.2]
          exact ⟨a1, a2, fun _ => ⟨fun _ => trivial, fun _ => ⟨fun _ => trivial, fun _ => ⟨ac.1, fun z => absurd z h3, fun _ => trivial⟩⟩⟩, fun _ => trivial⟩
        · unfold f_L_writes
          simp only [bnd_eq, e1, e2, ac.2]
          rw [if_pos h0, if_neg h1, if_neg h2, if_neg h3]
    · have h2 : 0 < lg_cmp V 6 := by
        rw [hV]
        exact lg_gt.mpr ((nJ_lt (a := 6) (b := N) (by decide) (by omega)).mpr (by omega))
      refine ⟨?_, τ, l, ?_, hZτ⟩
      · unfold ok_L_writes
        simp only [bndP_eq, e1, e2]
        exact ⟨a1, a2, fun _ => ⟨fun _ => trivial, fun _ => ⟨fun _ => trivial, fun z => absurd h2 z⟩⟩, fun _ => trivial⟩
      · unfold f_L_writes
        simp only [bnd_eq, e1, e2]
        rw [if_pos h0, if_neg h1, if_pos h2]
/-! the dragon -/
theorem l_pass (hZ : Zs σ w f l) {k : Nat} (k1 : 1 ≤ k) (k2 : k ≤ 60) : ok_L_pass σ (nI k) ∧ ∃ σ', f_L_pass σ (nI k) = (σ', (nI (hr k w f).2.2).toInt64) ∧ Zs σ' (hr k w f).1 (hr k w f).2.1 ((w, f) :: l.take 7) ∧ KR SK σ σ' := by
  obtain ⟨hO, hI, hR, hin⟩ := id hZ
  refine ⟨(act_pass hZ (nI k)).1, ?_⟩
  have em : f_X1_mayPass (nI k) = 0 := by
    have c : f_X9_inRange (nI k) 1 60 = true := nI_ir (a := 1) (b := 60) k1 k2 (by decide)
    unfold f_X1_mayPass
    rw [c]
    rfl
  have e9 : f_X9_pass σ (nI k) = G9 ((σ, f_X1_mayPass (nI k))) (fun q => f_X6_passHours q 2 (nI k)) := by
    unfold f_X9_pass G9
    simp only [bnd_eq]
  rw [em] at e9
  obtain ⟨r1, r2, r3⟩ := cl_remember (by decide) hR hO hI
  have hO1 : Off (f_X4_remember σ 2) 2 w f := hO.kp r3 (fun j hj => by omega)
  obtain ⟨a1, σ1, a2, a3, a4⟩ := cl_hours2 (N := k) k2 k 2000 0 0 (f_X4_remember σ 2) w f (by omega) (Nat.zero_add _) hO1 hI
  rw [Nat.zero_add] at a2
  have a2' : f_X6_passHours (f_X4_remember σ 2) 2 (nI k) = (σ1, nI (hr k w f).2.2) := a2
  refine ⟨σ1, ?_, ⟨a3, hr_I _ _ _ hI, r2.kp a4 (fun j x y => by omega), ?_⟩, (r3.kr.wk (fun j hj => by omega)).tr (a4.kr.wk (fun j hj => by omega))⟩
  · unfold f_L_pass
    rw [bnd_eq, e9, g9_0 rfl]
    dsimp only
    rw [a2']
    rfl
  · rw [(a4.1 191 (by omega)).1, (r3.1 191 (by omega)).1]; exact hin
def c4 (w : Nat → Int32) : Nat := cn (fun i => decide (it w i 4 = nI 4)) (cnt w)
theorem hE_no (h : (hgr f).toNat ≤ 1090519040) : hEat w f = false ∧ dHw w f = upd w 0 (w 0 + 1) ∧ dHf w f = vf_upd f 15 (hgr f) ∧ hgr (dHf w f) = FP.fadd (hgr f) 1069547520 ∧ c4 (dHw w f) = c4 w := by
  have hE : hEat w f = false := by
    unfold hEat
    simp only [decide_eq_false_iff_not]
    omega
  have e1 : dHw w f = upd w 0 (w 0 + 1) := by unfold dHw; rw [hE]; rfl
  have e2 : dHf w f = vf_upd f 15 (hgr f) := by unfold dHf; rw [hE]; rfl
  refine ⟨hE, e1, e2, ?_, ?_⟩
  · rw [e2]
    unfold hgr
    rw [ve rfl]
  · rw [e1]
    have hs : Sit w (upd w 0 (w 0 + 1)) := sit_lo (by decide) (by decide)
    unfold c4
    rw [hs.1]
    exact cn_congr _ (fun i _ => by rw [hs.2.2])
theorem hr_none : ∀ (m : Nat) (w : Nat → Int32) (f : Nat → UInt32), (∀ i, i < m → (itH i (hgr f)).toNat ≤ 1090519040) → (hr m w f).2.2 = 0 := by
  intro m
  induction m with
  | zero => intro w f _; rfl
  | succ m ih =>
    intro w f h
    obtain ⟨h1, -, -, h4, -⟩ := hE_no (w := w) (h 0 (by omega))
    have := ih (dHw w f) (dHf w f) (fun i hi => by rw [h4]; exact h (i + 1) (by omega))
    show (if hEat w f = true then 1 else 0) + (hr m (dHw w f) (dHf w f)).2.2 = 0
    rw [this, h1]
    rfl
theorem hr_eat : ∀ (N : Nat) (w : Nat → Int32) (f : Nat → UInt32), Inv w f → ¬ wst w f = -1 → (∀ i, i < N → (itH i (hgr f)).toNat ≤ 1090519040) → 1090519040 < (itH N (hgr f)).toNat → (hr (N + 1) w f).2.2 = 1 ∧ c4 (hr (N + 1) w f).1 = c4 w + 1 := by
  intro N
  induction N with
  | zero =>
    intro w f hI hw _ h
    have hE : hEat w f = true := by
      unfold hEat
      exact decide_eq_true ⟨h, hw⟩
    obtain ⟨i, c, b, e1, e2, e3, e4, e5, e6⟩ := prey_at hI hw
    refine ⟨?_, ?_⟩
    · show (if hEat w f = true then 1 else 0) + 0 = 1
      rw [hE]; rfl
    · show c4 (dHw w f) = _
      unfold dHw
      rw [hE, if_pos rfl, e6]
      have hs : Sit w (upd w 0 (w 0 + 1)) := sit_lo (by decide) (by decide)
      unfold c4
      rw [cnt_leave, hs.1]
      refine cn_upd (a := i) ?_ ?_ (fun a ha => ?_) _ e2
      · rw [e5.1]; decide
      · rw [it_leave (by decide), if_pos ⟨rfl, rfl⟩]
        exact decide_eq_true rfl
      · rw [it_leave (by decide), if_neg (fun z => ha z.1), if_neg (fun z => ha z.1), hs.2.2]
  | succ N ih =>
    intro w f hI hw h1 h2
    obtain ⟨g1, g2, g3, g4, g5⟩ := hE_no (w := w) (h1 0 (by omega))
    have hs : Sit w (upd w 0 (w 0 + 1)) := sit_lo (by decide) (by decide)
    have hw' : ¬ wst (dHw w f) (dHf w f) = -1 := by
      rw [g2, g3, wst_same hs hI.n20 (fun i _ => vn (by omega))]
      exact hw
    obtain ⟨k1, k2⟩ := ih (dHw w f) (dHf w f) hI.hour hw' (fun i hi => by rw [g4]; exact h1 (i + 1) (by omega)) (by rw [g4]; exact h2)
    refine ⟨?_, ?_⟩
    · show (if hEat w f = true then 1 else 0) + (hr (N + 1) (dHw w f) (dHf w f)).2.2 = 1
      rw [k1, g1]; rfl
    · show c4 (hr (N + 1) (dHw w f) (dHf w f)).1 = _
      rw [k2, g5]
theorem l_eats (hZ : Zs σ w f l) : ok_L_eats σ ∧ ∃ σ' l', f_L_eats σ = (σ', true) ∧ Zs σ' w f l' := by
  obtain ⟨hO, hI, hR, hin⟩ := id hZ
  have hwo := cl_worst hO hI
  have e0 : σ.2.1 18 0 = f 15 := hO.2.2.2.1
  have ehg : f_X9_hungrier (f 15) = hgr f := rfl
  by_cases hw : wst w f = -1
  · have e1 : f_X9_eatsIn σ = (4, σ, 0) := by
      unfold f_X9_eatsIn
      rw [hwo.2.1, if_pos hw, bnd_eq, df0]
      rfl
    have e2 : f_X9_prey σ = (4, σ, 0) := by
      unfold f_X9_prey
      rw [hwo.2.1, if_pos hw, bnd_eq, df0]
      rfl
    have o1 : ok_L_eatsIn σ := by
      refine ⟨?_, Or.inr (by rw [e1])⟩
      unfold ok_X9_eatsIn
      rw [hwo.2.1, bndP_eq, df0]
      exact ⟨hwo.1, fun _ z => absurd z (show ¬ (4 : Nat) = 0 by decide), fun z => absurd hw z⟩
    have o2 : ok_L_prey σ := ⟨hwo.1, Or.inr (by rw [e2])⟩
    have f1 : f_L_eatsIn σ = (σ, -4000000000000000001) := by unfold f_L_eatsIn; rw [bnd_eq, e1]; rfl
    have f2 : f_L_prey σ = (σ, -4000000000000000001) := by unfold f_L_prey; rw [bnd_eq, e2]; rfl
    have h : lg_cmp (-4000000000000000001 : Int64) (-4000000000000000001 : Int64) = 0 := lg_eq.mpr rfl
    refine ⟨?_, σ, l, ?_, hZ⟩
    · unfold ok_L_eats
      rw [bndP_eq, f1]
      exact ⟨o1, fun _ => o2, fun z => absurd h z⟩
    · unfold f_L_eats
      rw [bnd_eq, f1]
      dsimp only
      rw [if_pos h, bnd_eq, f2]
      dsimp only
      rw [if_pos h]
  · obtain ⟨N, a1, a2, a3⟩ := ith_ex (a := f 15) hI.hung
    have a2 : 1090519040 < (itH N (hgr f)).toNat := a2
    have a3 : ∀ m, m < N → (itH m (hgr f)).toNat ≤ 1090519040 := a3
    have ch := cl_hours (σ := σ) a1 a2 a3 (hgr_b hI)
    have e1 : f_X9_eatsIn σ = (0, σ, nI (N + 1)) := by
      unfold f_X9_eatsIn
      rw [hwo.2.1, if_neg hw, bnd_eq, df1]
      dsimp only
      rw [if_pos rfl, e0, ehg]
      exact ch.2
    have o1 : ok_L_eatsIn σ := by
      refine ⟨?_, Or.inl (by rw [e1])⟩
      unfold ok_X9_eatsIn
      rw [hwo.2.1, bndP_eq, bndP_eq, df1]
      refine ⟨hwo.1, fun z => absurd z hw, fun _ _ => ?_⟩
      dsimp only
      rw [e0, ehg]
      exact ⟨fl_n (Nat.le_of_lt (hb_p (hgr_b hI))), ch.1⟩
    obtain ⟨V, hV⟩ : ∃ V, V = (nI (N + 1)).toInt64 := ⟨_, rfl⟩
    have f1 : f_L_eatsIn σ = (σ, V) := by unfold f_L_eatsIn; rw [bnd_eq, e1, hV]; rfl
    have hV32 : V.toInt32 = nI (N + 1) := by rw [hV]; exact Int32.toInt32_toInt64 _
    have h1 : ¬ lg_cmp V (-4000000000000000001) = 0 := fun z => by
      have := lg_eq.mp z
      rw [hV, ← Int64.toInt_inj, nJ_toInt (by omega)] at this
      have e : (-4000000000000000001 : Int64).toInt = -4000000000000000001 := by decide
      rw [e] at this
      omega
    have h2 : ¬ lg_cmp V 1 < 0 := fun z => by
      have := lg_lt.mp z
      rw [hV] at this
      have := (nJ_lt (a := N + 1) (b := 1) (by omega) (by decide)).mp this
      omega
    have h3 : lg_cmp V 60 ≤ 0 := by
      rw [hV]
      exact lg_le.mpr ((nJ_le (a := N + 1) (b := 60) (by omega) (by decide)).mpr (by omega))
    obtain ⟨m1, m2⟩ := l_mark hO hI
    have ac1 := l_account hO hI (k := 9) (by decide)
    have g4 : accV w 9 = nI (c4 w) := rfl
    rw [g4] at ac1
    obtain ⟨p1, σ1, p2, p3, -⟩ := l_pass hZ (k := N + 1) (by omega) (by omega)
    obtain ⟨r1, r2⟩ := hr_eat N w f hI hw a3 a2
    rw [r1] at p2
    have ac2 := l_account p3.1 p3.2.1 (k := 9) (by decide)
    have g5 : accV (hr (N + 1) w f).1 9 = nI (c4 w + 1) := by rw [← r2]; rfl
    rw [g5] at ac2
    obtain ⟨u1, σ2, u2, u3, -⟩ := l_undo p3
    have hc20 : c4 w ≤ 20 := Nat.le_trans (cn_le _ _) hI.n20
    have h4 : lg_cmp (nI 1).toInt64 1 = 0 := lg_eq.mpr rfl
    have h5 : lg_cmp (nI (c4 w + 1)).toInt64 ((nI (c4 w)).toInt64 + 1) = 0 := lg_eq.mpr (nJ_1 (by omega)).symm
    obtain ⟨n1, n2⟩ := l_mark u3.1 u3.2.1
    have h6 : lg_cmp (mkV w f) (mkV w f) = 0 := lg_eq.mpr rfl
    have ac1a : ok_L_account σ 9 := ac1.1
    have ac1b : f_L_account σ 9 = (σ, (nI (c4 w)).toInt64) := ac1.2
    have ac2a : ok_L_account σ1 9 := ac2.1
    have ac2b : f_L_account σ1 9 = (σ1, (nI (c4 w + 1)).toInt64) := ac2.2
    by_cases q : N = 0
    · have h7 : lg_cmp V 1 ≤ 0 := by
        rw [hV]
        exact lg_le.mpr ((nJ_le (a := N + 1) (b := 1) (by omega) (by decide)).mpr (by omega))
      refine ⟨?_, σ2, _, ?_, u3⟩
      · unfold ok_L_eats
        simp only [bndP_eq, f1, h1, h2, h3, h4, h5, h7, hV32, m2, ac1b, p2, ac2b, u2, o1, m1, ac1a, p1, ac2a, u1, n1, not_false_eq_true, not_true_eq_false, false_imp_iff, true_imp_iff, and_true, true_and]
      · unfold f_L_eats
        simp only [bnd_eq, f1, h1, h2, h3, h4, h5, h6, h7, hV32, m2, ac1b, p2, ac2b, u2, n2, if_true, if_false]
    · have h7 : ¬ lg_cmp V 1 ≤ 0 := fun z => by
        have := lg_le.mp z
        rw [hV] at this
        have := (nJ_le (a := N + 1) (b := 1) (by omega) (by decide)).mp this
        omega
      have hV1 : nI (N + 1) - 1 = nI N := nI_pred N
      obtain ⟨v1, σ3, v2, v3, -⟩ := l_pass u3 (k := N) (by omega) (by omega)
      dsimp only at v2 v3
      rw [hr_none N w f a3] at v2
      obtain ⟨x1, σ4, x2, x3, -⟩ := l_undo v3
      obtain ⟨y1, y2⟩ := l_mark x3.1 x3.2.1
      have h8 : lg_cmp (nI 0).toInt64 0 = 0 := lg_eq.mpr rfl
      refine ⟨?_, σ4, _, ?_, x3⟩
      · unfold ok_L_eats
        simp only [bndP_eq, f1, h1, h2, h3, h4, h5, h7, h8, hV32, hV1, m2, ac1b, p2, ac2b, u2, v2, x2, o1, m1, ac1a, p1, ac2a, u1, v1, x1, y1, not_false_eq_true, not_true_eq_false, false_imp_iff, true_imp_iff, and_true, true_and]
      · unfold f_L_eats
        simp only [bnd_eq, f1, h1, h2, h3, h4, h5, h6, h7, h8, hV32, hV1, m2, ac1b, p2, ac2b, u2, v2, x2, y2, if_true, if_false]
end COMES
