/-! a call that changes something, in general -/
section GEN
def MR (τ : St) (w : Nat → Int32) (f : Nat → UInt32) : Prop := τ.1 197 = w ∧ τ.2.1 201 = f
def Vd (σ : St) (w : Nat → Int32) (f : Nat → UInt32) (cl : St × Int32) (okC : Prop) (md : St → St × Int32) (okN : St → Prop) (eI eR : Int32) (P : Prop) : Prop :=
  okC ∧ (∀ τ, MR τ w f → okN τ) ∧ ((cl = (σ, 0) ∧ P ∧ ∀ τ, MR τ w f → md τ = (τ, 0)) ∨ (cl = (σ, -1) ∧ ¬ eI = 0 ∧ ¬ eI = 9 ∧ ∀ τ, MR τ w f → md τ = (τ, eI)) ∨ (cl = (σ, -2) ∧ ¬ eR = 0 ∧ ¬ eR = 9 ∧ ∀ τ, MR τ w f → md τ = (τ, eR)) ∨ ∃ k v, ¬ k = 0 ∧ ¬ k = -1 ∧ ¬ k = -2 ∧ cl = (setI (setI σ 1 1 k) 1 2 v, k) ∧ ∀ τ, MR τ w f → md τ = (setI (setI τ 196 3 k) 196 4 v, 9))
abbrev OKM : Nat → Prop := fun j => ¬ j = 197 ∧ ¬ j = 201
def Dz (w : Nat → Int32) (f : Nat → UInt32) (cl : St → St × Int32) (okC : St → Prop) (md : St → St × Int32) (okD : St → Prop) : Prop :=
  ∀ σ τ, Off σ 2 w f → MR τ w f → okC σ ∧ okD τ ∧ ∃ σ' τ' v, cl σ = (σ', v) ∧ md τ = (τ', v) ∧ Off σ' 2 (τ'.1 197) (τ'.2.1 201) ∧ Inv (τ'.1 197) (τ'.2.1 201) ∧ Kp (OK1 2) σ σ' ∧ Kp OKM τ τ'
theorem f_refuses (σ : St) (k v x : Int32) : f_X10_refuses (setI (setI σ 196 3 k) 196 4 v) 9 x = (setI (setI (setI (setI (setI σ 196 3 k) 196 4 v) 196 1 k) 196 2 v) 196 0 x, 0) := by
  unfold f_X10_refuses
  rw [if_pos rfl]
  have a1 : (setI (setI σ 196 3 k) 196 4 v).1 196 3 = k := by rw [q1e rfl, un (by decide), q1e rfl, ue rfl]
  have a2 : (setI (setI (setI σ 196 3 k) 196 4 v) 196 1 k).1 196 4 = v := by rw [q1e rfl, un (by decide), q1e rfl, ue rfl]
  rw [a1]
  simp only [bnd]
  rw [a2]
  rfl
theorem f_refuses_e (σ : St) {e x : Int32} (h : ¬ e = 9) : f_X10_refuses σ e x = (setI σ 196 0 e, 0) := by
  unfold f_X10_refuses
  rw [if_neg h]
  rfl
theorem Sim.no {σ : St} (hS : Sim σ) (k v x : Int32) : Sim (setI (setI (setI (setI (setI (setI (setI (setI σ 1 1 k) 1 2 v) 196 0 0) 196 3 k) 196 4 v) 196 1 k) 196 2 v) 196 0 x) := by
  obtain ⟨h1, h2, h3, h4, h5, h6⟩ := hS
  generalize hω : setI (setI (setI (setI (setI (setI (setI (setI σ 1 1 k) 1 2 v) 196 0 0) 196 3 k) 196 4 v) 196 1 k) 196 2 v) 196 0 x = ω
  have hr : KR (fun j => ¬ j = 1 ∧ ¬ j = 196) σ ω := fun j hj => by
    rw [← hω]
    exact ⟨by rw [q1n hj.2, q1n hj.2, q1n hj.2, q1n hj.2, q1n hj.2, q1n hj.2, q1n hj.1, q1n hj.1], rfl⟩
  have f1 : ω.1 196 13 = σ.1 196 13 ∧ ω.1 196 14 = σ.1 196 14 ∧ ω.1 196 15 = σ.1 196 15 ∧ ω.1 196 18 = σ.1 196 18 ∧ ω.1 196 20 = σ.1 196 20 := by
    rw [← hω]
    refine ⟨?_, ?_, ?_, ?_, ?_⟩ <;> (simp (disch := omega) only [q1e, q1n, ue, un])
  obtain ⟨f13, f14, f15, f18, f20⟩ := f1
  refine ⟨h1.kr hr (fun j a b => ⟨by omega, by omega⟩) (by decide) (by decide), ⟨?_, ?_⟩, ?_, ?_, ?_, ?_⟩
  · rw [← hω]; simp (disch := omega) only [q1e, q1n, ue, un]
  · rw [← hω]; simp (disch := omega) only [q1e, q1n, ue, un]
  · unfold SS
    rw [(hr 0 (by decide)).1, f15, (hr 199 (by decide)).1, (hr 203 (by decide)).2]
    refine ⟨h3.1, ?_⟩
    rcases h3.2 with a | ⟨a, b, c⟩
    · exact Or.inl a
    · exact Or.inr ⟨a, b.kr hr (fun j hj => ⟨by omega, by omega⟩), c⟩
  · obtain ⟨l, a, b⟩ := h4
    exact ⟨l, a.kr hr (fun j x y => ⟨by omega, by omega⟩), b.kp f13 f14 (hr 198 (by decide)).1 (hr 202 (by decide)).2⟩
  · obtain ⟨n, a, b, c, d⟩ := h5
    refine ⟨n, a, by rw [(hr 191 (by decide)).1]; exact b, by rw [f18]; exact c, ?_⟩
    rw [(hr 192 (by decide)).1, (hr 206 (by decide)).1]
    exact d
  · unfold SE
    rw [(hr 191 (by decide)).1, f20]
    exact h6
theorem sim_gen {σ : St} (hS : Sim σ) {cl : St × Int32} {okC : Prop} {md : St → St × Int32} {okN : St → Prop} {eI eR e3 : Int32} {P : Prop} {act does : St → St × Int32} {okA okD okM : St → Prop} {okL : Prop} {fL : St × Int32} {fM : St → St × Int32}
    (V : Vd σ (σ.1 197) (σ.2.1 201) cl okC md okN eI eR P) (D : P → Dz (σ.1 197) (σ.2.1 201) act okA does okD) (h3 : ∀ s k, cl = (s, k) → ¬ k = 0 → ¬ k = -1 → ¬ k = -2 → ¬ e3 = 0)
    (L0 : cl = (σ, 0) → fL = (setJ (act (f_X4_remember σ 2)).1 208 0 (act (f_X4_remember σ 2)).2.toInt64, 0))
    (L1 : cl = (σ, -1) → ¬ eI = 0 → fL = (σ, eI)) (L2 : cl = (σ, -2) → ¬ eR = 0 → fL = (σ, eR)) (L3 : ∀ s k, cl = (s, k) → ¬ k = 0 → ¬ k = -1 → ¬ k = -2 → fL = (s, e3))
    (K0 : okC → cl = (σ, 0) → ok_X4_remember σ 2 → okA (f_X4_remember σ 2) → okL) (K1 : okC → cl = (σ, -1) → ¬ eI = 0 → okL) (K2 : okC → cl = (σ, -2) → ¬ eR = 0 → okL) (K3 : okC → ∀ s k, cl = (s, k) → ¬ k = 0 → ¬ k = -1 → ¬ k = -2 → okL)
    (M0 : ∀ τ, md (setI τ 196 0 0) = (setI τ 196 0 0, 0) → fM τ = does (f_X10_remembers (setI τ 196 0 0)))
    (M1 : ∀ τ s k, md (setI τ 196 0 0) = (s, k) → ¬ k = 0 → fM τ = f_X10_refuses s k e3)
    (N0 : ∀ τ, okN (setI τ 196 0 0) → md (setI τ 196 0 0) = (setI τ 196 0 0, 0) → ok_X10_remembers (setI τ 196 0 0) → okD (f_X10_remembers (setI τ 196 0 0)) → okM τ)
    (N1 : ∀ τ s k, okN (setI τ 196 0 0) → md (setI τ 196 0 0) = (s, k) → ¬ k = 0 → okM τ) : simI Sim okL fL okM fM := by
  obtain ⟨v1, v2, hV⟩ := V
  rcases hV with ⟨c1, c2, c3⟩ | ⟨c1, c2, c4, c3⟩ | ⟨c1, c2, c4, c3⟩ | ⟨k, v, k0, k1, k2, c1, c3⟩
  · obtain ⟨⟨hO, hI⟩, hW, hSS, ⟨l, hR, hU⟩, ⟨n, n1, n2, n3, n4⟩, hE⟩ := id hS
    obtain ⟨r1, r2, r3⟩ := cl_remember (by decide) hR hO hI
    have hO1 : Off (f_X4_remember σ 2) 2 (σ.1 197) (σ.2.1 201) := hO.kp r3 (fun j hj => by omega)
    obtain ⟨σ', hσ'⟩ : ∃ z, z = (act (f_X4_remember σ 2)).1 := ⟨_, rfl⟩
    obtain ⟨v, hv⟩ : ∃ z, z = (act (f_X4_remember σ 2)).2 := ⟨_, rfl⟩
    obtain ⟨d1, -, s1, t1, u1, d2, -, -, -, d3, -⟩ := D c2 (f_X4_remember σ 2) σ hO1 ⟨rfl, rfl⟩
    have es : s1 = σ' := by rw [hσ', d2]
    subst es
    have k1 : Kp (fun j => ¬ (2 ≤ j ∧ j < 19) ∧ ¬ (53 ≤ j ∧ j < 190)) σ s1 := (r3.wk (fun j hj => hj.2)).tr (d3.wk (fun j hj => hj.1))
    obtain ⟨τ0, hτ0⟩ : ∃ z, z = setI (setJ s1 208 0 v.toInt64) 196 0 0 := ⟨_, rfl⟩
    have m0 : MR τ0 (σ.1 197) (σ.2.1 201) := by
      rw [hτ0]
      exact ⟨by rw [q1n (by decide)]; exact (k1.1 197 (by decide)).1, (k1.1 201 (by decide)).2⟩
    have hk0 : Kp (fun j => ¬ j = 196) s1 τ0 → True := fun _ => trivial
    have z0 : ∀ j, ¬ j = 196 → τ0.1 j = s1.1 j ∧ τ0.2.1 j = s1.2.1 j := fun j hj => by rw [hτ0]; exact ⟨q1n hj, rfl⟩
    have z6 : ∀ k, ¬ k = 0 → τ0.1 196 k = σ.1 196 k := fun k hk => by
      rw [hτ0, q1e rfl, un hk]
      exact congrFun (k1.1 196 (by decide)).1 k
    have hU0 : Und τ0 l := hU.kp (z6 13 (by decide)) (z6 14 (by decide)) ((z0 198 (by decide)).1.trans (k1.1 198 (by decide)).1) ((z0 202 (by decide)).2.trans (k1.1 202 (by decide)).2)
    obtain ⟨g1, g2, g3, g4⟩ := md_remembers hU0 m0.1 m0.2
    have m1 : MR (f_X10_remembers τ0) (σ.1 197) (σ.2.1 201) := ⟨(g3.1 197 (by decide)).1.trans m0.1, (g3.1 201 (by decide)).2.trans m0.2⟩
    obtain ⟨-, b1, s2, τ', v2', b2, b3, b4, b5, b6, b7⟩ := D c2 (f_X4_remember σ 2) (f_X10_remembers τ0) hO1 m1
    have es : s1 = s2 := by rw [hσ', b2]
    have ev : v2' = v := by rw [hv, b2]
    subst es ev
    refine simI_ok (σ1 := s1) (v := v2') (by rw [L0 c1, b2]) (K0 v1 c1 r1 d1) ?_
    have hmd := c3 τ0 m0
    rw [hτ0] at hmd
    refine ⟨?_, τ', ?_, ?_, ?_, ?_⟩
    · have hk := v2 τ0 m0
      rw [hτ0] at hk g1 b1
      exact N0 _ hk hmd g1 b1
    · rw [M0 _ hmd, ← hτ0]; exact b3
    · rw [congrFun (b7.1 196 (by decide)).1 0, g4 0 (by decide) (by decide), hτ0]
      exact thr0
    · rw [b7.2, g3.2, hτ0]; rfl
    have kk : KR (fun j => ¬ j = 196 ∧ ¬ j = 197 ∧ ¬ j = 198 ∧ ¬ j = 200 ∧ ¬ j = 201 ∧ ¬ j = 202 ∧ ¬ j = 204) s1 τ' := fun j hj =>
      ⟨((b7.1 j ⟨hj.2.1, hj.2.2.2.2.1⟩).1.trans (g3.1 j ⟨hj.1, hj.2.2.1, hj.2.2.2.2.2.1, hj.2.2.2.1, hj.2.2.2.2.2.2⟩).1).trans (z0 j hj.1).1,
       ((b7.1 j ⟨hj.2.1, hj.2.2.2.2.1⟩).2.trans (g3.1 j ⟨hj.1, hj.2.2.1, hj.2.2.2.2.2.1, hj.2.2.2.1, hj.2.2.2.2.2.2⟩).2).trans (z0 j hj.1).2⟩
    have ks : KR (fun j => (¬ (2 ≤ j ∧ j < 19) ∧ ¬ (53 ≤ j ∧ j < 190)) ∧ ¬ j = 196 ∧ ¬ j = 197 ∧ ¬ j = 198 ∧ ¬ j = 200 ∧ ¬ j = 201 ∧ ¬ j = 202 ∧ ¬ j = 204) σ τ' := (k1.kr.wk (fun j hj => hj.1)).tr (kk.wk (fun j hj => hj.2))
    have kf : ∀ k, ¬ k = 0 → ¬ k = 13 → ¬ k = 14 → τ'.1 196 k = σ.1 196 k := fun k x y z => (congrFun (b7.1 196 (by decide)).1 k).trans ((g4 k y z).trans (z6 k x))
    refine ⟨⟨b4.kr kk (fun j hj => by omega), b5⟩, ?_, ?_, ⟨((σ.1 197, σ.2.1 201) :: l).take 8, ?_, ?_⟩, ?_, ?_⟩
    · unfold SW
      rw [(ks 1 (by decide)).1, kf 1 (by decide) (by decide) (by decide), kf 2 (by decide) (by decide) (by decide)]
      exact hW
    · unfold SS
      rw [(ks 0 (by decide)).1, kf 15 (by decide) (by decide) (by decide)]
      refine ⟨hSS.1, ?_⟩
      rcases hSS.2 with a | ⟨a, b, c⟩
      · exact Or.inl a
      · have e1 : τ'.1 199 = σ.1 199 := (ks 199 (by decide)).1
        have e2 : τ'.2.1 203 = σ.2.1 203 := (ks 203 (by decide)).2
        rw [e1, e2]
        exact Or.inr ⟨a, b.kr ks (fun j hj => by omega), c⟩
    · exact ((r2.kp d3 (fun j x y => by omega)).kr kk (fun j x y => by omega))
    · exact g2.kp (congrFun (b7.1 196 (by decide)).1 13) (congrFun (b7.1 196 (by decide)).1 14) (b7.1 198 (by decide)).1 (b7.1 202 (by decide)).2
    · refine ⟨n, n1, by rw [(ks 191 (by decide)).1]; exact n2, by rw [kf 18 (by decide) (by decide) (by decide)]; exact n3, ?_⟩
      rw [(ks 192 (by decide)).1, (ks 206 (by decide)).1]
      exact n4
    · unfold SE
      rw [(ks 191 (by decide)).1, kf 20 (by decide) (by decide) (by decide)]
      exact hE
  · have m0 : MR (setI σ 196 0 0) (σ.1 197) (σ.2.1 201) := ⟨q1n (by decide), rfl⟩
    have hmd := c3 _ m0
    refine simI_no (σ1 := σ) (k := eI) (L1 c1 c2) c2 (K1 v1 c1 c2) ⟨N1 _ _ _ (v2 _ m0) hmd c2, setI (setI σ 196 0 0) 196 0 eI, 0, ?_, thr0, hS.tt 0 eI⟩
    rw [M1 _ _ _ hmd c2, f_refuses_e _ c4]
  · have m0 : MR (setI σ 196 0 0) (σ.1 197) (σ.2.1 201) := ⟨q1n (by decide), rfl⟩
    have hmd := c3 _ m0
    refine simI_no (σ1 := σ) (k := eR) (L2 c1 c2) c2 (K2 v1 c1 c2) ⟨N1 _ _ _ (v2 _ m0) hmd c2, setI (setI σ 196 0 0) 196 0 eR, 0, ?_, thr0, hS.tt 0 eR⟩
    rw [M1 _ _ _ hmd c2, f_refuses_e _ c4]
  · have m0 : MR (setI (setI (setI σ 1 1 k) 1 2 v) 196 0 0) (σ.1 197) (σ.2.1 201) := ⟨by rw [q1n (by decide), q1n (by decide), q1n (by decide)], rfl⟩
    have hmd := c3 _ m0
    have n9 : ¬ (9 : Int32) = 0 := by decide
    refine simI_no (σ1 := setI (setI σ 1 1 k) 1 2 v) (k := e3) (L3 _ _ c1 k0 k1 k2) (h3 _ _ c1 k0 k1 k2) (K3 v1 _ _ c1 k0 k1 k2) ⟨N1 _ _ _ (v2 _ m0) hmd n9, setI (setI (setI (setI (setI (setI (setI (setI σ 1 1 k) 1 2 v) 196 0 0) 196 3 k) 196 4 v) 196 1 k) 196 2 v) 196 0 e3, 0, ?_, thr0, hS.no k v e3⟩
    rw [M1 _ _ _ hmd n9, f_refuses]
end GEN
