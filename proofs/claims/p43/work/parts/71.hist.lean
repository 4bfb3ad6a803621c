/-! what is remembered, on both sides -/
theorem bnd_eq {α β : Type} (x : α) (k : α → β) : bnd x k = k x := Eq.trans (Eq.refl (bnd x k)) (Eq.refl (k x))
theorem bndP_eq {α : Type} (x : α) (k : α → Prop) : bndP x k = k x := Eq.trans (Eq.refl (bndP x k)) (Eq.refl (k x))
def Cp1 (dst N : Nat) (di : Nat → Nat) (v : Nat → Int32) (σ σ' : St) : Prop := (∀ k, k < N → σ'.1 dst (di k) = v k) ∧ (∀ x, (∀ k, k < N → ¬ x = di k) → σ'.1 dst x = σ.1 dst x) ∧ (∀ j, ¬ j = dst → σ'.1 j = σ.1 j) ∧ σ'.2 = σ.2
def Cp2 (dst N : Nat) (di : Nat → Nat) (v : Nat → UInt32) (σ σ' : St) : Prop := (∀ k, k < N → σ'.2.1 dst (di k) = v k) ∧ (∀ x, (∀ k, k < N → ¬ x = di k) → σ'.2.1 dst x = σ.2.1 dst x) ∧ (∀ j, ¬ j = dst → σ'.2.1 j = σ.2.1 j) ∧ σ'.1 = σ.1 ∧ σ'.2.2 = σ.2.2
theorem cp1_run {β : Type} {N dst src : Nat} (F : Nat → St → Int32 → β) (ok : Nat → St → Int32 → Prop) (r : St → β) (okr : St → Prop) (di si : Nat → Nat) (hne : ¬ src = dst) (hinj : ∀ i j, i < N → j < N → di i = di j → i = j)
    (h0 : ∀ f σ, F (f + 1) σ (nI N) = r σ ∧ (okr σ → ok (f + 1) σ (nI N)))
    (h1 : ∀ f σ k, k < N → F (f + 1) σ (nI k) = F f (setI σ dst (di k) (σ.1 src (si k))) (nI (k + 1)) ∧ (ok f (setI σ dst (di k) (σ.1 src (si k))) (nI (k + 1)) → ok (f + 1) σ (nI k))) (σ : St) :
    ∀ (m fu k : Nat) (τ : St), m < fu → k + m = N → (∀ j, j < k → τ.1 dst (di j) = σ.1 src (si j)) → (∀ x, (∀ j, j < k → ¬ x = di j) → τ.1 dst x = σ.1 dst x) → (∀ j, ¬ j = dst → τ.1 j = σ.1 j) → τ.2 = σ.2 →
      ∃ τ', F fu τ (nI k) = r τ' ∧ (okr τ' → ok fu τ (nI k)) ∧ Cp1 dst N di (fun k => σ.1 src (si k)) σ τ' := by
  intro m
  induction m with
  | zero =>
    intro fu k τ hf hk a1 a2 a3 a4
    obtain ⟨fu, rfl⟩ : ∃ z, fu = z + 1 := ⟨fu - 1, by omega⟩
    have : k = N := by omega
    subst this
    exact ⟨τ, (h0 fu τ).1, (h0 fu τ).2, a1, a2, a3, a4⟩
  | succ m ih =>
    intro fu k τ hf hk a1 a2 a3 a4
    obtain ⟨fu, rfl⟩ : ∃ z, fu = z + 1 := ⟨fu - 1, by omega⟩
    obtain ⟨s1, s2⟩ := h1 fu τ k (by omega)
    have hsrc : τ.1 src = σ.1 src := a3 src hne
    rw [hsrc] at s1 s2
    obtain ⟨τ', b1, b2, b3⟩ := ih fu (k + 1) (setI τ dst (di k) (σ.1 src (si k))) (by omega) (by omega) (fun j hj => by
        rw [q1e rfl]
        by_cases e : j = k
        · subst e; rw [ue rfl]
        · rw [un (fun z => e (hinj j k (by omega) (by omega) z))]; exact a1 j (by omega)) (fun x hx => by
        rw [q1e rfl, un (hx k (by omega))]
        exact a2 x (fun j hj => hx j (by omega))) (fun j hj => by rw [q1n hj]; exact a3 j hj) a4
    exact ⟨τ', s1.trans b1, fun z => s2 (b2 z), b3⟩
theorem cp2_run {β : Type} {N dst src : Nat} (F : Nat → St → Int32 → β) (ok : Nat → St → Int32 → Prop) (r : St → β) (okr : St → Prop) (di si : Nat → Nat) (hne : ¬ src = dst) (hinj : ∀ i j, i < N → j < N → di i = di j → i = j)
    (h0 : ∀ f σ, F (f + 1) σ (nI N) = r σ ∧ (okr σ → ok (f + 1) σ (nI N)))
    (h1 : ∀ f σ k, k < N → F (f + 1) σ (nI k) = F f (setF σ dst (di k) (σ.2.1 src (si k))) (nI (k + 1)) ∧ (ok f (setF σ dst (di k) (σ.2.1 src (si k))) (nI (k + 1)) → ok (f + 1) σ (nI k))) (σ : St) :
    ∀ (m fu k : Nat) (τ : St), m < fu → k + m = N → (∀ j, j < k → τ.2.1 dst (di j) = σ.2.1 src (si j)) → (∀ x, (∀ j, j < k → ¬ x = di j) → τ.2.1 dst x = σ.2.1 dst x) → (∀ j, ¬ j = dst → τ.2.1 j = σ.2.1 j) → τ.1 = σ.1 ∧ τ.2.2 = σ.2.2 →
      ∃ τ', F fu τ (nI k) = r τ' ∧ (okr τ' → ok fu τ (nI k)) ∧ Cp2 dst N di (fun k => σ.2.1 src (si k)) σ τ' := by
  intro m
  induction m with
  | zero =>
    intro fu k τ hf hk a1 a2 a3 a4
    obtain ⟨fu, rfl⟩ : ∃ z, fu = z + 1 := ⟨fu - 1, by omega⟩
    have : k = N := by omega
    subst this
    exact ⟨τ, (h0 fu τ).1, (h0 fu τ).2, a1, a2, a3, a4.1, a4.2⟩
  | succ m ih =>
    intro fu k τ hf hk a1 a2 a3 a4
    obtain ⟨fu, rfl⟩ : ∃ z, fu = z + 1 := ⟨fu - 1, by omega⟩
    obtain ⟨s1, s2⟩ := h1 fu τ k (by omega)
    have hsrc : τ.2.1 src = σ.2.1 src := a3 src hne
    rw [hsrc] at s1 s2
    obtain ⟨τ', b1, b2, b3⟩ := ih fu (k + 1) (setF τ dst (di k) (σ.2.1 src (si k))) (by omega) (by omega) (fun j hj => by
        rw [q2e rfl]
        by_cases e : j = k
        · subst e; rw [ve rfl]
        · rw [vn (fun z => e (hinj j k (by omega) (by omega) z))]; exact a1 j (by omega)) (fun x hx => by
        rw [q2e rfl, vn (hx k (by omega))]
        exact a2 x (fun j hj => hx j (by omega))) (fun j hj => by rw [q2n hj]; exact a3 j hj) a4
    exact ⟨τ', s1.trans b1, fun z => s2 (b2 z), b3⟩
theorem cp1_0 {β : Type} {N dst src : Nat} (F : Nat → St → Int32 → β) (ok : Nat → St → Int32 → Prop) (r : St → β) (okr : St → Prop) (di si : Nat → Nat) (σ : St) (hN : N < 2000) (hne : ¬ src = dst) (hinj : ∀ i j, i < N → j < N → di i = di j → i = j)
    (h0 : ∀ f σ, F (f + 1) σ (nI N) = r σ ∧ (okr σ → ok (f + 1) σ (nI N)))
    (h1 : ∀ f σ k, k < N → F (f + 1) σ (nI k) = F f (setI σ dst (di k) (σ.1 src (si k))) (nI (k + 1)) ∧ (ok f (setI σ dst (di k) (σ.1 src (si k))) (nI (k + 1)) → ok (f + 1) σ (nI k))) :
    ∃ τ', F 2000 σ 0 = r τ' ∧ (okr τ' → ok 2000 σ 0) ∧ Cp1 dst N di (fun k => σ.1 src (si k)) σ τ' :=
  cp1_run F ok r okr di si hne hinj h0 h1 σ N 2000 0 σ hN (Nat.zero_add N) (fun j hj => absurd hj (Nat.not_lt_zero j)) (fun _ _ => rfl) (fun _ _ => rfl) rfl
theorem cp2_0 {β : Type} {N dst src : Nat} (F : Nat → St → Int32 → β) (ok : Nat → St → Int32 → Prop) (r : St → β) (okr : St → Prop) (di si : Nat → Nat) (σ : St) (hN : N < 2000) (hne : ¬ src = dst) (hinj : ∀ i j, i < N → j < N → di i = di j → i = j)
    (h0 : ∀ f σ, F (f + 1) σ (nI N) = r σ ∧ (okr σ → ok (f + 1) σ (nI N)))
    (h1 : ∀ f σ k, k < N → F (f + 1) σ (nI k) = F f (setF σ dst (di k) (σ.2.1 src (si k))) (nI (k + 1)) ∧ (ok f (setF σ dst (di k) (σ.2.1 src (si k))) (nI (k + 1)) → ok (f + 1) σ (nI k))) :
    ∃ τ', F 2000 σ 0 = r τ' ∧ (okr τ' → ok 2000 σ 0) ∧ Cp2 dst N di (fun k => σ.2.1 src (si k)) σ τ' :=
  cp2_run F ok r okr di si hne hinj h0 h1 σ N 2000 0 σ hN (Nat.zero_add N) (fun j hj => absurd hj (Nat.not_lt_zero j)) (fun _ _ => rfl) (fun _ _ => rfl) ⟨rfl, rfl⟩
section HST
variable {σ : St}
/-- the list of what is remembered, the latest first -/
abbrev Dat := (Nat → Int32) × (Nat → UInt32)
def Ring (σ : St) (l : List Dat) : Prop := l.length ≤ 8 ∧ σ.1 189 2 = nI l.length ∧ ∃ nx, nx < 8 ∧ σ.1 189 1 = nI nx ∧ ∀ j D, l[j]? = some D → Off σ (53 + 17 * ((nx + 7 - j) % 8)) D.1 D.2 ∧ Inv D.1 D.2
theorem mod8_a : ∀ n, n < 20 → nI n - nI n / (8 : Int32) * (8 : Int32) = nI (n % 8) := by decide +kernel
theorem take_at {l : List Dat} {D : Dat} {j : Nat} {E : Dat} (h : ((D :: l).take 8)[j]? = some E) : (j = 0 ∧ E = D) ∨ (1 ≤ j ∧ j < 8 ∧ l[j - 1]? = some E) := by
  rw [List.getElem?_take] at h
  split at h
  · rename_i hj
    cases j with
    | zero => exact Or.inl ⟨rfl, (Option.some.inj h).symm⟩
    | succ j => exact Or.inr ⟨by omega, hj, h⟩
  · cases h
theorem take_len (l : List Dat) (D : Dat) : ((D :: l).take 8).length = if l.length < 8 then l.length + 1 else 8 := by
  rw [List.length_take, List.length_cons]
  split <;> omega
theorem cl_remember {l : List Dat} {w : Nat → Int32} {f : Nat → UInt32} {o : Nat} (ho : o + 17 ≤ 53) (hR : Ring σ l) (hO : Off σ o w f) (hI : Inv w f) : ok_X4_remember σ o ∧ Ring (f_X4_remember σ o) (((w, f) :: l).take 8) ∧ Kp (fun j => ¬ (53 ≤ j ∧ j < 190)) σ (f_X4_remember σ o) := by
  obtain ⟨r1, r2, nx, r3, r4, r5⟩ := hR
  have hcl : (nI nx).toNatClampNeg = nx := nI_clamp (by omega)
  have k0 := copy_kp σ (53 + 17 * nx) o
  have e1 : (f_X6_copyFrom σ (53 + 17 * nx) o).1 189 = σ.1 189 := (k0.1 189 (by omega)).1
  have e : f_X4_remember σ o = setI (setI (f_X6_copyFrom σ (53 + 17 * nx) o) 189 1 (nI ((nx + 1) % 8))) 189 2 (nI (((w, f) :: l).take 8).length) := by
    unfold f_X4_remember
    simp only [bnd]
    rw [r4, hcl]
    have e2 : (f_X6_copyFrom σ (53 + 17 * nx) o).1 189 1 = nI nx := by rw [e1]; exact r4
    rw [e2, nI_1, mod8_a (nx + 1) (by omega)]
    have e3 : (setI (f_X6_copyFrom σ (53 + 17 * nx) o) 189 1 (nI ((nx + 1) % 8))).1 189 2 = nI l.length := by rw [q1e rfl, un (by decide), e1]; exact r2
    rw [e3, nI_1, take_len]
    by_cases q : l.length < 8
    · rw [if_pos q, if_neg]
      show ¬ nI 8 < nI (l.length + 1)
      exact nI_nlt (by omega) (by decide)
    · rw [if_neg q, if_pos (show (8 : Int32) < nI (l.length + 1) from nI_lt (a := 8) (b := l.length + 1) (by omega) (by omega))]
      rfl
  have kk : Kp (fun j => ¬ (53 + 17 * nx ≤ j ∧ j < 53 + 17 * nx + 17) ∧ ¬ j = 189) σ (f_X4_remember σ o) := by
    rw [e]
    exact kp_setI (kp_setI (k0.wk (fun i hi => hi.1)) (fun q => q.2 rfl)) (fun q => q.2 rfl)
  refine ⟨?_, ⟨?_, ?_, (nx + 1) % 8, Nat.mod_lt _ (by decide), ?_, ?_⟩, kk.wk (fun i hi => ⟨by omega, by omega⟩)⟩
  · unfold ok_X4_remember; rw [r4]; exact vp_in_nI r3 (by decide)
  · rw [take_len]; split <;> omega
  · rw [e, q1e rfl, ue rfl]
  · rw [e, q1e rfl, un (by decide), q1e rfl, ue rfl]
  · intro j D hj
    rcases take_at hj with ⟨rfl, rfl⟩ | ⟨h1, h2, h3⟩
    · rw [show ((nx + 1) % 8 + 7 - 0) % 8 = nx by omega]
      have oc := hO.copy (o0 := 53 + 17 * nx) hI.n20 (by omega)
      refine ⟨oc.frame (fun i hi => ?_), hI⟩
      rw [e, q1n (by omega), q1n (by omega)]
      exact ⟨rfl, rfl⟩
    · rw [show ((nx + 1) % 8 + 7 - j) % 8 = (nx + 7 - (j - 1)) % 8 by omega]
      obtain ⟨z1, z2⟩ := r5 (j - 1) D h3
      refine ⟨z1.kp kk (fun i hi => ⟨?_, ?_⟩), z2⟩
      · omega
      · omega
theorem cl_back {l : List Dat} {D : Dat} (hR : Ring σ (D :: l)) : ok_X4_bringBack σ 2 ∧ Ring (f_X4_bringBack σ 2) l ∧ Off (f_X4_bringBack σ 2) 2 D.1 D.2 ∧ Inv D.1 D.2 ∧ (f_X4_bringBack σ 2).1 189 2 = nI l.length ∧ Kp (fun j => ¬ (2 ≤ j ∧ j < 19) ∧ ¬ j = 189) σ (f_X4_bringBack σ 2) := by
  obtain ⟨r1, r2, nx, r3, r4, r5⟩ := hR
  rw [List.length_cons] at r1 r2
  have e0 : (nI nx + (8 : Int32)) - (1 : Int32) = nI (nx + 7) := by
    rw [show (8 : Int32) = nI 8 from rfl, nI_add, show nx + 8 = (nx + 7) + 1 by omega, nI_pred]
  have em : nI (nx + 7) - nI (nx + 7) / (8 : Int32) * (8 : Int32) = nI ((nx + 7) % 8) := mod8_a (nx + 7) (by omega)
  have hp : (nx + 7) % 8 < 8 := Nat.mod_lt _ (by decide)
  have hcl : (nI ((nx + 7) % 8)).toNatClampNeg = (nx + 7) % 8 := nI_clamp (by omega)
  have e1 : (setI σ 189 1 (nI ((nx + 7) % 8))).1 189 2 = nI (l.length + 1) := by rw [q1e rfl, un (by decide)]; exact r2
  have e2 : (setI (setI σ 189 1 (nI ((nx + 7) % 8))) 189 2 (nI l.length)).1 189 1 = nI ((nx + 7) % 8) := by rw [q1e rfl, un (by decide), q1e rfl, ue rfl]
  have e : f_X4_bringBack σ 2 = f_X6_copyFrom (setI (setI σ 189 1 (nI ((nx + 7) % 8))) 189 2 (nI l.length)) 2 (53 + 17 * ((nx + 7) % 8)) := by
    unfold f_X4_bringBack
    simp only [bnd]
    rw [r4, e0, em, e1, nI_pred, e2, hcl]
  have k1 : Kp (fun j => ¬ j = 189) σ (setI (setI σ 189 1 (nI ((nx + 7) % 8))) 189 2 (nI l.length)) := kp_setI (kp_setI Kp.rf (fun q => q rfl)) (fun q => q rfl)
  have k2 := copy_kp (setI (setI σ 189 1 (nI ((nx + 7) % 8))) 189 2 (nI l.length)) 2 (53 + 17 * ((nx + 7) % 8))
  have kk : Kp (fun j => ¬ (2 ≤ j ∧ j < 19) ∧ ¬ j = 189) σ (f_X4_bringBack σ 2) := by
    rw [e]
    exact (k1.wk (fun i hi => hi.2)).tr (k2.wk (fun i hi => hi.1))
  obtain ⟨z1, z2⟩ := r5 0 D rfl
  rw [Nat.sub_zero] at z1
  have z3 : Off (setI (setI σ 189 1 (nI ((nx + 7) % 8))) 189 2 (nI l.length)) (53 + 17 * ((nx + 7) % 8)) D.1 D.2 := z1.kp k1 (fun i hi => by omega)
  refine ⟨?_, ⟨by omega, ?_, (nx + 7) % 8, hp, ?_, ?_⟩, ?_, z2, ?_, kk⟩
  · unfold ok_X4_bringBack
    simp only [bndP]
    rw [r4, e0, em, e1, nI_pred, e2]
    exact vp_in_nI hp (by decide)
  · rw [e, (k2.1 189 (by omega)).1, q1e rfl, ue rfl]
  · rw [e, (k2.1 189 (by omega)).1]; exact e2
  · intro j E hj
    have hjl : j < l.length := (List.getElem?_eq_some_iff.mp hj).1
    obtain ⟨y1, y2⟩ := r5 (j + 1) E hj
    rw [show (nx + 7 - (j + 1)) % 8 = ((nx + 7) % 8 + 7 - j) % 8 by omega] at y1
    exact ⟨y1.kp kk (fun i hi => ⟨by omega, by omega⟩), y2⟩
  · rw [e]; exact z3.copy z2.n20 (by omega)
  · rw [e, (k2.1 189 (by omega)).1, q1e rfl, ue rfl]
theorem Ring.kp {σ' : St} {l : List Dat} {P : Nat → Prop} (h : Ring σ l) (hk : Kp P σ σ') (hp : ∀ j, 53 ≤ j → j < 190 → P j) : Ring σ' l := by
  obtain ⟨r1, r2, nx, r3, r4, r5⟩ := h
  have e := (hk.1 189 (hp 189 (by decide) (by decide))).1
  refine ⟨r1, by rw [e]; exact r2, nx, r3, by rw [e]; exact r4, fun j D hj => ?_⟩
  obtain ⟨a, b⟩ := r5 j D hj
  exact ⟨a.kp hk (fun i hi => hp _ (by omega) (by omega)), b⟩
theorem nI_at146 {p k : Nat} (hp : p < 8) (hk : k < 146) : (((146 : Int32) * nI p) + nI k).toNatClampNeg = 146 * p + k ∧ vp_in (((146 : Int32) * nI p) + nI k) 1168 := by
  rw [show (146 : Int32) = nI 146 from rfl, nI_mul, nI_add, nI_clamp (by omega)]
  exact ⟨rfl, vp_in_nI (by omega) (by decide)⟩
theorem nI_at36 {p k : Nat} (hp : p < 8) (hk : k < 36) : (((36 : Int32) * nI p) + nI k).toNatClampNeg = 36 * p + k ∧ vp_in (((36 : Int32) * nI p) + nI k) 288 := by
  rw [show (36 : Int32) = nI 36 from rfl, nI_mul, nI_add, nI_clamp (by omega)]
  exact ⟨rfl, vp_in_nI (by omega) (by decide)⟩
end HST
