/-! what is remembered, on both sides -/
theorem bnd_eq {α β : Type} (x : α) (k : α → β) : bnd x k = k x := Eq.trans (Eq.refl (bnd x k)) (Eq.refl (k x))
theorem bndP_eq {α : Type} (x : α) (k : α → Prop) : bndP x k = k x := Eq.trans (Eq.refl (bndP x k)) (Eq.refl (k x))
def Cp1 (dst N : Nat) (di : Nat → Nat) (v : Nat → Int32) (σ σ' : St) : Prop := (∀ k, k < N → σ'.1 dst (di k) = v k) ∧ (∀ x, (∀ k, k < N → ¬ x = di k) → σ'.1 dst x = σ.1 dst x) ∧ (∀ j, ¬ j = dst → σ'.1 j = σ.1 j) ∧ σ'.2 = σ.2
def Cp2 (dst N : Nat) (di : Nat → Nat) (v : Nat → UInt32) (σ σ' : St) : Prop := (∀ k, k < N → σ'.2.1 dst (di k) = v k) ∧ (∀ x, (∀ k, k < N → ¬ x = di k) → σ'.2.1 dst x = σ.2.1 dst x) ∧ (∀ j, ¬ j = dst → σ'.2.1 j = σ.2.1 j) ∧ σ'.1 = σ.1 ∧ σ'.2.2 = σ.2.2
theorem cp1_run {β : Type} {N dst src : Nat} (F : Nat → St → Int32 → β) (ok : Nat → St → Int32 → Prop) (r : St → β) (okr : St → Prop) (di si : Nat → Nat) (hne : ¬ src = dst) (hinj : ∀ i j, i < N → j < N → di i = di j → i = j)
    (h0 : ∀ f σ, F (f + 1) σ (nI N) = r σ ∧ (okr σ → ok (f + 1) σ (nI N)))
    (h1 : ∀ f σ k, k < N → F (f + 1) σ (nI k) = F f (setI σ dst (di k) (σ.1 src (si k))) (nI (k + 1)) ∧ (ok f (setI σ dst (di k) (σ.1 src (si k))) (nI (k + 1)) → ok (f + 1) σ (nI k))) (σ : St) :
    ∀ (m fu k : Nat) (τ : St), m < fu → k + m = N → (∀ j, j < k → τ.1 dst (di j) = σ.1 src (si j)) → (∀ x, (∀ j, j < k → ¬ x = di j) → τ.1 dst x = σ.1 dst x) → (∀ j, ¬ j = dst → τ.1 j = σ.1 j) → τ.2 = σ.2 →
      ∃ τ', F fu τ (nI k) = r τ' ∧ (okr τ' → ok fu τ (nI k)) ∧ Cp1 dst N di (fun k => σ.1 src (si k)) σ τ' := by
  intro m
  induction m with
  | zero =>
    intro fu k τ hf hk a1 a2 a3 a4
    obtain ⟨fu, rfl⟩ : ∃ z, fu = z + 1 := ⟨fu - 1, by omega⟩
    have : k = N := by omega
    subst this
    exact ⟨τ, (h0 fu τ).1, (h0 fu τ).2, a1, a2, a3, a4⟩
  | succ m ih =>
    intro fu k τ hf hk a1 a2 a3 a4
    obtain ⟨fu, rfl⟩ : ∃ z, fu = z + 1 := ⟨fu - 1, by omega⟩
    obtain ⟨s1, s2⟩ := h1 fu τ k (by omega)
    have hsrc : τ.1 src = σ.1 src := a3 src hne
    rw [hsrc] at s1 s2
    obtain ⟨τ', b1, b2, b3⟩ := ih fu (k + 1) (setI τ dst (di k) (σ.1 src (si k))) (by omega) (by omega) (fun j hj => by
        rw [q1e rfl]
        by_cases e : j = k
        · subst e; rw [ue rfl]
        · rw [un (fun z => e (hinj j k (by omega) (by omega) z))]; exact a1 j (by omega)) (fun x hx => by
        rw [q1e rfl, un (hx k (by omega))]
        exact a2 x (fun j hj => hx j (by omega))) (fun j hj => by rw [q1n hj]; exact a3 j hj) a4
    exact ⟨τ', s1.trans b1, fun z => s2 (b2 z), b3⟩
theorem cp2_run {β : Type} {N dst src : Nat} (F : Nat → St → Int32 → β) (ok : Nat → St → Int32 → Prop) (r : St → β) (okr : St → Prop) (di si : Nat → Nat) (hne : ¬ src = dst) (hinj : ∀ i j, i < N → j < N → di i = di j → i = j)
    (h0 : ∀ f σ, F (f + 1) σ (nI N) = r σ ∧ (okr σ → ok (f + 1) σ (nI N)))
    (h1 : ∀ f σ k, k < N → F (f + 1) σ (nI k) = F f (setF σ dst (di k) (σ.2.1 src (si k))) (nI (k + 1)) ∧ (ok f (setF σ dst (di k) (σ.2.1 src (si k))) (nI (k + 1)) → ok (f + 1) σ (nI k))) (σ : St) :
    ∀ (m fu k : Nat) (τ : St), m < fu → k + m = N → (∀ j, j < k → τ.2.1 dst (di j) = σ.2.1 src (si j)) → (∀ x, (∀ j, j < k → ¬ x = di j) → τ.2.1 dst x = σ.2.1 dst x) → (∀ j, ¬ j = dst → τ.2.1 j = σ.2.1 j) → τ.1 = σ.1 ∧ τ.2.2 = σ.2.2 →
      ∃ τ', F fu τ (nI k) = r τ' ∧ (okr τ' → ok fu τ (nI k)) ∧ Cp2 dst N di (fun k => σ.2.1 src (si k)) σ τ' := by
  intro m
  induction m with
  | zero =>
    intro fu k τ hf hk a1 a2 a3 a4
    obtain ⟨fu, rfl⟩ : ∃ z, fu = z + 1 := ⟨fu - 1, by omega⟩
    have : k = N := by omega
    subst this
    exact ⟨τ, (h0 fu τ).1, (h0 fu τ).2, a1, a2, a3, a4.1, a4.2⟩
  | succ m ih =>
    intro fu k τ hf hk a1 a2 a3 a4
    obtain ⟨fu, rfl⟩ : ∃ z, fu = z + 1 := ⟨fu - 1, by omega⟩
    obtain ⟨s1, s2⟩ := h1 fu τ k (by omega)
    have hsrc : τ.2.1 src = σ.2.1 src := a3 src hne
    rw [hsrc] at s1 s2
    obtain ⟨τ', b1, b2, b3⟩ := ih fu (k + 1) (setF τ dst (di k) (σ.2.1 src (si k))) (by omega) (by omega) (fun j hj => by
        rw [q2e rfl]
        by_cases e : j = k
        · subst e; rw [ve rfl]
        · rw [vn (fun z => e (hinj j k (by omega) (by omega) z))]; exact a1 j (by omega)) (fun x hx => by
        rw [q2e rfl, vn (hx k (by omega))]
        exact a2 x (fun j hj => hx j (by omega))) (fun j hj => by rw [q2n hj]; exact a3 j hj) a4
    exact ⟨τ', s1.trans b1, fun z => s2 (b2 z), b3⟩
theorem cp1_0 {β : Type} {N dst src : Nat} (F : Nat → St → Int32 → β) (ok : Nat → St → Int32 → Prop) (r : St → β) (okr : St → Prop) (di si : Nat → Nat) (σ : St) (hN : N < 2000) (hne : ¬ src = dst) (hinj : ∀ i j, i < N → j < N → di i = di j → i = j)
    (h0 : ∀ f σ, F (f + 1) σ (nI N) = r σ ∧ (okr σ → ok (f + 1) σ (nI N)))
    (h1 : ∀ f σ k, k < N → F (f + 1) σ (nI k) = F f (setI σ dst (di k) (σ.1 src (si k))) (nI (k + 1)) ∧ (ok f (setI σ dst (di k) (σ.1 src (si k))) (nI (k + 1)) → ok (f + 1) σ (nI k))) :
    ∃ τ', F 2000 σ 0 = r τ' ∧ (okr τ' → ok 2000 σ 0) ∧ Cp1 dst N di (fun k => σ.1 src (si k)) σ τ' :=
  cp1_run F ok r okr di si hne hinj h0 h1 σ N 2000 0 σ hN (Nat.zero_add N) (fun j hj => absurd hj (Nat.not_lt_zero j)) (fun _ _ => rfl) (fun _ _ => rfl) rfl
theorem cp2_0 {β : Type} {N dst src : Nat} (F : Nat → St → Int32 → β) (ok : Nat → St → Int32 → Prop) (r : St → β) (okr : St → Prop) (di si : Nat → Nat) (σ : St) (hN : N < 2000) (hne : ¬ src = dst) (hinj : ∀ i j, i < N → j < N → di i = di j → i = j)
    (h0 : ∀ f σ, F (f + 1) σ (nI N) = r σ ∧ (okr σ → ok (f + 1) σ (nI N)))
    (h1 : ∀ f σ k, k < N → F (f + 1) σ (nI k) = F f (setF σ dst (di k) (σ.2.1 src (si k))) (nI (k + 1)) ∧ (ok f (setF σ dst (di k) (σ.2.1 src (si k))) (nI (k + 1)) → ok (f + 1) σ (nI k))) :
    ∃ τ', F 2000 σ 0 = r τ' ∧ (okr τ' → ok 2000 σ 0) ∧ Cp2 dst N di (fun k => σ.2.1 src (si k)) σ τ' :=
  cp2_run F ok r okr di si hne hinj h0 h1 σ N 2000 0 σ hN (Nat.zero_add N) (fun j hj => absurd hj (Nat.not_lt_zero j)) (fun _ _ => rfl) (fun _ _ => rfl) ⟨rfl, rfl⟩
section HST
variable {σ : St}
theorem md_thinks (σ : St) : ok_X10_thinks σ ∧ (∀ k, k < 146 → (f_X10_thinks σ).1 200 k = σ.1 197 k) ∧ (∀ k, k < 36 → (f_X10_thinks σ).2.1 204 k = σ.2.1 201 k) ∧ Kp (fun j => ¬ j = 200 ∧ ¬ j = 204) σ (f_X10_thinks σ) := by
  obtain ⟨τ, a1, a2, a3, a4, a5, a6⟩ := cp1_0 (N := 146) (dst := 200) (src := 197) (fun fu σ k => fX10_thinks_L2 fu σ k) (fun fu σ k => okX10_thinks_L2 fu σ k) (fun σ => fX10_thinks_L29 2000 σ 0) (fun σ => okX10_thinks_L29 2000 σ 0) id id σ (by decide) (by decide) (fun _ _ _ _ h => h)
    (fun fu σ => by
      have h : (146 : Int32) ≤ nI 146 := by decide
      exact ⟨by simp [fX10_thinks_L2, h], fun q => by simp [okX10_thinks_L2, h, q]⟩)
    (fun fu σ k hk => by
      have h : ¬ (146 : Int32) ≤ nI k := nI_ge (b := 146) hk (by decide)
      have hc : (nI k).toNatClampNeg = k := nI_clamp (by omega)
      have hv : vp_in (nI k) 146 := vp_in_nI hk (by decide)
      exact ⟨by simp [fX10_thinks_L2, h, hc, bnd, nI_1], fun q => by simp [okX10_thinks_L2, h, hc, hv, bndP, nI_1]; exact q⟩)
  obtain ⟨τ2, b1, b2, b3, b4, b5, b6, b7⟩ := cp2_0 (N := 36) (dst := 204) (src := 201) (fun fu σ k => fX10_thinks_L29 fu σ k) (fun fu σ k => okX10_thinks_L29 fu σ k) (fun σ => σ) (fun _ => True) id id τ (by decide) (by decide) (fun _ _ _ _ h => h)
    (fun fu σ => by
      have h : (36 : Int32) ≤ nI 36 := by decide
      exact ⟨by simp [fX10_thinks_L29, h], fun q => by simp [okX10_thinks_L29, h]⟩)
    (fun fu σ k hk => by
      have h : ¬ (36 : Int32) ≤ nI k := nI_ge (b := 36) hk (by decide)
      have hc : (nI k).toNatClampNeg = k := nI_clamp (by omega)
      have hv : vp_in (nI k) 36 := vp_in_nI hk (by decide)
      exact ⟨by simp [fX10_thinks_L29, h, hc, bnd, nI_1], fun q => by simp [okX10_thinks_L29, h, hc, hv, bndP, nI_1]; exact q⟩)
  have e : f_X10_thinks σ = τ2 := a1.trans b1
  rw [e]
  refine ⟨a2 (b2 trivial), fun k hk => ?_, fun k hk => ?_, fun j hj => ⟨?_, ?_⟩, ?_⟩
  · rw [b6]; exact a3 k hk
  · have := b3 k hk
    rw [show τ.2.1 201 = σ.2.1 201 by rw [a6]] at this
    exact this
  · rw [b6]; exact a5 j hj.1
  · rw [b5 j hj.2, a6]
  · rw [b7, a6]
theorem md_forgets (σ : St) : ok_X10_forgets σ ∧ (∀ k, k < 146 → (f_X10_forgets σ).1 197 k = σ.1 200 k) ∧ (∀ k, k < 36 → (f_X10_forgets σ).2.1 201 k = σ.2.1 204 k) ∧ Kp (fun j => ¬ j = 197 ∧ ¬ j = 201) σ (f_X10_forgets σ) := by
  obtain ⟨τ, a1, a2, a3, a4, a5, a6⟩ := cp1_0 (N := 146) (dst := 197) (src := 200) (fun fu σ k => fX10_forgets_L2 fu σ k) (fun fu σ k => okX10_forgets_L2 fu σ k) (fun σ => fX10_forgets_L29 2000 σ 0) (fun σ => okX10_forgets_L29 2000 σ 0) id id σ (by decide) (by decide) (fun _ _ _ _ h => h)
    (fun fu σ => by
      have h : (146 : Int32) ≤ nI 146 := by decide
      exact ⟨by simp [fX10_forgets_L2, h], fun q => by simp [okX10_forgets_L2, h, q]⟩)
    (fun fu σ k hk => by
      have h : ¬ (146 : Int32) ≤ nI k := nI_ge (b := 146) hk (by decide)
      have hc : (nI k).toNatClampNeg = k := nI_clamp (by omega)
      have hv : vp_in (nI k) 146 := vp_in_nI hk (by decide)
      exact ⟨by simp [fX10_forgets_L2, h, hc, bnd, nI_1], fun q => by simp [okX10_forgets_L2, h, hc, hv, bndP, nI_1]; exact q⟩)
  obtain ⟨τ2, b1, b2, b3, b4, b5, b6, b7⟩ := cp2_0 (N := 36) (dst := 201) (src := 204) (fun fu σ k => fX10_forgets_L29 fu σ k) (fun fu σ k => okX10_forgets_L29 fu σ k) (fun σ => σ) (fun _ => True) id id τ (by decide) (by decide) (fun _ _ _ _ h => h)
    (fun fu σ => by
      have h : (36 : Int32) ≤ nI 36 := by decide
      exact ⟨by simp [fX10_forgets_L29, h], fun q => by simp [okX10_forgets_L29, h]⟩)
    (fun fu σ k hk => by
      have h : ¬ (36 : Int32) ≤ nI k := nI_ge (b := 36) hk (by decide)
      have hc : (nI k).toNatClampNeg = k := nI_clamp (by omega)
      have hv : vp_in (nI k) 36 := vp_in_nI hk (by decide)
      exact ⟨by simp [fX10_forgets_L29, h, hc, bnd, nI_1], fun q => by simp [okX10_forgets_L29, h, hc, hv, bndP, nI_1]; exact q⟩)
  have e : f_X10_forgets σ = τ2 := a1.trans b1
  rw [e]
  refine ⟨a2 (b2 trivial), fun k hk => ?_, fun k hk => ?_, fun j hj => ⟨?_, ?_⟩, ?_⟩
  · rw [b6]; exact a3 k hk
  · have := b3 k hk
    rw [show τ.2.1 204 = σ.2.1 204 by rw [a6]] at this
    exact this
  · rw [b6]; exact a5 j hj.1
  · rw [b5 j hj.2, a6]
  · rw [b7, a6]
/-- the list of what is remembered, the latest first -/
abbrev Dat := (Nat → Int32) × (Nat → UInt32)
def Ring (σ : St) (l : List Dat) : Prop := l.length ≤ 8 ∧ σ.1 189 2 = nI l.length ∧ ∃ nx, nx < 8 ∧ σ.1 189 1 = nI nx ∧ ∀ j D, l[j]? = some D → Off σ (53 + 17 * ((nx + 7 - j) % 8)) D.1 D.2 ∧ Inv D.1 D.2
def Und (σ : St) (l : List Dat) : Prop := l.length ≤ 8 ∧ σ.1 196 13 = nI l.length ∧ ∃ fc, fc < 8 ∧ σ.1 196 14 = nI fc ∧ ∀ j D, l[j]? = some D → (∀ k, k < 146 → σ.1 198 (146 * ((fc + l.length + 7 - j) % 8) + k) = D.1 k) ∧ ∀ k, k < 36 → σ.2.1 202 (36 * ((fc + l.length + 7 - j) % 8) + k) = D.2 k
theorem mod8_a : ∀ n, n < 20 → nI n - nI n / (8 : Int32) * (8 : Int32) = nI (n % 8) := by decide +kernel
theorem take_at {l : List Dat} {D : Dat} {j : Nat} {E : Dat} (h : ((D :: l).take 8)[j]? = some E) : (j = 0 ∧ E = D) ∨ (1 ≤ j ∧ j < 8 ∧ l[j - 1]? = some E) := by
  rw [List.getElem?_take] at h
  split at h
  · rename_i hj
    cases j with
    | zero => exact Or.inl ⟨rfl, (Option.some.inj h).symm⟩
    | succ j => exact Or.inr ⟨by omega, hj, h⟩
  · cases h
theorem take_len (l : List Dat) (D : Dat) : ((D :: l).take 8).length = if l.length < 8 then l.length + 1 else 8 := by
  rw [List.length_take, List.length_cons]
  split <;> omega
theorem cl_remember {l : List Dat} {w : Nat → Int32} {f : Nat → UInt32} {o : Nat} (ho : o + 17 ≤ 53) (hR : Ring σ l) (hO : Off σ o w f) (hI : Inv w f) : ok_X4_remember σ o ∧ Ring (f_X4_remember σ o) (((w, f) :: l).take 8) ∧ Kp (fun j => ¬ (53 ≤ j ∧ j < 190)) σ (f_X4_remember σ o) := by
  obtain ⟨r1, r2, nx, r3, r4, r5⟩ := hR
  have hcl : (nI nx).toNatClampNeg = nx := nI_clamp (by omega)
  have k0 := copy_kp σ (53 + 17 * nx) o
  have e1 : (f_X6_copyFrom σ (53 + 17 * nx) o).1 189 = σ.1 189 := (k0.1 189 (by omega)).1
  have e : f_X4_remember σ o = setI (setI (f_X6_copyFrom σ (53 + 17 * nx) o) 189 1 (nI ((nx + 1) % 8))) 189 2 (nI (((w, f) :: l).take 8).length) := by
    unfold f_X4_remember
    simp only [bnd]
    rw [r4, hcl]
    have e2 : (f_X6_copyFrom σ (53 + 17 * nx) o).1 189 1 = nI nx := by rw [e1]; exact r4
    rw [e2, nI_1, mod8_a (nx + 1) (by omega)]
    have e3 : (setI (f_X6_copyFrom σ (53 + 17 * nx) o) 189 1 (nI ((nx + 1) % 8))).1 189 2 = nI l.length := by rw [q1e rfl, un (by decide), e1]; exact r2
    rw [e3, nI_1, take_len]
    by_cases q : l.length < 8
    · rw [if_pos q, if_neg]
      show ¬ nI 8 < nI (l.length + 1)
      exact nI_nlt (by omega) (by decide)
    · rw [if_neg q, if_pos (show (8 : Int32) < nI (l.length + 1) from nI_lt (a := 8) (b := l.length + 1) (by omega) (by omega))]
      rfl
  have kk : Kp (fun j => ¬ (53 + 17 * nx ≤ j ∧ j < 53 + 17 * nx + 17) ∧ ¬ j = 189) σ (f_X4_remember σ o) := by
    rw [e]
    exact kp_setI (kp_setI (k0.wk (fun i hi => hi.1)) (fun q => q.2 rfl)) (fun q => q.2 rfl)
  refine ⟨?_, ⟨?_, ?_, (nx + 1) % 8, Nat.mod_lt _ (by decide), ?_, ?_⟩, kk.wk (fun i hi => ⟨by omega, by omega⟩)⟩
  · unfold ok_X4_remember; rw [r4]; exact vp_in_nI r3 (by decide)
  · rw [take_len]; split <;> omega
  · rw [e, q1e rfl, ue rfl]
  · rw [e, q1e rfl, un (by decide), q1e rfl, ue rfl]
  · intro j D hj
    rcases take_at hj with ⟨rfl, rfl⟩ | ⟨h1, h2, h3⟩
    · rw [show ((nx + 1) % 8 + 7 - 0) % 8 = nx by omega]
      have oc := hO.copy (o0 := 53 + 17 * nx) hI.n20 (by omega)
      refine ⟨oc.frame (fun i hi => ?_), hI⟩
      rw [e, q1n (by omega), q1n (by omega)]
      exact ⟨rfl, rfl⟩
    · rw [show ((nx + 1) % 8 + 7 - j) % 8 = (nx + 7 - (j - 1)) % 8 by omega]
      obtain ⟨z1, z2⟩ := r5 (j - 1) D h3
      refine ⟨z1.kp kk (fun i hi => ⟨?_, ?_⟩), z2⟩
      · omega
      · omega
theorem cl_back {l : List Dat} {D : Dat} (hR : Ring σ (D :: l)) : ok_X4_bringBack σ 2 ∧ Ring (f_X4_bringBack σ 2) l ∧ Off (f_X4_bringBack σ 2) 2 D.1 D.2 ∧ Inv D.1 D.2 ∧ (f_X4_bringBack σ 2).1 189 2 = nI l.length ∧ Kp (fun j => ¬ (2 ≤ j ∧ j < 19) ∧ ¬ j = 189) σ (f_X4_bringBack σ 2) := by
  obtain ⟨r1, r2, nx, r3, r4, r5⟩ := hR
  rw [List.length_cons] at r1 r2
  have e0 : (nI nx + (8 : Int32)) - (1 : Int32) = nI (nx + 7) := by
    rw [show (8 : Int32) = nI 8 from rfl, nI_add, show nx + 8 = (nx + 7) + 1 by omega, nI_pred]
  have em : nI (nx + 7) - nI (nx + 7) / (8 : Int32) * (8 : Int32) = nI ((nx + 7) % 8) := mod8_a (nx + 7) (by omega)
  have hp : (nx + 7) % 8 < 8 := Nat.mod_lt _ (by decide)
  have hcl : (nI ((nx + 7) % 8)).toNatClampNeg = (nx + 7) % 8 := nI_clamp (by omega)
  have e1 : (setI σ 189 1 (nI ((nx + 7) % 8))).1 189 2 = nI (l.length + 1) := by rw [q1e rfl, un (by decide)]; exact r2
  have e2 : (setI (setI σ 189 1 (nI ((nx + 7) % 8))) 189 2 (nI l.length)).1 189 1 = nI ((nx + 7) % 8) := by rw [q1e rfl, un (by decide), q1e rfl, ue rfl]
  have e : f_X4_bringBack σ 2 = f_X6_copyFrom (setI (setI σ 189 1 (nI ((nx + 7) % 8))) 189 2 (nI l.length)) 2 (53 + 17 * ((nx + 7) % 8)) := by
    unfold f_X4_bringBack
    simp only [bnd]
    rw [r4, e0, em, e1, nI_pred, e2, hcl]
  have k1 : Kp (fun j => ¬ j = 189) σ (setI (setI σ 189 1 (nI ((nx + 7) % 8))) 189 2 (nI l.length)) := kp_setI (kp_setI Kp.rf (fun q => q rfl)) (fun q => q rfl)
  have k2 := copy_kp (setI (setI σ 189 1 (nI ((nx + 7) % 8))) 189 2 (nI l.length)) 2 (53 + 17 * ((nx + 7) % 8))
  have kk : Kp (fun j => ¬ (2 ≤ j ∧ j < 19) ∧ ¬ j = 189) σ (f_X4_bringBack σ 2) := by
    rw [e]
    exact (k1.wk (fun i hi => hi.2)).tr (k2.wk (fun i hi => hi.1))
  obtain ⟨z1, z2⟩ := r5 0 D rfl
  rw [Nat.sub_zero] at z1
  have z3 : Off (setI (setI σ 189 1 (nI ((nx + 7) % 8))) 189 2 (nI l.length)) (53 + 17 * ((nx + 7) % 8)) D.1 D.2 := z1.kp k1 (fun i hi => by omega)
  refine ⟨?_, ⟨by omega, ?_, (nx + 7) % 8, hp, ?_, ?_⟩, ?_, z2, ?_, kk⟩
  · unfold ok_X4_bringBack
    simp only [bndP]
    rw [r4, e0, em, e1, nI_pred, e2]
    exact vp_in_nI hp (by decide)
  · rw [e, (k2.1 189 (by omega)).1, q1e rfl, ue rfl]
  · rw [e, (k2.1 189 (by omega)).1]; exact e2
  · intro j E hj
    have hjl : j < l.length := (List.getElem?_eq_some_iff.mp hj).1
    obtain ⟨y1, y2⟩ := r5 (j + 1) E hj
    rw [show (nx + 7 - (j + 1)) % 8 = ((nx + 7) % 8 + 7 - j) % 8 by omega] at y1
    exact ⟨y1.kp kk (fun i hi => ⟨by omega, by omega⟩), y2⟩
  · rw [e]; exact z3.copy z2.n20 (by omega)
  · rw [e, (k2.1 189 (by omega)).1, q1e rfl, ue rfl]
theorem Ring.kp {σ' : St} {l : List Dat} {P : Nat → Prop} (h : Ring σ l) (hk : Kp P σ σ') (hp : ∀ j, 53 ≤ j → j < 190 → P j) : Ring σ' l := by
  obtain ⟨r1, r2, nx, r3, r4, r5⟩ := h
  have e := (hk.1 189 (hp 189 (by decide) (by decide))).1
  refine ⟨r1, by rw [e]; exact r2, nx, r3, by rw [e]; exact r4, fun j D hj => ?_⟩
  obtain ⟨a, b⟩ := r5 j D hj
  exact ⟨a.kp hk (fun i hi => hp _ (by omega) (by omega)), b⟩
/-- the reference's list -/
theorem Und.kp {σ' : St} {l : List Dat} (h : Und σ l) (h13 : σ'.1 196 13 = σ.1 196 13) (h14 : σ'.1 196 14 = σ.1 196 14) (h198 : σ'.1 198 = σ.1 198) (h202 : σ'.2.1 202 = σ.2.1 202) : Und σ' l := by
  obtain ⟨r1, r2, fc, r3, r4, r5⟩ := h
  refine ⟨r1, by rw [h13]; exact r2, fc, r3, by rw [h14]; exact r4, fun j D hj => ?_⟩
  rw [h198, h202]
  exact r5 j D hj
theorem nI_at146 {p k : Nat} (hp : p < 8) (hk : k < 146) : (((146 : Int32) * nI p) + nI k).toNatClampNeg = 146 * p + k ∧ vp_in (((146 : Int32) * nI p) + nI k) 1168 := by
  rw [show (146 : Int32) = nI 146 from rfl, nI_mul, nI_add, nI_clamp (by omega)]
  exact ⟨rfl, vp_in_nI (by omega) (by decide)⟩
theorem nI_at36 {p k : Nat} (hp : p < 8) (hk : k < 36) : (((36 : Int32) * nI p) + nI k).toNatClampNeg = 36 * p + k ∧ vp_in (((36 : Int32) * nI p) + nI k) 288 := by
  rw [show (36 : Int32) = nI 36 from rfl, nI_mul, nI_add, nI_clamp (by omega)]
  exact ⟨rfl, vp_in_nI (by omega) (by decide)⟩
/-- the mind into place p -/
theorem md_mind (σ : St) {p : Nat} (hp : p < 8) : okX10_keepsMind_L47 2000 σ (nI p) 0 ∧ ∃ σ', fX10_keepsMind_L47 2000 σ (nI p) 0 = setI σ' 196 13 (σ.1 196 13 + 1) ∧ (∀ k, k < 146 → σ'.1 198 (146 * p + k) = σ.1 200 k) ∧ (∀ k, k < 36 → σ'.2.1 202 (36 * p + k) = σ.2.1 204 k) ∧ (∀ q k, ¬ q = p → k < 146 → σ'.1 198 (146 * q + k) = σ.1 198 (146 * q + k)) ∧ (∀ q k, ¬ q = p → k < 36 → σ'.2.1 202 (36 * q + k) = σ.2.1 202 (36 * q + k)) ∧ Kp (fun j => ¬ j = 198 ∧ ¬ j = 202) σ σ' := by
  obtain ⟨τ, a1, a2, a3, a4, a5, a6⟩ := cp1_0 (N := 146) (dst := 198) (src := 200) (fun fu σ k => fX10_keepsMind_L47 fu σ (nI p) k) (fun fu σ k => okX10_keepsMind_L47 fu σ (nI p) k) (fun σ => fX10_keepsMind_L80 2000 σ (nI p) 0) (fun σ => okX10_keepsMind_L80 2000 σ (nI p) 0) (fun k => 146 * p + k) id σ (by decide) (by decide) (fun i j _ _ h => by omega)
    (fun fu σ => by
      have h : (146 : Int32) ≤ nI 146 := by decide
      exact ⟨by simp [fX10_keepsMind_L47, h], fun q => by simp [okX10_keepsMind_L47, h, q]⟩)
    (fun fu σ k hk => by
      have h : ¬ (146 : Int32) ≤ nI k := nI_ge (b := 146) hk (by decide)
      have hc : (nI k).toNatClampNeg = k := nI_clamp (by omega)
      have hv : vp_in (nI k) 146 := vp_in_nI hk (by decide)
      obtain ⟨g1, g2⟩ := nI_at146 hp hk
      exact ⟨by simp [fX10_keepsMind_L47, h, hc, g1, bnd, nI_1], fun q => by simp [okX10_keepsMind_L47, h, hc, hv, g1, g2, bndP, nI_1]; exact q⟩)
  obtain ⟨τ2, b1, b2, b3, b4, b5, b6, b7⟩ := cp2_0 (N := 36) (dst := 202) (src := 204) (fun fu σ k => fX10_keepsMind_L80 fu σ (nI p) k) (fun fu σ k => okX10_keepsMind_L80 fu σ (nI p) k) (fun σ => setI σ 196 13 (σ.1 196 13 + 1)) (fun _ => True) (fun k => 36 * p + k) id τ (by decide) (by decide) (fun i j _ _ h => by omega)
    (fun fu σ => by
      have h : (36 : Int32) ≤ nI 36 := by decide
      exact ⟨by simp [fX10_keepsMind_L80, h, bnd], fun q => by simp [okX10_keepsMind_L80, h]⟩)
    (fun fu σ k hk => by
      have h : ¬ (36 : Int32) ≤ nI k := nI_ge (b := 36) hk (by decide)
      have hc : (nI k).toNatClampNeg = k := nI_clamp (by omega)
      have hv : vp_in (nI k) 36 := vp_in_nI hk (by decide)
      obtain ⟨g1, g2⟩ := nI_at36 hp hk
      exact ⟨by simp [fX10_keepsMind_L80, h, hc, g1, bnd, nI_1], fun q => by simp [okX10_keepsMind_L80, h, hc, hv, g1, g2, bndP, nI_1]; exact q⟩)
  refine ⟨a2 (b2 trivial), τ2, ?_, fun k hk => ?_, fun k hk => ?_, fun q k hq hk => ?_, fun q k hq hk => ?_, fun j hj => ⟨?_, ?_⟩, ?_⟩
  · have e13 : τ2.1 196 13 = σ.1 196 13 := by rw [b6, a5 196 (by decide)]
    rw [← e13]
    exact a1.trans b1
  · rw [b6]; exact a3 k hk
  · have := b3 k hk
    rw [show τ.2.1 204 = σ.2.1 204 by rw [a6]] at this
    exact this
  · rw [b6]; exact a4 _ (fun k' hk' => by show ¬ 146 * q + k = 146 * p + k'; omega)
  · rw [b4 _ (fun k' hk' => by show ¬ 36 * q + k = 36 * p + k'; omega), a6]
  · rw [b6]; exact a5 j hj.1
  · rw [b5 j hj.2, a6]
  · rw [b7, a6]
theorem md_keeps {l : List Dat} {D : Dat} (hU : Und σ l) (hw : ∀ k, k < 146 → σ.1 200 k = D.1 k) (hf : ∀ k, k < 36 → σ.2.1 204 k = D.2 k) : ok_X10_keepsMind σ ∧ Und (f_X10_keepsMind σ) ((D :: l).take 8) ∧ Kp (fun j => ¬ j = 196 ∧ ¬ j = 198 ∧ ¬ j = 202) σ (f_X10_keepsMind σ) ∧ (∀ k, ¬ k = 13 → ¬ k = 14 → (f_X10_keepsMind σ).1 196 k = σ.1 196 k) ∧ (f_X10_keepsMind σ).2.1 196 = σ.2.1 196 := by
  obtain ⟨r1, r2, fc, r3, r4, r5⟩ := hU
  have r2' : σ.1 196 13 = nI l.length := r2
  by_cases q : l.length < 8
  · have hne : ¬ σ.1 196 13 = 8 := by rw [r2']; exact fun z => absurd (nI_inj (b := 8) (by omega) (by decide) z) (by omega)
    have hp : (fc + l.length) % 8 < 8 := Nat.mod_lt _ (by decide)
    have em : (σ.1 196 14 + σ.1 196 13) - (σ.1 196 14 + σ.1 196 13) / (8 : Int32) * (8 : Int32) = nI ((fc + l.length) % 8) := by
      rw [r4, r2', nI_add]; exact mod8_a _ (by omega)
    obtain ⟨m1, σ1, m2, m3, m4, m5, m6, m7⟩ := md_mind σ hp
    have e : f_X10_keepsMind σ = setI σ1 196 13 (nI (l.length + 1)) := by
      unfold f_X10_keepsMind
      rw [if_neg hne, em, m2, r2', nI_1]
    have hlen : ((D :: l).take 8).length = l.length + 1 := by rw [take_len, if_pos q]
    refine ⟨?_, ⟨by omega, ?_, fc, r3, ?_, ?_⟩, ?_, ?_, ?_⟩
    · unfold ok_X10_keepsMind
      rw [em]
      exact ⟨fun z => absurd z hne, fun _ => m1⟩
    · rw [e, q1e rfl, ue rfl, hlen]
    · rw [e, q1e rfl, un (by decide), (m7.1 196 (by decide)).1]; exact r4
    · intro j E hj
      rw [hlen, e]
      have x1 : (setI σ1 196 13 (nI (l.length + 1))).1 198 = σ1.1 198 := q1n (by decide)
      have x2 : (setI σ1 196 13 (nI (l.length + 1))).2.1 202 = σ1.2.1 202 := rfl
      rw [x1, x2]
      rcases take_at hj with ⟨rfl, rfl⟩ | ⟨h1, h2, h3⟩
      · rw [show (fc + (l.length + 1) + 7 - 0) % 8 = (fc + l.length) % 8 by omega]
        exact ⟨fun k hk => (m3 k hk).trans (hw k hk), fun k hk => (m4 k hk).trans (hf k hk)⟩
      · have hjl : j - 1 < l.length := (List.getElem?_eq_some_iff.mp h3).1
        obtain ⟨z1, z2⟩ := r5 (j - 1) E h3
        rw [show (fc + l.length + 7 - (j - 1)) % 8 = (fc + (l.length + 1) + 7 - j) % 8 by omega] at z1 z2
        exact ⟨fun k hk => (m5 _ k (by omega) hk).trans (z1 k hk), fun k hk => (m6 _ k (by omega) hk).trans (z2 k hk)⟩
    · rw [e]; exact kp_setI (m7.wk (fun i hi => hi.2)) (fun z => z.1 rfl)
    · intro k k1 k2
      rw [e, q1e rfl, un k1, (m7.1 196 (by decide)).1]
    · rw [e]; exact (m7.1 196 (by decide)).2
  · have h8 : l.length = 8 := by omega
    have heq0 : σ.1 196 13 = nI 8 := by rw [r2', h8]
    have heq : σ.1 196 13 = 8 := heq0
    have e1 : nI fc + 1 - (nI fc + 1) / (8 : Int32) * (8 : Int32) = nI ((fc + 1) % 8) := by rw [nI_1]; exact mod8_a _ (by omega)
    have e2 : (setI σ 196 14 (nI ((fc + 1) % 8))).1 196 13 - 1 = nI 7 := by rw [q1e rfl, un (by decide), heq0]; exact nI_pred 7
    have hp : ((fc + 1) % 8 + 7) % 8 < 8 := Nat.mod_lt _ (by decide)
    have x14 : (setI (setI σ 196 14 (nI ((fc + 1) % 8))) 196 13 (nI 7)).1 196 14 = nI ((fc + 1) % 8) := by rw [q1e rfl, un (by decide), q1e rfl, ue rfl]
    have x13 : (setI (setI σ 196 14 (nI ((fc + 1) % 8))) 196 13 (nI 7)).1 196 13 = nI 7 := by rw [q1e rfl, ue rfl]
    have em : nI ((fc + 1) % 8) + nI 7 - (nI ((fc + 1) % 8) + nI 7) / (8 : Int32) * (8 : Int32) = nI (((fc + 1) % 8 + 7) % 8) := by
      rw [nI_add]; exact mod8_a _ (by omega)
    obtain ⟨m1, σ1, m2, m3, m4, m5, m6, m7⟩ := md_mind (setI (setI σ 196 14 (nI ((fc + 1) % 8))) 196 13 (nI 7)) hp
    have e : f_X10_keepsMind σ = setI σ1 196 13 (nI 8) := by
      unfold f_X10_keepsMind
      rw [if_pos heq]
      simp only [bnd_eq]
      rw [r4, e1, e2, x14, x13, em, m2, x13, nI_1]
    have hlen : ((D :: l).take 8).length = 8 := by rw [take_len, if_neg q]
    have y200 : (setI (setI σ 196 14 (nI ((fc + 1) % 8))) 196 13 (nI 7)).1 200 = σ.1 200 := by rw [q1n (by decide), q1n (by decide)]
    have y198 : (setI (setI σ 196 14 (nI ((fc + 1) % 8))) 196 13 (nI 7)).1 198 = σ.1 198 := by rw [q1n (by decide), q1n (by decide)]
    rw [y200] at m3
    rw [y198] at m5
    have y2 : (setI (setI σ 196 14 (nI ((fc + 1) % 8))) 196 13 (nI 7)).2.1 = σ.2.1 := rfl
    rw [y2] at m4 m6
    refine ⟨?_, ⟨by omega, ?_, (fc + 1) % 8, Nat.mod_lt _ (by decide), ?_, ?_⟩, ?_, ?_, ?_⟩
    · unfold ok_X10_keepsMind
      simp only [bndP]
      rw [r4, e1, e2, x14, x13, em]
      exact ⟨fun _ => m1, fun z => absurd heq z⟩
    · rw [e, q1e rfl, ue rfl, hlen]
    · rw [e, q1e rfl, un (by decide), (m7.1 196 (by decide)).1]; exact x14
    · intro j E hj
      rw [hlen, e]
      have x1 : (setI σ1 196 13 (nI 8)).1 198 = σ1.1 198 := q1n (by decide)
      have x2 : (setI σ1 196 13 (nI 8)).2.1 202 = σ1.2.1 202 := rfl
      rw [x1, x2]
      rcases take_at hj with ⟨rfl, rfl⟩ | ⟨h1, h2, h3⟩
      · rw [show ((fc + 1) % 8 + 8 + 7 - 0) % 8 = ((fc + 1) % 8 + 7) % 8 by omega]
        exact ⟨fun k hk => (m3 k hk).trans (hw k hk), fun k hk => (m4 k hk).trans (hf k hk)⟩
      · obtain ⟨z1, z2⟩ := r5 (j - 1) E h3
        rw [h8, show (fc + 8 + 7 - (j - 1)) % 8 = ((fc + 1) % 8 + 8 + 7 - j) % 8 by omega] at z1 z2
        exact ⟨fun k hk => (m5 _ k (by omega) hk).trans (z1 k hk), fun k hk => (m6 _ k (by omega) hk).trans (z2 k hk)⟩
    · rw [e]
      have k0 : Kp (fun j => ¬ j = 196) σ (setI (setI σ 196 14 (nI ((fc + 1) % 8))) 196 13 (nI 7)) := kp_setI (kp_setI Kp.rf (fun z => z rfl)) (fun z => z rfl)
      exact kp_setI ((k0.wk (fun i hi => hi.1)).tr (m7.wk (fun i hi => hi.2))) (fun z => z.1 rfl)
    · intro k k1 k2
      rw [e, q1e rfl, un k1, (m7.1 196 (by decide)).1, q1e rfl, un k1, q1e rfl, un k2]
    · rw [e]; exact (m7.1 196 (by decide)).2
theorem md_remembers {l : List Dat} {w : Nat → Int32} {f : Nat → UInt32} (hU : Und σ l) (hw : σ.1 197 = w) (hf : σ.2.1 201 = f) : ok_X10_remembers σ ∧ Und (f_X10_remembers σ) (((w, f) :: l).take 8) ∧ Kp (fun j => ¬ j = 196 ∧ ¬ j = 198 ∧ ¬ j = 202 ∧ ¬ j = 200 ∧ ¬ j = 204) σ (f_X10_remembers σ) ∧ (∀ k, ¬ k = 13 → ¬ k = 14 → (f_X10_remembers σ).1 196 k = σ.1 196 k) := by
  obtain ⟨t1, t2, t3, t4⟩ := md_thinks σ
  rw [hw] at t2
  rw [hf] at t3
  have hU2 : Und (f_X10_thinks σ) l := hU.kp (by rw [(t4.1 196 (by decide)).1]) (by rw [(t4.1 196 (by decide)).1]) (t4.1 198 (by decide)).1 (t4.1 202 (by decide)).2
  obtain ⟨k1, k2, k3, k4, k5⟩ := md_keeps (D := (w, f)) hU2 t2 t3
  have e : f_X10_remembers σ = f_X10_keepsMind (f_X10_thinks σ) := by unfold f_X10_remembers; simp only [bnd]
  rw [e]
  refine ⟨by unfold ok_X10_remembers; simp only [bndP]; exact ⟨t1, k1⟩, k2, (t4.wk (fun i hi => ⟨hi.2.2.2.1, hi.2.2.2.2⟩)).tr (k3.wk (fun i hi => ⟨hi.1, hi.2.1, hi.2.2.1⟩)), fun k a b => (k4 k a b).trans (by rw [(t4.1 196 (by decide)).1])⟩
end HST
