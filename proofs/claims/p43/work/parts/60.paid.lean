/-! pure aid: rows by label, loops, counts -/
theorem s1_setI (σ : St) (i k : Nat) (v : Int32) (j : Nat) : (setI σ i k v).1 j = if j = i then upd (σ.1 i) k v else σ.1 j := rfl
theorem s2_setI (σ : St) (i k : Nat) (v : Int32) : (setI σ i k v).2 = σ.2 := rfl
theorem s1_setF (σ : St) (i k : Nat) (v : UInt32) : (setF σ i k v).1 = σ.1 := rfl
theorem s2_setF (σ : St) (i k : Nat) (v : UInt32) (j : Nat) : (setF σ i k v).2.1 j = if j = i then vf_upd (σ.2.1 i) k v else σ.2.1 j := rfl
theorem s3_setF (σ : St) (i k : Nat) (v : UInt32) : (setF σ i k v).2.2 = σ.2.2 := rfl
theorem s1_rowI (σ : St) (i : Nat) (g : Nat → Int32) (j : Nat) : (rowI σ i g).1 j = if j = i then g else σ.1 j := rfl
theorem s2_rowI (σ : St) (i : Nat) (g : Nat → Int32) : (rowI σ i g).2 = σ.2 := rfl
theorem s1_rowF (σ : St) (i : Nat) (g : Nat → UInt32) : (rowF σ i g).1 = σ.1 := rfl
theorem s2_rowF (σ : St) (i : Nat) (g : Nat → UInt32) (j : Nat) : (rowF σ i g).2.1 j = if j = i then g else σ.2.1 j := rfl
theorem s3_rowF (σ : St) (i : Nat) (g : Nat → UInt32) : (rowF σ i g).2.2 = σ.2.2 := rfl
theorem s12_setJ (σ : St) (i k : Nat) (v : Int64) : (setJ σ i k v).1 = σ.1 ∧ (setJ σ i k v).2.1 = σ.2.1 := ⟨rfl, rfl⟩
theorem upd_at (g : Nat → Int32) (k : Nat) (v : Int32) (l : Nat) : upd g k v l = if l = k then v else g l := rfl
theorem vfu_at (g : Nat → UInt32) (k : Nat) (v : UInt32) (l : Nat) : vf_upd g k v l = if l = k then v else g l := rfl
/-- what a step leaves as it is -/
def Kp (P : Nat → Prop) (σ σ' : St) : Prop := (∀ i, P i → σ'.1 i = σ.1 i ∧ σ'.2.1 i = σ.2.1 i) ∧ σ'.2.2 = σ.2.2
theorem Kp.rf {P : Nat → Prop} {σ : St} : Kp P σ σ := ⟨fun _ _ => ⟨rfl, rfl⟩, rfl⟩
theorem Kp.tr {P : Nat → Prop} {σ σ1 σ2 : St} (h1 : Kp P σ σ1) (h2 : Kp P σ1 σ2) : Kp P σ σ2 :=
  ⟨fun i hi => ⟨(h2.1 i hi).1.trans (h1.1 i hi).1, (h2.1 i hi).2.trans (h1.1 i hi).2⟩, h2.2.trans h1.2⟩
theorem Kp.wk {P Q : Nat → Prop} {σ σ' : St} (h : Kp P σ σ') (hq : ∀ i, Q i → P i) : Kp Q σ σ' := ⟨fun i hi => h.1 i (hq i hi), h.2⟩
theorem kp_ne {P : Nat → Prop} {i j : Nat} (hi : ¬ P i) (hj : P j) : ¬ j = i := fun e => hi (by rw [← e]; exact hj)
theorem kp_setI {P : Nat → Prop} {σ σ0 : St} {i k : Nat} {v : Int32} (h : Kp P σ0 σ) (hi : ¬ P i) : Kp P σ0 (setI σ i k v) :=
  h.tr ⟨fun j hj => ⟨by rw [s1_setI, if_neg (kp_ne hi hj)], rfl⟩, rfl⟩
theorem kp_setF {P : Nat → Prop} {σ σ0 : St} {i k : Nat} {v : UInt32} (h : Kp P σ0 σ) (hi : ¬ P i) : Kp P σ0 (setF σ i k v) :=
  h.tr ⟨fun j hj => ⟨rfl, by rw [s2_setF, if_neg (kp_ne hi hj)]⟩, rfl⟩
theorem kp_rowI {P : Nat → Prop} {σ σ0 : St} {i : Nat} {g : Nat → Int32} (h : Kp P σ0 σ) (hi : ¬ P i) : Kp P σ0 (rowI σ i g) :=
  h.tr ⟨fun j hj => ⟨by rw [s1_rowI, if_neg (kp_ne hi hj)], rfl⟩, rfl⟩
theorem kp_rowF {P : Nat → Prop} {σ σ0 : St} {i : Nat} {g : Nat → UInt32} (h : Kp P σ0 σ) (hi : ¬ P i) : Kp P σ0 (rowF σ i g) :=
  h.tr ⟨fun j hj => ⟨rfl, by rw [s2_rowF, if_neg (kp_ne hi hj)]⟩, rfl⟩
/-- a loop over 0 .. n -/
def lp {α : Type} (g : Nat → α → α) : Nat → Nat → α → α
  | 0, _, a => a
  | m + 1, k, a => lp g m (k + 1) (g k a)
theorem lp_sr {α : Type} (g : Nat → α → α) : ∀ (m k : Nat) (a : α), lp g (m + 1) k a = g (k + m) (lp g m k a) := by
  intro m
  induction m with
  | zero => intro k a; rfl
  | succ m ih =>
    intro k a
    show lp g (m + 1) (k + 1) (g k a) = g (k + (m + 1)) (lp g m (k + 1) (g k a))
    rw [ih (k + 1) (g k a), show k + 1 + m = k + (m + 1) by omega]
theorem lp_congr {α : Type} {g g' : Nat → α → α} : ∀ (m k : Nat) (a : α), (∀ i, k ≤ i → i < k + m → ∀ b, g i b = g' i b) → lp g m k a = lp g' m k a := by
  intro m
  induction m with
  | zero => intro k a _; rfl
  | succ m ih =>
    intro k a h
    show lp g m (k + 1) (g k a) = lp g' m (k + 1) (g' k a)
    rw [h k (Nat.le_refl _) (by omega), ih (k + 1) _ (fun i h1 h2 => h i (by omega) (by omega))]
theorem lp_run {α β : Type} {n : Nat} (F : Nat → α → Int32 → β) (ok : Nat → α → Int32 → Prop) (g : Nat → α → α) (r : α → β) (P : Nat → α → Prop)
    (h0 : ∀ f a, P n a → ok (f + 1) a (nI n) ∧ F (f + 1) a (nI n) = r a)
    (h1 : ∀ f k a, k < n → P k a → P (k + 1) (g k a) ∧ (ok f (g k a) (nI (k + 1)) → ok (f + 1) a (nI k)) ∧ F (f + 1) a (nI k) = F f (g k a) (nI (k + 1))) :
    ∀ (m f k : Nat) (a : α), m < f → k + m = n → P k a → ok f a (nI k) ∧ F f a (nI k) = r (lp g m k a) ∧ P n (lp g m k a) := by
  intro m
  induction m with
  | zero =>
    intro f k a hf hk hP
    obtain ⟨f, rfl⟩ : ∃ z, f = z + 1 := ⟨f - 1, by omega⟩
    have : k = n := by omega
    subst this
    exact ⟨(h0 f a hP).1, (h0 f a hP).2, hP⟩
  | succ m ih =>
    intro f k a hf hk hP
    obtain ⟨f, rfl⟩ : ∃ z, f = z + 1 := ⟨f - 1, by omega⟩
    obtain ⟨a1, a2, a3⟩ := h1 f k a (by omega) hP
    obtain ⟨b1, b2, b3⟩ := ih f (k + 1) (g k a) (by omega) (by omega) a1
    exact ⟨a2 b1, a3.trans b2, b3⟩
theorem lp_run0 {α β : Type} {n : Nat} (F : Nat → α → Int32 → β) (ok : Nat → α → Int32 → Prop) (g : Nat → α → α) (r : α → β) (P : Nat → α → Prop) (a : α) (hn : n < 2000) (hP : P 0 a)
    (h0 : ∀ f a, P n a → ok (f + 1) a (nI n) ∧ F (f + 1) a (nI n) = r a)
    (h1 : ∀ f k a, k < n → P k a → P (k + 1) (g k a) ∧ (ok f (g k a) (nI (k + 1)) → ok (f + 1) a (nI k)) ∧ F (f + 1) a (nI k) = F f (g k a) (nI (k + 1))) :
    ok 2000 a 0 ∧ F 2000 a 0 = r (lp g n 0 a) ∧ P n (lp g n 0 a) :=
  lp_run F ok g r P h0 h1 n 2000 0 a hn (Nat.zero_add n) hP
/-- how many below n -/
def cn (p : Nat → Bool) : Nat → Nat
  | 0 => 0
  | n + 1 => cn p n + (if p n = true then 1 else 0)
theorem cn_congr {p q : Nat → Bool} : ∀ n, (∀ i, i < n → p i = q i) → cn p n = cn q n := by
  intro n
  induction n with
  | zero => intro _; rfl
  | succ n ih =>
    intro h
    show cn p n + _ = cn q n + _
    rw [ih (fun i hi => h i (by omega)), h n (by omega)]
theorem cn_le (p : Nat → Bool) : ∀ n, cn p n ≤ n := by
  intro n
  induction n with
  | zero => exact Nat.le_refl 0
  | succ n ih =>
    show cn p n + _ ≤ n + 1
    split <;> omega
theorem cn_zero {p : Nat → Bool} : ∀ n, cn p n = 0 ↔ ∀ i, i < n → p i = false := by
  intro n
  induction n with
  | zero => exact ⟨fun _ i hi => absurd hi (Nat.not_lt_zero i), fun _ => rfl⟩
  | succ n ih =>
    constructor
    · intro h i hi
      have h : cn p n + (if p n = true then 1 else 0) = 0 := h
      have h2 : p n = false := by
        cases hp : p n with
        | false => rfl
        | true => rw [if_pos hp] at h; omega
      rcases Nat.lt_or_ge i n with q | q
      · exact ih.mp (by omega) i q
      · rw [show i = n by omega]; exact h2
    · intro h
      show cn p n + (if p n = true then 1 else 0) = 0
      rw [ih.mpr (fun i hi => h i (by omega)), h n (by omega)]
      rfl
/-- one more holds, at a -/
theorem cn_upd {p q : Nat → Bool} {a : Nat} (hp : p a = false) (hq : q a = true) (h : ∀ i, i ≠ a → q i = p i) : ∀ n, a < n → cn q n = cn p n + 1 := by
  intro n
  induction n with
  | zero => intro h; exact absurd h (Nat.not_lt_zero a)
  | succ n ih =>
    intro ha
    show cn q n + (if q n = true then 1 else 0) = cn p n + (if p n = true then 1 else 0) + 1
    rcases Nat.lt_or_ge a n with z | z
    · rw [ih z, h n (by omega)]; omega
    · have : a = n := by omega
      subst this
      rw [hp, hq, cn_congr (q := p) a (fun i hi => h i (by omega))]
      rfl
theorem cn_lp (p : Nat → Bool) : ∀ (n : Nat), lp (fun i a => if p i = true then a + 1 else a) n 0 (0 : Int32) = nI (cn p n) := by
  intro n
  induction n with
  | zero => rfl
  | succ n ih =>
    rw [lp_sr, Nat.zero_add, ih]
    show (if p n = true then nI (cn p n) + 1 else nI (cn p n)) = nI (cn p n + (if p n = true then 1 else 0))
    split
    · exact nI_1 _
    · rfl
/-- sums -/
def sm (g : Nat → Nat) : Nat → Nat
  | 0 => 0
  | n + 1 => sm g n + g n
theorem sm_congr {g h : Nat → Nat} : ∀ n, (∀ i, i < n → g i = h i) → sm g n = sm h n := by
  intro n
  induction n with
  | zero => intro _; rfl
  | succ n ih =>
    intro e
    show sm g n + g n = sm h n + h n
    rw [ih (fun i hi => e i (by omega)), e n (by omega)]
theorem sm_add (g h : Nat → Nat) : ∀ n, sm (fun i => g i + h i) n = sm g n + sm h n := by
  intro n
  induction n with
  | zero => rfl
  | succ n ih =>
    show sm (fun i => g i + h i) n + (g n + h n) = sm g n + g n + (sm h n + h n)
    rw [ih]; omega
theorem sm_0 : ∀ n, sm (fun _ => 0) n = 0 := by
  intro n
  induction n with
  | zero => rfl
  | succ n ih => show sm (fun _ => 0) n + 0 = 0; rw [ih]
theorem sm_swap (g : Nat → Nat → Nat) (m : Nat) : ∀ n, sm (fun i => sm (fun j => g i j) m) n = sm (fun j => sm (fun i => g i j) n) m := by
  intro n
  induction n with
  | zero => exact (sm_0 m).symm
  | succ n ih =>
    show sm (fun i => sm (fun j => g i j) m) n + sm (fun j => g n j) m = sm (fun j => sm (fun i => g i j) n + g n j) m
    rw [ih, sm_add]
theorem sm_cn (p : Nat → Bool) : ∀ n, sm (fun i => if p i = true then 1 else 0) n = cn p n := by
  intro n
  induction n with
  | zero => rfl
  | succ n ih => show sm _ n + _ = cn p n + _; rw [ih]
/-- exactly one below n -/
theorem cn_one {p : Nat → Bool} {a n : Nat} (ha : a < n) (hp : p a = true) (h : ∀ i, i < n → p i = true → i = a) : cn p n = 1 := by
  have h0 : cn (fun i => p i && decide (i ≠ a)) n = 0 := (cn_zero n).mpr (fun i hi => by
    cases hpi : p i with
    | false => rfl
    | true =>
      have := h i hi hpi
      simp [this])
  rw [cn_upd (p := fun i => p i && decide (i ≠ a)) (q := p) (a := a) (by simp) hp (fun i hi => by simp [hi]) n ha, h0]
/-- clamps of literals -/
theorem cl_0 : (0 : Int32).toNatClampNeg = 0 := by decide
theorem cl_1 : (1 : Int32).toNatClampNeg = 1 := by decide
theorem cl_2 : (2 : Int32).toNatClampNeg = 2 := by decide
theorem cl_3 : (3 : Int32).toNatClampNeg = 3 := by decide
theorem cl_4 : (4 : Int32).toNatClampNeg = 4 := by decide
theorem cl_5 : (5 : Int32).toNatClampNeg = 5 := by decide
theorem cl_13 : (13 : Int32).toNatClampNeg = 13 := by decide
theorem cl_14 : (14 : Int32).toNatClampNeg = 14 := by decide
theorem cl_15 : (15 : Int32).toNatClampNeg = 15 := by decide
theorem nI_mul (a b : Nat) : nI a * nI b = nI (a * b) := (Int32.ofNat_mul a b).symm
theorem ir_iff {x lo hi : Int32} : f_X9_inRange x lo hi = true ↔ (¬ x < lo ∧ ¬ hi < x) := by
  unfold f_X9_inRange
  by_cases h1 : x < lo
  · rw [if_pos h1]; exact ⟨(fun h => by cases h), fun h => absurd h1 h.1⟩
  · rw [if_neg h1]
    by_cases h2 : hi < x
    · rw [if_pos h2]; exact ⟨(fun h => by cases h), fun h => absurd h2 h.2⟩
    · rw [if_neg h2]; exact ⟨fun _ => ⟨h1, h2⟩, fun _ => rfl⟩
theorem ir_nI {x : Int32} {a b : Nat} (ha : a < 2 ^ 31) (hb : b < 2 ^ 31) (h : f_X9_inRange x (nI a) (nI b) = true) : ∃ k, x = nI k ∧ a ≤ k ∧ k ≤ b := by
  obtain ⟨h1, h2⟩ := ir_iff.mp h
  rw [Int32.lt_iff_toInt_lt, nI_toInt ha] at h1
  rw [Int32.lt_iff_toInt_lt, nI_toInt hb] at h2
  obtain ⟨k, hk, rfl⟩ := nI_of (x := x) (by rw [Int32.lt_iff_toInt_lt, show (0 : Int32).toInt = 0 from by decide]; omega)
  rw [nI_toInt hk] at h1 h2
  exact ⟨k, rfl, by omega, by omega⟩
theorem nI_ir {k a b : Nat} (ha : a ≤ k) (hb : k ≤ b) (hb2 : b < 2 ^ 31) : f_X9_inRange (nI k) (nI a) (nI b) = true :=
  ir_iff.mpr ⟨nI_nlt ha (by omega), nI_nlt hb hb2⟩
theorem ir_not {k a b : Nat} (h : ¬ (a ≤ k ∧ k ≤ b)) (ha : a < 2 ^ 31) (hb2 : b < 2 ^ 31) (hk : k < 2 ^ 31) : f_X9_inRange (nI k) (nI a) (nI b) = false := by
  cases h2 : f_X9_inRange (nI k) (nI a) (nI b) with
  | false => rfl
  | true =>
    obtain ⟨h3, h4⟩ := ir_iff.mp h2
    rw [nI_ltI hk ha] at h3
    rw [nI_ltI hb2 hk] at h4
    exact absurd ⟨by omega, by omega⟩ h
