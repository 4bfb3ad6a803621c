/-! loops over the items, the class's -/
theorem Off.n {σ : St} {o : Nat} {w : Nat → Int32} {f : Nat → UInt32} (h : Off σ o w f) (hI : Inv w f) : σ.1 (o + 4) 8 = nI (cnt w) := h.2.1.1.trans hI.1.1
theorem Off.kind {σ : St} {o : Nat} {w : Nat → Int32} {f : Nat → UInt32} (h : Off σ o w f) {i : Nat} (hi : i < cnt w) : σ.1 (o + 4 + 1) i = it w i 0 := h.2.1.2.1 0 (by decide) i hi
theorem Off.from_ {σ : St} {o : Nat} {w : Nat → Int32} {f : Nat → UInt32} (h : Off σ o w f) {i : Nat} (hi : i < cnt w) : σ.1 (o + 4 + 2) i = it w i 1 := h.2.1.2.1 1 (by decide) i hi
theorem Off.to_ {σ : St} {o : Nat} {w : Nat → Int32} {f : Nat → UInt32} (h : Off σ o w f) {i : Nat} (hi : i < cnt w) : σ.1 (o + 4 + 3) i = it w i 2 := h.2.1.2.1 2 (by decide) i hi
theorem Off.size {σ : St} {o : Nat} {w : Nat → Int32} {f : Nat → UInt32} (h : Off σ o w f) {i : Nat} (hi : i < cnt w) : σ.1 (o + 4 + 4) i = it w i 3 := h.2.1.2.1 3 (by decide) i hi
theorem Off.state {σ : St} {o : Nat} {w : Nat → Int32} {f : Nat → UInt32} (h : Off σ o w f) {i : Nat} (hi : i < cnt w) : σ.1 (o + 4 + 5) i = it w i 4 := h.2.1.2.1 4 (by decide) i hi
theorem Off.hole {σ : St} {o : Nat} {w : Nat → Int32} {f : Nat → UInt32} (h : Off σ o w f) {i : Nat} (hi : i < cnt w) : σ.1 (o + 4 + 6) i = it w i 5 - 1 := h.2.1.2.1 5 (by decide) i hi
theorem Off.stamper {σ : St} {o : Nat} {w : Nat → Int32} {f : Nat → UInt32} (h : Off σ o w f) {i : Nat} (hi : i < cnt w) : σ.1 (o + 4 + 7) i = it w i 6 - 1 := h.2.1.2.1 6 (by decide) i hi
theorem Off.read {σ : St} {o : Nat} {w : Nat → Int32} {f : Nat → UInt32} (h : Off σ o w f) {i : Nat} (hi : i < cnt w) : σ.2.1 (o + 4 + 8) i = f (16 + i) := h.2.1.2.2 i hi
theorem Inv.n20 {w : Nat → Int32} {f : Nat → UInt32} (hI : Inv w f) : cnt w ≤ 20 := hI.1.2.1
theorem vp20 {k n : Nat} (h : k < n) (hn : n ≤ 20) : vp_in (nI k) 20 := vp_in_nI (by omega) (by decide)
section ITM
variable {σ : St} {o : Nat} {w : Nat → Int32} {f : Nat → UInt32}
theorem cl_letters (hO : Off σ o w f) (hI : Inv w f) : ok_X5_letters σ (o + 4) ∧ f_X5_letters σ (o + 4) = nI (cn (fun i => decide (it w i 0 = 0)) (cnt w)) := by
  have hn := hO.n hI
  have h20 := hI.n20
  have key := lp_run0 (n := cnt w) (fun fu a k => fX5_letters_L4 σ (o + 4) fu a k) (fun fu a k => okX5_letters_L4 σ (o + 4) fu a k) (fun i a => if decide (it w i 0 = 0) = true then a + 1 else a) id (fun _ _ => True) 0 (by omega) trivial
    (fun fu a _ => by simp [okX5_letters_L4, fX5_letters_L4, hn])
    (fun fu k a hk _ => by
      have hlt : ¬ nI (cnt w) ≤ nI k := nI_ge hk (by omega)
      have hcl : (nI k).toNatClampNeg = k := nI_clamp (by omega)
      have hv := vp20 hk h20
      by_cases hc : it w k 0 = 0
      · simp [okX5_letters_L4, fX5_letters_L4, hn, hlt, hcl, hv, hO.kind hk, hc, nI_1]
      · simp [okX5_letters_L4, fX5_letters_L4, hn, hlt, hcl, hv, hO.kind hk, hc, nI_1])
  exact ⟨key.1, key.2.1.trans (cn_lp _ _)⟩
theorem cl_inState (hO : Off σ o w f) (hI : Inv w f) (x : Int32) : ok_X5_inState σ (o + 4) x ∧ f_X5_inState σ (o + 4) x = nI (cn (fun i => decide (it w i 4 = x)) (cnt w)) := by
  have hn := hO.n hI
  have h20 := hI.n20
  have key := lp_run0 (n := cnt w) (fun fu a k => fX5_inState_L4 σ (o + 4) fu x a k) (fun fu a k => okX5_inState_L4 σ (o + 4) fu x a k) (fun i a => if decide (it w i 4 = x) = true then a + 1 else a) id (fun _ _ => True) 0 (by omega) trivial
    (fun fu a _ => by simp [okX5_inState_L4, fX5_inState_L4, hn])
    (fun fu k a hk _ => by
      have hlt : ¬ nI (cnt w) ≤ nI k := nI_ge hk (by omega)
      have hcl : (nI k).toNatClampNeg = k := nI_clamp (by omega)
      have hv := vp20 hk h20
      by_cases hc : it w k 4 = x
      · simp [okX5_inState_L4, fX5_inState_L4, hn, hlt, hcl, hv, hO.state hk, hc, nI_1]
      · simp [okX5_inState_L4, fX5_inState_L4, hn, hlt, hcl, hv, hO.state hk, hc, nI_1])
  exact ⟨key.1, key.2.1.trans (cn_lp _ _)⟩
theorem cl_taken (hO : Off σ o w f) (hI : Inv w f) (c : Nat) : ok_X5_takenLettersTo σ (o + 4) (nI c) ∧ f_X5_takenLettersTo σ (o + 4) (nI c) = nI (cn (tkn w c) (cnt w)) := by
  have hn := hO.n hI
  have h20 := hI.n20
  have key := lp_run0 (n := cnt w) (fun fu a k => fX5_takenLettersTo_L4 σ (o + 4) fu (nI c) a k) (fun fu a k => okX5_takenLettersTo_L4 σ (o + 4) fu (nI c) a k) (fun i a => if tkn w c i = true then a + 1 else a) id (fun _ _ => True) 0 (by omega) trivial
    (fun fu a _ => by simp [okX5_takenLettersTo_L4, fX5_takenLettersTo_L4, hn])
    (fun fu k a hk _ => by
      have hlt : ¬ nI (cnt w) ≤ nI k := nI_ge hk (by omega)
      have hcl : (nI k).toNatClampNeg = k := nI_clamp (by omega)
      have hv := vp20 hk h20
      by_cases h0 : it w k 0 = 0 <;> by_cases h4 : it w k 4 = 3 <;> by_cases h2 : it w k 2 = nI c <;>
        simp [okX5_takenLettersTo_L4, fX5_takenLettersTo_L4, tkn, hn, hlt, hcl, hv, hO.kind hk, hO.state hk, hO.to_ hk, h0, h4, h2, nI_1])
  exact ⟨key.1, key.2.1.trans (cn_lp _ _)⟩
/-- the words of all letters -/
def wds (w : Nat → Int32) : Int32 := lp (fun i a => if it w i 0 = 0 then a + it w i 3 else a) (cnt w) 0 0
theorem cl_words (hO : Off σ o w f) (hI : Inv w f) : ok_X5_allWords σ (o + 4) ∧ f_X5_allWords σ (o + 4) = wds w := by
  have hn := hO.n hI
  have h20 := hI.n20
  have key := lp_run0 (n := cnt w) (fun fu a k => fX5_allWords_L4 σ (o + 4) fu a k) (fun fu a k => okX5_allWords_L4 σ (o + 4) fu a k) (fun i a => if it w i 0 = 0 then a + it w i 3 else a) id (fun _ _ => True) 0 (by omega) trivial
    (fun fu a _ => by simp [okX5_allWords_L4, fX5_allWords_L4, hn])
    (fun fu k a hk _ => by
      have hlt : ¬ nI (cnt w) ≤ nI k := nI_ge hk (by omega)
      have hcl : (nI k).toNatClampNeg = k := nI_clamp (by omega)
      have hv := vp20 hk h20
      by_cases h0 : it w k 0 = 0 <;>
        simp [okX5_allWords_L4, fX5_allWords_L4, hn, hlt, hcl, hv, hO.kind hk, hO.size hk, h0, nI_1])
  exact ⟨key.1, key.2.1⟩
theorem dk_mono : ∀ k, k < 20 → (dk k).toNat ≤ (dk (k + 1)).toNat := by decide +kernel
/-- the sum of the letters' readings -/
def rds (w : Nat → Int32) (f : Nat → UInt32) : UInt64 := lp (fun i a => if it w i 0 = 0 then FP.dadd a (FP.f2d (f (16 + i))) else a) (cnt w) 0 FP.dconst0
/-- the prey: the letter on a shelf that reads worst -/
def wsg (w : Nat → Int32) (f : Nat → UInt32) (i : Nat) (a : Int32) : Int32 := if it w i 0 = 0 then (if it w i 4 = 2 then (if a = -1 then nI i else if (f (16 + i)).toNat < (f (16 + a.toNatClampNeg)).toNat then nI i else a) else a) else a
def wst (w : Nat → Int32) (f : Nat → UInt32) : Int32 := lp (wsg w f) (cnt w) 0 (-1)
def wsP (w : Nat → Int32) (k : Nat) (a : Int32) : Prop := a = -1 ∨ ∃ j, j < k ∧ a = nI j ∧ it w j 0 = 0 ∧ it w j 4 = 2
theorem wsg_P {w : Nat → Int32} {f : Nat → UInt32} {k : Nat} {a : Int32} (h : wsP w k a) : wsP w (k + 1) (wsg w f k a) := by
  have h' : wsP w (k + 1) a := by
    rcases h with h | ⟨j, h1, h2⟩
    · exact Or.inl h
    · exact Or.inr ⟨j, by omega, h2⟩
  unfold wsg
  split
  · rename_i h0
    split
    · rename_i h4
      split
      · exact Or.inr ⟨k, by omega, rfl, h0, h4⟩
      · split
        · exact Or.inr ⟨k, by omega, rfl, h0, h4⟩
        · exact h'
    · exact h'
  · exact h'
theorem nI_m1 {j : Nat} (h : j < 2 ^ 31) : ¬ nI j = -1 := by
  intro e
  have := congrArg Int32.toInt e
  rw [nI_toInt h, show (-1 : Int32).toInt = -1 from by decide] at this
  omega
theorem cl_worst (hO : Off σ o w f) (hI : Inv w f) : ok_X5_worstOnShelf σ (o + 4) ∧ f_X5_worstOnShelf σ (o + 4) = wst w f ∧ wsP w (cnt w) (wst w f) := by
  have hn := hO.n hI
  have h20 := hI.n20
  have key := lp_run0 (n := cnt w) (fun fu a k => fX5_worstOnShelf_L4 σ (o + 4) fu a k) (fun fu a k => okX5_worstOnShelf_L4 σ (o + 4) fu a k) (wsg w f) id (wsP w) (-1) (by omega) (Or.inl rfl)
    (fun fu a _ => by simp [okX5_worstOnShelf_L4, fX5_worstOnShelf_L4, hn])
    (fun fu k a hk ha => by
      refine ⟨wsg_P ha, ?_⟩
      have hlt : ¬ nI (cnt w) ≤ nI k := nI_ge hk (by omega)
      have hcl : (nI k).toNatClampNeg = k := nI_clamp (by omega)
      have hv := vp20 hk h20
      have hf : P32 (f (16 + k)) := fb_p (hI.2.2.2.2.2.2.2.2.2 k (by omega))
      unfold wsg
      by_cases h0 : it w k 0 = 0
      · by_cases h4 : it w k 4 = 2
        · rcases ha with ha | ⟨j, hj, ha, -⟩
          · subst ha
            simp [okX5_worstOnShelf_L4, fX5_worstOnShelf_L4, hn, hlt, hcl, hv, hO.kind hk, hO.state hk, h0, h4, nI_1]
          · subst ha
            have hf2 : P32 (f (16 + j)) := fb_p (hI.2.2.2.2.2.2.2.2.2 j (by omega))
            have hcj : (nI j).toNatClampNeg = j := nI_clamp (by omega)
            have hvj : vp_in (nI j) 20 := vp_in_nI (by omega) (by decide)
            have hm : ¬ nI j = -1 := nI_m1 (by omega)
            have hcmp := fl_ge0 hf hf2 CmpOp.g
            by_cases hlt2 : (f (16 + k)).toNat < (f (16 + j)).toNat
            · have hx : ¬ 0 ≤ Op.cmpValue (FP.fcmp (f (16 + k)) (f (16 + j))) CmpOp.g := fun z => absurd (hcmp.mp z) (by omega)
              simp [okX5_worstOnShelf_L4, fX5_worstOnShelf_L4, hn, hlt, hcl, hv, hO.kind hk, hO.state hk, hO.read hk, hO.read (show j < cnt w by omega), h0, h4, nI_1, hm, hcj, hvj, hlt2, hx]
            · have hx : 0 ≤ Op.cmpValue (FP.fcmp (f (16 + k)) (f (16 + j))) CmpOp.g := hcmp.mpr (by omega)
              simp [okX5_worstOnShelf_L4, fX5_worstOnShelf_L4, hn, hlt, hcl, hv, hO.kind hk, hO.state hk, hO.read hk, hO.read (show j < cnt w by omega), h0, h4, nI_1, hm, hcj, hvj, hlt2, hx]
        · simp [okX5_worstOnShelf_L4, fX5_worstOnShelf_L4, hn, hlt, hcl, hv, hO.kind hk, hO.state hk, h0, h4, nI_1]
      · simp [okX5_worstOnShelf_L4, fX5_worstOnShelf_L4, hn, hlt, hcl, hv, hO.kind hk, hO.state hk, h0, nI_1])
  exact ⟨key.1, key.2.1, key.2.2⟩
/-- a search -/
def fd (p : Nat → Bool) : Nat → Nat → Int32
  | 0, _ => -1
  | m + 1, k => if p k = true then nI k else fd p m (k + 1)
theorem fd_spec (p : Nat → Bool) : ∀ (m k : Nat), (fd p m k = -1 ∧ ∀ i, k ≤ i → i < k + m → p i = false) ∨ ∃ i, k ≤ i ∧ i < k + m ∧ fd p m k = nI i ∧ p i = true ∧ ∀ j, k ≤ j → j < i → p j = false := by
  intro m
  induction m with
  | zero => intro k; exact Or.inl ⟨rfl, fun i h1 h2 => absurd h2 (by omega)⟩
  | succ m ih =>
    intro k
    show ((if p k = true then nI k else fd p m (k + 1)) = -1 ∧ _) ∨ ∃ i, _ ∧ _ ∧ (if p k = true then nI k else fd p m (k + 1)) = nI i ∧ _ ∧ _
    by_cases hp : p k = true
    · exact Or.inr ⟨k, Nat.le_refl k, by omega, by rw [if_pos hp], hp, fun j h1 h2 => absurd h2 (by omega)⟩
    · rw [if_neg hp]
      have hpf : p k = false := by cases h : p k with | false => rfl | true => exact absurd h hp
      rcases ih (k + 1) with ⟨h1, h2⟩ | ⟨i, h1, h2, h3, h4, h5⟩
      · refine Or.inl ⟨h1, fun i a b => ?_⟩
        rcases Nat.lt_or_ge k i with q | q
        · exact h2 i q (by omega)
        · rw [show i = k by omega]; exact hpf
      · refine Or.inr ⟨i, by omega, by omega, h3, h4, fun j a b => ?_⟩
        rcases Nat.lt_or_ge k j with q | q
        · exact h5 j q b
        · rw [show j = k by omega]; exact hpf
theorem fd_congr {p q : Nat → Bool} : ∀ (m k : Nat), (∀ i, k ≤ i → i < k + m → p i = q i) → fd p m k = fd q m k := by
  intro m
  induction m with
  | zero => intro k _; rfl
  | succ m ih =>
    intro k h
    show (if p k = true then nI k else fd p m (k + 1)) = if q k = true then nI k else fd q m (k + 1)
    rw [h k (Nat.le_refl k) (by omega), ih (k + 1) (fun i a b => h i (by omega) (by omega))]
theorem fd_run {β : Type} {n : Nat} (F : Nat → Int32 → β) (ok : Nat → Int32 → Prop) (p : Nat → Bool) (r : Int32 → β)
    (h0 : ∀ f, ok (f + 1) (nI n) ∧ F (f + 1) (nI n) = r (-1))
    (h1 : ∀ f k, k < n → (p k = true → ok (f + 1) (nI k) ∧ F (f + 1) (nI k) = r (nI k)) ∧ (p k = false → (ok f (nI (k + 1)) → ok (f + 1) (nI k)) ∧ F (f + 1) (nI k) = F f (nI (k + 1)))) :
    ∀ (m f k : Nat), m < f → k + m = n → ok f (nI k) ∧ F f (nI k) = r (fd p m k) := by
  intro m
  induction m with
  | zero =>
    intro f k hf hk
    obtain ⟨f, rfl⟩ : ∃ z, f = z + 1 := ⟨f - 1, by omega⟩
    have : k = n := by omega
    subst this
    exact h0 f
  | succ m ih =>
    intro f k hf hk
    obtain ⟨f, rfl⟩ : ∃ z, f = z + 1 := ⟨f - 1, by omega⟩
    obtain ⟨a1, a2⟩ := h1 f k (by omega)
    by_cases hp : p k = true
    · show ok (f + 1) (nI k) ∧ F (f + 1) (nI k) = r (if p k = true then nI k else fd p m (k + 1))
      rw [if_pos hp]
      exact a1 hp
    · have hpf : p k = false := by cases h : p k with | false => rfl | true => exact absurd h hp
      obtain ⟨b1, b2⟩ := ih f (k + 1) (by omega) (by omega)
      obtain ⟨c1, c2⟩ := a2 hpf
      refine ⟨c1 b1, ?_⟩
      show F (f + 1) (nI k) = r (if p k = true then nI k else fd p m (k + 1))
      rw [if_neg hp]
      exact c2.trans b2
/-- item i stands ahead of letter j -/
def ahd (f : Nat → UInt32) (i j : Nat) : Bool := decide ((f (16 + j)).toNat < (f (16 + i)).toNat ∨ ((f (16 + i)).toNat = (f (16 + j)).toNat ∧ i < j))
theorem cl_ahead (hO : Off σ o w f) (hI : Inv w f) {i j : Nat} (hi : i < cnt w) (hj : j < cnt w) : ok_X5_isAhead σ (o + 4) (nI i) (nI j) ∧ f_X5_isAhead σ (o + 4) (nI i) (nI j) = ahd f i j := by
  have h20 := hI.n20
  have hfi : P32 (f (16 + i)) := fb_p (hI.2.2.2.2.2.2.2.2.2 i (by omega))
  have hfj : P32 (f (16 + j)) := fb_p (hI.2.2.2.2.2.2.2.2.2 j (by omega))
  have hci : (nI i).toNatClampNeg = i := nI_clamp (by omega)
  have hcj : (nI j).toNatClampNeg = j := nI_clamp (by omega)
  have g1 := fl_gt0 hfi hfj CmpOp.l
  have g2 := fl_eq0 hfi hfj CmpOp.l
  have g3 := @nI_leI j i (by omega) (by omega)
  constructor
  · simp [ok_X5_isAhead, vp20 hi h20, vp20 hj h20]
  · unfold f_X5_isAhead ahd
    rw [hci, hcj, hO.read hi, hO.read hj]
    by_cases h1 : (f (16 + j)).toNat < (f (16 + i)).toNat
    · rw [if_pos (g1.mpr h1)]; simp [h1]
    · rw [if_neg (fun z => h1 (g1.mp z))]
      by_cases h2 : (f (16 + i)).toNat = (f (16 + j)).toNat
      · rw [if_pos (g2.mpr h2)]
        by_cases h3 : j ≤ i
        · rw [if_pos (g3.mpr h3)]; simp [h1, h2, h3]
        · rw [if_neg (fun z => h3 (g3.mp z))]; simp [h1, h2]; omega
      · rw [if_neg (fun z => h2 (g2.mp z))]; simp [h1, h2]
def ahs (w : Nat → Int32) (f : Nat → UInt32) (j : Nat) : Nat := cn (fun i => decide (it w i 0 = 0) && ahd f i j) (cnt w)
theorem cl_aheads (hO : Off σ o w f) (hI : Inv w f) {j : Nat} (hj : j < cnt w) : ok_X5_lettersAhead σ (o + 4) (nI j) ∧ f_X5_lettersAhead σ (o + 4) (nI j) = nI (ahs w f j) := by
  have hn := hO.n hI
  have h20 := hI.n20
  have key := lp_run0 (n := cnt w) (fun fu a k => fX5_lettersAhead_L4 σ (o + 4) fu (nI j) a k) (fun fu a k => okX5_lettersAhead_L4 σ (o + 4) fu (nI j) a k) (fun i a => if (decide (it w i 0 = 0) && ahd f i j) = true then a + 1 else a) id (fun _ _ => True) 0 (by omega) trivial
    (fun fu a _ => by simp [okX5_lettersAhead_L4, fX5_lettersAhead_L4, hn])
    (fun fu k a hk _ => by
      have hlt : ¬ nI (cnt w) ≤ nI k := nI_ge hk (by omega)
      have hcl : (nI k).toNatClampNeg = k := nI_clamp (by omega)
      have hv := vp20 hk h20
      have ha := cl_ahead hO hI hk hj
      by_cases h0 : it w k 0 = 0
      · cases h1 : ahd f k j <;>
          simp [okX5_lettersAhead_L4, fX5_lettersAhead_L4, hn, hlt, hcl, hv, hO.kind hk, h0, ha.1, ha.2, h1, nI_1]
      · simp [okX5_lettersAhead_L4, fX5_lettersAhead_L4, hn, hlt, hcl, hv, hO.kind hk, h0, nI_1])
  exact ⟨key.1, key.2.1.trans (cn_lp _ _)⟩
def rkd (w : Nat → Int32) (f : Nat → UInt32) (x : Int32) : Int32 := fd (fun i => decide (it w i 0 = 0 ∧ nI (ahs w f i) = x)) (cnt w) 0
theorem cl_ranked (hO : Off σ o w f) (hI : Inv w f) (x : Int32) : ok_X5_letterAt σ (o + 4) x ∧ f_X5_letterAt σ (o + 4) x = rkd w f x := by
  have hn := hO.n hI
  have h20 := hI.n20
  exact fd_run (n := cnt w) (fun fu k => fX5_letterAt_L2 σ (o + 4) fu x k) (fun fu k => okX5_letterAt_L2 σ (o + 4) fu x k) (fun i => decide (it w i 0 = 0 ∧ nI (ahs w f i) = x)) id
    (fun fu => by simp [okX5_letterAt_L2, fX5_letterAt_L2, hn])
    (fun fu k hk => by
      have hlt : ¬ nI (cnt w) ≤ nI k := nI_ge hk (by omega)
      have hcl : (nI k).toNatClampNeg = k := nI_clamp (by omega)
      have hv := vp20 hk h20
      have ha := cl_aheads hO hI hk
      by_cases h0 : it w k 0 = 0 <;> by_cases h1 : nI (ahs w f k) = x <;>
        simp [okX5_letterAt_L2, fX5_letterAt_L2, hn, hlt, hcl, hv, hO.kind hk, h0, ha.1, ha.2, h1, nI_1])
    (cnt w) 2000 0 (by omega) (Nat.zero_add _)
end ITM
