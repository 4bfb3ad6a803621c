/-! the desk: what is asked of it, on both sides -/
theorem fl_fin {a : UInt32} (h : P32 a) : ∃ c q, Jvm.FP.Core.val32 a = .fin false c q := by
  obtain ⟨c, q, k1, -⟩ := fc_dec (f := Jvm.FP.Core.b32) fl_g (fl_pi h)
  exact ⟨c, q, k1⟩
theorem fl_sub_nn {x c : UInt32} (hx : Jvm.FP.Core.val32 x ≠ .nan) (hc : P32 c) : Jvm.FP.Core.val32 (FP.fsub x c) ≠ .nan := by
  intro h
  have h2 := (Jvm.FP.Core.fsub_nan_iff x c).mp ((Jvm.FP.Core.fIsNaN_iff _).mpr h)
  obtain ⟨m, q, e⟩ := fl_fin hc
  rcases h2 with h2 | h2 | ⟨s, -, h2⟩
  · exact hx h2
  · rw [e] at h2; cases h2
  · rw [e] at h2; cases h2
theorem fl_nan {a : UInt32} (h : P32 a) : Jvm.FP.Core.val32 a ≠ .nan := fl_val (Nat.le_of_lt h)
theorem its_s (c : UInt32) : ∀ (k : Nat) (x : UInt32), itS c (k + 1) x = FP.fsub (itS c k x) c := by
  intro k
  induction k with
  | zero => intro x; rfl
  | succ k ih => intro x; exact ih (FP.fsub x c)
theorem itf_s : ∀ (k : Nat) (a i : UInt32), itF (k + 1) a i = (FP.fmul 1063675494 (itF k a i).1, FP.fmul 1064514355 (itF k a i).2) := by
  intro k
  induction k with
  | zero => intro a i; rfl
  | succ k ih => intro a i; exact ih _ _
theorem ith_s : ∀ (k : Nat) (a : UInt32), itH (k + 1) a = FP.fadd (itH k a) 1069547520 := by
  intro k
  induction k with
  | zero => intro a; rfl
  | succ k ih => intro a; exact ih _
/-- a loop that ends at its N-th look -/
theorem wh_run {β : Type} (F : Nat → Nat → β) (ok : Nat → Nat → Prop) (N : Nat) (r : β)
    (h0 : ∀ f, ok (f + 1) N ∧ F (f + 1) N = r)
    (h1 : ∀ f k, k < N → (ok f (k + 1) → ok (f + 1) k) ∧ F (f + 1) k = F f (k + 1)) :
    ∀ (m f k : Nat), m < f → k + m = N → ok f k ∧ F f k = r := by
  intro m
  induction m with
  | zero =>
    intro f k hf hk
    obtain ⟨f, rfl⟩ : ∃ z, f = z + 1 := ⟨f - 1, by omega⟩
    have : k = N := by omega
    subst this
    exact h0 f
  | succ m ih =>
    intro f k hf hk
    obtain ⟨f, rfl⟩ : ∃ z, f = z + 1 := ⟨f - 1, by omega⟩
    obtain ⟨a1, a2⟩ := h1 f k (by omega)
    obtain ⟨b1, b2⟩ := ih f (k + 1) (by omega) (by omega)
    exact ⟨a1 b1, a2.trans b2⟩
theorem Off.cray {σ : St} {o : Nat} {w : Nat → Int32} {f : Nat → UInt32} (h : Off σ o w f) {k : Nat} (hk : k < 8) : σ.2.1 (o + 2) k = f k := h.1.2.2.2.2.1 k hk
theorem Off.pot {σ : St} {o : Nat} {w : Nat → Int32} {f : Nat → UInt32} (h : Off σ o w f) {k : Nat} (hk : k < 5) : σ.2.1 (o + 3) k = f (8 + k) := h.1.2.2.2.2.2 k hk
/-- how many letters of so many words a length writes -/
theorem its_ex {x : UInt32} {k : Nat} (hx : LB x) (h1 : 1 ≤ k) (hk : k < 41) : ∃ N, N ≤ 239 ∧ (itS (cw k) N x).toNat < (cw k).toNat ∧ (∀ i, i < N → (cw k).toNat ≤ (itS (cw k) i x).toNat) ∧ ∀ i, i ≤ N → P32 (itS (cw k) i x) := by
  obtain ⟨N, a1, a2, a3⟩ := its_stop (c := cw k) ((cw_tab k hk).2 h1) 239 0 rfl x (Nat.le_trans hx (by decide +kernel))
  exact ⟨N, a1, a2, a3, fun i hi => lb_p (its_lb i x hx (fun j hj => a3 j (by omega)))⟩
theorem cw_ok {k : Nat} (hk : k < 41) : ok_X9_crayonNeeded (nI k) ∧ True := ⟨fl_n (Nat.le_of_lt (cw_b hk)), trivial⟩
section DSK
variable {σ : St} {o : Nat} {w : Nat → Int32} {f : Nat → UInt32}
theorem cl_by (x1 : Int32) {x : UInt32} {k N : Nat} (hk : k < 41) (a1 : N ≤ 239) (a2 : (itS (cw k) N x).toNat < (cw k).toNat) (a3 : ∀ i, i < N → (cw k).toNat ≤ (itS (cw k) i x).toNat) (a4 : ∀ i, i ≤ N → P32 (itS (cw k) i x)) :
    okX9_lettersOf_L28 σ 2000 x1 (nI k) (f_X9_crayonNeeded (nI k)) x 0 ∧ fX9_lettersOf_L28 σ 2000 x1 (nI k) (f_X9_crayonNeeded (nI k)) x 0 = (0, σ, nI N) := by
  have hc : P32 (cw k) := cw_b hk
  exact wh_run (fun fu i => fX9_lettersOf_L28 σ fu x1 (nI k) (cw k) (itS (cw k) i x) (nI i)) (fun fu i => okX9_lettersOf_L28 σ fu x1 (nI k) (cw k) (itS (cw k) i x) (nI i)) N (0, σ, nI N)
    (fun fu => by
      have h1 : ¬ (1000000 : Int32) ≤ nI N := nI_ge (b := 1000000) (by omega) (by decide)
      have h2 := (fl_lt0 (a4 N (Nat.le_refl N)) hc CmpOp.l).mpr a2
      simp [okX9_lettersOf_L28, fX9_lettersOf_L28, h1, h2])
    (fun fu i hi => by
      have h1 : ¬ (1000000 : Int32) ≤ nI i := nI_ge (b := 1000000) (by omega) (by decide)
      have h2 : ¬ Op.cmpValue (FP.fcmp (itS (cw k) i x) (cw k)) CmpOp.l < 0 := fun z => absurd ((fl_lt0 (a4 i (by omega)) hc CmpOp.l).mp z) (by have := a3 i hi; omega)
      have h3 := its_s (cw k) i x
      have h4 : vf_n32 (FP.fsub (itS (cw k) i x) (cw k)) := by rw [← h3]; exact fl_n (Nat.le_of_lt (a4 (i + 1) (by omega)))
      simp [okX9_lettersOf_L28, fX9_lettersOf_L28, h1, h2, h3, h4, nI_1])
    N 2000 0 (by omega) (Nat.zero_add N)
/-- again, by a list of lengths: the class's -/
theorem cl_again (x1 : Int32) {x : UInt32} {k N : Nat} (hk : k < 41) (a1 : N ≤ 239) (a2 : (itS (cw k) N x).toNat < (cw k).toNat) (a3 : ∀ i, i < N → (cw k).toNat ≤ (itS (cw k) i x).toNat) (a4 : ∀ i, i ≤ N → P32 (itS (cw k) i x)) :
    ∀ (m fu i : Nat) (τ : St), m < fu → i + m = N → τ.2.1 195 i = itS (cw k) i x → okX9_lettersAgain_L32 fu τ x1 (nI k) (cw k) (nI i) ∧ ∃ τ', fX9_lettersAgain_L32 fu τ x1 (nI k) (cw k) (nI i) = (0, τ', nI N) ∧ Kp (fun j => ¬ j = 195) τ τ' := by
  have hc : P32 (cw k) := cw_b hk
  intro m
  induction m with
  | zero =>
    intro fu i τ hf hi ht
    obtain ⟨fu, rfl⟩ : ∃ z, fu = z + 1 := ⟨fu - 1, by omega⟩
    have : i = N := by omega
    subst this
    have h1 : ¬ (1000 : Int32) ≤ nI i + 1 := by rw [nI_1]; exact nI_ge (b := 1000) (by omega) (by decide)
    have h2 := (fl_lt0 (a4 i (Nat.le_refl i)) hc CmpOp.l).mpr a2
    have hcl : (nI i).toNatClampNeg = i := nI_clamp (by omega)
    have hv : vp_in (nI i) 1000 := vp_in_nI (by omega) (by decide)
    refine ⟨by simp [okX9_lettersAgain_L32, h1, hcl, ht, h2, hv], τ, by simp [fX9_lettersAgain_L32, h1, hcl, ht, h2], Kp.rf⟩
  | succ m ih =>
    intro fu i τ hf hi ht
    obtain ⟨fu, rfl⟩ : ∃ z, fu = z + 1 := ⟨fu - 1, by omega⟩
    have h1 : ¬ (1000 : Int32) ≤ nI i + 1 := by rw [nI_1]; exact nI_ge (b := 1000) (by omega) (by decide)
    have h1' : ¬ (1000 : Int32) ≤ nI (i + 1) := nI_ge (b := 1000) (by omega) (by decide)
    have h2 : ¬ Op.cmpValue (FP.fcmp (itS (cw k) i x) (cw k)) CmpOp.l < 0 := fun z => absurd ((fl_lt0 (a4 i (by omega)) hc CmpOp.l).mp z) (by have := a3 i (by omega); omega)
    have hcl : (nI i).toNatClampNeg = i := nI_clamp (by omega)
    have hcl1 : (nI (i + 1)).toNatClampNeg = i + 1 := nI_clamp (by omega)
    have hv : vp_in (nI i) 1000 := vp_in_nI (by omega) (by decide)
    have hv1 : vp_in (nI (i + 1)) 1000 := vp_in_nI (by omega) (by decide)
    have h3 := its_s (cw k) i x
    have h4 : vf_n32 (FP.fsub (itS (cw k) i x) (cw k)) := by rw [← h3]; exact fl_n (Nat.le_of_lt (a4 (i + 1) (by omega)))
    have ht1 : (setF τ 195 (i + 1) (FP.fsub (itS (cw k) i x) (cw k))).2.1 195 (i + 1) = itS (cw k) (i + 1) x := by
      rw [q2e rfl, ve rfl, h3]
    obtain ⟨b1, τ', b2, b3⟩ := ih fu (i + 1) _ (by omega) (by omega) ht1
    refine ⟨?_, τ', ?_, (kp_setF Kp.rf (fun z => z rfl)).tr b3⟩
    · simp [okX9_lettersAgain_L32, bndP, nI_1, h1', hcl, hcl1, ht, h2, hv, hv1, h4, b1]
    · simp [fX9_lettersAgain_L32, bnd, nI_1, h1', hcl, hcl1, ht, h2, b2]
/-- stamps -/
theorem itf_ex {a i : UInt32} (ha : FB a) (hi : IB i) : ∃ N, N ≤ 12 ∧ (f_X9_printOf (itF N a i).1 (itF N a i).2).toNat < 1050253722 ∧ (∀ m, m < N → 1050253722 ≤ (f_X9_printOf (itF m a i).1 (itF m a i).2).toNat) ∧ ∀ m, FB (itF m a i).1 ∧ IB (itF m a i).2 := by
  obtain ⟨N, a1, a2, a3⟩ := itf_stop 12 0 rfl a i (Nat.le_trans ha (by decide +kernel)) hi
  exact ⟨N, a1, a2, a3, fun m => itf_b m a i ha hi⟩
theorem fl_pr {a i : UInt32} (ha : FB a) (hi : IB i) : P32 (f_X9_printOf a i) := by
  have h1 := (fl_print ha hi).2
  have h2 : a.toNat ≤ 1065353216 := ha
  show _ < _
  omega
theorem strong_iff {x : UInt32} (h : P32 x) : f_X9_isStrong x = decide (1050253722 ≤ x.toNat) := by
  unfold f_X9_isStrong
  have := fl_lt0 h (b := 1050253722) (by decide) CmpOp.l
  by_cases q : x.toNat < 1050253722
  · rw [if_pos (this.mpr q)]; simp; exact q
  · rw [if_neg (fun z => q (this.mp z))]; simp; exact Nat.le_of_not_lt q
/-- the best potato -/
def bsg (f : Nat → UInt32) (i : Nat) (a : Int32) : Int32 := if a = -1 then nI i else if (f_X9_printOf (f (8 + a.toNatClampNeg)) (f 14)).toNat < (f_X9_printOf (f (8 + i)) (f 14)).toNat then nI i else a
def bst (w : Nat → Int32) (f : Nat → UInt32) : Int32 := lp (bsg f) (w 3).toNatClampNeg 0 (-1)
def bsP (k : Nat) (a : Int32) : Prop := a = -1 ∨ ∃ j, j < k ∧ a = nI j
theorem bsg_P {f : Nat → UInt32} {k : Nat} {a : Int32} (h : bsP k a) : bsP (k + 1) (bsg f k a) := by
  have h' : bsP (k + 1) a := by
    rcases h with h | ⟨j, h1, h2⟩
    · exact Or.inl h
    · exact Or.inr ⟨j, by omega, h2⟩
  unfold bsg
  split
  · exact Or.inr ⟨k, by omega, rfl⟩
  · split
    · exact Or.inr ⟨k, by omega, rfl⟩
    · exact h'
theorem Inv.pots {w : Nat → Int32} {f : Nat → UInt32} (hI : Inv w f) : ∃ p, p ≤ 5 ∧ w 3 = nI p ∧ (w 3).toNatClampNeg = p := by
  obtain ⟨p, h1, h2⟩ := hI.1.2.2.2.1
  exact ⟨p, h1, h2, by rw [h2, nI_clamp (by omega)]⟩
theorem Inv.crays {w : Nat → Int32} {f : Nat → UInt32} (hI : Inv w f) : ∃ p, p ≤ 8 ∧ w 1 = nI p := hI.1.2.2.1
theorem Inv.firm {w : Nat → Int32} {f : Nat → UInt32} (hI : Inv w f) {k : Nat} (hk : k < 5) : FB (f (8 + k)) := hI.2.2.2.2.2.1 k hk
theorem Inv.ink {w : Nat → Int32} {f : Nat → UInt32} (hI : Inv w f) : IB (f 14) := hI.2.2.2.2.2.2.2.1
theorem Inv.metres {w : Nat → Int32} {f : Nat → UInt32} (hI : Inv w f) : (f 13).toNat ≤ 1120272384 := hI.2.2.2.2.2.2.1
theorem Inv.hung {w : Nat → Int32} {f : Nat → UInt32} (hI : Inv w f) : HB (f 15) := hI.2.2.2.2.2.2.2.2.1
theorem Inv.lens {w : Nat → Int32} {f : Nat → UInt32} (hI : Inv w f) {k : Nat} (hk : k < 8) : LB (f k) := hI.2.2.2.2.1 k hk
theorem Inv.reads {w : Nat → Int32} {f : Nat → UInt32} (hI : Inv w f) {k : Nat} (hk : k < 20) : FB (f (16 + k)) := hI.2.2.2.2.2.2.2.2.2 k hk
theorem cl_print (hO : Off σ o w f) (hI : Inv w f) {k : Nat} (hk : k < 5) : ok_X2_printNow σ (o + 1) (nI k) ∧ f_X2_printNow σ (o + 1) (nI k) = f_X9_printOf (f (8 + k)) (f 14) := by
  have hcl : (nI k).toNatClampNeg = k := nI_clamp (by omega)
  have h1 : σ.2.1 (o + 1 + 2) k = f (8 + k) := hO.pot hk
  have h2 : σ.2.1 (o + 1) 5 = f 14 := hO.1.2.2.2.1
  unfold ok_X2_printNow f_X2_printNow
  rw [hcl, h1, h2]
  exact ⟨⟨vp_in_nI hk (by decide), (fl_print (hI.firm hk) hI.ink).1⟩, rfl⟩
/-- the hours until the dragon is hungry: the class's -/
theorem hungry_iff {x : UInt32} (h : P32 x) : f_X9_isHungry x = decide (1090519040 < x.toNat) := by
  unfold f_X9_isHungry
  have := fl_le0 h (b := 1090519040) (by decide) CmpOp.l
  by_cases q : x.toNat ≤ 1090519040
  · rw [if_pos (this.mpr q)]; simp; exact q
  · rw [if_neg (fun z => q (this.mp z))]; simp; exact Nat.lt_of_not_le q
theorem cl_hours {a : UInt32} {N : Nat} (a1 : N ≤ 6) (a2 : 1090519040 < (itH N a).toNat) (a3 : ∀ m, m < N → (itH m a).toNat ≤ 1090519040) (a4 : HB a) :
    okX9_eatsIn_L38 σ 2000 a 1 ∧ fX9_eatsIn_L38 σ 2000 a 1 = (0, σ, nI (N + 1)) := by
  have hb : ∀ m, HB (itH m a) := fun m => ith_b m a a4
  exact wh_run (fun fu m => fX9_eatsIn_L38 σ fu (itH m a) (nI (m + 1))) (fun fu m => okX9_eatsIn_L38 σ fu (itH m a) (nI (m + 1))) N (0, σ, nI (N + 1))
    (fun fu => by
      have h1 : ¬ (1000000 : Int32) ≤ nI (N + 1) := nI_ge (b := 1000000) (by omega) (by decide)
      have h4 : f_X9_isHungry (itH N a) = true := by rw [hungry_iff (hb_p (hb N))]; simp; exact a2
      simp [okX9_eatsIn_L38, fX9_eatsIn_L38, h1, h4])
    (fun fu m hm => by
      have h1 : ¬ (1000000 : Int32) ≤ nI (m + 1) := nI_ge (b := 1000000) (by omega) (by decide)
      have h4 : f_X9_isHungry (itH m a) = false := by rw [hungry_iff (hb_p (hb m))]; simp; exact a3 m hm
      have h5 : f_X9_hungrier (itH m a) = itH (m + 1) a := (ith_s m a).symm
      have h6 : ok_X9_hungrier (itH m a) := fl_n (by have := hb_p (hb (m + 1)); rw [ith_s] at this; exact Nat.le_of_lt this)
      simp [okX9_eatsIn_L38, fX9_eatsIn_L38, h1, h4, h5, h6, nI_1])
    N 2000 0 (by omega) (Nat.zero_add N)
theorem ith_ex {a : UInt32} (ha : HB a) : ∃ N, N ≤ 6 ∧ 1090519040 < (itH N (FP.fadd a 1069547520)).toNat ∧ ∀ m, m < N → (itH m (FP.fadd a 1069547520)).toNat ≤ 1090519040 := by
  exact ith_stop 6 0 rfl (FP.fadd a 1069547520) (hb_add ha) (Nat.zero_le _)
end DSK
