/-! floats of 32 bits, as the class and the reference use them -/
abbrev P32 (a : UInt32) : Prop := a.toNat < 2139095040
theorem fl_g : Jvm.FP.Core.Good Jvm.FP.Core.b32 := Jvm.FP.Core.good_b32
theorem fl_inf : Jvm.FP.Core.infBits Jvm.FP.Core.b32 = 2139095040 := Jvm.FP.Core.infBits_b32
theorem fl_pi {n : Nat} (h : n < 2139095040) : n < Jvm.FP.Core.infBits Jvm.FP.Core.b32 := by rw [fl_inf]; exact h
theorem fc_iu (n : Nat) (e : Int) : Jvm.FP.Core.inUnits n e e = n := by unfold Jvm.FP.Core.inUnits; simp
theorem fl_add (a b : UInt32) : (FP.fadd a b).toNat = Jvm.FP.Core.add Jvm.FP.Core.b32 a.toNat b.toNat := Jvm.FP.Core.toNat_of32 (Jvm.FP.Core.round_fits fl_g _)
theorem fl_sub (a b : UInt32) : (FP.fsub a b).toNat = Jvm.FP.Core.sub Jvm.FP.Core.b32 a.toNat b.toNat := Jvm.FP.Core.toNat_of32 (Jvm.FP.Core.round_fits fl_g _)
theorem fl_mul (a b : UInt32) : (FP.fmul a b).toNat = Jvm.FP.Core.mul Jvm.FP.Core.b32 a.toNat b.toNat := Jvm.FP.Core.toNat_of32 (Jvm.FP.Core.round_fits fl_g _)
theorem fl_div (a b : UInt32) : (FP.fdiv a b).toNat = Jvm.FP.Core.div Jvm.FP.Core.b32 a.toNat b.toNat := Jvm.FP.Core.toNat_of32 (Jvm.FP.Core.quotient_fits fl_g _ _)
theorem fl_zadd (x y : Nat) : Jvm.FP.Core.add Jvm.FP.Core.b32 x y < 2 * Jvm.FP.Core.half Jvm.FP.Core.b32 := fc_size fl_g (Jvm.FP.Core.round_fits fl_g _)
theorem fl_zsub (x y : Nat) : Jvm.FP.Core.sub Jvm.FP.Core.b32 x y < 2 * Jvm.FP.Core.half Jvm.FP.Core.b32 := fc_size fl_g (Jvm.FP.Core.round_fits fl_g _)
theorem fl_zmul (x y : Nat) : Jvm.FP.Core.mul Jvm.FP.Core.b32 x y < 2 * Jvm.FP.Core.half Jvm.FP.Core.b32 := fc_size fl_g (Jvm.FP.Core.round_fits fl_g _)
theorem fl_zdiv (x y : Nat) : Jvm.FP.Core.div Jvm.FP.Core.b32 x y < 2 * Jvm.FP.Core.half Jvm.FP.Core.b32 := fc_size fl_g (Jvm.FP.Core.quotient_fits fl_g _ _)
theorem fl_uz : Jvm.FP.Core.unitsOf Jvm.FP.Core.b32 0 = 0 := Jvm.FP.Core.unitsOf_zero _
theorem fl_add_mono {a b a' b' : UInt32} (ha : P32 a') (hb : P32 b') (h1 : a.toNat ≤ a'.toNat) (h2 : b.toNat ≤ b'.toNat) : (FP.fadd a b).toNat ≤ (FP.fadd a' b').toNat := by
  rw [fl_add, fl_add]
  refine fc_le (e0 := Jvm.FP.Core.b32.qmin) fl_g (fc_sum fl_g (fl_pi (by omega)) (fl_pi (by omega))) (fl_zadd _ _) (fc_sum fl_g (fl_pi ha) (fl_pi hb)) (fl_zadd _ _) (by decide) (by decide) (Int.le_refl _) (Int.le_refl _) (Int.le_refl _) ?_
  rw [fc_iu, fc_iu]
  have e1 := Jvm.FP.Core.unitsOf_le_iff (f := Jvm.FP.Core.b32).mpr h1
  have e2 := Jvm.FP.Core.unitsOf_le_iff (f := Jvm.FP.Core.b32).mpr h2
  omega
theorem fl_mul_mono {a b a' b' : UInt32} (ha : P32 a') (hb : P32 b') (h1 : a.toNat ≤ a'.toNat) (h2 : b.toNat ≤ b'.toNat) : (FP.fmul a b).toNat ≤ (FP.fmul a' b').toNat := by
  rw [fl_mul, fl_mul]
  have hq := Jvm.FP.Core.qmin_neg fl_g
  refine fc_le (e0 := 2 * Jvm.FP.Core.b32.qmin) fl_g (fc_prod fl_g (fl_pi (by omega)) (fl_pi (by omega))) (fl_zmul _ _) (fc_prod fl_g (fl_pi ha) (fl_pi hb)) (fl_zmul _ _) (by decide) (by decide) (by omega) (Int.le_refl _) (Int.le_refl _) ?_
  rw [fc_iu, fc_iu]
  have e1 := Jvm.FP.Core.unitsOf_le_iff (f := Jvm.FP.Core.b32).mpr h1
  have e2 := Jvm.FP.Core.unitsOf_le_iff (f := Jvm.FP.Core.b32).mpr h2
  exact Nat.mul_le_mul_right 1 (Nat.mul_le_mul e1 e2)
theorem fl_upos {a : UInt32} (h : 0 < a.toNat) : 0 < Jvm.FP.Core.unitsOf Jvm.FP.Core.b32 a.toNat := by
  have := Jvm.FP.Core.unitsOf_lt (f := Jvm.FP.Core.b32) h
  omega
theorem fl_div_mono {a b a' b' : UInt32} (ha : P32 a') (hb : P32 b) (h0 : 0 < b'.toNat) (h1 : a.toNat ≤ a'.toNat) (h2 : b'.toNat ≤ b.toNat) : (FP.fdiv a b).toNat ≤ (FP.fdiv a' b').toNat := by
  rw [fl_div, fl_div]
  have hq := Jvm.FP.Core.qmin_neg fl_g
  have p1 := fl_upos h0
  have p2 := fl_upos (a := b) (by omega)
  refine fc_le (e0 := Jvm.FP.Core.b32.qmin) fl_g (fc_quot fl_g (fl_pi (by omega)) (fl_pi hb) p2) (fl_zdiv _ _) (fc_quot fl_g (fl_pi ha) (fl_pi (by omega)) p1) (fl_zdiv _ _) p2 p1 (Int.le_refl _) (by omega) (by omega) ?_
  have e1 := Jvm.FP.Core.unitsOf_le_iff (f := Jvm.FP.Core.b32).mpr h1
  have e2 := Jvm.FP.Core.unitsOf_le_iff (f := Jvm.FP.Core.b32).mpr h2
  unfold Jvm.FP.Core.inUnits
  exact Nat.mul_le_mul (Nat.mul_le_mul_right _ e1) e2
theorem fl_dif {a b : UInt32} (ha : P32 a) (h : b.toNat ≤ a.toNat) : Jvm.FP.Core.decode Jvm.FP.Core.b32 (Jvm.FP.Core.sub Jvm.FP.Core.b32 a.toNat b.toNat) = Jvm.FP.Core.roundRatio Jvm.FP.Core.b32 false (Jvm.FP.Core.unitsOf Jvm.FP.Core.b32 a.toNat - Jvm.FP.Core.unitsOf Jvm.FP.Core.b32 b.toNat) 1 Jvm.FP.Core.b32.qmin := by
  have e1 := Jvm.FP.Core.unitsOf_le_iff (f := Jvm.FP.Core.b32).mpr h
  rw [fc_dif fl_g (fl_pi ha) (fl_pi (by omega)), decide_eq_false (by omega)]
  congr 1
  omega
theorem fl_sub_mono {a b a' b' : UInt32} (ha : P32 a') (h0 : b.toNat ≤ a.toNat) (h1 : a.toNat ≤ a'.toNat) (h2 : b'.toNat ≤ b.toNat) : (FP.fsub a b).toNat ≤ (FP.fsub a' b').toNat := by
  rw [fl_sub, fl_sub]
  refine fc_le (e0 := Jvm.FP.Core.b32.qmin) fl_g (fl_dif (by omega) h0) (fl_zsub _ _) (fl_dif ha (by omega)) (fl_zsub _ _) (by decide) (by decide) (Int.le_refl _) (Int.le_refl _) (Int.le_refl _) ?_
  rw [fc_iu, fc_iu]
  have e1 := Jvm.FP.Core.unitsOf_le_iff (f := Jvm.FP.Core.b32).mpr h1
  have e2 := Jvm.FP.Core.unitsOf_le_iff (f := Jvm.FP.Core.b32).mpr h2
  omega
theorem fl_self {a : UInt32} (ha : P32 a) : Jvm.FP.Core.decode Jvm.FP.Core.b32 a.toNat = Jvm.FP.Core.roundRatio Jvm.FP.Core.b32 false (Jvm.FP.Core.unitsOf Jvm.FP.Core.b32 a.toNat) 1 Jvm.FP.Core.b32.qmin := by
  rw [fc_exact fl_g (fl_pi ha) (by decide)]
  simp
theorem fl_sub_le {a b : UInt32} (ha : P32 a) (h : b.toNat ≤ a.toNat) : (FP.fsub a b).toNat ≤ a.toNat := by
  rw [fl_sub]
  refine fc_le (e0 := Jvm.FP.Core.b32.qmin) fl_g (fl_dif ha h) (fl_zsub _ _) (fl_self ha) (fc_lt_full (fl_pi ha)) (by decide) (by decide) (Int.le_refl _) (Int.le_refl _) (Int.le_refl _) ?_
  rw [fc_iu, fc_iu]
  omega
theorem fl_val {a : UInt32} (h : a.toNat ≤ 2139095040) : Jvm.FP.Core.val32 a ≠ .nan := (Jvm.FP.Core.ne_nan32 a).mpr (by omega)
theorem fl_add_le {a b : UInt32} (ha : P32 a) (hb : P32 b) : a.toNat ≤ (FP.fadd a b).toNat := by
  rw [fl_add]
  refine fc_le (e0 := Jvm.FP.Core.b32.qmin) fl_g (fl_self ha) (fc_lt_full (fl_pi ha)) (fc_sum fl_g (fl_pi ha) (fl_pi hb)) (fl_zadd _ _) (by decide) (by decide) (Int.le_refl _) (Int.le_refl _) (Int.le_refl _) ?_
  rw [fc_iu, fc_iu]
  omega
theorem fl_nn {r : UInt32} : vf_n32 r ↔ r.toNat % 2 ^ 31 ≤ 2139095040 := by
  unfold vf_n32
  rw [UInt32.le_iff_toNat_le, Jvm.FP.Core.mask_toNat32]
  exact Iff.rfl
theorem fl_n {r : UInt32} (h : r.toNat ≤ 2139095040) : vf_n32 r := fl_nn.mpr (by omega)
theorem fl_nN {r : UInt32} (h : Jvm.FP.Core.val32 r ≠ .nan) : vf_n32 r := fl_nn.mpr ((Jvm.FP.Core.ne_nan32 r).mp h)
theorem fl_key {a : UInt32} (h : P32 a) : Jvm.FP.Core.fkey a = (a.toNat : Int) := by
  unfold Jvm.FP.Core.fkey
  exact if_neg (by omega)
theorem fl_cmp {a b : UInt32} (ha : P32 a) (hb : P32 b) (o : CmpOp) : Op.cmpValue (FP.fcmp a b) o = if a.toNat < b.toNat then -1 else if a.toNat = b.toNat then 0 else 1 := by
  have h := Jvm.FP.Core.fcmp_key (fl_val (Nat.le_of_lt ha)) (fl_val (Nat.le_of_lt hb))
  rw [fl_key ha, fl_key hb] at h
  rcases Nat.lt_trichotomy a.toNat b.toNat with q | q | q
  · rw [show FP.fcmp a b = some .lt from h.trans (congrArg some ((Jvm.FP.Core.compare_lt_iff _ _).mpr (by omega))), if_pos q]; rfl
  · rw [show FP.fcmp a b = some .eq from h.trans (congrArg some ((Jvm.FP.Core.compare_eq_iff _ _).mpr (by omega))), if_neg (by omega), if_pos q]; rfl
  · rw [show FP.fcmp a b = some .gt from h.trans (congrArg some ((Jvm.FP.Core.compare_gt_iff _ _).mpr (by omega))), if_neg (by omega), if_neg (by omega)]; rfl
theorem fl_lt0 {a b : UInt32} (ha : P32 a) (hb : P32 b) (o : CmpOp) : Op.cmpValue (FP.fcmp a b) o < 0 ↔ a.toNat < b.toNat := by
  rw [fl_cmp ha hb]
  split
  · exact ⟨fun _ => by assumption, fun _ => by decide⟩
  · split
    · exact ⟨fun h => absurd h (by decide), fun h => by omega⟩
    · exact ⟨fun h => absurd h (by decide), fun h => by omega⟩
theorem fl_le0 {a b : UInt32} (ha : P32 a) (hb : P32 b) (o : CmpOp) : Op.cmpValue (FP.fcmp a b) o ≤ 0 ↔ a.toNat ≤ b.toNat := by
  rw [fl_cmp ha hb]
  split
  · exact ⟨fun _ => by omega, fun _ => by decide⟩
  · split
    · exact ⟨fun _ => by omega, fun h => by decide⟩
    · exact ⟨fun h => absurd h (by decide), fun h => by omega⟩
theorem fl_ge0 {a b : UInt32} (ha : P32 a) (hb : P32 b) (o : CmpOp) : 0 ≤ Op.cmpValue (FP.fcmp a b) o ↔ b.toNat ≤ a.toNat := by
  rw [fl_cmp ha hb]
  split
  · exact ⟨fun h => absurd h (by decide), fun _ => by omega⟩
  · split
    · exact ⟨fun _ => by omega, fun h => by decide⟩
    · exact ⟨fun _ => by omega, fun h => by decide⟩
theorem fl_gt0 {a b : UInt32} (ha : P32 a) (hb : P32 b) (o : CmpOp) : 0 < Op.cmpValue (FP.fcmp a b) o ↔ b.toNat < a.toNat := by
  rw [fl_cmp ha hb]
  split
  · exact ⟨fun h => absurd h (by decide), fun _ => by omega⟩
  · split
    · exact ⟨fun h => absurd h (by decide), fun _ => by omega⟩
    · exact ⟨fun _ => by omega, fun h => by decide⟩
theorem fl_eq0 {a b : UInt32} (ha : P32 a) (hb : P32 b) (o : CmpOp) : Op.cmpValue (FP.fcmp a b) o = 0 ↔ a.toNat = b.toNat := by
  rw [fl_cmp ha hb]
  split
  · exact ⟨fun h => absurd h (by decide), fun _ => by omega⟩
  · split
    · exact ⟨fun _ => by omega, fun h => by decide⟩
    · exact ⟨fun h => absurd h (by decide), fun h => by omega⟩
/-! the dragon's hunger: from 0 to 2^25 -/
abbrev HB (a : UInt32) : Prop := a.toNat ≤ 1275068416
theorem hb_p {a : UInt32} (h : HB a) : P32 a := by show a.toNat < _; have : a.toNat ≤ 1275068416 := h; omega
theorem hb_add {a : UInt32} (h : HB a) : HB (FP.fadd a 1069547520) := by
  have h1 := fl_add_mono (a := a) (b := 1069547520) (a' := 1275068416) (b' := 1069547520) (by decide) (by decide) h (Nat.le_refl _)
  rw [show (FP.fadd 1275068416 1069547520).toNat = 1275068416 by decide +kernel] at h1
  exact h1
theorem hb_five {a : UInt32} (h : HB a) (h8 : 1090519040 < a.toNat) : HB (FP.fsub a 1084227584) := by
  have h1 := fl_sub_le (a := a) (b := 1084227584) (hb_p h) (by show (1084227584 : Nat) ≤ _; omega)
  exact Nat.le_trans h1 h
theorem hb_two {a : UInt32} (h : HB a) (h2 : 1073741824 ≤ a.toNat) : HB (FP.fsub a FP.fconst2) := by
  have h1 := fl_sub_le (a := a) (b := FP.fconst2) (hb_p h) h2
  exact Nat.le_trans h1 h
/-- a snack: below 2 the difference is below 0 -/
theorem hb_less {a : UInt32} (h : a.toNat < 1073741824) : vf_n32 (FP.fsub a FP.fconst2) ∧ ∀ o, Op.cmpValue (FP.fcmp (FP.fsub a FP.fconst2) FP.fconst0) o < 0 := by
  have ha : P32 a := by show a.toNat < _; omega
  have hd := fc_dif (f := Jvm.FP.Core.b32) fl_g (x := a.toNat) (y := FP.fconst2.toNat) (fl_pi ha) (fl_pi (by decide))
  have hu : Jvm.FP.Core.unitsOf Jvm.FP.Core.b32 a.toNat < Jvm.FP.Core.unitsOf Jvm.FP.Core.b32 FP.fconst2.toNat := Jvm.FP.Core.unitsOf_lt (show a.toNat < FP.fconst2.toNat from h)
  rw [decide_eq_true hu, ← fl_sub] at hd
  have hv : Jvm.FP.Core.val32 (FP.fsub a FP.fconst2) = Jvm.FP.Core.decode Jvm.FP.Core.b32 (FP.fsub a FP.fconst2).toNat := rfl
  have hnn : Jvm.FP.Core.val32 (FP.fsub a FP.fconst2) ≠ .nan := by rw [hv, hd]; exact Jvm.FP.Core.roundRatio_ne_nan _ _ _ _ _
  have hz : 1 ≤ Jvm.FP.Core.zmag Jvm.FP.Core.b32 (Jvm.FP.Core.val32 (FP.fsub a FP.fconst2)) := by
    have k := Jvm.FP.Core.zmag_roundRatio_ge fl_g (s := true) (A := ((Jvm.FP.Core.unitsOf Jvm.FP.Core.b32 a.toNat : Int) - (Jvm.FP.Core.unitsOf Jvm.FP.Core.b32 FP.fconst2.toNat : Int)).natAbs) (B := 1) (e := Jvm.FP.Core.b32.qmin) (e0 := Jvm.FP.Core.b32.qmin) (V := .fin false 1 Jvm.FP.Core.b32.qmin) (by decide) ⟨by decide, Int.le_refl _, by decide +kernel, Or.inl rfl⟩ (Int.le_refl _) (Int.le_refl _) (by
      rw [fc_iu, Int.sub_self]
      show Jvm.FP.Core.inUnits 1 Jvm.FP.Core.b32.qmin Jvm.FP.Core.b32.qmin * 2 ^ (0 : Int).toNat * 1 ≤ _
      rw [fc_iu]
      show 1 * 1 * 1 ≤ _
      omega)
    rw [hv, hd]
    refine Nat.le_trans ?_ k
    show 1 ≤ Jvm.FP.Core.inUnits 1 Jvm.FP.Core.b32.qmin Jvm.FP.Core.b32.qmin
    rw [fc_iu]
    exact Nat.le_refl _
  refine ⟨fl_nN hnn, fun o => ?_⟩
  have hlt : FP.fcmp (FP.fsub a FP.fconst2) FP.fconst0 = some .lt := by
    refine Jvm.FP.Core.fcmp_lt.mpr ⟨hnn, by decide +kernel, ?_⟩
    rw [show Jvm.FP.Core.zval Jvm.FP.Core.b32 (Jvm.FP.Core.val32 FP.fconst0) = 0 from Jvm.FP.Core.zval32_zero]
    unfold Jvm.FP.Core.zval
    rw [show Jvm.FP.Core.sgn (Jvm.FP.Core.val32 (FP.fsub a FP.fconst2)) = true by rw [hv, hd, Jvm.FP.Core.sgn_roundRatio]]
    simp only [Jvm.FP.Core.signed, if_true]
    omega
  rw [hlt]
  show (-1 : Int32) < 0
  decide
/-! prints: ink up to 9, firmness up to 1 -/
theorem fl_div_self {a : UInt32} (ha : P32 a) (h0 : 0 < a.toNat) : FP.fdiv a a = FP.fconst1 := by
  have h1 := fc_quot (f := Jvm.FP.Core.b32) fl_g (fl_pi ha) (fl_pi ha) (fl_upos h0)
  rw [fc_exact (m := 1065353216) fl_g (fl_pi (by decide)) (fl_upos h0) (by
    rw [show (Jvm.FP.Core.b32.qmin - 0).toNat = 0 by decide +kernel, show Jvm.FP.Core.unitsOf Jvm.FP.Core.b32 1065353216 = 2 ^ (0 - Jvm.FP.Core.b32.qmin).toNat by decide +kernel]
    rw [Nat.pow_zero, Nat.mul_one, Nat.mul_comm])] at h1
  have h2 := fc_inj fl_g (fc_lt_full (fl_pi (by decide : 1065353216 < 2139095040))) (fl_zdiv a.toNat a.toNat) h1.symm (fc_ne_nan fl_g (fl_pi (by decide)))
  refine UInt32.toNat.inj ?_
  rw [fl_div, ← h2]
  rfl
theorem fl_ratio {a b : UInt32} (hb : P32 b) (h0 : 0 < b.toNat) (h : a.toNat ≤ b.toNat) : (FP.fdiv a b).toNat ≤ 1065353216 := by
  have h1 := fl_div_mono (a := a) (b := b) (a' := b) (b' := b) hb hb h0 h (Nat.le_refl _)
  rw [fl_div_self hb h0] at h1
  exact h1
abbrev IB (a : UInt32) : Prop := a.toNat ≤ 1091567616
abbrev FB (a : UInt32) : Prop := a.toNat ≤ 1065353216
theorem ib_p {a : UInt32} (h : IB a) : P32 a := by show a.toNat < _; have : a.toNat ≤ 1091567616 := h; omega
theorem fb_p {a : UInt32} (h : FB a) : P32 a := by show a.toNat < _; have : a.toNat ≤ 1065353216 := h; omega
theorem ib_half {a : UInt32} (h : IB a) : P32 (FP.fadd a 1056964608) ∧ 0 < (FP.fadd a 1056964608).toNat ∧ a.toNat ≤ (FP.fadd a 1056964608).toNat := by
  have h1 := fl_add_mono (a := a) (b := 1056964608) (a' := 1091567616) (b' := 1056964608) (by decide) (by decide) h (Nat.le_refl _)
  have h2 := fl_add_mono (a := 0) (b := 1056964608) (a' := a) (b' := 1056964608) (ib_p h) (by decide) (Nat.zero_le _) (Nat.le_refl _)
  rw [show (FP.fadd 1091567616 1056964608).toNat = 1092091904 by decide +kernel] at h1
  rw [show (FP.fadd 0 1056964608).toNat = 1056964608 by decide +kernel] at h2
  exact ⟨by show _ < 2139095040; omega, by omega, fl_add_le (ib_p h) (by decide)⟩
theorem fl_mul_one {a : UInt32} (h : P32 a) : FP.fmul a FP.fconst1 = a := Jvm.FP.Core.fmul_one (fl_val (Nat.le_of_lt h))
theorem fl_one_mul {a : UInt32} (h : P32 a) : FP.fmul FP.fconst1 a = a := by
  rw [show FP.fmul FP.fconst1 a = FP.fmul a FP.fconst1 from Jvm.FP.Core.fmul_comm _ _]
  exact fl_mul_one h
theorem fl_soft {a : UInt32} (c : UInt32) (hc : c.toNat ≤ 1065353216) (h : P32 a) : (FP.fmul c a).toNat ≤ a.toNat := by
  have h1 := fl_mul_mono (a := c) (b := a) (a' := FP.fconst1) (b' := a) (by decide) h hc (Nat.le_refl _)
  rw [fl_one_mul h] at h1
  exact h1
theorem fl_print {a i : UInt32} (ha : FB a) (hi : IB i) : ok_X9_printOf a i ∧ (f_X9_printOf a i).toNat ≤ a.toNat := by
  obtain ⟨h1, h2, h3⟩ := ib_half hi
  have h4 := fl_ratio h1 h2 h3
  have h5 := fl_mul_mono (a := a) (b := FP.fdiv i (FP.fadd i 1056964608)) (a' := a) (b' := FP.fconst1) (fb_p ha) (by decide) (Nat.le_refl _) h4
  rw [fl_mul_one (fb_p ha)] at h5
  have ha' : a.toNat ≤ 1065353216 := ha
  exact ⟨⟨fl_n (Nat.le_of_lt h1), fl_n (by omega), fl_n (by omega)⟩, h5⟩
