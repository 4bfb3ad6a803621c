/-! floats: the core, on encodings without sign; rounding keeps the order -/
section FC
variable {f : Jvm.FP.Core.Fmt}
theorem fc_dec (hf : Jvm.FP.Core.Good f) {n : Nat} (h : n < Jvm.FP.Core.infBits f) : ∃ (c : Nat) (q : Int), Jvm.FP.Core.decode f n = .fin false c q ∧ Jvm.FP.Core.fits f (.fin false c q) ∧ Jvm.FP.Core.inUnits c q f.qmin = Jvm.FP.Core.unitsOf f n := by
  have hl := Jvm.FP.Core.infBits_lt f
  have hm : Jvm.FP.Core.mag f n = n := Jvm.FP.Core.mag_of_lt (Nat.lt_trans h hl)
  obtain ⟨c, q, h1, h2⟩ := Jvm.FP.Core.decode_fin (f := f) (n := n) (by rw [hm]; exact h)
  have hs : Jvm.FP.Core.fieldS f n = false := by
    rw [Jvm.FP.Core.fieldS_mag f (by omega)]
    exact decide_eq_false (by omega)
  rw [hs] at h1
  rw [hm] at h2
  exact ⟨c, q, h1, h1 ▸ Jvm.FP.Core.decode_fits hf n, h2⟩
theorem fc_sign (s s' : Bool) (A B : Nat) (e : Int) : Jvm.FP.Core.zmag f (Jvm.FP.Core.roundRatio f s A B e) = Jvm.FP.Core.zmag f (Jvm.FP.Core.roundRatio f s' A B e) := by
  have h : ∀ d : Jvm.FP.Core.Datum, Jvm.FP.Core.zmag f (Jvm.FP.Core.negate d) = Jvm.FP.Core.zmag f d := fun d => by cases d <;> rfl
  cases s <;> cases s'
  · rfl
  · rw [← h (Jvm.FP.Core.roundRatio f false A B e), Jvm.FP.Core.negate_roundRatio]; rfl
  · rw [← h (Jvm.FP.Core.roundRatio f true A B e), Jvm.FP.Core.negate_roundRatio]; rfl
  · rfl
set_option maxHeartbeats 1000000 in
/-- what is at most as great rounds to at most as much -/
theorem fc_mono (hf : Jvm.FP.Core.Good f) {s s' : Bool} {A B A' B' : Nat} {e e' e0 : Int} (hB : 0 < B) (hB' : 0 < B') (h0 : e0 ≤ f.qmin) (he : e0 ≤ e) (he' : e0 ≤ e')
    (h : Jvm.FP.Core.inUnits A e e0 * B' ≤ Jvm.FP.Core.inUnits A' e' e0 * B) : Jvm.FP.Core.zmag f (Jvm.FP.Core.roundRatio f s A B e) ≤ Jvm.FP.Core.zmag f (Jvm.FP.Core.roundRatio f s' A' B' e') := by
  have fU := Jvm.FP.Core.roundRatio_fits hf s A hB e
  have fV := Jvm.FP.Core.roundRatio_fits hf s' A' hB' e'
  refine Nat.le_of_not_lt fun hlt => ?_
  have n1 : ¬ Jvm.FP.Core.inUnits A e e0 ≤ Jvm.FP.Core.zmag f (Jvm.FP.Core.roundRatio f s' A' B' e') * 2 ^ (f.qmin - e0).toNat * B := fun hh =>
    Nat.not_le.mpr hlt (Jvm.FP.Core.zmag_roundRatio_le hf hB fV (Jvm.FP.Core.roundRatio_ne_nan _ _ _ _ _) h0 he hh)
  have n2 : ¬ Jvm.FP.Core.zmag f (Jvm.FP.Core.roundRatio f s A B e) * 2 ^ (f.qmin - e0).toNat * B' ≤ Jvm.FP.Core.inUnits A' e' e0 := fun hh =>
    Nat.not_le.mpr hlt (Jvm.FP.Core.zmag_roundRatio_ge hf hB' fU h0 he' hh)
  rcases Jvm.FP.Core.roundRatio_cases f s' A' B' e' with ⟨c', q', hV⟩ | hV
  · rcases Jvm.FP.Core.roundRatio_cases f s A B e with ⟨c, q, hU⟩ | hU
    · have fU' := fU
      have fV' := fV
      rw [hU] at fU'
      rw [hV] at fV'
      have d1 := Jvm.FP.Core.roundRatio_nearest hf hB hU fV'.1 fV'.2.1 h0 he
      have d2 := Jvm.FP.Core.roundRatio_nearest hf hB' hV fU'.1 fU'.2.1 h0 he'
      unfold Jvm.FP.Core.distance at d1 d2
      rw [Jvm.FP.Core.units_fin fU' h0, Jvm.FP.Core.units_fin fV' h0] at d1 d2
      rw [hU, hV] at hlt
      rw [hV] at n1
      rw [hU] at n2
      have hne : ¬ Jvm.FP.Core.inUnits A e e0 * B' = Jvm.FP.Core.inUnits A' e' e0 * B := fun hE => by
        have hc : Jvm.FP.Core.roundRatio f s A B e = Jvm.FP.Core.roundRatio f s A' B' e' := by
          refine Jvm.FP.Core.roundRatio_congr hB hB' ?_
          refine Nat.eq_of_mul_eq_mul_right (Nat.two_pow_pos (min e e' - e0).toNat) ?_
          unfold Jvm.FP.Core.inUnits at hE
          have k1 : (e - e0).toNat = (e - e').toNat + (min e e' - e0).toNat := by omega
          have k2 : (e' - e0).toNat = (e' - e).toNat + (min e e' - e0).toNat := by omega
          rw [k1, k2, Nat.pow_add, Nat.pow_add] at hE
          calc A * B' * 2 ^ (e - e').toNat * 2 ^ (min e e' - e0).toNat = A * (2 ^ (e - e').toNat * 2 ^ (min e e' - e0).toNat) * B' := by ac_rfl
            _ = A' * (2 ^ (e' - e).toNat * 2 ^ (min e e' - e0).toNat) * B := hE
            _ = A' * B * 2 ^ (e' - e).toNat * 2 ^ (min e e' - e0).toNat := by ac_rfl
        have := fc_sign (f := f) s s' A' B' e'
        rw [← hc, hU, hV] at this
        omega
      generalize Jvm.FP.Core.inUnits A e e0 = a at *
      generalize Jvm.FP.Core.inUnits A' e' e0 = a' at *
      generalize Jvm.FP.Core.zmag f (.fin s c q) * 2 ^ (f.qmin - e0).toNat = Y at *
      generalize Jvm.FP.Core.zmag f (.fin s' c' q') * 2 ^ (f.qmin - e0).toNat = X at *
      rw [← Int.natCast_mul, ← Int.natCast_mul] at d1 d2
      have m1 : Y * B * B' = Y * B' * B := Nat.mul_right_comm ..
      have m2 : X * B * B' = X * B' * B := Nat.mul_right_comm ..
      have b1 : a < Y * B := by
        refine Nat.lt_of_mul_lt_mul_right (a := B') ?_
        rw [m1]
        exact Nat.lt_of_le_of_lt h (Nat.mul_lt_mul_of_pos_right (by omega) hB)
      have b2 : X * B' < a' := by
        refine Nat.lt_of_mul_lt_mul_right (a := B) ?_
        rw [← m2]
        exact Nat.lt_of_lt_of_le (Nat.mul_lt_mul_of_pos_right (by omega) hB') h
      have c1 : Y * B + X * B ≤ 2 * a := by omega
      have c2 : 2 * a' ≤ Y * B' + X * B' := by omega
      have e1 := Nat.mul_le_mul_right B' c1
      have e2 := Nat.mul_le_mul_right B c2
      rw [Nat.add_mul, Nat.mul_assoc 2] at e1
      rw [Nat.add_mul, Nat.mul_assoc 2] at e2
      exact hne (by omega)
    · have i1 := (Jvm.FP.Core.roundRatio_inf hf (s := s) (A := A) (e := e) (e0 := e0 - 1) hB (by omega) (by omega)).mp hU
      have i2 : Jvm.FP.Core.roundRatio f s' A' B' e' = .inf s' := by
        refine (Jvm.FP.Core.roundRatio_inf hf (e0 := e0 - 1) hB' (by omega) (by omega)).mpr ?_
        have t1 : Jvm.FP.Core.inUnits A e (e0 - 1) = 2 * Jvm.FP.Core.inUnits A e e0 := by
          rw [Jvm.FP.Core.inUnits_move A (r := e0) (by omega) he, show (e0 - (e0 - 1)).toNat = 1 by omega]; omega
        have t2 : Jvm.FP.Core.inUnits A' e' (e0 - 1) = 2 * Jvm.FP.Core.inUnits A' e' e0 := by
          rw [Jvm.FP.Core.inUnits_move A' (r := e0) (by omega) he', show (e0 - (e0 - 1)).toNat = 1 by omega]; omega
        rw [t1] at i1
        rw [t2]
        generalize (2 ^ (f.p + 1) - 1) * 2 ^ (f.qmax - 1 - (e0 - 1)).toNat = K at *
        refine Nat.le_of_mul_le_mul_right (c := B) ?_ hB
        have j1 := Nat.mul_le_mul_right B' i1
        have m1 : K * B * B' = K * B' * B := Nat.mul_right_comm ..
        rw [Nat.mul_assoc 2] at j1 ⊢
        omega
      rw [hV] at i2
      cases i2
  · rw [hV] at hlt
    exact absurd (Jvm.FP.Core.zmag_le_top hf fU) (Nat.not_le.mpr hlt)
/-- a result without sign: its bits -/
theorem fc_res {n A B : Nat} {e : Int} (hf : Jvm.FP.Core.Good f) (hn : Jvm.FP.Core.decode f n = Jvm.FP.Core.roundRatio f false A B e) (hl : n < 2 * Jvm.FP.Core.half f) :
    n ≤ Jvm.FP.Core.infBits f ∧ Jvm.FP.Core.unitsOf f n = Jvm.FP.Core.zmag f (Jvm.FP.Core.roundRatio f false A B e) := by
  have h1 : Jvm.FP.Core.mag f n ≤ Jvm.FP.Core.infBits f := Nat.le_of_not_lt fun h => by
    have := (Jvm.FP.Core.decode_nan (f := f) n).mpr h
    rw [hn] at this
    exact Jvm.FP.Core.roundRatio_ne_nan _ _ _ _ _ this
  have h2 := Jvm.FP.Core.sgn_decode h1 hl
  rw [hn, Jvm.FP.Core.sgn_roundRatio] at h2
  have h3 : ¬ Jvm.FP.Core.half f ≤ n := fun h => by rw [decide_eq_true h] at h2; cases h2
  have h4 : Jvm.FP.Core.mag f n = n := Jvm.FP.Core.mag_of_lt (by omega)
  have h5 := Jvm.FP.Core.zmag_decode hf h1
  rw [hn, h4] at h5
  exact ⟨by rw [← h4]; exact h1, h5.symm⟩
theorem fc_le {n A B m A' B' : Nat} {e e' e0 : Int} (hf : Jvm.FP.Core.Good f) (hn : Jvm.FP.Core.decode f n = Jvm.FP.Core.roundRatio f false A B e) (hl : n < 2 * Jvm.FP.Core.half f) (hm : Jvm.FP.Core.decode f m = Jvm.FP.Core.roundRatio f false A' B' e') (hl' : m < 2 * Jvm.FP.Core.half f)
    (hB : 0 < B) (hB' : 0 < B') (h0 : e0 ≤ f.qmin) (he : e0 ≤ e) (he' : e0 ≤ e') (h : Jvm.FP.Core.inUnits A e e0 * B' ≤ Jvm.FP.Core.inUnits A' e' e0 * B) : n ≤ m := by
  obtain ⟨-, u1⟩ := fc_res hf hn hl
  obtain ⟨-, u2⟩ := fc_res hf hm hl'
  have := fc_mono (s := false) (s' := false) hf hB hB' h0 he he' h
  rw [← u1, ← u2] at this
  exact Jvm.FP.Core.unitsOf_le_iff.mp this
theorem fc_inj (hf : Jvm.FP.Core.Good f) {n m : Nat} (hn : n < 2 * Jvm.FP.Core.half f) (hm : m < 2 * Jvm.FP.Core.half f) (h : Jvm.FP.Core.decode f n = Jvm.FP.Core.decode f m) (hx : Jvm.FP.Core.decode f n ≠ .nan) : n = m := by
  have e : 2 * Jvm.FP.Core.half f = 2 * f.exps * f.tails := by unfold Jvm.FP.Core.half; rw [Nat.mul_assoc]
  rw [← Jvm.FP.Core.encode_decode hf n (by rw [← e]; exact hn) hx, ← Jvm.FP.Core.encode_decode hf m (by rw [← e]; exact hm) (by rw [← h]; exact hx), h]
theorem fc_size (hf : Jvm.FP.Core.Good f) {d : Jvm.FP.Core.Datum} (h : Jvm.FP.Core.fits f d) : Jvm.FP.Core.encode f d < 2 * Jvm.FP.Core.half f := by
  have := Jvm.FP.Core.encode_lt hf d h
  unfold Jvm.FP.Core.half
  rw [← Nat.mul_assoc]; exact this
theorem fc_sum (hf : Jvm.FP.Core.Good f) {x y : Nat} (hx : x < Jvm.FP.Core.infBits f) (hy : y < Jvm.FP.Core.infBits f) : Jvm.FP.Core.decode f (Jvm.FP.Core.add f x y) = Jvm.FP.Core.roundRatio f false (Jvm.FP.Core.unitsOf f x + Jvm.FP.Core.unitsOf f y) 1 f.qmin := by
  obtain ⟨c, q, h1, h2, h3⟩ := fc_dec hf hx
  obtain ⟨d, r, k1, k2, k3⟩ := fc_dec hf hy
  obtain ⟨sg, n, e, p1, p2, p3⟩ := Jvm.FP.Core.sum_units h2 k2
  have hz : Jvm.FP.Core.zval f (.fin false c q) + Jvm.FP.Core.zval f (.fin false d r) = ((Jvm.FP.Core.unitsOf f x + Jvm.FP.Core.unitsOf f y : Nat) : Int) := by
    show (Jvm.FP.Core.inUnits c q f.qmin : Int) + (Jvm.FP.Core.inUnits d r f.qmin : Int) = _
    rw [h3, k3]; exact (Int.natCast_add _ _).symm
  have hsg : sg = false := by
    have : Jvm.FP.Core.exactSum (.fin false c q) (.fin false d r) = .fin (Jvm.FP.Core.sumSign false false (Jvm.FP.Core.sumUnits false c q false d r (min q r))) (Jvm.FP.Core.sumUnits false c q false d r (min q r)).natAbs (min q r) := rfl
    rw [this] at p1
    injection p1 with e1
    rw [← e1]
    unfold Jvm.FP.Core.sumSign
    split
    · rfl
    · exact decide_eq_false (by unfold Jvm.FP.Core.sumUnits Jvm.FP.Core.signed; simp; omega)
  subst hsg
  rw [hz] at p3
  have p4 : Jvm.FP.Core.inUnits n e f.qmin = Jvm.FP.Core.unitsOf f x + Jvm.FP.Core.unitsOf f y := Int.ofNat.inj p3
  unfold Jvm.FP.Core.add
  rw [Jvm.FP.Core.decode_enc hf (Jvm.FP.Core.round_fits hf _), h1, k1, p1]
  show Jvm.FP.Core.roundRatio f false n 1 e = _
  refine Jvm.FP.Core.roundRatio_congr (by decide) (by decide) ?_
  unfold Jvm.FP.Core.inUnits at p4
  rw [← p4, show (f.qmin - e).toNat = 0 by omega]
  simp
/-- a difference, by its sign -/
theorem fc_dif (hf : Jvm.FP.Core.Good f) {x y : Nat} (hx : x < Jvm.FP.Core.infBits f) (hy : y < Jvm.FP.Core.infBits f) : Jvm.FP.Core.decode f (Jvm.FP.Core.sub f x y) = Jvm.FP.Core.roundRatio f (decide (Jvm.FP.Core.unitsOf f x < Jvm.FP.Core.unitsOf f y)) ((Jvm.FP.Core.unitsOf f x : Int) - (Jvm.FP.Core.unitsOf f y : Int)).natAbs 1 f.qmin := by
  obtain ⟨c, q, h1, h2, h3⟩ := fc_dec hf hx
  obtain ⟨d, r, k1, k2, k3⟩ := fc_dec hf hy
  have k2' : Jvm.FP.Core.fits f (.fin true d r) := k2
  obtain ⟨sg, n, e, p1, p2, p3⟩ := Jvm.FP.Core.sum_units h2 k2'
  have hz : Jvm.FP.Core.zval f (.fin false c q) + Jvm.FP.Core.zval f (.fin true d r) = (Jvm.FP.Core.unitsOf f x : Int) - (Jvm.FP.Core.unitsOf f y : Int) := by
    show (Jvm.FP.Core.inUnits c q f.qmin : Int) + -(Jvm.FP.Core.inUnits d r f.qmin : Int) = _
    rw [h3, k3]; omega
  rw [hz] at p3
  have hn : Jvm.FP.Core.inUnits n e f.qmin = ((Jvm.FP.Core.unitsOf f x : Int) - (Jvm.FP.Core.unitsOf f y : Int)).natAbs := by
    rw [← p3, Jvm.FP.Core.natAbs_signed]
  have hsg : sg = decide (Jvm.FP.Core.unitsOf f x < Jvm.FP.Core.unitsOf f y) := by
    have : Jvm.FP.Core.exactSum (.fin false c q) (.fin true d r) = .fin (Jvm.FP.Core.sumSign false true (Jvm.FP.Core.sumUnits false c q true d r (min q r))) (Jvm.FP.Core.sumUnits false c q true d r (min q r)).natAbs (min q r) := rfl
    rw [this] at p1
    injection p1 with e1 e2 e3
    by_cases hv : Jvm.FP.Core.sumUnits false c q true d r (min q r) = 0
    · have hsf : sg = false := by rw [← e1, hv]; rfl
      rw [hv] at e2
      have e2' : n = 0 := e2.symm
      subst e2'
      have : Jvm.FP.Core.inUnits 0 e f.qmin = 0 := Nat.zero_mul _
      rw [this] at hn
      rw [hsf]
      exact (decide_eq_false (by omega)).symm
    · have hsf : sg = decide (Jvm.FP.Core.sumUnits false c q true d r (min q r) < 0) := by rw [← e1]; unfold Jvm.FP.Core.sumSign; rw [if_neg hv]
      have hn0 : n ≠ 0 := by rw [← e2]; omega
      have hp : 0 < Jvm.FP.Core.inUnits n e f.qmin := Nat.mul_pos (by omega) (Nat.two_pow_pos _)
      cases sg
      · simp only [Jvm.FP.Core.signed, Bool.false_eq_true, if_false] at p3
        exact (decide_eq_false (by omega)).symm
      · simp only [Jvm.FP.Core.signed, if_true] at p3
        exact (decide_eq_true (by omega)).symm
  unfold Jvm.FP.Core.sub
  rw [Jvm.FP.Core.decode_enc hf (Jvm.FP.Core.round_fits hf _), h1, k1]
  show Jvm.FP.Core.round f (Jvm.FP.Core.exactSum (.fin false c q) (.fin true d r)) = _
  rw [p1, hsg]
  show Jvm.FP.Core.roundRatio f _ n 1 e = _
  refine Jvm.FP.Core.roundRatio_congr (by decide) (by decide) ?_
  unfold Jvm.FP.Core.inUnits at hn
  rw [← hn, show (f.qmin - e).toNat = 0 by omega]
  simp
theorem fc_prod (hf : Jvm.FP.Core.Good f) {x y : Nat} (hx : x < Jvm.FP.Core.infBits f) (hy : y < Jvm.FP.Core.infBits f) : Jvm.FP.Core.decode f (Jvm.FP.Core.mul f x y) = Jvm.FP.Core.roundRatio f false (Jvm.FP.Core.unitsOf f x * Jvm.FP.Core.unitsOf f y) 1 (2 * f.qmin) := by
  obtain ⟨c, q, h1, h2, h3⟩ := fc_dec hf hx
  obtain ⟨d, r, k1, k2, k3⟩ := fc_dec hf hy
  obtain ⟨p1, p2, p3⟩ := Jvm.FP.Core.product_units h2 k2
  have p4 : Jvm.FP.Core.inUnits (c * d) (q + r) (2 * f.qmin) = Jvm.FP.Core.unitsOf f x * Jvm.FP.Core.unitsOf f y := by
    rw [p3, ← h3, ← k3]; rfl
  unfold Jvm.FP.Core.mul
  rw [Jvm.FP.Core.decode_enc hf (Jvm.FP.Core.round_fits hf _), h1, k1, p1]
  show Jvm.FP.Core.roundRatio f false (c * d) 1 (q + r) = _
  refine Jvm.FP.Core.roundRatio_congr (by decide) (by decide) ?_
  unfold Jvm.FP.Core.inUnits at p4
  rw [← p4, show (2 * f.qmin - (q + r)).toNat = 0 by omega]
  simp
theorem fc_quot (hf : Jvm.FP.Core.Good f) {x y : Nat} (hx : x < Jvm.FP.Core.infBits f) (hy : y < Jvm.FP.Core.infBits f) (h0 : 0 < Jvm.FP.Core.unitsOf f y) : Jvm.FP.Core.decode f (Jvm.FP.Core.div f x y) = Jvm.FP.Core.roundRatio f false (Jvm.FP.Core.unitsOf f x) (Jvm.FP.Core.unitsOf f y) 0 := by
  obtain ⟨c, q, h1, h2, h3⟩ := fc_dec hf hx
  obtain ⟨d, r, k1, k2, k3⟩ := fc_dec hf hy
  have hd : d ≠ 0 := fun h => by
    rw [h] at k3
    have : Jvm.FP.Core.inUnits 0 r f.qmin = 0 := Nat.zero_mul _
    omega
  unfold Jvm.FP.Core.div
  rw [Jvm.FP.Core.decode_enc hf (Jvm.FP.Core.quotient_fits hf _ _), h1, k1]
  show (if d = 0 then (if c = 0 then Jvm.FP.Core.Datum.nan else .inf (false != false)) else Jvm.FP.Core.roundRatio f (false != false) c d (q - r)) = _
  rw [if_neg hd]
  show Jvm.FP.Core.roundRatio f false c d (q - r) = _
  refine Jvm.FP.Core.roundRatio_congr (by omega) h0 ?_
  have hq := h2.2.1
  have hr := k2.2.1
  rw [← h3, ← k3]
  unfold Jvm.FP.Core.inUnits
  have e1 : (r - f.qmin).toNat + (q - r - 0).toNat = (q - f.qmin).toNat + (0 - (q - r)).toNat := by omega
  calc c * (d * 2 ^ (r - f.qmin).toNat) * 2 ^ (q - r - 0).toNat = c * d * 2 ^ ((r - f.qmin).toNat + (q - r - 0).toNat) := by rw [Nat.pow_add]; ac_rfl
    _ = c * d * 2 ^ ((q - f.qmin).toNat + (0 - (q - r)).toNat) := by rw [e1]
    _ = c * 2 ^ (q - f.qmin).toNat * d * 2 ^ (0 - (q - r)).toNat := by rw [Nat.pow_add]; ac_rfl
/-- a value of the format comes out as it is -/
theorem fc_exact (hf : Jvm.FP.Core.Good f) {m A B : Nat} {e : Int} (hm : m < Jvm.FP.Core.infBits f) (hB : 0 < B) (h : A * 2 ^ (e - f.qmin).toNat = Jvm.FP.Core.unitsOf f m * B * 2 ^ (f.qmin - e).toNat) : Jvm.FP.Core.roundRatio f false A B e = Jvm.FP.Core.decode f m := by
  obtain ⟨c, q, h1, h2, h3⟩ := fc_dec hf hm
  rw [h1]
  have hq := h2.2.1
  refine Jvm.FP.Core.roundRatio_exact hf hB h2 ?_
  rw [← h3] at h
  unfold Jvm.FP.Core.inUnits at h
  refine Nat.eq_of_mul_eq_mul_right (Nat.two_pow_pos ((min e q - min e f.qmin).toNat)) ?_
  have e1 : (e - q).toNat + (min e q - min e f.qmin).toNat = (e - f.qmin).toNat := by omega
  have e2 : (q - e).toNat + (min e q - min e f.qmin).toNat = (q - f.qmin).toNat + (f.qmin - e).toNat := by omega
  calc A * 2 ^ (e - q).toNat * 2 ^ (min e q - min e f.qmin).toNat = A * 2 ^ ((e - q).toNat + (min e q - min e f.qmin).toNat) := by rw [Nat.pow_add]; ac_rfl
    _ = A * 2 ^ (e - f.qmin).toNat := by rw [e1]
    _ = c * 2 ^ (q - f.qmin).toNat * B * 2 ^ (f.qmin - e).toNat := h
    _ = c * B * 2 ^ ((q - f.qmin).toNat + (f.qmin - e).toNat) := by rw [Nat.pow_add]; ac_rfl
    _ = c * B * 2 ^ ((q - e).toNat + (min e q - min e f.qmin).toNat) := by rw [e2]
    _ = c * B * 2 ^ (q - e).toNat * 2 ^ (min e q - min e f.qmin).toNat := by rw [Nat.pow_add]; ac_rfl
theorem fc_ne_nan (hf : Jvm.FP.Core.Good f) {n : Nat} (h : n < Jvm.FP.Core.infBits f) : Jvm.FP.Core.decode f n ≠ .nan := by
  obtain ⟨c, q, h1, -⟩ := fc_dec hf h
  rw [h1]
  exact Jvm.FP.Core.Datum.noConfusion
theorem fc_lt_full {n : Nat} (h : n < Jvm.FP.Core.infBits f) : n < 2 * Jvm.FP.Core.half f := by
  have := Jvm.FP.Core.infBits_lt f
  omega
theorem fc_mul_exact (hf : Jvm.FP.Core.Good f) {n k m : Nat} (hn : n < Jvm.FP.Core.infBits f) (hk : k < Jvm.FP.Core.infBits f) (hm : m < Jvm.FP.Core.infBits f) (h : Jvm.FP.Core.unitsOf f n * Jvm.FP.Core.unitsOf f k = Jvm.FP.Core.unitsOf f m * 2 ^ (-f.qmin).toNat) : Jvm.FP.Core.mul f n k = m := by
  have hq := Jvm.FP.Core.qmin_neg hf
  have h1 := fc_prod hf hn hk
  rw [fc_exact hf hm (by decide) (by rw [show (2 * f.qmin - f.qmin).toNat = 0 by omega, show (f.qmin - 2 * f.qmin).toNat = (-f.qmin).toNat by omega, h]; simp)] at h1
  refine (fc_inj hf (fc_lt_full hm) (fc_size hf (Jvm.FP.Core.round_fits hf _)) h1.symm (fc_ne_nan hf hm)).symm
/-- twice and half of an encoding -/
def fc_dbl (f : Jvm.FP.Core.Fmt) (n : Nat) : Nat := if n < f.tails then 2 * n else n + f.tails
theorem fc_units_dbl (n : Nat) : Jvm.FP.Core.unitsOf f (fc_dbl f n) = 2 * Jvm.FP.Core.unitsOf f n := by
  have ht := Jvm.FP.Core.tails_pos f
  unfold fc_dbl
  by_cases h : n < f.tails
  · rw [if_pos h]
    unfold Jvm.FP.Core.unitsOf
    rw [if_pos h]
    by_cases h2 : 2 * n < f.tails
    · rw [if_pos h2]
    · rw [if_neg h2]
      have e1 : 2 * n % f.tails = 2 * n - f.tails := by
        rw [Nat.mod_eq_sub_mod (by omega), Nat.mod_eq_of_lt (by omega)]
      have e2 : 2 * n / f.tails = 1 := by
        exact Nat.div_eq_of_lt_le (k := 1) (by omega) (by omega)
      rw [e1, e2]
      simp
      omega
  · rw [if_neg h]
    unfold Jvm.FP.Core.unitsOf
    rw [if_neg (by omega), if_neg h, Nat.add_mod_right, Nat.add_div_right _ ht]
    have : 1 ≤ n / f.tails := (Nat.le_div_iff_mul_le ht).mpr (by omega)
    rw [show (n / f.tails).succ - 1 = (n / f.tails - 1) + 1 by omega, Nat.pow_succ]
    generalize 2 ^ (n / f.tails - 1) = z
    generalize f.tails + n % f.tails = w
    rw [← Nat.mul_assoc, Nat.mul_comm]
end FC
