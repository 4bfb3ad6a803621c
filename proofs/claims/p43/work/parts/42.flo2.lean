/-! what words, tenths and metres are as floats -/
def cw (k : Nat) : UInt32 := FP.fmul 1028443341 (FP.i2f (nI k))
def tw (k : Nat) : UInt32 := FP.fmul 1036831949 (FP.i2f (nI k))
def mw (k : Nat) : UInt32 := FP.i2f (nI k)
theorem cw_tab : ∀ k, k < 41 → (cw k).toNat ≤ 1073741824 ∧ (1 ≤ k → (cw 1).toNat ≤ (cw k).toNat) := by decide +kernel
theorem cw_pos : 0 < (cw 1).toNat := by decide +kernel
theorem tw_tab : ∀ k, k < 121 → (tw k).toNat ≤ 1094713344 := by decide +kernel
theorem mw_tab : ∀ k, k < 21 → (mw k).toNat ≤ 1101004800 := by decide +kernel
def ykL : List UInt32 := [1094713344, 1094660915, 1094608486, 1094556057, 1094503628, 1094451199, 1094398770, 1094346341, 1094293912, 1094241483, 1094189054, 1094136625, 1094084196, 1094031767, 1093979338, 1093926909, 1093874480, 1093822051, 1093769622, 1093717193, 1093664764, 1093612335, 1093559906, 1093507477, 1093455048, 1093402619, 1093350190, 1093297761, 1093245332, 1093192903, 1093140474, 1093088045, 1093035616, 1092983187, 1092930758, 1092878329, 1092825900, 1092773471, 1092721042, 1092668613, 1092616184, 1092563755, 1092511326, 1092458897, 1092406468, 1092354039, 1092301610, 1092249181, 1092196752, 1092144323, 1092091894, 1092039465, 1091987036, 1091934607, 1091882178, 1091829749, 1091777320, 1091724891, 1091672462, 1091620033, 1091567604, 1091515175, 1091462746, 1091410317, 1091357888, 1091305459, 1091253030, 1091200601, 1091148172, 1091095743, 1091043314, 1090990885, 1090938456, 1090886027, 1090833598, 1090781169, 1090728740, 1090676311, 1090623882, 1090571453, 1090519008, 1090414150, 1090309292, 1090204434, 1090099576, 1089994718, 1089889860, 1089785002, 1089680144, 1089575286, 1089470428, 1089365570, 1089260712, 1089155854, 1089050996, 1088946138, 1088841280, 1088736422, 1088631564, 1088526706, 1088421848, 1088316990, 1088212132, 1088107274, 1088002416, 1087897558, 1087792700, 1087687842, 1087582984, 1087478126, 1087373268, 1087268410, 1087163552, 1087058694, 1086953836, 1086848978, 1086744120, 1086639262, 1086534404, 1086429546, 1086324688, 1086219830, 1086114972, 1086010114, 1085905256, 1085800398, 1085695540, 1085590682, 1085485824, 1085380966, 1085276108, 1085171250, 1085066392, 1084961534, 1084856676, 1084751818, 1084646960, 1084542102, 1084437244, 1084332386, 1084227528, 1084122670, 1084017812, 1083912954, 1083808096, 1083703238, 1083598380, 1083493522, 1083388664, 1083283806, 1083178948, 1083074090, 1082969232, 1082864374, 1082759516, 1082654658, 1082549800, 1082444942, 1082340084, 1082235226, 1082130305, 1081920590, 1081710875, 1081501160, 1081291445, 1081081730, 1080872015, 1080662300, 1080452585, 1080242870, 1080033155, 1079823440, 1079613725, 1079404010, 1079194295, 1078984580, 1078774865, 1078565150, 1078355435, 1078145720, 1077936005, 1077726290, 1077516575, 1077306860, 1077097145, 1076887430, 1076677715, 1076468000, 1076258285, 1076048570, 1075838855, 1075629140, 1075419425, 1075209710, 1074999995, 1074790280, 1074580565, 1074370850, 1074161135, 1073951420, 1073741586, 1073322156, 1072902726, 1072483296, 1072063866, 1071644436, 1071225006, 1070805576, 1070386146, 1069966716, 1069547286, 1069127856, 1068708426, 1068288996, 1067869566, 1067450136, 1067030706, 1066611276, 1066191846, 1065772416, 1065352755, 1064513894, 1063675033, 1062836172, 1061997311, 1061158450, 1060319589, 1059480728, 1058641867, 1057803006, 1056963682, 1055285960, 1053608238, 1051930516, 1050252794, 1048574145, 1045218702, 1041863259, 1036828240, 1028435923]
def yk (k : Nat) : UInt32 := ykL.getD k 0
theorem yk_step : ∀ k, k < 239 → FP.fsub (yk k) (cw 1) = yk (k + 1) := by decide +kernel
theorem yk_p : ∀ k, k < 240 → (yk k).toNat ≤ 1094713344 := by decide +kernel
theorem yk_end : (yk 239).toNat < (cw 1).toNat := by decide +kernel
def fkL : List UInt32 := [1065353216, 1063675494, 1062165544, 1060806589, 1059583530, 1058482777, 1057492099, 1056236370, 1054631472, 1053187064, 1051887096, 1050717125, 1049664151]
def fk (k : Nat) : UInt32 := fkL.getD k 0
theorem fk_step : ∀ k, k < 12 → FP.fmul 1063675494 (fk k) = fk (k + 1) := by decide +kernel
theorem fk_p : ∀ k, k < 13 → (fk k).toNat ≤ 1065353216 := by decide +kernel
theorem fk_end : (fk 12).toNat < 1050253722 := by decide +kernel
def akL : List UInt32 := [0, 1069547520, 1077936128, 1083179008, 1086324736, 1089470464, 1091567616]
def ak (k : Nat) : UInt32 := akL.getD k 0
theorem ak_step : ∀ k, k < 6 → FP.fadd (ak k) 1069547520 = ak (k + 1) := by decide +kernel
theorem ak_end : 1090519040 < (ak 6).toNat := by decide +kernel
/-- a crayon of at most 12, letter after letter -/
def itS (c : UInt32) : Nat → UInt32 → UInt32
  | 0, x => x
  | k + 1, x => itS c k (FP.fsub x c)
abbrev LB (a : UInt32) : Prop := a.toNat ≤ 1094713344
theorem lb_p {a : UInt32} (h : LB a) : P32 a := by show a.toNat < _; have : a.toNat ≤ 1094713344 := h; omega
theorem cw_b {k : Nat} (h : k < 41) : P32 (cw k) := by have := (cw_tab k h).1; show (cw k).toNat < _; omega
theorem its_stop {c : UInt32} (h1 : (cw 1).toNat ≤ c.toNat) : ∀ (d j : Nat), j + d = 239 → ∀ x : UInt32, x.toNat ≤ (yk j).toNat → ∃ N, N ≤ d ∧ (itS c N x).toNat < c.toNat ∧ ∀ i, i < N → c.toNat ≤ (itS c i x).toNat := by
  intro d
  induction d with
  | zero =>
    intro j hj x hx
    have : j = 239 := by omega
    subst this
    have := yk_end
    exact ⟨0, Nat.le_refl _, by show x.toNat < _; omega, fun i hi => by omega⟩
  | succ d ih =>
    intro j hj x hx
    rcases Nat.lt_or_ge x.toNat c.toNat with q | q
    · exact ⟨0, Nat.zero_le _, q, fun i hi => by omega⟩
    · have hy := yk_p j (by omega)
      have h2 := fl_sub_mono (a := x) (b := c) (a' := yk j) (b' := cw 1) (by show _ < _; omega) q hx h1
      rw [yk_step j (by omega)] at h2
      obtain ⟨N, a1, a2, a3⟩ := ih (j + 1) (by omega) (FP.fsub x c) h2
      refine ⟨N + 1, by omega, a2, fun i hi => ?_⟩
      match i, hi with
      | 0, _ => exact q
      | i + 1, hi => exact a3 i (by omega)
theorem its_lb {c : UInt32} : ∀ (i : Nat) (x : UInt32), LB x → (∀ j, j < i → c.toNat ≤ (itS c j x).toNat) → LB (itS c i x) := by
  intro i
  induction i with
  | zero => intro x hx _; exact hx
  | succ i ih =>
    intro x hx h
    refine ih _ ?_ (fun j hj => h (j + 1) (by omega))
    exact Nat.le_trans (fl_sub_le (lb_p hx) (h 0 (by omega))) hx
/-- a potato, stamp after stamp -/
def itF : Nat → UInt32 → UInt32 → UInt32 × UInt32
  | 0, a, i => (a, i)
  | k + 1, a, i => itF k (FP.fmul 1063675494 a) (FP.fmul 1064514355 i)
theorem itf_b : ∀ (k : Nat) (a i : UInt32), FB a → IB i → FB (itF k a i).1 ∧ IB (itF k a i).2 := by
  intro k
  induction k with
  | zero => intro a i ha hi; exact ⟨ha, hi⟩
  | succ k ih =>
    intro a i ha hi
    exact ih _ _ (Nat.le_trans (fl_soft 1063675494 (by decide) (fb_p ha)) ha) (Nat.le_trans (fl_soft 1064514355 (by decide) (ib_p hi)) hi)
theorem itf_stop : ∀ (d j : Nat), j + d = 12 → ∀ (a i : UInt32), a.toNat ≤ (fk j).toNat → IB i → ∃ N, N ≤ d ∧ (f_X9_printOf (itF N a i).1 (itF N a i).2).toNat < 1050253722 ∧ ∀ m, m < N → 1050253722 ≤ (f_X9_printOf (itF m a i).1 (itF m a i).2).toNat := by
  intro d
  induction d with
  | zero =>
    intro j hj a i ha hi
    have : j = 12 := by omega
    subst this
    have hk := fk_p 12 (by decide)
    have he := fk_end
    have := (fl_print (a := a) (i := i) (by show _ ≤ _; omega) hi).2
    exact ⟨0, Nat.le_refl _, by show (f_X9_printOf a i).toNat < _; omega, fun m hm => by omega⟩
  | succ d ih =>
    intro j hj a i ha hi
    rcases Nat.lt_or_ge (f_X9_printOf a i).toNat 1050253722 with q | q
    · exact ⟨0, Nat.zero_le _, q, fun m hm => by omega⟩
    · have hk := fk_p j (by omega)
      have h2 := fl_mul_mono (a := 1063675494) (b := a) (a' := 1063675494) (b' := fk j) (by decide) (by show _ < _; omega) (Nat.le_refl _) ha
      rw [fk_step j (by omega)] at h2
      obtain ⟨N, a1, a2, a3⟩ := ih (j + 1) (by omega) (FP.fmul 1063675494 a) (FP.fmul 1064514355 i) h2 (Nat.le_trans (fl_soft 1064514355 (by decide) (ib_p hi)) hi)
      refine ⟨N + 1, by omega, a2, fun m hm => ?_⟩
      match m, hm with
      | 0, _ => exact q
      | m + 1, hm => exact a3 m (by omega)
/-- hours, one after the other, until the dragon is hungry -/
def itH : Nat → UInt32 → UInt32
  | 0, a => a
  | k + 1, a => itH k (FP.fadd a 1069547520)
theorem ith_b : ∀ (k : Nat) (a : UInt32), HB a → HB (itH k a) := by
  intro k
  induction k with
  | zero => intro a ha; exact ha
  | succ k ih => intro a ha; exact ih _ (hb_add ha)
theorem ith_stop : ∀ (d j : Nat), j + d = 6 → ∀ a : UInt32, HB a → (ak j).toNat ≤ a.toNat → ∃ N, N ≤ d ∧ 1090519040 < (itH N a).toNat ∧ ∀ m, m < N → (itH m a).toNat ≤ 1090519040 := by
  intro d
  induction d with
  | zero =>
    intro j hj a hb ha
    have : j = 6 := by omega
    subst this
    have := ak_end
    exact ⟨0, Nat.le_refl _, by show 1090519040 < a.toNat; omega, fun m hm => by omega⟩
  | succ d ih =>
    intro j hj a hb ha
    rcases Nat.lt_or_ge 1090519040 a.toNat with q | q
    · exact ⟨0, Nat.zero_le _, q, fun m hm => by omega⟩
    · have h2 := fl_add_mono (a := ak j) (b := 1069547520) (a' := a) (b' := 1069547520) (hb_p hb) (by decide) ha (Nat.le_refl _)
      rw [ak_step j (by omega)] at h2
      obtain ⟨N, a1, a2, a3⟩ := ih (j + 1) (by omega) (FP.fadd a 1069547520) (hb_add hb) h2
      refine ⟨N + 1, by omega, a2, fun m hm => ?_⟩
      match m, hm with
      | 0, _ => exact q
      | m + 1, hm => exact a3 m (by omega)
/-- how well a letter can be read -/
theorem fl_read {L : UInt32} {k : Nat} (hL : LB L) (hk : k < 41) : P32 (FP.fadd L FP.fconst1) ∧ P32 (tw k) ∧ P32 (FP.fadd (FP.fadd L FP.fconst1) (tw k)) ∧ (FP.fdiv (FP.fadd L FP.fconst1) (FP.fadd (FP.fadd L FP.fconst1) (tw k))).toNat ≤ 1065353216 := by
  have ht := tw_tab k (by omega)
  have h1 := fl_add_mono (a := L) (b := FP.fconst1) (a' := 1094713344) (b' := FP.fconst1) (by decide) (by decide) hL (Nat.le_refl _)
  have h2 := fl_add_mono (a := 0) (b := FP.fconst1) (a' := L) (b' := FP.fconst1) (lb_p hL) (by decide) (Nat.zero_le _) (Nat.le_refl _)
  rw [show (FP.fadd 1094713344 FP.fconst1).toNat = 1095761920 by decide +kernel] at h1
  rw [show (FP.fadd 0 FP.fconst1).toNat = 1065353216 by decide +kernel] at h2
  have p1 : P32 (FP.fadd L FP.fconst1) := by show _ < _; omega
  have p2 : P32 (tw k) := by show _ < _; omega
  have h3 := fl_add_mono (a := FP.fadd L FP.fconst1) (b := tw k) (a' := 1095761920) (b' := 1094713344) (by decide) (by decide) h1 ht
  rw [show (FP.fadd 1095761920 1094713344).toNat = 1103626240 by decide +kernel] at h3
  have h4 := fl_add_le p1 p2
  have p3 : P32 (FP.fadd (FP.fadd L FP.fconst1) (tw k)) := by show _ < _; omega
  exact ⟨p1, p2, p3, fl_ratio p3 (by omega) h4⟩
theorem na_mul (a b P : Nat) : (((a * P : Nat) : Int) - ((b * P : Nat) : Int)).natAbs = ((a : Int) - (b : Nat)).natAbs * P := by
  rw [Int.natCast_mul, Int.natCast_mul, ← Int.sub_mul, Int.natAbs_mul, Int.natAbs_natCast]

/-! the bits of a float, by halving and doubling -/
theorem b32_sh : ∀ e, e < 255 → (nI e <<< ((23 : Int32) &&& 31)) = nI (e * 8388608) := by decide +kernel
set_option maxHeartbeats 1000000 in
theorem b32_core {s : UInt32} {a : Nat} (hs : s.toNat < 2139095040) (hu : Jvm.FP.Core.unitsOf Jvm.FP.Core.b32 s.toNat = a * 2 ^ 126) (ha : a < 2 * 8388608) :
    vf_n32 (FP.fsub s FP.fconst1) ∧ vf_n32 (FP.fmul (FP.fsub s FP.fconst1) 1258291200) ∧ (FP.f2i (FP.fmul (FP.fsub s FP.fconst1) 1258291200)).toInt = (a : Int) - 8388608 := by
  have g := Jvm.FP.Core.good_b32
  have hi : Jvm.FP.Core.infBits Jvm.FP.Core.b32 = 2139095040 := Jvm.FP.Core.infBits_b32
  have hq : Jvm.FP.Core.b32.qmin = -149 := Jvm.FP.Core.qmin_b32
  have hd := fc_dif (f := Jvm.FP.Core.b32) g (x := s.toNat) (y := FP.fconst1.toNat) (by rw [hi]; exact hs) (by rw [hi]; decide)
  rw [hu, show Jvm.FP.Core.unitsOf Jvm.FP.Core.b32 FP.fconst1.toNat = 8388608 * 2 ^ 126 by decide +kernel] at hd
  obtain ⟨c, hc⟩ : ∃ c : Nat, c = ((a : Int) - (8388608 : Nat)).natAbs := ⟨_, rfl⟩
  have hP : 0 < 2 ^ 126 := Nat.two_pow_pos _
  have e1 : (((a * 2 ^ 126 : Nat) : Int) - ((8388608 * 2 ^ 126 : Nat) : Int)).natAbs = c * 2 ^ 126 := by
    rw [hc]
    exact na_mul a 8388608 (2 ^ 126)
  have e2 : decide (a * 2 ^ 126 < 8388608 * 2 ^ 126) = decide (a < 8388608) := by
    rcases Nat.lt_or_ge a 8388608 with q | q
    · rw [decide_eq_true q, decide_eq_true (Nat.mul_lt_mul_of_pos_right q hP)]
    · rw [decide_eq_false (Nat.not_lt.mpr q), decide_eq_false (Nat.not_lt.mpr (Nat.mul_le_mul_right _ q))]
  rw [e1, e2] at hd
  obtain ⟨sg, hsg⟩ : ∃ sg : Bool, sg = decide (a < 8388608) := ⟨_, rfl⟩
  rw [← hsg] at hd
  have hc2 : c < 2 ^ Jvm.FP.Core.b32.p := by show c < 2 ^ 24; rw [show (2 : Nat) ^ 24 = 2 * 8388608 by decide]; omega
  obtain ⟨c', q', r1, r2⟩ := Jvm.FP.Core.round_exact g sg (c := c) (q := Jvm.FP.Core.b32.qmin + 126) hc2 (by omega) (by rw [hq]; decide)
  have hv1 : Jvm.FP.Core.val32 (FP.fsub s FP.fconst1) = .fin sg c' q' := by
    show Jvm.FP.Core.decode Jvm.FP.Core.b32 (FP.fsub s FP.fconst1).toNat = _
    rw [fl_sub, hd, ← r1]
    show _ = Jvm.FP.Core.roundRatio Jvm.FP.Core.b32 sg c 1 (Jvm.FP.Core.b32.qmin + 126)
    refine Jvm.FP.Core.roundRatio_congr (by decide) (by decide) ?_
    rw [show (Jvm.FP.Core.b32.qmin - (Jvm.FP.Core.b32.qmin + 126)).toNat = 0 by omega, show (Jvm.FP.Core.b32.qmin + 126 - Jvm.FP.Core.b32.qmin).toNat = 126 by omega]
    rw [Nat.pow_zero, Nat.mul_one, Nat.mul_one, Nat.mul_one]
  have hf1 := Jvm.FP.Core.val32_fits (FP.fsub s FP.fconst1)
  rw [hv1] at hf1
  have hq' := hf1.2.1
  obtain ⟨c3, q3, r3, r4⟩ := Jvm.FP.Core.round_exact g sg (c := c) (q := 0) hc2 (by rw [hq]; decide) (by decide)
  have hv2 : Jvm.FP.Core.val32 (FP.fmul (FP.fsub s FP.fconst1) 1258291200) = .fin sg c3 q3 := by
    show Jvm.FP.Core.val32 (Jvm.FP.Core.fmul (FP.fsub s FP.fconst1) 1258291200) = _
    rw [Jvm.FP.Core.val32_fmul, hv1, show Jvm.FP.Core.val32 1258291200 = .fin false 8388608 0 by decide +kernel, ← r3]
    show Jvm.FP.Core.roundRatio Jvm.FP.Core.b32 (sg != false) (c' * 8388608) 1 (q' + 0) = Jvm.FP.Core.roundRatio Jvm.FP.Core.b32 sg c 1 0
    rw [show (sg != false) = sg by cases sg <;> rfl]
    refine Jvm.FP.Core.roundRatio_congr (by decide) (by decide) ?_
    rw [hq] at hq' r2
    unfold Jvm.FP.Core.inUnits at r2
    rw [show (-149 + 126 - -149 : Int).toNat = 126 by decide] at r2
    refine Nat.eq_of_mul_eq_mul_right hP ?_
    have k1 : (q' + 0 - 0 : Int).toNat + 149 = (q' - -149).toNat + (0 - (q' + 0) : Int).toNat := by omega
    calc c' * 8388608 * 1 * 2 ^ (q' + 0 - 0 : Int).toNat * 2 ^ 126 = c' * 2 ^ (q' + 0 - 0 : Int).toNat * (8388608 * 2 ^ 126) := by rw [Nat.mul_one, Nat.mul_right_comm c', Nat.mul_assoc]
      _ = c' * (2 ^ (q' + 0 - 0 : Int).toNat * 2 ^ 149) := by rw [show 8388608 * 2 ^ 126 = 2 ^ 149 by decide +kernel, Nat.mul_assoc]
      _ = c' * (2 ^ (q' - -149).toNat * 2 ^ (0 - (q' + 0) : Int).toNat) := by rw [← Nat.pow_add, ← Nat.pow_add, k1]
      _ = c' * 2 ^ (q' - -149).toNat * 2 ^ (0 - (q' + 0) : Int).toNat := by rw [Nat.mul_assoc]
      _ = c * 2 ^ 126 * 2 ^ (0 - (q' + 0) : Int).toNat := by rw [r2]
      _ = c * 1 * 2 ^ (0 - (q' + 0) : Int).toNat * 2 ^ 126 := by rw [Nat.mul_one, Nat.mul_right_comm]
  have n1 : Jvm.FP.Core.val32 (FP.fsub s FP.fconst1) ≠ .nan := by rw [hv1]; exact Jvm.FP.Core.Datum.noConfusion
  have n2 : Jvm.FP.Core.val32 (FP.fmul (FP.fsub s FP.fconst1) 1258291200) ≠ .nan := by rw [hv2]; exact Jvm.FP.Core.Datum.noConfusion
  refine ⟨fl_nN n1, fl_nN n2, ?_⟩
  have hfin := Jvm.FP.Core.f2i_val n2
  rw [hv2] at hfin
  have hz : Jvm.FP.Core.zmag Jvm.FP.Core.b32 (.fin sg c3 q3) / Jvm.FP.Core.one32 = c := by
    show Jvm.FP.Core.inUnits c3 q3 Jvm.FP.Core.b32.qmin / Jvm.FP.Core.one32 = c
    rw [r4, hq]
    unfold Jvm.FP.Core.inUnits Jvm.FP.Core.one32
    rw [show ((0 : Int) - -149).toNat = 149 by decide]
    exact Nat.mul_div_cancel _ (Nat.two_pow_pos _)
  rw [hz] at hfin
  show (Jvm.FP.Core.f2i (FP.fmul (FP.fsub s FP.fconst1) 1258291200)).toInt = _
  rw [hfin]
  show max _ (min _ (Jvm.FP.Core.signed sg c)) = _
  rw [hsg]
  rcases Nat.lt_or_ge a 8388608 with q | q
  · rw [decide_eq_true q]
    simp only [Jvm.FP.Core.signed, if_true]
    omega
  · rw [decide_eq_false (Nat.not_lt.mpr q)]
    simp only [Jvm.FP.Core.signed, Bool.false_eq_true, if_false]
    omega
theorem b32_sum {e a n : Nat} {v : Int32} (he : e < 255) (hv : v.toInt = (a : Int) - 8388608) (h : e * 8388608 + a = n + 8388608) : (nI e <<< ((23 : Int32) &&& 31)) + v = nI n := by
  rw [b32_sh e he, ← Int32.ofInt_toInt v, hv]
  show Int32.ofNat (e * 8388608) + _ = Int32.ofNat n
  rw [← Int32.ofInt_eq_ofNat, ← Int32.ofInt_eq_ofNat, ← Int32.ofInt_add]
  congr 1
  omega
theorem b32_inj {m n : Nat} (h : Jvm.FP.Core.unitsOf Jvm.FP.Core.b32 m = Jvm.FP.Core.unitsOf Jvm.FP.Core.b32 n) : m = n := by
  have h1 := Jvm.FP.Core.unitsOf_le_iff (f := Jvm.FP.Core.b32) (m := m) (k := n)
  have h2 := Jvm.FP.Core.unitsOf_le_iff (f := Jvm.FP.Core.b32) (m := n) (k := m)
  omega
theorem b32_units {e t : Nat} (he : 1 ≤ e) (ht : t < 8388608) : Jvm.FP.Core.unitsOf Jvm.FP.Core.b32 (e * 8388608 + t) = (8388608 + t) * 2 ^ (e - 1) := by
  have hT : Jvm.FP.Core.b32.tails = 8388608 := Jvm.FP.Core.tails_b32
  unfold Jvm.FP.Core.unitsOf
  rw [hT, if_neg (by omega), Nat.add_comm (e * 8388608) t, Nat.add_mul_mod_self_right, Nat.mod_eq_of_lt ht, Nat.add_mul_div_right _ _ (by decide), Nat.div_eq_of_lt ht, Nat.zero_add]
theorem b32_low {n : Nat} (h : n < 2 * 8388608) : Jvm.FP.Core.unitsOf Jvm.FP.Core.b32 n = n := by
  rcases Nat.lt_or_ge n 8388608 with q | q
  · unfold Jvm.FP.Core.unitsOf
    rw [show Jvm.FP.Core.b32.tails = 8388608 from Jvm.FP.Core.tails_b32, if_pos q]
  · have := b32_units (e := 1) (t := n - 8388608) (Nat.le_refl _) (by omega)
    rw [show 1 * 8388608 + (n - 8388608) = n by omega] at this
    rw [this]
    rw [Nat.sub_self 1, Nat.pow_zero, Nat.mul_one]
theorem b32_dbl {s : UInt32} (h : s.toNat < 1065353216) : (FP.fmul s FP.fconst2).toNat = fc_dbl Jvm.FP.Core.b32 s.toNat ∧ (FP.fmul s FP.fconst2).toNat < 1073741824 := by
  have g := Jvm.FP.Core.good_b32
  have hi : Jvm.FP.Core.infBits Jvm.FP.Core.b32 = 2139095040 := Jvm.FP.Core.infBits_b32
  have hT : Jvm.FP.Core.b32.tails = 8388608 := Jvm.FP.Core.tails_b32
  have hlt : fc_dbl Jvm.FP.Core.b32 s.toNat < 1073741824 := by unfold fc_dbl; rw [hT]; split <;> omega
  have h1 := fc_mul_exact (f := Jvm.FP.Core.b32) g (n := s.toNat) (k := (FP.fconst2 : UInt32).toNat) (m := fc_dbl Jvm.FP.Core.b32 s.toNat) (by rw [hi]; omega) (by rw [hi]; decide) (by rw [hi]; omega) (by
    rw [fc_units_dbl, show Jvm.FP.Core.unitsOf Jvm.FP.Core.b32 (FP.fconst2 : UInt32).toNat = 2 * 2 ^ (-Jvm.FP.Core.b32.qmin).toNat by decide +kernel, ← Nat.mul_assoc, Nat.mul_comm _ 2])
  have h2 : (FP.fmul s FP.fconst2).toNat = fc_dbl Jvm.FP.Core.b32 s.toNat := by rw [fl_mul]; exact h1
  exact ⟨h2, by rw [h2]; exact hlt⟩
theorem b32_half {s : UInt32} (h : 1073741824 ≤ s.toNat) (h2 : s.toNat < 2139095040) : (FP.fmul s 1056964608).toNat = s.toNat - 8388608 ∧ 2 * Jvm.FP.Core.unitsOf Jvm.FP.Core.b32 (s.toNat - 8388608) = Jvm.FP.Core.unitsOf Jvm.FP.Core.b32 s.toNat := by
  have g := Jvm.FP.Core.good_b32
  have hi : Jvm.FP.Core.infBits Jvm.FP.Core.b32 = 2139095040 := Jvm.FP.Core.infBits_b32
  have hT : Jvm.FP.Core.b32.tails = 8388608 := Jvm.FP.Core.tails_b32
  have hu : 2 * Jvm.FP.Core.unitsOf Jvm.FP.Core.b32 (s.toNat - 8388608) = Jvm.FP.Core.unitsOf Jvm.FP.Core.b32 s.toNat := by
    rw [← fc_units_dbl]
    unfold fc_dbl
    rw [hT, if_neg (by omega), show s.toNat - 8388608 + 8388608 = s.toNat by omega]
  have h1 := fc_mul_exact (f := Jvm.FP.Core.b32) g (n := s.toNat) (k := (1056964608 : UInt32).toNat) (m := s.toNat - 8388608) (by rw [hi]; omega) (by rw [hi]; decide) (by rw [hi]; omega) (by
    rw [← hu, show 2 ^ (-Jvm.FP.Core.b32.qmin).toNat = 2 * Jvm.FP.Core.unitsOf Jvm.FP.Core.b32 (1056964608 : UInt32).toNat by decide +kernel]
    generalize Jvm.FP.Core.unitsOf Jvm.FP.Core.b32 (1056964608 : UInt32).toNat = z
    rw [Nat.mul_comm 2, Nat.mul_assoc])
  exact ⟨by rw [fl_mul]; exact h1, hu⟩
set_option maxRecDepth 4000 in
theorem b32_second {n0 : Nat} : ∀ (e n : Nat) (s x0 : UInt32), (e < n ∨ (0 < n ∧ 1065353216 ≤ s.toNat)) → e < 255 → 1 ≤ e → s.toNat < 1073741824 → Jvm.FP.Core.unitsOf Jvm.FP.Core.b32 s.toNat * 2 ^ e = Jvm.FP.Core.unitsOf Jvm.FP.Core.b32 n0 * 2 ^ 127 →
    okX0_ofFloat_L37 n x0 s (nI e) ∧ fX0_ofFloat_L37 n x0 s (nI e) = nI n0 := by
  intro e
  induction e with
  | zero => intro n s x0 _ _ h; omega
  | succ e ih =>
    intro n s x0 hn he _ hs hu
    obtain ⟨n, rfl⟩ : ∃ m, n = m + 1 := ⟨n - 1, by omega⟩
    have hU2 : Jvm.FP.Core.unitsOf Jvm.FP.Core.b32 s.toNat < 2 * 8388608 * 2 ^ 126 := by
      have := Jvm.FP.Core.unitsOf_lt (f := Jvm.FP.Core.b32) hs
      rw [show Jvm.FP.Core.unitsOf Jvm.FP.Core.b32 1073741824 = 2 * 8388608 * 2 ^ 126 by decide +kernel] at this
      exact this
    rw [okX0_ofFloat_L37, fX0_ofFloat_L37]
    by_cases h1 : e = 0
    · subst h1
      have hu' : Jvm.FP.Core.unitsOf Jvm.FP.Core.b32 s.toNat = Jvm.FP.Core.unitsOf Jvm.FP.Core.b32 n0 * 2 ^ 126 := by
        have k : Jvm.FP.Core.unitsOf Jvm.FP.Core.b32 n0 * 2 ^ 127 = Jvm.FP.Core.unitsOf Jvm.FP.Core.b32 n0 * 2 ^ 126 * 2 := by
          show _ * 2 ^ (126 + 1) = _
          rw [Nat.pow_succ, Nat.mul_assoc]
        rw [k, show (2 : Nat) ^ (0 + 1) = 2 from rfl] at hu
        exact Nat.eq_of_mul_eq_mul_right (by decide) hu
      have ha : Jvm.FP.Core.unitsOf Jvm.FP.Core.b32 n0 < 2 * 8388608 := by
        rw [hu'] at hU2
        exact Nat.lt_of_mul_lt_mul_right hU2
      obtain ⟨o1, o2, o3⟩ := b32_core (a := Jvm.FP.Core.unitsOf Jvm.FP.Core.b32 n0) (by omega) hu' ha
      have hle : nI (0 + 1) ≤ (1 : Int32) := by decide
      rw [if_pos hle]
      have hn0 : n0 = Jvm.FP.Core.unitsOf Jvm.FP.Core.b32 n0 := b32_inj (b32_low ha).symm
      exact ⟨⟨fun _ => ⟨o1, o2⟩, fun h => absurd hle h⟩, b32_sum (e := 1) (by decide) o3 (by omega)⟩
    · have hnle : ¬ nI (e + 1) ≤ (1 : Int32) := fun h => by
        have := (nI_leI (a := e + 1) (b := 1) (by omega) (by decide)).mp h
        omega
      rw [if_neg hnle]
      have hc := fl_ge0 (a := s) (b := FP.fconst1) (by show _ < _; omega) (by decide) CmpOp.g
      by_cases h2 : 1065353216 ≤ s.toNat
      · have hge : 0 ≤ Op.cmpValue (FP.fcmp s FP.fconst1) CmpOp.g := hc.mpr h2
        rw [if_pos hge]
        obtain ⟨t, ht⟩ : ∃ t, s.toNat = 127 * 8388608 + t := ⟨s.toNat - 1065353216, by omega⟩
        have ht2 : t < 8388608 := by omega
        have hus := b32_units (e := 127) (t := t) (by decide) ht2
        rw [← ht] at hus
        obtain ⟨o1, o2, o3⟩ := b32_core (a := 8388608 + t) (by omega) hus (by omega)
        have hn0 : n0 = (e + 1) * 8388608 + t := by
          refine b32_inj ?_
          rw [b32_units (by omega) ht2]
          rw [hus] at hu
          refine Nat.eq_of_mul_eq_mul_right (Nat.two_pow_pos 127) ?_
          rw [← hu, Nat.mul_assoc, Nat.mul_assoc, ← Nat.pow_add, ← Nat.pow_add]
          congr 2
          omega
        exact ⟨⟨fun h => absurd h hnle, fun _ => ⟨fun _ => ⟨o1, o2⟩, fun h => absurd hge h⟩⟩, b32_sum (e := e + 1) he o3 (by omega)⟩
      · have hnge : ¬ 0 ≤ Op.cmpValue (FP.fcmp s FP.fconst1) CmpOp.g := fun h => h2 (hc.mp h)
        rw [if_neg hnge]
        obtain ⟨d1, d2⟩ := b32_dbl (s := s) (by omega)
        obtain ⟨i1, i2⟩ := ih n (FP.fmul s FP.fconst2) x0 (Or.inl (by omega)) (by omega) (by omega) d2 (by
          rw [d1, fc_units_dbl, ← hu, Nat.pow_succ]
          rw [Nat.mul_comm 2, Nat.mul_assoc, Nat.mul_comm 2])
        have hm : nI (e + 1) + (-1 : Int32) = nI e := pk_m1 e
        rw [hm]
        exact ⟨⟨fun h => absurd h hnle, fun _ => ⟨fun h => absurd h hnge, fun _ => ⟨fl_n (by omega), i1⟩⟩⟩, i2⟩
theorem b32_first {n0 : Nat} (h0 : n0 < 2139095040) : ∀ (d e n : Nat) (s x0 : UInt32), e + d = 254 → d < n → 127 ≤ e → (e = 127 ∨ 1065353216 ≤ s.toNat) → s.toNat < 2139095040 → Jvm.FP.Core.unitsOf Jvm.FP.Core.b32 s.toNat * 2 ^ e = Jvm.FP.Core.unitsOf Jvm.FP.Core.b32 n0 * 2 ^ 127 →
    okX0_ofFloat_L13 n x0 s (nI e) ∧ fX0_ofFloat_L13 n x0 s (nI e) = nI n0 := by
  intro d
  induction d with
  | zero =>
    intro e n s x0 he hn hb ho hs hu
    have : e = 254 := by omega
    subst this
    obtain ⟨n, rfl⟩ : ∃ m, n = m + 1 := ⟨n - 1, by omega⟩
    rw [okX0_ofFloat_L13, fX0_ofFloat_L13]
    have hle : (254 : Int32) ≤ nI 254 := by decide
    rw [if_pos hle]
    have hs2 : s.toNat < 1073741824 := by
      refine Jvm.FP.Core.unitsOf_lt_iff (f := Jvm.FP.Core.b32).mp ?_
      have h1 := Jvm.FP.Core.unitsOf_lt (f := Jvm.FP.Core.b32) h0
      rw [show Jvm.FP.Core.unitsOf Jvm.FP.Core.b32 2139095040 = 8388608 * 2 ^ 254 by decide +kernel] at h1
      rw [show Jvm.FP.Core.unitsOf Jvm.FP.Core.b32 1073741824 = 8388608 * 2 ^ 127 by decide +kernel]
      refine Nat.lt_of_mul_lt_mul_right (a := 2 ^ 254) ?_
      rw [hu, Nat.mul_right_comm]
      exact Nat.mul_lt_mul_of_pos_right h1 (Nat.two_pow_pos _)
    obtain ⟨i1, i2⟩ := b32_second 254 2000 s x0 (Or.inr ⟨by decide, by omega⟩) (by decide) (by decide) hs2 hu
    exact ⟨⟨fun _ => i1, fun h => absurd hle h⟩, i2⟩
  | succ d ih =>
    intro e n s x0 he hn hb ho hs hu
    obtain ⟨n, rfl⟩ : ∃ m, n = m + 1 := ⟨n - 1, by omega⟩
    rw [okX0_ofFloat_L13, fX0_ofFloat_L13]
    have hnle : ¬ (254 : Int32) ≤ nI e := fun h => by
      have := (nI_leI (a := 254) (b := e) (by decide) (by omega)).mp h
      omega
    rw [if_neg hnle]
    have hc := fl_lt0 (a := s) (b := FP.fconst2) hs (by decide) CmpOp.l
    by_cases h2 : s.toNat < 1073741824
    · have hlt : Op.cmpValue (FP.fcmp s FP.fconst2) CmpOp.l < 0 := hc.mpr h2
      rw [if_pos hlt]
      obtain ⟨i1, i2⟩ := b32_second e 2000 s x0 (by omega) (by omega) (by omega) h2 hu
      exact ⟨⟨fun h => absurd h hnle, fun _ => ⟨fun _ => i1, fun h => absurd hlt h⟩⟩, i2⟩
    · have hnlt : ¬ Op.cmpValue (FP.fcmp s FP.fconst2) CmpOp.l < 0 := fun h => h2 (hc.mp h)
      rw [if_neg hnlt]
      obtain ⟨d1, d2⟩ := b32_half (s := s) (by omega) hs
      obtain ⟨i1, i2⟩ := ih (e + 1) n (FP.fmul s 1056964608) x0 (by omega) (by omega) (by omega) (Or.inr (by omega)) (by omega) (by
        rw [d1, ← hu, ← d2, Nat.pow_succ]
        generalize Jvm.FP.Core.unitsOf Jvm.FP.Core.b32 (s.toNat - 8388608) = z
        rw [Nat.mul_comm 2 z, Nat.mul_assoc, Nat.mul_comm 2])
      rw [nI_1]
      exact ⟨⟨fun h => absurd h hnle, fun _ => ⟨fun h => absurd h hnlt, fun _ => ⟨fl_n (by omega), i1⟩⟩⟩, i2⟩
theorem b32_of {x : UInt32} (h : x.toNat < 2139095040) : ok_X0_ofFloat x ∧ f_X0_ofFloat x = nI x.toNat := by
  rw [ok_X0_ofFloat, f_X0_ofFloat]
  have hc := fl_gt0 (a := x) (b := FP.fconst0) h (by decide) CmpOp.g
  by_cases h0 : 0 < x.toNat
  · have hgt : 0 < Op.cmpValue (FP.fcmp x FP.fconst0) CmpOp.g := hc.mpr h0
    rw [if_pos hgt]
    obtain ⟨i1, i2⟩ := b32_first h (254 - 127) 127 2000 x x (by decide) (by decide) (Nat.le_refl _) (Or.inl rfl) h rfl
    exact ⟨⟨fun _ => i1, fun h => absurd hgt h⟩, i2⟩
  · have hngt : ¬ 0 < Op.cmpValue (FP.fcmp x FP.fconst0) CmpOp.g := fun h => h0 (hc.mp h)
    rw [if_neg hngt, show x.toNat = 0 by omega]
    exact ⟨⟨fun h => absurd h hngt, fun _ => trivial⟩, rfl⟩
theorem b32_raw {x : UInt32} (h : x.toNat < 2139095040) : f_Jxf58ca_floatToIntBits_5c35a x = nI x.toNat := by
  unfold f_Jxf58ca_floatToIntBits_5c35a f_Jxf58ca_isNaN_12338
  have hc := (fl_eq0 (a := x) (b := x) h h CmpOp.l).mpr rfl
  rw [if_pos hc]
  show x.toInt32 = Int32.ofNat x.toNat
  exact Int32.toBitVec_inj.1 (by show x.toBitVec = BitVec.ofNat 32 x.toBitVec.toNat; simp)
theorem b32_same {x : UInt32} (h : x.toNat < 2139095040) : f_X0_ofFloat x = f_Jxf58ca_floatToIntBits_5c35a x := (b32_of h).2.trans (b32_raw h).symm

/-! doubles -/
abbrev P64 (a : UInt64) : Prop := a.toNat < 9218868437227405312
theorem do_g : Jvm.FP.Core.Good Jvm.FP.Core.b64 := Jvm.FP.Core.good_b64
theorem do_inf : Jvm.FP.Core.infBits Jvm.FP.Core.b64 = 9218868437227405312 := Jvm.FP.Core.infBits_b64
theorem do_pi {n : Nat} (h : n < 9218868437227405312) : n < Jvm.FP.Core.infBits Jvm.FP.Core.b64 := by rw [do_inf]; exact h
theorem do_add (a b : UInt64) : (FP.dadd a b).toNat = Jvm.FP.Core.add Jvm.FP.Core.b64 a.toNat b.toNat := Jvm.FP.Core.toNat_of64 (Jvm.FP.Core.round_fits do_g _)
theorem do_sub (a b : UInt64) : (FP.dsub a b).toNat = Jvm.FP.Core.sub Jvm.FP.Core.b64 a.toNat b.toNat := Jvm.FP.Core.toNat_of64 (Jvm.FP.Core.round_fits do_g _)
theorem do_mul (a b : UInt64) : (FP.dmul a b).toNat = Jvm.FP.Core.mul Jvm.FP.Core.b64 a.toNat b.toNat := Jvm.FP.Core.toNat_of64 (Jvm.FP.Core.round_fits do_g _)
theorem do_div (a b : UInt64) : (FP.ddiv a b).toNat = Jvm.FP.Core.div Jvm.FP.Core.b64 a.toNat b.toNat := Jvm.FP.Core.toNat_of64 (Jvm.FP.Core.quotient_fits do_g _ _)
theorem do_zadd (x y : Nat) : Jvm.FP.Core.add Jvm.FP.Core.b64 x y < 2 * Jvm.FP.Core.half Jvm.FP.Core.b64 := fc_size do_g (Jvm.FP.Core.round_fits do_g _)
theorem do_zsub (x y : Nat) : Jvm.FP.Core.sub Jvm.FP.Core.b64 x y < 2 * Jvm.FP.Core.half Jvm.FP.Core.b64 := fc_size do_g (Jvm.FP.Core.round_fits do_g _)
theorem do_zmul (x y : Nat) : Jvm.FP.Core.mul Jvm.FP.Core.b64 x y < 2 * Jvm.FP.Core.half Jvm.FP.Core.b64 := fc_size do_g (Jvm.FP.Core.round_fits do_g _)
theorem do_zdiv (x y : Nat) : Jvm.FP.Core.div Jvm.FP.Core.b64 x y < 2 * Jvm.FP.Core.half Jvm.FP.Core.b64 := fc_size do_g (Jvm.FP.Core.quotient_fits do_g _ _)
theorem do_uz : Jvm.FP.Core.unitsOf Jvm.FP.Core.b64 0 = 0 := Jvm.FP.Core.unitsOf_zero _
theorem do_add_mono {a b a' b' : UInt64} (ha : P64 a') (hb : P64 b') (h1 : a.toNat ≤ a'.toNat) (h2 : b.toNat ≤ b'.toNat) : (FP.dadd a b).toNat ≤ (FP.dadd a' b').toNat := by
  rw [do_add, do_add]
  refine fc_le (e0 := Jvm.FP.Core.b64.qmin) do_g (fc_sum do_g (do_pi (by omega)) (do_pi (by omega))) (do_zadd _ _) (fc_sum do_g (do_pi ha) (do_pi hb)) (do_zadd _ _) (by decide) (by decide) (Int.le_refl _) (Int.le_refl _) (Int.le_refl _) ?_
  rw [fc_iu, fc_iu]
  have e1 := Jvm.FP.Core.unitsOf_le_iff (f := Jvm.FP.Core.b64).mpr h1
  have e2 := Jvm.FP.Core.unitsOf_le_iff (f := Jvm.FP.Core.b64).mpr h2
  omega
theorem do_mul_mono {a b a' b' : UInt64} (ha : P64 a') (hb : P64 b') (h1 : a.toNat ≤ a'.toNat) (h2 : b.toNat ≤ b'.toNat) : (FP.dmul a b).toNat ≤ (FP.dmul a' b').toNat := by
  rw [do_mul, do_mul]
  have hq := Jvm.FP.Core.qmin_neg do_g
  refine fc_le (e0 := 2 * Jvm.FP.Core.b64.qmin) do_g (fc_prod do_g (do_pi (by omega)) (do_pi (by omega))) (do_zmul _ _) (fc_prod do_g (do_pi ha) (do_pi hb)) (do_zmul _ _) (by decide) (by decide) (by omega) (Int.le_refl _) (Int.le_refl _) ?_
  rw [fc_iu, fc_iu]
  have e1 := Jvm.FP.Core.unitsOf_le_iff (f := Jvm.FP.Core.b64).mpr h1
  have e2 := Jvm.FP.Core.unitsOf_le_iff (f := Jvm.FP.Core.b64).mpr h2
  exact Nat.mul_le_mul_right 1 (Nat.mul_le_mul e1 e2)
theorem do_upos {a : UInt64} (h : 0 < a.toNat) : 0 < Jvm.FP.Core.unitsOf Jvm.FP.Core.b64 a.toNat := by
  have := Jvm.FP.Core.unitsOf_lt (f := Jvm.FP.Core.b64) h
  omega
theorem do_div_mono {a b a' b' : UInt64} (ha : P64 a') (hb : P64 b) (h0 : 0 < b'.toNat) (h1 : a.toNat ≤ a'.toNat) (h2 : b'.toNat ≤ b.toNat) : (FP.ddiv a b).toNat ≤ (FP.ddiv a' b').toNat := by
  rw [do_div, do_div]
  have hq := Jvm.FP.Core.qmin_neg do_g
  have p1 := do_upos h0
  have p2 := do_upos (a := b) (by omega)
  refine fc_le (e0 := Jvm.FP.Core.b64.qmin) do_g (fc_quot do_g (do_pi (by omega)) (do_pi hb) p2) (do_zdiv _ _) (fc_quot do_g (do_pi ha) (do_pi (by omega)) p1) (do_zdiv _ _) p2 p1 (Int.le_refl _) (by omega) (by omega) ?_
  have e1 := Jvm.FP.Core.unitsOf_le_iff (f := Jvm.FP.Core.b64).mpr h1
  have e2 := Jvm.FP.Core.unitsOf_le_iff (f := Jvm.FP.Core.b64).mpr h2
  unfold Jvm.FP.Core.inUnits
  exact Nat.mul_le_mul (Nat.mul_le_mul_right _ e1) e2
theorem do_dif {a b : UInt64} (ha : P64 a) (h : b.toNat ≤ a.toNat) : Jvm.FP.Core.decode Jvm.FP.Core.b64 (Jvm.FP.Core.sub Jvm.FP.Core.b64 a.toNat b.toNat) = Jvm.FP.Core.roundRatio Jvm.FP.Core.b64 false (Jvm.FP.Core.unitsOf Jvm.FP.Core.b64 a.toNat - Jvm.FP.Core.unitsOf Jvm.FP.Core.b64 b.toNat) 1 Jvm.FP.Core.b64.qmin := by
  have e1 := Jvm.FP.Core.unitsOf_le_iff (f := Jvm.FP.Core.b64).mpr h
  rw [fc_dif do_g (do_pi ha) (do_pi (by omega)), decide_eq_false (by omega)]
  congr 1
  omega
theorem do_sub_mono {a b a' b' : UInt64} (ha : P64 a') (h0 : b.toNat ≤ a.toNat) (h1 : a.toNat ≤ a'.toNat) (h2 : b'.toNat ≤ b.toNat) : (FP.dsub a b).toNat ≤ (FP.dsub a' b').toNat := by
  rw [do_sub, do_sub]
  refine fc_le (e0 := Jvm.FP.Core.b64.qmin) do_g (do_dif (by omega) h0) (do_zsub _ _) (do_dif ha (by omega)) (do_zsub _ _) (by decide) (by decide) (Int.le_refl _) (Int.le_refl _) (Int.le_refl _) ?_
  rw [fc_iu, fc_iu]
  have e1 := Jvm.FP.Core.unitsOf_le_iff (f := Jvm.FP.Core.b64).mpr h1
  have e2 := Jvm.FP.Core.unitsOf_le_iff (f := Jvm.FP.Core.b64).mpr h2
  omega
theorem do_self {a : UInt64} (ha : P64 a) : Jvm.FP.Core.decode Jvm.FP.Core.b64 a.toNat = Jvm.FP.Core.roundRatio Jvm.FP.Core.b64 false (Jvm.FP.Core.unitsOf Jvm.FP.Core.b64 a.toNat) 1 Jvm.FP.Core.b64.qmin := by
  rw [fc_exact do_g (do_pi ha) (by decide)]
  simp
theorem do_sub_le {a b : UInt64} (ha : P64 a) (h : b.toNat ≤ a.toNat) : (FP.dsub a b).toNat ≤ a.toNat := by
  rw [do_sub]
  refine fc_le (e0 := Jvm.FP.Core.b64.qmin) do_g (do_dif ha h) (do_zsub _ _) (do_self ha) (fc_lt_full (do_pi ha)) (by decide) (by decide) (Int.le_refl _) (Int.le_refl _) (Int.le_refl _) ?_
  rw [fc_iu, fc_iu]
  omega
theorem do_val {a : UInt64} (h : a.toNat ≤ 9218868437227405312) : Jvm.FP.Core.val64 a ≠ .nan := (Jvm.FP.Core.ne_nan a).mpr (by omega)
theorem do_add_le {a b : UInt64} (ha : P64 a) (hb : P64 b) : a.toNat ≤ (FP.dadd a b).toNat := by
  rw [do_add]
  refine fc_le (e0 := Jvm.FP.Core.b64.qmin) do_g (do_self ha) (fc_lt_full (do_pi ha)) (fc_sum do_g (do_pi ha) (do_pi hb)) (do_zadd _ _) (by decide) (by decide) (Int.le_refl _) (Int.le_refl _) (Int.le_refl _) ?_
  rw [fc_iu, fc_iu]
  omega
theorem do_nn {r : UInt64} : vf_n64 r ↔ r.toNat % 2 ^ 63 ≤ 9218868437227405312 := by
  unfold vf_n64
  rw [UInt64.le_iff_toNat_le, Jvm.FP.Core.mask_toNat]
  exact Iff.rfl
theorem do_n {r : UInt64} (h : r.toNat ≤ 9218868437227405312) : vf_n64 r := do_nn.mpr (by omega)
theorem do_nN {r : UInt64} (h : Jvm.FP.Core.val64 r ≠ .nan) : vf_n64 r := do_nn.mpr ((Jvm.FP.Core.ne_nan r).mp h)
theorem do_key {a : UInt64} (h : P64 a) : Jvm.FP.Core.dkey a = (a.toNat : Int) := by
  unfold Jvm.FP.Core.dkey
  exact if_neg (by omega)
theorem do_cmp {a b : UInt64} (ha : P64 a) (hb : P64 b) (o : CmpOp) : Op.cmpValue (FP.dcmp a b) o = if a.toNat < b.toNat then -1 else if a.toNat = b.toNat then 0 else 1 := by
  have h := Jvm.FP.Core.dcmp_key (do_val (Nat.le_of_lt ha)) (do_val (Nat.le_of_lt hb))
  rw [do_key ha, do_key hb] at h
  rcases Nat.lt_trichotomy a.toNat b.toNat with q | q | q
  · rw [show FP.dcmp a b = some .lt from h.trans (congrArg some ((Jvm.FP.Core.compare_lt_iff _ _).mpr (by omega))), if_pos q]; rfl
  · rw [show FP.dcmp a b = some .eq from h.trans (congrArg some ((Jvm.FP.Core.compare_eq_iff _ _).mpr (by omega))), if_neg (by omega), if_pos q]; rfl
  · rw [show FP.dcmp a b = some .gt from h.trans (congrArg some ((Jvm.FP.Core.compare_gt_iff _ _).mpr (by omega))), if_neg (by omega), if_neg (by omega)]; rfl
theorem do_lt0 {a b : UInt64} (ha : P64 a) (hb : P64 b) (o : CmpOp) : Op.cmpValue (FP.dcmp a b) o < 0 ↔ a.toNat < b.toNat := by
  rw [do_cmp ha hb]
  split
  · exact ⟨fun _ => by assumption, fun _ => by decide⟩
  · split
    · exact ⟨fun h => absurd h (by decide), fun h => by omega⟩
    · exact ⟨fun h => absurd h (by decide), fun h => by omega⟩
theorem do_le0 {a b : UInt64} (ha : P64 a) (hb : P64 b) (o : CmpOp) : Op.cmpValue (FP.dcmp a b) o ≤ 0 ↔ a.toNat ≤ b.toNat := by
  rw [do_cmp ha hb]
  split
  · exact ⟨fun _ => by omega, fun _ => by decide⟩
  · split
    · exact ⟨fun _ => by omega, fun h => by decide⟩
    · exact ⟨fun h => absurd h (by decide), fun h => by omega⟩
theorem do_ge0 {a b : UInt64} (ha : P64 a) (hb : P64 b) (o : CmpOp) : 0 ≤ Op.cmpValue (FP.dcmp a b) o ↔ b.toNat ≤ a.toNat := by
  rw [do_cmp ha hb]
  split
  · exact ⟨fun h => absurd h (by decide), fun _ => by omega⟩
  · split
    · exact ⟨fun _ => by omega, fun h => by decide⟩
    · exact ⟨fun _ => by omega, fun h => by decide⟩
theorem do_gt0 {a b : UInt64} (ha : P64 a) (hb : P64 b) (o : CmpOp) : 0 < Op.cmpValue (FP.dcmp a b) o ↔ b.toNat < a.toNat := by
  rw [do_cmp ha hb]
  split
  · exact ⟨fun h => absurd h (by decide), fun _ => by omega⟩
  · split
    · exact ⟨fun h => absurd h (by decide), fun _ => by omega⟩
    · exact ⟨fun _ => by omega, fun h => by decide⟩
theorem do_eq0 {a b : UInt64} (ha : P64 a) (hb : P64 b) (o : CmpOp) : Op.cmpValue (FP.dcmp a b) o = 0 ↔ a.toNat = b.toNat := by
  rw [do_cmp ha hb]
  split
  · exact ⟨fun h => absurd h (by decide), fun _ => by omega⟩
  · split
    · exact ⟨fun _ => by omega, fun h => by decide⟩
    · exact ⟨fun h => absurd h (by decide), fun h => by omega⟩


/-! the bits of a double, by halving and doubling -/
theorem b64_sh : ∀ e, e < 2047 → ((nI e).toInt64 <<< (((52 : Int32)).toInt64 &&& 63)) = lN (e * 4503599627370496) := by decide +kernel
set_option maxHeartbeats 1000000 in
theorem b64_core {s : UInt64} {a : Nat} (hs : s.toNat < 9218868437227405312) (hu : Jvm.FP.Core.unitsOf Jvm.FP.Core.b64 s.toNat = a * 2 ^ 1022) (ha : a < 2 * 4503599627370496) :
    vf_n64 (FP.dsub s FP.dconst1) ∧ vf_n64 (FP.dmul (FP.dsub s FP.dconst1) 4841369599423283200) ∧ (FP.d2l (FP.dmul (FP.dsub s FP.dconst1) 4841369599423283200)).toInt = (a : Int) - 4503599627370496 := by
  have g := Jvm.FP.Core.good_b64
  have hi : Jvm.FP.Core.infBits Jvm.FP.Core.b64 = 9218868437227405312 := Jvm.FP.Core.infBits_b64
  have hq : Jvm.FP.Core.b64.qmin = -1074 := Jvm.FP.Core.qmin_b64
  have hd := fc_dif (f := Jvm.FP.Core.b64) g (x := s.toNat) (y := FP.dconst1.toNat) (by rw [hi]; exact hs) (by rw [hi]; decide)
  rw [hu, show Jvm.FP.Core.unitsOf Jvm.FP.Core.b64 FP.dconst1.toNat = 4503599627370496 * 2 ^ 1022 by decide +kernel] at hd
  obtain ⟨c, hc⟩ : ∃ c : Nat, c = ((a : Int) - (4503599627370496 : Nat)).natAbs := ⟨_, rfl⟩
  have hP : 0 < 2 ^ 1022 := Nat.two_pow_pos _
  have e1 : (((a * 2 ^ 1022 : Nat) : Int) - ((4503599627370496 * 2 ^ 1022 : Nat) : Int)).natAbs = c * 2 ^ 1022 := by
    rw [hc]
    exact na_mul a 4503599627370496 (2 ^ 1022)
  have e2 : decide (a * 2 ^ 1022 < 4503599627370496 * 2 ^ 1022) = decide (a < 4503599627370496) := by
    rcases Nat.lt_or_ge a 4503599627370496 with q | q
    · rw [decide_eq_true q, decide_eq_true (Nat.mul_lt_mul_of_pos_right q hP)]
    · rw [decide_eq_false (Nat.not_lt.mpr q), decide_eq_false (Nat.not_lt.mpr (Nat.mul_le_mul_right _ q))]
  rw [e1, e2] at hd
  obtain ⟨sg, hsg⟩ : ∃ sg : Bool, sg = decide (a < 4503599627370496) := ⟨_, rfl⟩
  rw [← hsg] at hd
  have hc2 : c < 2 ^ Jvm.FP.Core.b64.p := by show c < 2 ^ 53; rw [show (2 : Nat) ^ 53 = 2 * 4503599627370496 by decide]; omega
  obtain ⟨c', q', r1, r2⟩ := Jvm.FP.Core.round_exact g sg (c := c) (q := Jvm.FP.Core.b64.qmin + 1022) hc2 (by omega) (by rw [hq]; decide)
  have hv1 : Jvm.FP.Core.val64 (FP.dsub s FP.dconst1) = .fin sg c' q' := by
    show Jvm.FP.Core.decode Jvm.FP.Core.b64 (FP.dsub s FP.dconst1).toNat = _
    rw [do_sub, hd, ← r1]
    show _ = Jvm.FP.Core.roundRatio Jvm.FP.Core.b64 sg c 1 (Jvm.FP.Core.b64.qmin + 1022)
    refine Jvm.FP.Core.roundRatio_congr (by decide) (by decide) ?_
    rw [show (Jvm.FP.Core.b64.qmin - (Jvm.FP.Core.b64.qmin + 1022)).toNat = 0 by omega, show (Jvm.FP.Core.b64.qmin + 1022 - Jvm.FP.Core.b64.qmin).toNat = 1022 by omega]
    rw [Nat.pow_zero, Nat.mul_one, Nat.mul_one, Nat.mul_one]
  have hf1 := Jvm.FP.Core.val64_fits (FP.dsub s FP.dconst1)
  rw [hv1] at hf1
  have hq' := hf1.2.1
  obtain ⟨c3, q3, r3, r4⟩ := Jvm.FP.Core.round_exact g sg (c := c) (q := 0) hc2 (by rw [hq]; decide) (by decide)
  have hv2 : Jvm.FP.Core.val64 (FP.dmul (FP.dsub s FP.dconst1) 4841369599423283200) = .fin sg c3 q3 := by
    show Jvm.FP.Core.val64 (Jvm.FP.Core.dmul (FP.dsub s FP.dconst1) 4841369599423283200) = _
    rw [Jvm.FP.Core.val64_dmul, hv1, show Jvm.FP.Core.val64 4841369599423283200 = .fin false 4503599627370496 0 by decide +kernel, ← r3]
    show Jvm.FP.Core.roundRatio Jvm.FP.Core.b64 (sg != false) (c' * 4503599627370496) 1 (q' + 0) = Jvm.FP.Core.roundRatio Jvm.FP.Core.b64 sg c 1 0
    rw [show (sg != false) = sg by cases sg <;> rfl]
    refine Jvm.FP.Core.roundRatio_congr (by decide) (by decide) ?_
    rw [hq] at hq' r2
    unfold Jvm.FP.Core.inUnits at r2
    rw [show (-1074 + 1022 - -1074 : Int).toNat = 1022 by decide] at r2
    refine Nat.eq_of_mul_eq_mul_right hP ?_
    have k1 : (q' + 0 - 0 : Int).toNat + 1074 = (q' - -1074).toNat + (0 - (q' + 0) : Int).toNat := by omega
    calc c' * 4503599627370496 * 1 * 2 ^ (q' + 0 - 0 : Int).toNat * 2 ^ 1022 = c' * 2 ^ (q' + 0 - 0 : Int).toNat * (4503599627370496 * 2 ^ 1022) := by rw [Nat.mul_one, Nat.mul_right_comm c', Nat.mul_assoc]
      _ = c' * (2 ^ (q' + 0 - 0 : Int).toNat * 2 ^ 1074) := by rw [show 4503599627370496 * 2 ^ 1022 = 2 ^ 1074 by decide +kernel, Nat.mul_assoc]
      _ = c' * (2 ^ (q' - -1074).toNat * 2 ^ (0 - (q' + 0) : Int).toNat) := by rw [← Nat.pow_add, ← Nat.pow_add, k1]
      _ = c' * 2 ^ (q' - -1074).toNat * 2 ^ (0 - (q' + 0) : Int).toNat := by rw [Nat.mul_assoc]
      _ = c * 2 ^ 1022 * 2 ^ (0 - (q' + 0) : Int).toNat := by rw [r2]
      _ = c * 1 * 2 ^ (0 - (q' + 0) : Int).toNat * 2 ^ 1022 := by rw [Nat.mul_one, Nat.mul_right_comm]
  have n1 : Jvm.FP.Core.val64 (FP.dsub s FP.dconst1) ≠ .nan := by rw [hv1]; exact Jvm.FP.Core.Datum.noConfusion
  have n2 : Jvm.FP.Core.val64 (FP.dmul (FP.dsub s FP.dconst1) 4841369599423283200) ≠ .nan := by rw [hv2]; exact Jvm.FP.Core.Datum.noConfusion
  refine ⟨do_nN n1, do_nN n2, ?_⟩
  have hfin := Jvm.FP.Core.d2l_val n2
  rw [hv2] at hfin
  have hz : Jvm.FP.Core.zmag Jvm.FP.Core.b64 (.fin sg c3 q3) / Jvm.FP.Core.one64 = c := by
    show Jvm.FP.Core.inUnits c3 q3 Jvm.FP.Core.b64.qmin / Jvm.FP.Core.one64 = c
    rw [r4, hq]
    unfold Jvm.FP.Core.inUnits Jvm.FP.Core.one64
    rw [show ((0 : Int) - -1074).toNat = 1074 by decide]
    exact Nat.mul_div_cancel _ (Nat.two_pow_pos _)
  rw [hz] at hfin
  show (Jvm.FP.Core.d2l (FP.dmul (FP.dsub s FP.dconst1) 4841369599423283200)).toInt = _
  rw [hfin]
  show max _ (min _ (Jvm.FP.Core.signed sg c)) = _
  rw [hsg]
  rcases Nat.lt_or_ge a 4503599627370496 with q | q
  · rw [decide_eq_true q]
    simp only [Jvm.FP.Core.signed, if_true]
    omega
  · rw [decide_eq_false (Nat.not_lt.mpr q)]
    simp only [Jvm.FP.Core.signed, Bool.false_eq_true, if_false]
    omega
theorem b64_sum {e a n : Nat} {v : Int64} (he : e < 2047) (hv : v.toInt = (a : Int) - 4503599627370496) (h : e * 4503599627370496 + a = n + 4503599627370496) : ((nI e).toInt64 <<< (((52 : Int32)).toInt64 &&& 63)) + v = lN n := by
  rw [b64_sh e he, ← Int64.ofInt_toInt v, hv]
  show Int64.ofNat (e * 4503599627370496) + _ = Int64.ofNat n
  rw [← Int64.ofInt_eq_ofNat, ← Int64.ofInt_eq_ofNat, ← Int64.ofInt_add]
  congr 1
  omega
theorem b64_inj {m n : Nat} (h : Jvm.FP.Core.unitsOf Jvm.FP.Core.b64 m = Jvm.FP.Core.unitsOf Jvm.FP.Core.b64 n) : m = n := by
  have h1 := Jvm.FP.Core.unitsOf_le_iff (f := Jvm.FP.Core.b64) (m := m) (k := n)
  have h2 := Jvm.FP.Core.unitsOf_le_iff (f := Jvm.FP.Core.b64) (m := n) (k := m)
  omega
theorem b64_units {e t : Nat} (he : 1 ≤ e) (ht : t < 4503599627370496) : Jvm.FP.Core.unitsOf Jvm.FP.Core.b64 (e * 4503599627370496 + t) = (4503599627370496 + t) * 2 ^ (e - 1) := by
  have hT : Jvm.FP.Core.b64.tails = 4503599627370496 := Jvm.FP.Core.tails_b64
  unfold Jvm.FP.Core.unitsOf
  rw [hT, if_neg (by omega), Nat.add_comm (e * 4503599627370496) t, Nat.add_mul_mod_self_right, Nat.mod_eq_of_lt ht, Nat.add_mul_div_right _ _ (by decide), Nat.div_eq_of_lt ht, Nat.zero_add]
theorem b64_low {n : Nat} (h : n < 2 * 4503599627370496) : Jvm.FP.Core.unitsOf Jvm.FP.Core.b64 n = n := by
  rcases Nat.lt_or_ge n 4503599627370496 with q | q
  · unfold Jvm.FP.Core.unitsOf
    rw [show Jvm.FP.Core.b64.tails = 4503599627370496 from Jvm.FP.Core.tails_b64, if_pos q]
  · have := b64_units (e := 1) (t := n - 4503599627370496) (Nat.le_refl _) (by omega)
    rw [show 1 * 4503599627370496 + (n - 4503599627370496) = n by omega] at this
    rw [this]
    rw [Nat.sub_self 1, Nat.pow_zero, Nat.mul_one]
theorem b64_dbl {s : UInt64} (h : s.toNat < 4607182418800017408) : (FP.dmul s 4611686018427387904).toNat = fc_dbl Jvm.FP.Core.b64 s.toNat ∧ (FP.dmul s 4611686018427387904).toNat < 4611686018427387904 := by
  have g := Jvm.FP.Core.good_b64
  have hi : Jvm.FP.Core.infBits Jvm.FP.Core.b64 = 9218868437227405312 := Jvm.FP.Core.infBits_b64
  have hT : Jvm.FP.Core.b64.tails = 4503599627370496 := Jvm.FP.Core.tails_b64
  have hlt : fc_dbl Jvm.FP.Core.b64 s.toNat < 4611686018427387904 := by unfold fc_dbl; rw [hT]; split <;> omega
  have h1 := fc_mul_exact (f := Jvm.FP.Core.b64) g (n := s.toNat) (k := (4611686018427387904 : UInt64).toNat) (m := fc_dbl Jvm.FP.Core.b64 s.toNat) (by rw [hi]; omega) (by rw [hi]; decide) (by rw [hi]; omega) (by
    rw [fc_units_dbl, show Jvm.FP.Core.unitsOf Jvm.FP.Core.b64 (4611686018427387904 : UInt64).toNat = 2 * 2 ^ (-Jvm.FP.Core.b64.qmin).toNat by decide +kernel, ← Nat.mul_assoc, Nat.mul_comm _ 2])
  have h2 : (FP.dmul s 4611686018427387904).toNat = fc_dbl Jvm.FP.Core.b64 s.toNat := by rw [do_mul]; exact h1
  exact ⟨h2, by rw [h2]; exact hlt⟩
theorem b64_half {s : UInt64} (h : 4611686018427387904 ≤ s.toNat) (h2 : s.toNat < 9218868437227405312) : (FP.dmul s 4602678819172646912).toNat = s.toNat - 4503599627370496 ∧ 2 * Jvm.FP.Core.unitsOf Jvm.FP.Core.b64 (s.toNat - 4503599627370496) = Jvm.FP.Core.unitsOf Jvm.FP.Core.b64 s.toNat := by
  have g := Jvm.FP.Core.good_b64
  have hi : Jvm.FP.Core.infBits Jvm.FP.Core.b64 = 9218868437227405312 := Jvm.FP.Core.infBits_b64
  have hT : Jvm.FP.Core.b64.tails = 4503599627370496 := Jvm.FP.Core.tails_b64
  have hu : 2 * Jvm.FP.Core.unitsOf Jvm.FP.Core.b64 (s.toNat - 4503599627370496) = Jvm.FP.Core.unitsOf Jvm.FP.Core.b64 s.toNat := by
    rw [← fc_units_dbl]
    unfold fc_dbl
    rw [hT, if_neg (by omega), show s.toNat - 4503599627370496 + 4503599627370496 = s.toNat by omega]
  have h1 := fc_mul_exact (f := Jvm.FP.Core.b64) g (n := s.toNat) (k := (4602678819172646912 : UInt64).toNat) (m := s.toNat - 4503599627370496) (by rw [hi]; omega) (by rw [hi]; decide) (by rw [hi]; omega) (by
    rw [← hu, show 2 ^ (-Jvm.FP.Core.b64.qmin).toNat = 2 * Jvm.FP.Core.unitsOf Jvm.FP.Core.b64 (4602678819172646912 : UInt64).toNat by decide +kernel]
    generalize Jvm.FP.Core.unitsOf Jvm.FP.Core.b64 (4602678819172646912 : UInt64).toNat = z
    rw [Nat.mul_comm 2, Nat.mul_assoc])
  exact ⟨by rw [do_mul]; exact h1, hu⟩
/-- a float as a double; sums of such up to 20 -/
theorem do_f2d {a : UInt32} (h : FB a) : vf_n64 (FP.f2d a) ∧ (FP.f2d a).toNat ≤ 4607182418800017408 := by
  have hp := fb_p h
  have hnn : Jvm.FP.Core.fIsNaN a = false := (Jvm.FP.Core.notNaN_iff32 a).mpr (fl_val (Nat.le_of_lt hp))
  have e1 : FP.f2d a = Jvm.FP.Core.f2d a := by unfold FP.f2d; rw [hnn]; rfl
  obtain ⟨c, q, k1, k2, k3⟩ := fc_dec (f := Jvm.FP.Core.b32) fl_g (fl_pi hp)
  have hv : Jvm.FP.Core.decode Jvm.FP.Core.b64 (Jvm.FP.Core.f2d a).toNat = Jvm.FP.Core.roundRatio Jvm.FP.Core.b64 false c 1 q := by
    show Jvm.FP.Core.val64 (Jvm.FP.Core.f2d a) = _
    rw [Jvm.FP.Core.val64_f2d]
    show Jvm.FP.Core.round Jvm.FP.Core.b64 (Jvm.FP.Core.decode Jvm.FP.Core.b32 a.toNat) = _
    rw [k1]; rfl
  have hl := Jvm.FP.Core.lt_full64 (Jvm.FP.Core.f2d a)
  have hm : Jvm.FP.Core.decode Jvm.FP.Core.b64 4607182418800017408 = Jvm.FP.Core.roundRatio Jvm.FP.Core.b64 false (Jvm.FP.Core.unitsOf Jvm.FP.Core.b32 1065353216) 1 Jvm.FP.Core.b32.qmin := by decide +kernel
  have hq := k2.2.1
  have hle := fc_le (f := Jvm.FP.Core.b64) (e0 := Jvm.FP.Core.b64.qmin) do_g hv hl hm (by decide +kernel) (by decide) (by decide) (Int.le_refl _) (Int.le_trans (by decide +kernel) hq) (by decide +kernel) (by
    rw [Nat.mul_one, Nat.mul_one]
    have h1 := Jvm.FP.Core.unitsOf_le_iff (f := Jvm.FP.Core.b32).mpr h
    rw [← k3] at h1
    rw [Jvm.FP.Core.inUnits_move c (r := Jvm.FP.Core.b32.qmin) (e := Jvm.FP.Core.b64.qmin) (by decide +kernel) hq]
    exact Nat.mul_le_mul_right _ h1)
  rw [e1]
  exact ⟨do_n (Nat.le_trans hle (by decide)), hle⟩
def dk (k : Nat) : UInt64 := FP.i2d (nI k)
theorem dk_tab : ∀ k, k < 21 → (dk k).toNat ≤ 4626322717216342016 ∧ (1 ≤ k → 4607182418800017408 ≤ (dk k).toNat) := by decide +kernel
theorem dk_step : ∀ k, k < 20 → FP.dadd (dk k) 4607182418800017408 = dk (k + 1) := by decide +kernel
theorem dk_0 : dk 0 = FP.dconst0 := by decide +kernel
theorem do_acc {s : UInt64} {a : UInt32} {k : Nat} (hk : k < 20) (hs : s.toNat ≤ (dk k).toNat) (ha : FB a) : vf_n64 (FP.dadd s (FP.f2d a)) ∧ (FP.dadd s (FP.f2d a)).toNat ≤ (dk (k + 1)).toNat := by
  have h1 := (do_f2d ha).2
  have h2 := (dk_tab k (by omega)).1
  have h3 := do_add_mono (a := s) (b := FP.f2d a) (a' := dk k) (b' := 4607182418800017408) (by show _ < _; omega) (by decide) hs h1
  rw [dk_step k hk] at h3
  have h4 := (dk_tab (k + 1) (by omega)).1
  exact ⟨do_n (by omega), h3⟩
theorem do_mean {s : UInt64} {k n : Nat} (hk : k < 21) (hs : s.toNat ≤ (dk k).toNat) (h1 : 1 ≤ n) (hn : n < 21) : vf_n64 (FP.ddiv s (dk n)) ∧ P64 (FP.ddiv s (dk n)) := by
  have h2 := (dk_tab k hk).1
  have h3 := dk_tab n hn
  have h5 := h3.2 h1
  have h4 := do_div_mono (a := s) (b := dk n) (a' := 4626322717216342016) (b' := 4607182418800017408) (by decide) (by show _ < _; omega) (by decide) (by show _ ≤ 4626322717216342016; omega) h5
  rw [show (FP.ddiv 4626322717216342016 4607182418800017408).toNat = 4626322717216342016 by decide +kernel] at h4
  exact ⟨do_n (by omega), by show _ < _; omega⟩
