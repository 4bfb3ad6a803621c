/-! all fits -/
section CNT
theorem cn_mono {p q : Nat → Bool} : ∀ n, (∀ i, i < n → p i = true → q i = true) → cn p n ≤ cn q n := by
  intro n
  induction n with
  | zero => intro _; exact Nat.le_refl 0
  | succ n ih =>
    intro h
    have h1 := ih (fun i hi => h i (by omega))
    have h2 := h n (by omega)
    show cn p n + (if p n = true then 1 else 0) ≤ cn q n + (if q n = true then 1 else 0)
    cases hp : p n with
    | false => rw [if_neg (by decide)]; split <;> omega
    | true => rw [h2 hp]; exact Nat.add_le_add_right h1 _
theorem cn_lt {p q : Nat → Bool} {a : Nat} (hp : p a = false) (hq : q a = true) : ∀ n, a < n → (∀ i, i < n → p i = true → q i = true) → cn p n < cn q n := by
  intro n
  induction n with
  | zero => intro h; exact absurd h (Nat.not_lt_zero a)
  | succ n ih =>
    intro ha h
    show cn p n + (if p n = true then 1 else 0) < cn q n + (if q n = true then 1 else 0)
    rcases Nat.lt_or_ge a n with z | z
    · have h1 := ih z (fun i hi => h i (by omega))
      have h2 := h n (by omega)
      cases hpn : p n with
      | false => rw [if_neg (by decide)]; split <;> omega
      | true => rw [h2 hpn]; exact Nat.add_lt_add_right h1 _
    · have : a = n := by omega
      subst this
      have h1 := cn_mono (p := p) (q := q) a (fun i hi => h i (by omega))
      rw [hp, hq]
      simp only [if_true]
      have : (if (false = true) then 1 else 0) = 0 := rfl
      omega
theorem cn_le1 {p : Nat → Bool} {n : Nat} (h : ∀ i j, i < n → j < n → p i = true → p j = true → i = j) : cn p n ≤ 1 := by
  by_cases q : ∃ i, i < n ∧ p i = true
  · obtain ⟨i, h1, h2⟩ := q
    exact Nat.le_of_eq (cn_one h1 h2 (fun j hj hp => h j i hj h1 hp h2))
  · refine Nat.le_trans (Nat.le_of_eq ((cn_zero n).mpr (fun i hi => ?_))) (Nat.zero_le _)
    cases hp : p i with
    | false => rfl
    | true => exact absurd ⟨i, hi, hp⟩ q
theorem cn_ex {p : Nat → Bool} {n : Nat} (h : ¬ cn p n = 0) : ∃ i, i < n ∧ p i = true := by
  by_cases q : ∃ i, i < n ∧ p i = true
  · exact q
  · refine absurd ((cn_zero n).mpr (fun i hi => ?_)) h
    cases hp : p i with
    | false => rfl
    | true => exact absurd ⟨i, hi, hp⟩ q
theorem sm_le1 {g : Nat → Nat} : ∀ n, (∀ i, i < n → g i ≤ 1) → sm g n ≤ n ∧ (sm g n = n → ∀ i, i < n → g i = 1) := by
  intro n
  induction n with
  | zero => intro _; exact ⟨Nat.le_refl 0, fun _ i hi => absurd hi (Nat.not_lt_zero i)⟩
  | succ n ih =>
    intro h
    obtain ⟨h1, h2⟩ := ih (fun i hi => h i (by omega))
    have h3 := h n (by omega)
    refine ⟨?_, ?_⟩
    · show sm g n + g n ≤ n + 1
      omega
    · intro e i hi
      have e : sm g n + g n = n + 1 := e
      by_cases q : i = n
      · subst q; omega
      · exact h2 (by omega) i (by omega)
/-- of so many with places below their number, each at its own place, every place is held -/
theorem ranks {p : Nat → Bool} {a : Nat → Nat} {n : Nat} (hb : ∀ i, i < n → p i = true → a i < cn p n) (hi : ∀ i j, i < n → j < n → p i = true → p j = true → a i = a j → i = j) {k : Nat} (hk : k < cn p n) : ∃ i, i < n ∧ p i = true ∧ a i = k := by
  obtain ⟨L, hL⟩ : ∃ L, L = cn p n := ⟨_, rfl⟩
  have e1 : cn p n = sm (fun i => sm (fun k => if (p i && decide (a i = k)) = true then 1 else 0) L) n := by
    rw [← sm_cn p n]
    refine sm_congr n (fun i hin => ?_)
    rw [sm_cn]
    cases hp : p i with
    | false =>
      rw [if_neg (by decide)]
      exact ((cn_zero L).mpr (fun k _ => by simp)).symm
    | true =>
      rw [if_pos rfl]
      have := hb i hin hp
      exact (cn_one (a := a i) (by omega) (by simp) (fun k _ h => by simp at h; exact h.symm)).symm
  rw [sm_swap] at e1
  have e2 : sm (fun k => cn (fun i => p i && decide (a i = k)) n) L = L := by
    have e3 : sm (fun k => cn (fun i => p i && decide (a i = k)) n) L = sm (fun k => sm (fun i => if (p i && decide (a i = k)) = true then 1 else 0) n) L := sm_congr L (fun k _ => (sm_cn _ n).symm)
    rw [e3, ← e1, hL]
  have e4 := (sm_le1 L (fun k _ => cn_le1 (n := n) (p := fun i => p i && decide (a i = k)) (fun i j h1 h2 h3 h4 => by
    simp only [Bool.and_eq_true, decide_eq_true_eq] at h3 h4
    exact hi i j h1 h2 h3.1 h4.1 (h3.2.trans h4.2.symm)))).2 e2 k (by omega)
  obtain ⟨i, h1, h2⟩ := cn_ex (p := fun i => p i && decide (a i = k)) (n := n) (by rw [e4]; decide)
  simp only [Bool.and_eq_true, decide_eq_true_eq] at h2
  exact ⟨i, h1, h2.1, h2.2⟩
end CNT
section FITS
variable {σ : St} {w : Nat → Int32} {f : Nat → UInt32} {l : List Dat}
abbrev isL (w : Nat → Int32) : Nat → Bool := fun i => decide (it w i 0 = 0)
theorem ahd_irr (i : Nat) : ahd f i i = false := by
  unfold ahd
  simp only [decide_eq_false_iff_not]
  omega
theorem ahd_tr {i j k : Nat} (h1 : ahd f i j = true) (h2 : ahd f j k = true) : ahd f i k = true := by
  unfold ahd at *
  simp only [decide_eq_true_eq] at *
  omega
theorem ahd_tot {i j : Nat} (h : ¬ i = j) : ahd f i j = true ∨ ahd f j i = true := by
  unfold ahd
  simp only [decide_eq_true_eq]
  omega
theorem ahs_lt {i j : Nat} (hi : i < cnt w) (hL : it w i 0 = 0) (h : ahd f i j = true) : ahs w f i < ahs w f j := by
  refine cn_lt (a := i) (by simp [ahd_irr]) (by simp [hL, h]) (cnt w) hi (fun x _ hx => ?_)
  simp only [Bool.and_eq_true, decide_eq_true_eq] at hx ⊢
  exact ⟨hx.1, ahd_tr hx.2 h⟩
theorem ahs_b {i : Nat} (hi : i < cnt w) (hL : it w i 0 = 0) : ahs w f i < cn (isL w) (cnt w) := by
  refine cn_lt (a := i) (by simp [ahd_irr]) (by simp [hL]) (cnt w) hi (fun x _ hx => ?_)
  simp only [Bool.and_eq_true, decide_eq_true_eq] at hx ⊢
  exact hx.1
theorem rank_ex {k : Nat} (hk : k < cn (isL w) (cnt w)) : ∃ i, i < cnt w ∧ it w i 0 = 0 ∧ ahs w f i = k := by
  obtain ⟨i, h1, h2, h3⟩ := ranks (p := isL w) (a := ahs w f) (n := cnt w) (fun i hi h => ahs_b hi (by simp at h; exact h)) (fun i j hi hj pi pj e => by
    simp at pi pj
    by_cases q : i = j
    · exact q
    · rcases ahd_tot (f := f) q with h | h
      · have := ahs_lt hi pi h; omega
      · have := ahs_lt hj pj h; omega) hk
  exact ⟨i, h1, by simp at h2; exact h2, h3⟩
theorem rank_le {i j k : Nat} (hi : i < cnt w) (hj : j < cnt w) (hL : it w i 0 = 0) (hM : it w j 0 = 0) (h1 : ahs w f i = k) (h2 : ahs w f j = k + 1) : (f (16 + j)).toNat ≤ (f (16 + i)).toNat := by
  have hne : ¬ i = j := fun z => by subst z; omega
  rcases ahd_tot (f := f) hne with h | h
  · unfold ahd at h
    simp only [decide_eq_true_eq] at h
    omega
  · have := ahs_lt hj hM h; omega
theorem l_ranked (hO : Off σ 2 w f) (hI : Inv w f) {k : Nat} (hk : k < cn (isL w) (cnt w)) : ∃ i, i < cnt w ∧ it w i 0 = 0 ∧ ahs w f i = k ∧ ok_L_ranked σ (nI k) ∧ f_L_ranked σ (nI k) = (σ, (nI i).toInt64) := by
  have h20 := hI.n20
  have hcn := cn_le (isL w) (cnt w)
  have hr := cl_ranked hO hI (nI k)
  obtain ⟨i0, a1, a2, a3⟩ := rank_ex (f := f) hk
  rcases fd_spec (fun i => decide (it w i 0 = 0 ∧ nI (ahs w f i) = nI k)) (cnt w) 0 with ⟨-, h⟩ | ⟨i, -, b2, b3, b4, -⟩
  · have := h i0 (Nat.zero_le _) (by omega)
    simp [a2, a3] at this
  · simp only [decide_eq_true_eq] at b4
    have hb := ahs_b (f := f) (w := w) (i := i) (by omega) b4.1
    have e0 : f_X5_letterAt σ 6 (nI k) = nI i := hr.2.trans b3
    have hm : ¬ nI i = -1 := nI_m1 (by omega)
    have e : f_X9_ranked σ (nI k) = (0, σ, nI i) := by
      unfold f_X9_ranked
      rw [e0, if_neg hm, bnd_eq, df1]
      rfl
    refine ⟨i, by omega, b4.1, nI_inj (by omega) (by omega) b4.2, ⟨hr.1, Or.inl (by rw [e])⟩, ?_⟩
    unfold f_L_ranked
    rw [bnd_eq, e]
    rfl
theorem u32_nI (x : UInt32) : (nI x.toNat).toUInt32 = x := by
  refine UInt32.toNat_inj.mp ?_
  have := x.toNat_lt
  simp [nI]
theorem sn_no {x : UInt32} (h : P32 x) : vn_sni2f (nI x.toNat) = false := by
  have h : x.toNat < 2139095040 := h
  unfold vn_sni2f
  rw [u32_nI]
  have : ¬ (x &&& 0x7fffffff > 0x7f800000) := by
    intro z
    have z := UInt32.lt_iff_toNat_lt.mp z
    rw [UInt32.toNat_and] at z
    have h1 : x.toNat &&& (0x7fffffff : UInt32).toNat ≤ x.toNat := Nat.and_le_left
    have h2 : (0x7f800000 : UInt32).toNat = 2139095040 := rfl
    omega
  simp [this]
theorem l_well (hO : Off σ 2 w f) (hI : Inv w f) : ok_L_isWell σ ∧ f_L_isWell σ = 1 := by
  have a := cl_itemsWell hO hI
  have b := cl_holesWell hO hI
  have c := cl_readersWell hO hI
  refine ⟨?_, ?_⟩
  · unfold ok_L_isWell ok_X9_isWell
    exact ⟨a.1, fun _ => ⟨b.1, fun _ => c.1, fun _ => trivial⟩, fun _ => trivial⟩
  · unfold f_L_isWell f_X9_isWell
    rw [a.2, b.2, c.2]
    rfl
theorem p_tab : ∀ p, p < 30 → nI p / 5 = nI (pc p) ∧ (nI p - nI p / 5 * 5) / 3 = nI (pr p) ∧ (nI p - nI p / 5 * 5) - 3 * ((nI p - nI p / 5 * 5) / 3) = nI (ph p) := by decide +kernel
theorem l_inHole (hO : Off σ 2 w f) (hI : Inv w f) {c r h : Nat} (hc : c < 6) (hr : r < 2) (hh : h < hls r) : ok_L_inHole σ (nI c) (nI r) (nI h) ∧ (f_L_inHole σ (nI c) (nI r) (nI h) = (σ, -4000000000000000002) ∨ ∃ i, i < cnt w ∧ atH w i c r h ∧ f_L_inHole σ (nI c) (nI r) (nI h) = (σ, (nI i).toInt64)) := by
  have hA := cl_itemAt hO hI hc hr hh
  have hA1 : ok_X8_itemAt σ 15 (nI c) (nI r) (nI h) := hA.1
  have hA2 : f_X8_itemAt σ 15 (nI c) (nI r) (nI h) = inH w c r h := hA.2
  have hi := hole_is hc hr hh
  rcases inH_cases hI.n20 c r h with ⟨z1, -⟩ | ⟨i, z0, z2, z3, -, z5⟩
  · have e : f_X9_inHole σ (nI c) (nI r) (nI h) = (4, σ, 0) := by simp [f_X9_inHole, hi, dm0, bnd_eq, hA2, z1, df0]
    refine ⟨⟨by simp [ok_X9_inHole, hi, dm0, bndP_eq, hA1], by rw [e]; exact Or.inr (Or.inr rfl)⟩, Or.inl ?_⟩
    unfold f_L_inHole
    rw [bnd_eq, e]
    rfl
  · have z3' : ¬ nI i = -1 := by rw [← z2]; exact z3
    have e : f_X9_inHole σ (nI c) (nI r) (nI h) = (0, σ, nI i) := by simp [f_X9_inHole, hi, dm0, bnd_eq, hA2, z2, z3', df1]
    refine ⟨⟨by simp [ok_X9_inHole, hi, dm0, bndP_eq, hA1], by rw [e]; exact Or.inl rfl⟩, Or.inr ⟨i, z0, z5, ?_⟩⟩
    unfold f_L_inHole
    rw [bnd_eq, e]
    rfl
theorem fit218 (hZ : Zs σ w f l) (x1 : Int32) (x2 x4 : Int64) : ∀ (m fu k : Nat), m < fu → k < 30 → (k + 1 + m = cn (isL w) (cnt w) ∨ (m = 0 ∧ cn (isL w) (cnt w) ≤ k + 1)) →
    okL_fits_L218 fu σ x1 x2 x4 (nI k) ∧ ∃ σ' l', fL_fits_L218 fu σ x1 x2 x4 (nI k) = (σ', true) ∧ Zs σ' w f l' := by
  obtain ⟨hO, hI, -⟩ := id hZ
  have h20 := hI.n20
  have hcn := cn_le (isL w) (cnt w)
  have ac : ok_L_account σ 3 ∧ f_L_account σ 3 = (σ, (nI (cn (isL w) (cnt w))).toInt64) := by
    have h := l_account hO hI (k := 3) (by decide)
    rw [show accV w 3 = nI (cn (isL w) (cnt w)) from rfl] at h
    exact h
  intro m
  induction m with
  | zero =>
    intro fu k hf hk h
    obtain ⟨fu, rfl⟩ : ∃ z, fu = z + 1 := ⟨fu - 1, by omega⟩
    have hc : 0 ≤ lg_cmp (nI k + 1).toInt64 (nI (cn (isL w) (cnt w))).toInt64 := by
      rw [nI_1]
      exact lg_ge.mpr ((nJ_le (by omega) (by omega)).mpr (by omega))
    obtain ⟨b1, σ1, l1, b2, b3⟩ := l_writes hZ (f_L_pick x1 2) (1 + f_L_pick (x1 >>> ((2 : Int32) &&& 31)) 40)
    obtain ⟨c1, σ2, l2, c2, c3⟩ := l_eats b3
    refine ⟨?_, σ2, l2, ?_, c3⟩
    · rw [okL_fits_L218]
      refine ⟨ac.1, ?_⟩
      rw [bndP_eq, ac.2]
      refine ⟨fun _ => ⟨(show ¬ (2 : Int32) = 0 by decide), (show ¬ (40 : Int32) = 0 by decide), b1, ?_⟩, fun z => absurd hc z⟩
      rw [bndP_eq]
      dsimp only
      rw [b2]
      exact ⟨fun _ => c1, fun _ => trivial⟩
    · rw [fL_fits_L218, bnd_eq, ac.2]
      dsimp only
      rw [if_pos hc, bnd_eq, b2]
      dsimp only
      rw [if_pos rfl, bnd_eq, c2]
      rfl
  | succ m ih =>
    intro fu k hf hk h
    obtain ⟨fu, rfl⟩ : ∃ z, fu = z + 1 := ⟨fu - 1, by omega⟩
    have hL : k + 1 + (m + 1) = cn (isL w) (cnt w) := by omega
    have hc : ¬ 0 ≤ lg_cmp (nI k + 1).toInt64 (nI (cn (isL w) (cnt w))).toInt64 := fun z => by
      rw [nI_1] at z
      have := (nJ_le (by omega) (by omega)).mp (lg_ge.mp z)
      omega
    obtain ⟨i, a1, a2, a3, a4, a5⟩ := l_ranked hO hI (k := k) (by omega)
    obtain ⟨j, b1, b2, b3, b4, b5⟩ := l_ranked hO hI (k := k + 1) (by omega)
    obtain ⟨c1, c2⟩ := l_reads hO hI a1
    obtain ⟨d1, d2⟩ := l_reads hO hI b1
    have hpi : P32 (f (16 + i)) := fb_p (hI.2.2.2.2.2.2.2.2.2 i (by omega))
    have hpj : P32 (f (16 + j)) := fb_p (hI.2.2.2.2.2.2.2.2.2 j (by omega))
    unfold rdV at c2 d2
    rw [if_pos a2] at c2
    rw [if_pos b2] at d2
    have hle := rank_le a1 b1 a2 b2 a3 b3
    have hcm : 0 ≤ Op.cmpValue (FP.fcmp (f (16 + i)) (f (16 + j))) CmpOp.g := (fl_ge0 hpi hpj CmpOp.g).mpr hle
    obtain ⟨g1, σ', l', g2, g3⟩ := ih fu (k + 1) (by omega) (by omega) (by omega)
    refine ⟨?_, σ', l', ?_, g3⟩
    · rw [okL_fits_L218]
      refine ⟨ac.1, ?_⟩
      rw [bndP_eq, ac.2]
      refine ⟨fun z => absurd z hc, fun _ => ?_⟩
      simp only [bndP_eq, nI_1, a5, b5, Int32.toInt32_toInt64, c2, d2, u32_nI]
      exact ⟨a4, c1, sn_no hpi, b4, d1, sn_no hpj, fun _ => g1, fun _ => trivial⟩
    · rw [fL_fits_L218, bnd_eq, ac.2]
      dsimp only
      rw [if_neg hc]
      simp only [bnd_eq, nI_1, a5, b5, Int32.toInt32_toInt64, c2, d2, u32_nI]
      rw [if_pos hcm]
      exact g2
theorem fit95 (hZ : Zs σ w f l) (x1 : Int32) (x2 x4 : Int64) : ∀ (m fu p : Nat), m < fu → p + m = 30 →
    okL_fits_L95 fu σ x1 x2 x4 (nI p) ∧ ∃ σ' l', fL_fits_L95 fu σ x1 x2 x4 (nI p) = (σ', true) ∧ Zs σ' w f l' := by
  obtain ⟨hO, hI, -⟩ := id hZ
  have h20 := hI.n20
  intro m
  induction m with
  | zero =>
    intro fu p hf hp
    obtain ⟨fu, rfl⟩ : ∃ z, fu = z + 1 := ⟨fu - 1, by omega⟩
    have : p = 30 := by omega
    subst this
    have hcn := cn_le (isL w) (cnt w)
    have h : (30 : Int32) ≤ nI 30 := by decide
    obtain ⟨g1, σ', l', g2, g3⟩ := fit218 hZ x1 x2 x4 (cn (isL w) (cnt w) - 1) 21 0 (by omega) (by decide) (by omega)
    refine ⟨?_, σ', l', ?_, g3⟩
    · rw [okL_fits_L95]
      exact ⟨fun _ => g1, fun z => absurd h z⟩
    · rw [fL_fits_L95, if_pos h]
      exact g2
  | succ m ih =>
    intro fu p hf hp
    obtain ⟨fu, rfl⟩ : ∃ z, fu = z + 1 := ⟨fu - 1, by omega⟩
    have hp30 : p < 30 := by omega
    have h : ¬ (30 : Int32) ≤ nI p := nI_ge (b := 30) (by omega) (by decide)
    obtain ⟨g1, σ', l', g2, g3⟩ := ih fu (p + 1) (by omega) (by omega)
    obtain ⟨t1, t2, t3⟩ := p_tab p hp30
    obtain ⟨q1, q2, q3, -⟩ := p_ok hp30
    obtain ⟨e1, e2⟩ := l_inHole hO hI q1 q2 q3
    refine ⟨?_, σ', l', ?_, g3⟩
    · rw [okL_fits_L95]
      refine ⟨fun z => absurd z h, fun _ => ?_⟩
      rw [t3, t2, t1, nI_1]
      refine ⟨e1, ?_⟩
      rw [bndP_eq]
      rcases e2 with e2 | ⟨i, i1, i2, e2⟩
      · rw [e2]
        have hn : lg_cmp (-4000000000000000002 : Int64) 0 < 0 := by decide
        exact ⟨fun _ => g1, fun z => absurd hn z⟩
      · rw [e2]
        have hn : ¬ lg_cmp (nI i).toInt64 0 < 0 := fun z => by
          have := (nJ_lt (a := i) (b := 0) (by omega) (by decide)).mp (lg_lt.mp z)
          omega
        refine ⟨fun z => absurd z hn, fun _ => ?_⟩
        have a2 := l_itemOf hO hI i1 (j := 2) (by decide)
        have a0 := l_itemOf hO hI i1 (j := 0) (by decide)
        have a4 := l_itemOf hO hI i1 (j := 4) (by decide)
        have a5 := l_itemOf hO hI i1 (j := 5) (by decide)
        obtain ⟨z1, z2, z3, z4⟩ := id i2
        rw [show cv 2 (it w i 2) = nI (pc p) from z2] at a2
        rw [show cv 0 (it w i 0) = nI (pr p) from z3] at a0
        rw [show cv 4 (it w i 4) = 2 from z1] at a4
        rw [show cv 5 (it w i 5) = nI (ph p) by rw [z4]; exact nI_pred _] at a5
        have a2b : f_L_itemOf σ (nI i) 2 = (σ, (nI (pc p)).toInt64) := a2.2
        have a0b : f_L_itemOf σ (nI i) 0 = (σ, (nI (pr p)).toInt64) := a0.2
        have a4b : f_L_itemOf σ (nI i) 4 = (σ, (2 : Int32).toInt64) := a4.2
        have a5b : f_L_itemOf σ (nI i) 5 = (σ, (nI (ph p)).toInt64) := a5.2
        simp only [bndP_eq, Int32.toInt32_toInt64, a2b, a0b, a4b, a5b]
        exact ⟨a2.1, fun _ => ⟨a0.1, fun _ => ⟨a4.1, fun _ => ⟨a5.1, fun _ => g1, fun _ => trivial⟩, fun _ => trivial⟩, fun _ => trivial⟩, fun _ => trivial⟩
    · rw [fL_fits_L95, if_neg h, t3, t2, t1, nI_1, bnd_eq]
      rcases e2 with e2 | ⟨i, i1, i2, e2⟩
      · rw [e2]
        have hn : lg_cmp (-4000000000000000002 : Int64) 0 < 0 := by decide
        dsimp only
        rw [if_pos hn]
        exact g2
      · rw [e2]
        have hn : ¬ lg_cmp (nI i).toInt64 0 < 0 := fun z => by
          have := (nJ_lt (a := i) (b := 0) (by omega) (by decide)).mp (lg_lt.mp z)
          omega
        have a2 := l_itemOf hO hI i1 (j := 2) (by decide)
        have a0 := l_itemOf hO hI i1 (j := 0) (by decide)
        have a4 := l_itemOf hO hI i1 (j := 4) (by decide)
        have a5 := l_itemOf hO hI i1 (j := 5) (by decide)
        obtain ⟨z1, z2, z3, z4⟩ := id i2
        rw [show cv 2 (it w i 2) = nI (pc p) from z2] at a2
        rw [show cv 0 (it w i 0) = nI (pr p) from z3] at a0
        rw [show cv 4 (it w i 4) = 2 from z1] at a4
        rw [show cv 5 (it w i 5) = nI (ph p) by rw [z4]; exact nI_pred _] at a5
        have a2b : f_L_itemOf σ (nI i) 2 = (σ, (nI (pc p)).toInt64) := a2.2
        have a0b : f_L_itemOf σ (nI i) 0 = (σ, (nI (pr p)).toInt64) := a0.2
        have a4b : f_L_itemOf σ (nI i) 4 = (σ, (2 : Int32).toInt64) := a4.2
        have a5b : f_L_itemOf σ (nI i) 5 = (σ, (nI (ph p)).toInt64) := a5.2
        have k1 : lg_cmp (nI (pc p)).toInt64 (nI (pc p)).toInt64 = 0 := lg_eq.mpr rfl
        have k2 : lg_cmp (nI (pr p)).toInt64 (nI (pr p)).toInt64 = 0 := lg_eq.mpr rfl
        have k3 : lg_cmp (2 : Int32).toInt64 (2 : Int64) = 0 := lg_eq.mpr rfl
        have k4 : lg_cmp (nI (ph p)).toInt64 (nI (ph p)).toInt64 = 0 := lg_eq.mpr rfl
        dsimp only
        rw [if_neg hn]
        simp only [bnd_eq, Int32.toInt32_toInt64, a2b, a0b, a4b, a5b]
        rw [if_pos k1, if_pos k2, if_pos k3, if_pos k4]
        exact g2
def tl (a : Nat → Nat) : Nat → Nat → Nat
  | 0, _ => 0
  | m + 1, j => a j + tl a m (j + 1)
def stC (w : Nat → Int32) (j : Nat) : Nat := cn (fun i => decide (it w i 4 = nI (j - 5))) (cnt w)
def rdC (w : Nat → Int32) (c : Nat) : Nat := cn (tkn w c) (cnt w)
theorem st_sum (hI : Inv w f) : tl (stC w) 5 5 = cnt w := by
  have key : ∀ n, n ≤ cnt w → cn (fun i => decide (it w i 4 = nI 0)) n + (cn (fun i => decide (it w i 4 = nI 1)) n + (cn (fun i => decide (it w i 4 = nI 2)) n + (cn (fun i => decide (it w i 4 = nI 3)) n + (cn (fun i => decide (it w i 4 = nI 4)) n + 0)))) = n := by
    intro n
    induction n with
    | zero => intro _; rfl
    | succ n ih =>
      intro hn
      have h := ih (by omega)
      obtain ⟨-, -, ⟨t, ht, et⟩, -⟩ := hI.2.1 n (by omega)
      have e : ∀ k, k < 5 → decide (it w n 4 = nI k) = decide (t = k) := fun k hk => by
        rw [et]
        exact decide_eq_decide.mpr (nI_eq (by omega) (by omega))
      simp only [cn, e 0 (by decide), e 1 (by decide), e 2 (by decide), e 3 (by decide), e 4 (by decide)]
      rcases (show t = 0 ∨ t = 1 ∨ t = 2 ∨ t = 3 ∨ t = 4 by omega) with rfl | rfl | rfl | rfl | rfl
      all_goals
        simp
        omega
  exact key (cnt w) (Nat.le_refl _)
theorem rd_sum (hI : Inv w f) : tl (rdC w) 6 0 ≤ stC w 8 := by
  have key : ∀ n, n ≤ cnt w → cn (tkn w 0) n + (cn (tkn w 1) n + (cn (tkn w 2) n + (cn (tkn w 3) n + (cn (tkn w 4) n + (cn (tkn w 5) n + 0))))) ≤ cn (fun i => decide (it w i 4 = nI 3)) n := by
    intro n
    induction n with
    | zero => intro _; exact Nat.le_refl 0
    | succ n ih =>
      intro hn
      have h := ih (by omega)
      obtain ⟨-, ⟨b, hb, eb⟩, -⟩ := hI.2.1 n (by omega)
      have e : ∀ k, k < 6 → tkn w k n = (decide (it w n 0 = 0 ∧ it w n 4 = 3) && decide (b = k)) := fun k hk => by
        unfold tkn
        rw [eb, ← Bool.decide_and]
        refine decide_eq_decide.mpr ?_
        rw [nI_eq (by omega) (by omega), and_assoc]
      simp only [cn, e 0 (by decide), e 1 (by decide), e 2 (by decide), e 3 (by decide), e 4 (by decide), e 5 (by decide)]
      by_cases q : it w n 0 = 0 ∧ it w n 4 = 3
      · have q2 : decide (it w n 4 = nI 3) = true := decide_eq_true q.2
        simp only [decide_eq_true q, q2]
        rcases (show b = 0 ∨ b = 1 ∨ b = 2 ∨ b = 3 ∨ b = 4 ∨ b = 5 by omega) with rfl | rfl | rfl | rfl | rfl | rfl
        all_goals
          simp
          omega
      · rw [decide_eq_false q]
        simp only [Bool.false_and, Bool.false_eq_true, if_false]
        split <;> omega
  exact key (cnt w) (Nat.le_refl _)
theorem fit44 (hZ : Zs σ w f l) (x1 : Int32) : ∀ (m fu c s : Nat), m < fu → c + m = 6 → s + tl (rdC w) m c ≤ stC w 8 →
    okL_fits_L44 fu σ x1 (nI (cnt w)).toInt64 (nI s).toInt64 (nI c) ∧ ∃ σ' l', fL_fits_L44 fu σ x1 (nI (cnt w)).toInt64 (nI s).toInt64 (nI c) = (σ', true) ∧ Zs σ' w f l' := by
  obtain ⟨hO, hI, -⟩ := id hZ
  have h20 := hI.n20
  have hs20 : stC w 8 ≤ cnt w := cn_le _ _
  intro m
  induction m with
  | zero =>
    intro fu c s hf hc hs
    obtain ⟨fu, rfl⟩ : ∃ z, fu = z + 1 := ⟨fu - 1, by omega⟩
    have : c = 6 := by omega
    subst this
    have hs : s + 0 ≤ stC w 8 := hs
    have h : (6 : Int32) ≤ nI 6 := by decide
    have a2 : ok_L_account σ 2 ∧ f_L_account σ 2 = (σ, (nI (cnt w)).toInt64) := by
      have h := l_account hO hI (k := 2) (by decide)
      rw [show accV w 2 = nI (cnt w) from hI.1.1] at h
      exact h
    have a8 : ok_L_account σ 8 ∧ f_L_account σ 8 = (σ, (nI (stC w 8)).toInt64) := l_account hO hI (k := 8) (by decide)
    have k1 : lg_cmp (nI (cnt w)).toInt64 (nI (cnt w)).toInt64 = 0 := lg_eq.mpr rfl
    have k2 : lg_cmp (nI s).toInt64 (nI (stC w 8)).toInt64 ≤ 0 := lg_le.mpr ((nJ_le (by omega) (by omega)).mpr (by omega))
    obtain ⟨g1, σ', l', g2, g3⟩ := fit95 hZ x1 (nI (cnt w)).toInt64 (nI s).toInt64 30 31 0 (by decide) rfl
    refine ⟨?_, σ', l', ?_, g3⟩
    · rw [okL_fits_L44]
      refine ⟨fun _ => ⟨a2.1, ?_⟩, fun z => absurd h z⟩
      rw [bndP_eq, a2.2]
      refine ⟨fun _ => ⟨a8.1, ?_⟩, fun _ => trivial⟩
      rw [bndP_eq]
      dsimp only
      rw [a8.2]
      exact ⟨fun _ => g1, fun _ => trivial⟩
    · rw [fL_fits_L44, if_pos h, bnd_eq, a2.2]
      dsimp only
      rw [if_pos k1, bnd_eq, a8.2]
      dsimp only
      rw [if_pos k2]
      exact g2
  | succ m ih =>
    intro fu c s hf hc hs
    obtain ⟨fu, rfl⟩ : ∃ z, fu = z + 1 := ⟨fu - 1, by omega⟩
    have h : ¬ (6 : Int32) ≤ nI c := nI_ge (b := 6) (by omega) (by decide)
    obtain ⟨a1, a2⟩ := l_read hO (c := c) (by omega)
    have a2 : f_L_read σ (nI c) = (σ, (nI (rdC w c)).toInt64) := a2
    have hr : rdC w c ≤ cnt w := cn_le _ _
    have hs : s + (rdC w c + tl (rdC w) m (c + 1)) ≤ stC w 8 := hs
    obtain ⟨g1, σ', l', g2, g3⟩ := ih fu (c + 1) (s + rdC w c) (by omega) (by omega) (by omega)
    refine ⟨?_, σ', l', ?_, g3⟩
    · rw [okL_fits_L44]
      refine ⟨fun z => absurd z h, fun _ => ⟨a1, ?_⟩⟩
      rw [bndP_eq, a2, nI_1]
      dsimp only
      rw [nJ_add (by omega)]
      exact g1
    · rw [fL_fits_L44, if_neg h, bnd_eq, a2, nI_1]
      dsimp only
      rw [nJ_add (by omega)]
      exact g2
theorem fit16 (hZ : Zs σ w f l) (x1 : Int32) : ∀ (m fu c s : Nat), m < fu → c + m = 10 → 5 ≤ c → s + tl (stC w) m c = cnt w →
    okL_fits_L16 fu σ x1 (nI s).toInt64 (nI c) ∧ ∃ σ' l', fL_fits_L16 fu σ x1 (nI s).toInt64 (nI c) = (σ', true) ∧ Zs σ' w f l' := by
  obtain ⟨hO, hI, -⟩ := id hZ
  have h20 := hI.n20
  intro m
  induction m with
  | zero =>
    intro fu c s hf hc h5 hs
    obtain ⟨fu, rfl⟩ : ∃ z, fu = z + 1 := ⟨fu - 1, by omega⟩
    have : c = 10 := by omega
    subst this
    have hs : s + 0 = cnt w := hs
    have : s = cnt w := by omega
    subst this
    have h : (10 : Int32) ≤ nI 10 := by decide
    obtain ⟨g1, σ', l', g2, g3⟩ := fit44 hZ x1 6 7 0 0 (by decide) rfl (by rw [Nat.zero_add]; exact rd_sum hI)
    refine ⟨?_, σ', l', ?_, g3⟩
    · rw [okL_fits_L16]
      exact ⟨fun _ => g1, fun z => absurd h z⟩
    · rw [fL_fits_L16, if_pos h]
      exact g2
  | succ m ih =>
    intro fu c s hf hc h5 hs
    obtain ⟨fu, rfl⟩ : ∃ z, fu = z + 1 := ⟨fu - 1, by omega⟩
    have h : ¬ (10 : Int32) ≤ nI c := nI_ge (b := 10) (by omega) (by decide)
    obtain ⟨a1, a2⟩ := l_account hO hI (k := c) (by omega)
    have ev : accV w c = nI (stC w c) := by
      unfold accV
      rw [if_neg (by omega), if_neg (by omega), if_neg (by omega), if_neg (by omega), if_neg (by omega), if_pos (by omega)]
      rfl
    rw [ev] at a2
    have hr : stC w c ≤ cnt w := cn_le _ _
    have hs : s + (stC w c + tl (stC w) m (c + 1)) = cnt w := hs
    obtain ⟨g1, σ', l', g2, g3⟩ := ih fu (c + 1) (s + stC w c) (by omega) (by omega) (by omega) (by omega)
    refine ⟨?_, σ', l', ?_, g3⟩
    · rw [okL_fits_L16]
      refine ⟨fun z => absurd z h, fun _ => ⟨a1, ?_⟩⟩
      rw [bndP_eq, a2, nI_1]
      dsimp only
      rw [nJ_add (by omega)]
      exact g1
    · rw [fL_fits_L16, if_neg h, bnd_eq, a2, nI_1]
      dsimp only
      rw [nJ_add (by omega)]
      exact g2
theorem l_fits (hZ : Zs σ w f l) (x1 : Int32) : ok_L_fits σ x1 ∧ ∃ σ' l', f_L_fits σ x1 = (σ', true) ∧ Zs σ' w f l' := by
  obtain ⟨hO, hI, -⟩ := id hZ
  obtain ⟨a1, a2⟩ := l_well hO hI
  have h : lg_cmp (1 : Int64) 1 = 0 := lg_eq.mpr rfl
  obtain ⟨g1, σ', l', g2, g3⟩ := fit16 hZ x1 5 6 5 0 (by decide) rfl (by decide) (by rw [Nat.zero_add]; exact st_sum hI)
  refine ⟨?_, σ', l', ?_, g3⟩
  · unfold ok_L_fits
    rw [a2]
    exact ⟨a1, fun _ => g1, fun _ => trivial⟩
  · unfold f_L_fits
    rw [a2, if_pos h]
    exact g2
end FITS
