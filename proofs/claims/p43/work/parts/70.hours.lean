/-! the dragon's hours, on both sides -/
theorem wst_same {w w' : Nat → Int32} {f f' : Nat → UInt32} (hs : Sit w w') (hn : cnt w ≤ 20) (hf : ∀ i, i < 20 → f' (16 + i) = f (16 + i)) : wst w' f' = wst w f := by
  unfold wst
  rw [hs.1]
  have key : ∀ (m k : Nat) (a : Int32), k + m = cnt w → wsP w k a → lp (wsg w' f') m k a = lp (wsg w f) m k a := by
    intro m
    induction m with
    | zero => intro k a _ _; rfl
    | succ m ih =>
      intro k a hk ha
      have e : wsg w' f' k a = wsg w f k a := by
        unfold wsg
        rw [hs.2.2, hs.2.2, hf k (by omega)]
        rcases ha with ha | ⟨j, hj, ha, -⟩
        · subst ha; simp
        · have hcj : a.toNatClampNeg = j := by rw [ha, nI_clamp (by omega)]
          rw [hcj, hf j (by omega)]
      show lp (wsg w' f') m (k + 1) (wsg w' f' k a) = lp (wsg w f) m (k + 1) (wsg w f k a)
      rw [e]
      exact ih (k + 1) _ (by omega) (wsg_P ha)
  exact key (cnt w) 0 (-1) (Nat.zero_add _) (Or.inl rfl)
def hgr (f : Nat → UInt32) : UInt32 := FP.fadd (f 15) 1069547520
def hEat (w : Nat → Int32) (f : Nat → UInt32) : Bool := decide (1090519040 < (hgr f).toNat ∧ ¬ wst w f = -1)
def dHw (w : Nat → Int32) (f : Nat → UInt32) : Nat → Int32 := if hEat w f = true then leave (upd w 0 (w 0 + 1)) (wst w f).toNatClampNeg 4 else upd w 0 (w 0 + 1)
def dHf (w : Nat → Int32) (f : Nat → UInt32) : Nat → UInt32 := if hEat w f = true then vf_upd f 15 (FP.fsub (hgr f) 1084227584) else vf_upd f 15 (hgr f)
theorem leave_0 (w : Nat → Int32) (i t : Nat) (v : Int32) : upd (leave w i t) 0 v = leave (upd w 0 v) i t := by
  funext k
  unfold leave upd
  by_cases h0 : k = 0
  · subst h0
    have e4 : ¬ 0 = 6 + 7 * i + 4 := by omega
    have e5 : ¬ 0 = 6 + 7 * i + 5 := by omega
    simp [e4, e5]
  · simp [h0]
section HRS
variable {σ : St} {o : Nat} {w : Nat → Int32} {f : Nat → UInt32}
theorem hgr_b (hI : Inv w f) : HB (hgr f) := hb_add hI.hung
/-- the prey has a hole -/
theorem prey_at (hI : Inv w f) (h : ¬ wst w f = -1) : ∃ i c b, wst w f = nI i ∧ i < cnt w ∧ c < 6 ∧ b < 3 ∧ atH w i c 0 b ∧ (wst w f).toNatClampNeg = i := by
  have hp : wsP w (cnt w) (wst w f) := by
    unfold wst
    have key : ∀ (m k : Nat) (a : Int32), k + m = cnt w → wsP w k a → wsP w (cnt w) (lp (wsg w f) m k a) := by
      intro m
      induction m with
      | zero => intro k a hk ha; rw [← hk]; exact ha
      | succ m ih => intro k a hk ha; exact ih (k + 1) _ (by omega) (wsg_P ha)
    exact key (cnt w) 0 (-1) (Nat.zero_add _) (Or.inl rfl)
  rcases hp with hp | ⟨i, h1, h2, h3, h4⟩
  · exact absurd hp h
  · obtain ⟨-, -, -, a4, -⟩ := hI.2.1 i h1
    obtain ⟨c, r, b, b1, b2, b3, b4⟩ := a4 h4
    have hr0 : r = 0 := nI_inj (b := 0) (by omega) (by decide) (b4.2.2.1.symm.trans h3)
    subst hr0
    have := hI.n20
    exact ⟨i, c, b, h2, h1, b1, hls3 b3, b4, by rw [h2, nI_clamp (by omega)]⟩
theorem Inv.hour (hI : Inv w f) : Inv (dHw w f) (dHf w f) := by
  have I0 : Inv (upd w 0 (w 0 + 1)) f := hI.setl (by decide) (by decide) (fun q => by omega) (fun q => by omega) (fun q => by omega)
  unfold dHw dHf
  by_cases h : hEat w f = true
  · rw [if_pos h, if_pos h]
    unfold hEat at h
    simp only [decide_eq_true_eq] at h
    obtain ⟨i, c, b, e1, e2, e3, e4, e5, e6⟩ := prey_at hI h.2
    rw [e6]
    have I1 : Inv (upd w 0 (w 0 + 1)) (vf_upd f 15 (FP.fsub (hgr f) 1084227584)) := I0.setf (fun _ => by omega) (fun _ _ => by omega) (fun _ => by omega) (fun _ => by omega) (fun _ => hb_five (hgr_b hI) h.1) (fun _ => by omega)
    have hs : Sit w (upd w 0 (w 0 + 1)) := sit_lo (by decide) (by decide)
    exact I1.leave (by rw [hs.1]; exact e2) ((hs.atH i c 0 b).mpr e5) (Or.inr rfl) (fun _ => rfl)
  · rw [if_neg h, if_neg h]
    exact I0.setf (fun _ => by omega) (fun _ _ => by omega) (fun _ => by omega) (fun _ => by omega) (fun _ => hgr_b hI) (fun _ => by omega)
theorem cl_eat (hO : Off σ o w f) (hI : Inv w f) (h8 : 1090519040 < (f 15).toNat) :
    ok_X6_eatLetter σ o ∧ ((wst w f = -1 ∧ f_X6_eatLetter σ o = (σ, false)) ∨ (¬ wst w f = -1 ∧ ∃ σ', f_X6_eatLetter σ o = (σ', true) ∧ Off σ' o (leave w (wst w f).toNatClampNeg 4) (vf_upd f 15 (FP.fsub (f 15) 1084227584)) ∧ Kp (OK1 o) σ σ')) := by
  have hw := cl_worst hO hI
  have h20 := hI.n20
  by_cases h : wst w f = -1
  · refine ⟨?_, Or.inl ⟨h, ?_⟩⟩
    · unfold ok_X6_eatLetter
      rw [hw.2.1, h]
      exact ⟨hw.1, fun _ => trivial, fun q => absurd rfl q⟩
    · unfold f_X6_eatLetter
      rw [hw.2.1, h]; rfl
  · obtain ⟨i, c, b, e1, e2, e3, e4, e5, e6⟩ := prey_at hI h
    have hi20 : i < 20 := by omega
    have hci : (nI i).toNatClampNeg = i := nI_clamp (by omega)
    have hvi : vp_in (nI i) 20 := vp_in_nI hi20 (by decide)
    have hm : ¬ nI i = -1 := nI_m1 (by omega)
    have t1 : σ.1 (o + 4 + 3) i = nI c := (hO.to_ e2).trans e5.2.1
    have t2 : σ.1 (o + 4 + 6) i = nI b := by rw [hO.hole e2, e5.2.2.2]; exact nI_pred b
    have hb : b < hls 0 := by unfold hls; simp; exact e4
    have hp := place_lt e3 (by decide : 0 < 2) hb
    have hcp : (nI (5 * c + 3 * 0 + b)).toNatClampNeg = 5 * c + 3 * 0 + b := nI_clamp (by omega)
    have hvp : vp_in (nI (5 * c + 3 * 0 + b)) 30 := vp_in_nI hp (by decide)
    have hpl : f_X8_placeOf (nI c) 0 (nI b) = nI (5 * c + 3 * 0 + b) := placeOf_nI c 0 b
    have ea : (setI (setI (setI σ (o + 13 + 1) (5 * c + 3 * 0 + b) (-1)) (o + 4 + 5) i 4) (o + 4 + 6) i (-1)).2.1 (o + 16) 0 = f 15 := hO.2.2.2.1
    have hH : HB (f 15) := hI.hung
    have h5 : vf_n32 (FP.fsub (f 15) 1084227584) := fl_n (Nat.le_of_lt (hb_p (hb_five hH h8)))
    refine ⟨?_, Or.inr ⟨h, setF (setI (setI (setI σ (o + 13 + 1) (5 * c + 3 * 0 + b) (-1)) (o + 4 + 5) i 4) (o + 4 + 6) i (-1)) (o + 16) 0 (FP.fsub (f 15) 1084227584), ?_, ?_, ?_⟩⟩
    · unfold ok_X6_eatLetter ok_X8_put ok_X5_leaveShelf f_X8_put f_X5_leaveShelf
      rw [hw.2.1, e1]
      simp only [bndP, bnd]
      rw [hci, t1, t2, hpl, hcp, ea]
      exact ⟨hw.1, fun _ => trivial, fun _ => ⟨hvi, hvi, hvp, ⟨hvi, hvi⟩, h5⟩⟩
    · unfold f_X6_eatLetter f_X8_put f_X5_leaveShelf
      rw [hw.2.1, e1, if_neg hm]
      simp only [bnd]
      rw [hci, t1, t2, hpl, hcp, ea]
    · rw [e6]
      have q0 := leave_off (q := (setI (setI (setI σ (o + 13 + 1) (5 * c + 3 * 0 + b) (-1)) (o + 4 + 5) i (nI 4)) (o + 4 + 6) i (-1)).1 (o + 13 + 2) c) hO hI e2 e3 (by decide) hb e5 (t := 4) (by decide) (by decide) (fun d hd => by
        rw [tkn_leave_same e2 e5 (by decide) (Or.inl (by decide)) (by decide) d]
        by_cases ed : d = c
        · subst ed
          rw [if_pos rfl, q1n (by omega), q1n (by omega), q1n (by omega)]
          exact hO.2.2.1.2 d hd
        · rw [if_neg ed]; exact hO.2.2.1.2 d hd)
      rw [setI_same] at q0
      exact q0.P6
    · exact kp_setF (kp_setI (kp_setI (kp_setI Kp.rf (fun q => q ⟨by omega, by omega⟩)) (fun q => q ⟨by omega, by omega⟩)) (fun q => q ⟨by omega, by omega⟩)) (fun q => q ⟨by omega, by omega⟩)
theorem cl_hour (hO : Off σ o w f) (hI : Inv w f) (fu : Nat) (x1 x2 x3 : Int32) (hx : ¬ x1 ≤ x3) :
    ∃ σ', (okX6_passHours_L4 o fu σ' x1 (if hEat w f = true then x2 + 1 else x2) (x3 + 1) → okX6_passHours_L4 o (fu + 1) σ x1 x2 x3) ∧ fX6_passHours_L4 o (fu + 1) σ x1 x2 x3 = fX6_passHours_L4 o fu σ' x1 (if hEat w f = true then x2 + 1 else x2) (x3 + 1) ∧ Off σ' o (dHw w f) (dHf w f) ∧ Kp (OK1 o) σ σ' := by
  have e0 : σ.2.1 (o + 16) 0 = f 15 := hO.2.2.2.1
  have hH := hgr_b hI
  have hg : f_X9_hungrier (f 15) = hgr f := rfl
  have hok : ok_X9_hungrier (f 15) := fl_n (Nat.le_of_lt (hb_p hH))
  have O1 : Off (setF σ (o + 16) 0 (hgr f)) o w (vf_upd f 15 (hgr f)) := hO.P6
  have I1 : Inv w (vf_upd f 15 (hgr f)) := hI.setf (fun _ => by omega) (fun _ _ => by omega) (fun _ => by omega) (fun _ => by omega) (fun _ => hH) (fun _ => by omega)
  have e1 : (setF σ (o + 16) 0 (hgr f)).2.1 (o + 16) 0 = hgr f := by rw [q2e rfl, ve rfl]
  have k1 : Kp (OK1 o) σ (setF σ (o + 16) 0 (hgr f)) := kp_setF Kp.rf (fun q => q ⟨by omega, by omega⟩)
  have hhu := hungry_iff (hb_p hH)
  have hws : wst w (vf_upd f 15 (hgr f)) = wst w f := wst_same (w := w) (w' := w) ⟨rfl, rfl, fun _ _ => rfl⟩ hI.n20 (fun i _ => vn (by omega))
  by_cases h8 : 1090519040 < (hgr f).toNat
  · have hhu1 : f_X9_isHungry (hgr f) = true := by rw [hhu]; simp; exact h8
    obtain ⟨o1, hc⟩ := cl_eat O1 I1 (by rw [ve rfl]; exact h8)
    rw [hws] at hc
    rcases hc with ⟨h, e2⟩ | ⟨h, σ2, e2, e3, e4⟩
    · have hE : hEat w f = false := by unfold hEat; simp [h]
      have e5 : (setF σ (o + 16) 0 (hgr f)).1 (o + 16) 3 = w 0 := hO.2.2.2.2.2.2
      rw [hE]
      refine ⟨setI (setF σ (o + 16) 0 (hgr f)) (o + 16) 3 (w 0 + 1), ?_, ?_, ?_, ?_⟩
      · intro z
        rw [okX6_passHours_L4]
        simp only [bndP]
        rw [e0, hg, e1, hhu1, e2, e5]
        refine ⟨fun q => absurd q hx, fun _ => ⟨hok, fun _ => ⟨o1, (fun q => by cases q), fun _ => ?_⟩, (fun q => by cases q)⟩⟩
        exact z
      · rw [fX6_passHours_L4, if_neg hx]
        simp only [bnd]
        rw [e0, hg, e1, hhu1, if_pos rfl, e2, e5]
        rfl
      · unfold dHw dHf
        rw [hE]
        exact O1.P11
      · exact kp_setI k1 (fun q => q ⟨by omega, by omega⟩)
    · have hE : hEat w f = true := by unfold hEat; simp [h, h8]
      have e5 : σ2.1 (o + 16) 3 = w 0 := e3.2.2.2.2.2.2.trans (lo_leave (by decide))
      rw [hE]
      refine ⟨setI σ2 (o + 16) 3 (w 0 + 1), ?_, ?_, ?_, ?_⟩
      · intro z
        rw [okX6_passHours_L4]
        simp only [bndP]
        rw [e0, hg, e1, hhu1, e2, e5]
        refine ⟨fun q => absurd q hx, fun _ => ⟨hok, fun _ => ⟨o1, fun _ => ?_, (fun q => by cases q)⟩, (fun q => by cases q)⟩⟩
        exact z
      · rw [fX6_passHours_L4, if_neg hx]
        simp only [bnd]
        rw [e0, hg, e1, hhu1, if_pos rfl, e2, e5]
        rfl
      · unfold dHw dHf
        rw [hE, if_pos rfl, if_pos rfl, ← leave_0]
        have q0 := e3.P11 (v := w 0 + 1)
        rw [ve rfl, vfu_twice] at q0
        exact q0
      · exact kp_setI (k1.tr e4) (fun q => q ⟨by omega, by omega⟩)
  · have hhu1 : f_X9_isHungry (hgr f) = false := by rw [hhu]; simp; omega
    have hE : hEat w f = false := by unfold hEat; simp [h8]
    have e5 : (setF σ (o + 16) 0 (hgr f)).1 (o + 16) 3 = w 0 := hO.2.2.2.2.2.2
    rw [hE]
    refine ⟨setI (setF σ (o + 16) 0 (hgr f)) (o + 16) 3 (w 0 + 1), ?_, ?_, ?_, ?_⟩
    · intro z
      rw [okX6_passHours_L4]
      simp only [bndP]
      rw [e0, hg, e1, hhu1, e5]
      refine ⟨fun q => absurd q hx, fun _ => ⟨hok, (fun q => by cases q), fun _ => ?_⟩⟩
      exact z
    · rw [fX6_passHours_L4, if_neg hx]
      simp only [bnd]
      rw [e0, hg, e1, hhu1, e5]
      rfl
    · unfold dHw dHf
      rw [hE]
      exact O1.P11
    · exact kp_setI k1 (fun q => q ⟨by omega, by omega⟩)
/-- hour after hour -/
def hr : Nat → (Nat → Int32) → (Nat → UInt32) → (Nat → Int32) × (Nat → UInt32) × Nat
  | 0, w, f => (w, f, 0)
  | m + 1, w, f => ((hr m (dHw w f) (dHf w f)).1, (hr m (dHw w f) (dHf w f)).2.1, (if hEat w f = true then 1 else 0) + (hr m (dHw w f) (dHf w f)).2.2)
theorem hr_I : ∀ (m : Nat) (w : Nat → Int32) (f : Nat → UInt32), Inv w f → Inv (hr m w f).1 (hr m w f).2.1 := by
  intro m
  induction m with
  | zero => intro w f h; exact h
  | succ m ih => intro w f h; exact ih _ _ h.hour
theorem cl_hours2 {N : Nat} (hN : N ≤ 60) : ∀ (m fu k n0 : Nat) (σ : St) (w : Nat → Int32) (f : Nat → UInt32), m < fu → k + m = N → Off σ o w f → Inv w f →
    okX6_passHours_L4 o fu σ (nI N) (nI n0) (nI k) ∧ ∃ σ', fX6_passHours_L4 o fu σ (nI N) (nI n0) (nI k) = (σ', nI (n0 + (hr m w f).2.2)) ∧ Off σ' o (hr m w f).1 (hr m w f).2.1 ∧ Kp (OK1 o) σ σ' := by
  intro m
  induction m with
  | zero =>
    intro fu k n0 σ w f hf hk hO hI
    obtain ⟨fu, rfl⟩ : ∃ z, fu = z + 1 := ⟨fu - 1, by omega⟩
    have : k = N := by omega
    subst this
    exact ⟨by simp [okX6_passHours_L4], σ, by simp [fX6_passHours_L4, hr], hO, Kp.rf⟩
  | succ m ih =>
    intro fu k n0 σ w f hf hk hO hI
    obtain ⟨fu, rfl⟩ : ∃ z, fu = z + 1 := ⟨fu - 1, by omega⟩
    have hx : ¬ nI N ≤ nI k := nI_ge (by omega) (by omega)
    obtain ⟨σ1, a1, a2, a3, a4⟩ := cl_hour hO hI fu (nI N) (nI n0) (nI k) hx
    have e : (if hEat w f = true then nI n0 + 1 else nI n0) = nI (n0 + (if hEat w f = true then 1 else 0)) := by
      split
      · exact nI_1 n0
      · rfl
    rw [e, nI_1] at a1 a2
    obtain ⟨b1, σ2, b2, b3, b4⟩ := ih fu (k + 1) (n0 + (if hEat w f = true then 1 else 0)) σ1 _ _ (by omega) (by omega) a3 hI.hour
    refine ⟨a1 b1, σ2, ?_, b3, a4.tr b4⟩
    rw [a2, b2, Nat.add_assoc]
    rfl
/-- snacks -/
def hfd (x : UInt32) : UInt32 := if 1073741824 < x.toNat then FP.fsub x FP.fconst2 else FP.fconst0
def hfI : Nat → UInt32 → UInt32
  | 0, x => x
  | m + 1, x => hfI m (hfd x)
theorem hfd_b {x : UInt32} (h : HB x) : HB (hfd x) := by
  unfold hfd
  split
  · rename_i q; exact hb_two h (Nat.le_of_lt q)
  · decide
theorem hfI_b : ∀ (m : Nat) {x : UInt32}, HB x → HB (hfI m x) := by
  intro m
  induction m with
  | zero => intro x h; exact h
  | succ m ih => intro x h; exact ih (hfd_b h)
theorem two_two : FP.fsub (1073741824 : UInt32) FP.fconst2 = FP.fconst0 := by decide +kernel
theorem cl_feed {N : Nat} (hN : N ≤ 9) : ∀ (m fu k : Nat) (σ : St) (w : Nat → Int32) (f : Nat → UInt32), m < fu → k + m = N → Off σ o w f → HB (f 15) →
    okX3_eatSnacks_L2 (o + 16) fu σ (nI N) (nI k) ∧ Off (fX3_eatSnacks_L2 (o + 16) fu σ (nI N) (nI k)) o (upd (upd w 4 (w 4 - nI N)) 5 (w 5 + nI N)) (vf_upd f 15 (hfI m (f 15))) ∧ Kp (OK1 o) σ (fX3_eatSnacks_L2 (o + 16) fu σ (nI N) (nI k)) := by
  intro m
  induction m with
  | zero =>
    intro fu k σ w f hf hk hO hH
    obtain ⟨fu, rfl⟩ : ∃ z, fu = z + 1 := ⟨fu - 1, by omega⟩
    have : k = N := by omega
    subst this
    have e1 : σ.1 (o + 16) 1 = w 4 := hO.2.2.2.2.1
    have e2 : (setI σ (o + 16) 1 (w 4 - nI k)).1 (o + 16) 2 = w 5 := by rw [q1e rfl, un (by decide)]; exact hO.2.2.2.2.2.1
    have e : fX3_eatSnacks_L2 (o + 16) (fu + 1) σ (nI k) (nI k) = setI (setI σ (o + 16) 1 (w 4 - nI k)) (o + 16) 2 (w 5 + nI k) := by
      rw [fX3_eatSnacks_L2, if_pos (Int32.le_refl _)]
      simp only [bnd]
      rw [e1, e2]
    rw [e]
    refine ⟨by simp [okX3_eatSnacks_L2], ?_, kp_setI (kp_setI Kp.rf (fun q => q ⟨by omega, by omega⟩)) (fun q => q ⟨by omega, by omega⟩)⟩
    have q0 := (hO.P9 (v := w 4 - nI k)).P10 (v := w 5 + nI k)
    have hsame : vf_upd f 15 (f 15) = f := by
      funext j
      unfold vf_upd
      by_cases e : j = 15
      · rw [if_pos e, e]
      · rw [if_neg e]
    show Off _ o _ (vf_upd f 15 (f 15))
    rw [hsame]
    exact q0
  | succ m ih =>
    intro fu k σ w f hf hk hO hH
    obtain ⟨fu, rfl⟩ : ∃ z, fu = z + 1 := ⟨fu - 1, by omega⟩
    have hx : ¬ nI N ≤ nI k := nI_ge (by omega) (by omega)
    have e0 : σ.2.1 (o + 16) 0 = f 15 := hO.2.2.2.1
    have hstep : vf_n32 (FP.fsub (f 15) FP.fconst2) ∧ ((0 ≤ Op.cmpValue (FP.fcmp (FP.fsub (f 15) FP.fconst2) FP.fconst0) CmpOp.g ∧ FP.fsub (f 15) FP.fconst2 = hfd (f 15)) ∨ (¬ 0 ≤ Op.cmpValue (FP.fcmp (FP.fsub (f 15) FP.fconst2) FP.fconst0) CmpOp.g ∧ FP.fconst0 = hfd (f 15))) := by
      rcases Nat.lt_or_ge (f 15).toNat 1073741824 with q | q
      · obtain ⟨h1, h2⟩ := hb_less q
        refine ⟨h1, Or.inr ⟨fun z => ?_, ?_⟩⟩
        · have := h2 CmpOp.g
          rw [Int32.lt_iff_toInt_lt] at this
          rw [Int32.le_iff_toInt_le] at z
          omega
        · unfold hfd; rw [if_neg (by omega)]
      · have hb := hb_two hH q
        refine ⟨fl_n (Nat.le_of_lt (hb_p hb)), Or.inl ⟨(fl_ge0 (hb_p hb) (b := FP.fconst0) (by decide) CmpOp.g).mpr (Nat.zero_le _), ?_⟩⟩
        unfold hfd
        by_cases q2 : 1073741824 < (f 15).toNat
        · rw [if_pos q2]
        · rw [if_neg q2]
          have : f 15 = 1073741824 := UInt32.toNat_inj.mp (by show (f 15).toNat = 1073741824; omega)
          rw [this]
          exact two_two
    have O1 : Off (setF σ (o + 16) 0 (hfd (f 15))) o w (vf_upd f 15 (hfd (f 15))) := hO.P6
    have k1 : Kp (OK1 o) σ (setF σ (o + 16) 0 (hfd (f 15))) := kp_setF Kp.rf (fun q => q ⟨by omega, by omega⟩)
    obtain ⟨b1, b2, b3⟩ := ih fu (k + 1) _ _ _ (by omega) (by omega) O1 (by rw [ve rfl]; exact hfd_b hH)
    rw [ve rfl, vfu_twice] at b2
    have e : fX3_eatSnacks_L2 (o + 16) (fu + 1) σ (nI N) (nI k) = fX3_eatSnacks_L2 (o + 16) fu (setF σ (o + 16) 0 (hfd (f 15))) (nI N) (nI (k + 1)) := by
      rw [fX3_eatSnacks_L2, if_neg hx, e0, nI_1]
      simp only [bnd]
      rcases hstep.2 with ⟨h1, h2⟩ | ⟨h1, h2⟩
      · rw [if_pos h1, h2]
      · rw [if_neg h1, h2]
    rw [e]
    refine ⟨?_, b2, k1.tr b3⟩
    rw [okX3_eatSnacks_L2, e0, nI_1]
    simp only [bndP]
    refine ⟨fun q => absurd q hx, fun _ => ⟨hstep.1, ?_⟩⟩
    rcases hstep.2 with ⟨h1, h2⟩ | ⟨h1, h2⟩
    · exact ⟨fun _ => by rw [h2]; exact b1, fun q => absurd h1 q⟩
    · exact ⟨fun q => absurd q h1, fun _ => by rw [h2]; exact b1⟩
end HRS
