/-! more calls that only ask -/
section ASK2
theorem col_cases {j : Nat} (h : j ≤ 6) : j = 0 ∨ j = 1 ∨ j = 2 ∨ j = 3 ∨ j = 4 ∨ j = 5 ∨ j = 6 := by omega
theorem cl_number {σ : St} {w : Nat → Int32} {f : Nat → UInt32} (hO : Off σ 2 w f) {k j : Nat} (hk : k < cnt w) (hk2 : k < 20) (hj : j ≤ 6) : ok_X5_numberOf σ 6 (nI k) (nI j) ∧ f_X5_numberOf σ 6 (nI k) (nI j) = cv j (it w k j) := by
  have hcl : (nI k).toNatClampNeg = k := nI_clamp (by omega)
  have hv : vp_in (nI k) 20 := vp_in_nI hk2 (by decide)
  have hz := hO.2.1.2.1 j (by omega) k hk
  rcases col_cases hj with rfl | rfl | rfl | rfl | rfl | rfl | rfl
  · exact ⟨by simp [ok_X5_numberOf, hv], hz ▸ (by simp [f_X5_numberOf, hcl, nI_0])⟩
  · have a0 : ¬ nI 1 = 0 := by decide
    have a1 : nI 1 = 1 := by decide
    exact ⟨by simp [ok_X5_numberOf, hv], hz ▸ (by simp [f_X5_numberOf, hcl, a0, a1])⟩
  · have a2 : nI 2 = 2 := by decide
    exact ⟨by simp [ok_X5_numberOf, hv], hz ▸ (by simp [f_X5_numberOf, hcl, a2])⟩
  · have a2 : nI 3 = 3 := by decide
    exact ⟨by simp [ok_X5_numberOf, hv], hz ▸ (by simp [f_X5_numberOf, hcl, a2])⟩
  · have a2 : nI 4 = 4 := by decide
    exact ⟨by simp [ok_X5_numberOf, hv], hz ▸ (by simp [f_X5_numberOf, hcl, a2])⟩
  · have a2 : nI 5 = 5 := by decide
    exact ⟨by simp [ok_X5_numberOf, hv], hz ▸ (by simp [f_X5_numberOf, hcl, a2])⟩
  · have a2 : nI 6 = 6 := by decide
    exact ⟨by simp [ok_X5_numberOf, hv], hz ▸ (by simp [f_X5_numberOf, hcl, a2])⟩
theorem sim_4 : Sim_4 Sim := by
  intro σ x y hS
  obtain ⟨⟨hO, hI⟩, -⟩ := id hS
  have h20 := hI.n20
  have hc := cl_hasItem hO hI x
  rcases hasB_cases x (n := cnt (σ.1 197)) (by omega) with ⟨hb, k, hk, rfl⟩ | hb
  · rw [hb] at hc
    have hk20 : k < 20 := by omega
    cases hr : f_X9_inRange y 0 6 with
    | true =>
      obtain ⟨j, rfl, -, hj⟩ := ir_nI (a := 0) (b := 6) (by decide) (by decide) hr
      have hn := cl_number hO hk hk20 hj
      obtain ⟨v, hv⟩ : ∃ v, v = cv j (it (σ.1 197) k j) := ⟨_, rfl⟩
      have e : f_X9_itemOf σ (nI k) (nI j) = (0, σ, v) := by simp [f_X9_itemOf, di_t hc, bnd_eq, hr, dm0, hn.2, hv]
      refine simI_ok (σ1 := σ) (by unfold f_L_itemOf; rw [bnd_eq, e]; rfl) ⟨by simp [ok_X9_itemOf, di_t hc, bndP_eq, hr, dm0, hn.1], by rw [e]; exact Or.inl rfl⟩ ?_
      have hm := md_isItem (σ := setI (setJ σ 208 0 v.toInt64) 196 0 0) (w := σ.1 197) rfl hI (nI k)
      rw [hb] at hm
      have hq := of_it (σ := setI (setJ σ 208 0 v.toInt64) 196 0 0) (w := σ.1 197) rfl hk20 (j := j) (by omega)
      have hbt : f_X10_isBetween (nI j) 0 6 = true := hr
      refine ⟨by simp [ok_X10_itemOf, bndP_eq, hm, hbt, hq.2], setI (setJ σ 208 0 v.toInt64) 196 0 0, ?_, thr0, rfl, (hS.J _).t 0⟩
      unfold f_X10_itemOf
      rw [bnd_eq, hm, if_pos rfl, hbt, if_pos rfl, hq.1]
      by_cases h5 : j < 5
      · have h6 : ¬ (5 : Int32) ≤ nI j := nI_ge (b := 5) h5 (by decide)
        rw [if_neg h6]
        exact congrArg (Prod.mk _) (by rw [hv]; unfold cv; rw [if_pos h5])
      · have h6 : (5 : Int32) ≤ nI j := nI_le (a := 5) (b := j) (by omega) (by omega)
        rw [if_pos h6]
        exact congrArg (Prod.mk _) (by rw [hv]; unfold cv; rw [if_neg h5])
    | false =>
      have e : f_X9_itemOf σ (nI k) y = (1, σ, 0) := by simp [f_X9_itemOf, di_t hc, bnd_eq, hr, dm2]
      refine simI_no (σ1 := σ) (k := 2) (by unfold f_L_itemOf; rw [bnd_eq, e]; rfl) (by decide) ⟨by simp [ok_X9_itemOf, di_t hc, bndP_eq, hr, dm2], by rw [e]; exact Or.inr (Or.inr rfl)⟩ ?_
      have hm := md_isItem (σ := setI σ 196 0 0) (w := σ.1 197) rfl hI (nI k)
      rw [hb] at hm
      have hbt : f_X10_isBetween y 0 6 = false := hr
      exact ⟨by simp [ok_X10_itemOf, bndP_eq, hm, hbt], setI (setI σ 196 0 0) 196 0 2, 0, by simp [f_X10_itemOf, bnd_eq, hm, hbt, f_fails], thr0, hS.tt 0 2⟩
  · rw [hb] at hc
    have e : f_X9_itemOf σ x y = (2, σ, 0) := by simp [f_X9_itemOf, di_f hc, bnd_eq]
    refine simI_no (σ1 := σ) (k := 1) (by unfold f_L_itemOf; rw [bnd_eq, e]; rfl) (by decide) ⟨by simp [ok_X9_itemOf, di_f hc, bndP_eq], by rw [e]; exact Or.inr (Or.inl rfl)⟩ ?_
    have hm := md_isItem (σ := setI σ 196 0 0) (w := σ.1 197) rfl hI x
    rw [hb] at hm
    exact ⟨by simp [ok_X10_itemOf, bndP_eq, hm], setI (setI σ 196 0 0) 196 0 1, 0, by simp [f_X10_itemOf, bnd_eq, hm, f_fails], thr0, hS.tt 0 1⟩
/-- three sides -/
theorem sides {x y z : Int32} (h : f_X9_areSides x y z = true) : ∃ a b c, x = nI a ∧ y = nI b ∧ z = nI c ∧ a < 10 ∧ b < 10 ∧ c < 10 ∧ 1 ≤ a ∧ 1 ≤ b ∧ 1 ≤ c := by
  unfold f_X9_areSides at h
  cases h1 : f_X9_inRange x 1 9 with
  | false => rw [h1] at h; cases h
  | true =>
    cases h2 : f_X9_inRange y 1 9 with
    | false => rw [h1, h2] at h; cases h
    | true =>
      cases h3 : f_X9_inRange z 1 9 with
      | false => rw [h1, h2, h3] at h; cases h
      | true =>
        obtain ⟨a, e1, a1, a2⟩ := ir_nI (a := 1) (b := 9) (by decide) (by decide) h1
        obtain ⟨b, e2, b1, b2⟩ := ir_nI (a := 1) (b := 9) (by decide) (by decide) h2
        obtain ⟨c, e3, c1, c2⟩ := ir_nI (a := 1) (b := 9) (by decide) (by decide) h3
        exact ⟨a, b, c, e1, e2, e3, by omega, by omega, by omega, a1, b1, c1⟩
theorem sim_6 : Sim_6 Sim := by
  intro σ x y z hS
  cases h : f_X9_areSides x y z with
  | true =>
    obtain ⟨a, b, c, rfl, rfl, rfl, ha, hb, hc, -⟩ := sides h
    have hP := sw_p ha hb hc
    obtain ⟨v, hv⟩ : ∃ v, v = f_Jxf58ca_floatToIntBits_5c35a (sw a b c) := ⟨_, rfl⟩
    have e : f_X9_stringFor σ (nI a) (nI b) (nI c) = (0, σ, v) := by simp [f_X9_stringFor, h, dm0, bnd_eq, (sw_eq a b c).1, b32_same hP, hv]
    refine simI_ok (σ1 := σ) (by unfold f_L_stringFor; rw [bnd_eq, e]; rfl) ⟨by simp [ok_X9_stringFor, h, dm0, bndP_eq, (sw_eq a b c).1, (b32_of hP).1, (sw_ok ha hb hc).1], by rw [e]; exact Or.inl rfl⟩ ?_
    have hm : f_X10_areSides (nI a) (nI b) (nI c) = true := h
    exact ⟨by simp [ok_X10_stringFor, bndP_eq, hm, (sw_ok ha hb hc).2], setI (setJ σ 208 0 v.toInt64) 196 0 0, by simp [f_X10_stringFor, bnd_eq, hm, (sw_eq a b c).2, hv.symm], thr0, rfl, (hS.J _).t 0⟩
  | false =>
    have e : f_X9_stringFor σ x y z = (1, σ, 0) := by simp [f_X9_stringFor, h, dm2, bnd_eq]
    refine simI_no (σ1 := σ) (k := 1) (by unfold f_L_stringFor; rw [bnd_eq, e]; rfl) (by decide) ⟨by simp [ok_X9_stringFor, h, dm2, bndP_eq], by rw [e]; exact Or.inr rfl⟩ ?_
    have hm : f_X10_areSides x y z = false := h
    exact ⟨by simp [ok_X10_stringFor, bndP_eq, hm], setI (setI σ 196 0 0) 196 0 1, 0, by simp [f_X10_stringFor, bnd_eq, hm, f_fails], thr0, hS.tt 0 1⟩
theorem sim_8 : Sim_8 Sim := by
  intro σ x y hS
  obtain ⟨⟨hO, hI⟩, -⟩ := id hS
  have h8 := cray8 hI
  have hc := cl_hasCray hO hI x
  rcases hasB_cases x (n := (σ.1 197 1).toNatClampNeg) (by omega) with ⟨hb, k, hk, rfl⟩ | hb
  · rw [hb] at hc
    have hk8 : k < 8 := by omega
    have hcl : (nI k).toNatClampNeg = k := nI_clamp (by omega)
    cases hr : f_X9_inRange y 1 40 with
    | true =>
      obtain ⟨n, rfl, n1, n2⟩ := ir_nI (a := 1) (b := 40) (by decide) (by decide) hr
      have hn : n < 41 := by omega
      obtain ⟨N, a1, a2, a3, a4⟩ := its_ex (hI.lens hk8) n1 hn
      have q1 : σ.2.1 4 k = σ.2.1 201 k := hO.cray hk8
      have c1 := cl_by (σ := σ) (nI k) hn a1 a2 a3 a4
      have e : f_X9_lettersOf σ (nI k) (nI n) = (0, σ, nI N) := by
        unfold f_X9_lettersOf
        rw [dw_t hc hr, bnd_eq]
        dsimp only
        rw [if_pos rfl, hcl, q1]
        exact c1.2
      refine simI_ok (σ1 := σ) (by unfold f_L_lettersOf; rw [bnd_eq, e]; rfl) ⟨?_, by rw [e]; exact Or.inl rfl⟩ ?_
      · unfold ok_X9_lettersOf
        rw [dw_t hc hr, bndP_eq]
        dsimp only
        rw [hcl, q1]
        exact fun _ => ⟨(cw_ok hn).1, vp_in_nI hk8 (by decide), c1.1⟩
      · have hm := md_isCray (σ := setI (setJ σ 208 0 (nI N).toInt64) 196 0 0) (w := σ.1 197) rfl hI (nI k)
        rw [hb] at hm
        have c2 := md_by (σ := setI (setJ σ 208 0 (nI N).toInt64) 196 0 0) (nI k) hn a1 a2 a3 a4
        have r1 : (setI (setJ σ 208 0 (nI N).toInt64) 196 0 0).2.1 201 = σ.2.1 201 := rfl
        have hbt : f_X10_isBetween (nI n) 1 40 = true := hr
        refine ⟨?_, setI (setJ σ 208 0 (nI N).toInt64) 196 0 0, ?_, thr0, rfl, (hS.J _).t 0⟩
        · unfold ok_X10_lettersOf ok_X10_lettersBy
          rw [bndP_eq]
          rw [hm, hbt, hcl, r1]
          exact ⟨fun _ => ⟨fun _ => ⟨vp_in_nI (by omega) (by decide), c2.1⟩, (fun q => by cases q)⟩, (fun q => by cases q)⟩
        · unfold f_X10_lettersOf f_X10_lettersBy
          rw [bnd_eq]
          rw [hm, if_pos rfl, hbt, if_pos rfl, hcl, r1, c2.2]
    | false =>
      have e : f_X9_lettersOf σ (nI k) y = (1, σ, 0) := by unfold f_X9_lettersOf; rw [dw_r hc hr, bnd_eq]; rfl
      refine simI_no (σ1 := σ) (k := 2) (by unfold f_L_lettersOf; rw [bnd_eq, e]; rfl) (by decide) ⟨by unfold ok_X9_lettersOf; rw [dw_r hc hr, bndP_eq]; exact (fun q => by cases q), by rw [e]; exact Or.inr (Or.inr rfl)⟩ ?_
      have hm := md_isCray (σ := setI σ 196 0 0) (w := σ.1 197) rfl hI (nI k)
      rw [hb] at hm
      have hbt : f_X10_isBetween y 1 40 = false := hr
      exact ⟨by unfold ok_X10_lettersOf; rw [bndP_eq, hm, hbt]; exact ⟨fun _ => ⟨(fun q => by cases q), fun _ => trivial⟩, (fun q => by cases q)⟩, setI (setI σ 196 0 0) 196 0 2, 0, by unfold f_X10_lettersOf; rw [bnd_eq, hm, hbt]; rfl, thr0, hS.tt 0 2⟩
  · rw [hb] at hc
    have e : f_X9_lettersOf σ x y = (2, σ, 0) := by unfold f_X9_lettersOf; rw [dw_f hc, bnd_eq]; rfl
    refine simI_no (σ1 := σ) (k := 1) (by unfold f_L_lettersOf; rw [bnd_eq, e]; rfl) (by decide) ⟨by unfold ok_X9_lettersOf; rw [dw_f hc, bndP_eq]; exact (fun q => by cases q), by rw [e]; exact Or.inr (Or.inl rfl)⟩ ?_
    have hm := md_isCray (σ := setI σ 196 0 0) (w := σ.1 197) rfl hI x
    rw [hb] at hm
    exact ⟨by unfold ok_X10_lettersOf; rw [bndP_eq, hm]; exact ⟨(fun q => by cases q), fun _ => trivial⟩, setI (setI σ 196 0 0) 196 0 1, 0, by unfold f_X10_lettersOf; rw [bnd_eq, hm]; rfl, thr0, hS.tt 0 1⟩
theorem sim_9 : Sim_9 Sim := by
  intro σ x y hS
  obtain ⟨⟨hO, hI⟩, -⟩ := id hS
  have h8 := cray8 hI
  have hc := cl_hasCray hO hI x
  rcases hasB_cases x (n := (σ.1 197 1).toNatClampNeg) (by omega) with ⟨hb, k, hk, rfl⟩ | hb
  · rw [hb] at hc
    have hk8 : k < 8 := by omega
    have hcl : (nI k).toNatClampNeg = k := nI_clamp (by omega)
    cases hr : f_X9_inRange y 1 40 with
    | true =>
      obtain ⟨n, rfl, n1, n2⟩ := ir_nI (a := 1) (b := 40) (by decide) (by decide) hr
      have hn : n < 41 := by omega
      obtain ⟨N, a1, a2, a3, a4⟩ := its_ex (hI.lens hk8) n1 hn
      have q1 : σ.2.1 4 k = σ.2.1 201 k := hO.cray hk8
      obtain ⟨c1, τ, c2, c3⟩ := cl_again (nI k) hn a1 a2 a3 a4 N 2000 0 (setF σ 195 0 (σ.2.1 201 k)) (by omega) (Nat.zero_add N) (by rw [q2e rfl, ve rfl]; rfl)
      have e : f_X9_lettersAgain σ (nI k) (nI n) = (0, τ, nI N) := by
        unfold f_X9_lettersAgain
        rw [dw_t hc hr, bnd_eq]
        dsimp only
        rw [if_pos rfl, bnd_eq, hcl, q1, cl_0]
        exact c2
      have kk : KR (fun j => ¬ j = 195) σ τ := ((kp_setF Kp.rf (fun q => q rfl) : Kp (fun j => ¬ j = 195) σ (setF σ 195 0 (σ.2.1 201 k))).tr c3).kr
      have hSτ : Sim τ := hS.kr (kk.wk (fun i hi => by unfold QP at hi; omega)) (KF.row (kk 196 (by decide)).1)
      refine simI_ok (σ1 := τ) (by unfold f_L_lettersAgain; rw [bnd_eq, e]; rfl) ⟨?_, by rw [e]; exact Or.inl rfl⟩ ?_
      · unfold ok_X9_lettersAgain
        rw [dw_t hc hr, bndP_eq]
        dsimp only
        rw [bndP_eq, hcl, q1, cl_0]
        exact fun _ => ⟨(cw_ok hn).1, vp_in_nI hk8 (by decide), c1⟩
      · have hw : τ.1 197 = σ.1 197 := (kk 197 (by decide)).1
        have hf : τ.2.1 201 = σ.2.1 201 := (kk 201 (by decide)).2
        have hm := md_isCray (σ := setI (setJ τ 208 0 (nI N).toInt64) 196 0 0) (w := σ.1 197) hw hI (nI k)
        rw [hb] at hm
        have r1 : (setI (setJ τ 208 0 (nI N).toInt64) 196 0 0).2.1 201 = σ.2.1 201 := hf
        have hbt : f_X10_isBetween (nI n) 1 40 = true := hr
        obtain ⟨d1, τ2, d2, d3⟩ := md_fill (nI k) hn (fl_nan (lb_p (hI.lens hk8))) (fun τ' => (τ', nI N)) (fun _ => True) 399 2000 1 (setF (setI (setJ τ 208 0 (nI N).toInt64) 196 0 0) 205 0 (σ.2.1 201 k)) (by decide) rfl (by decide) (fun j hj => by
          have : j = 0 := by omega
          subst this
          rw [q2e rfl, ve rfl]; rfl) (fun τ' ht => md_find (nI k) hn a1 a2 a3 a4 τ' ht)
        have k2 : Kp (fun j => ¬ j = 205) (setI (setJ τ 208 0 (nI N).toInt64) 196 0 0) τ2 := (kp_setF Kp.rf (fun q => q rfl)).tr d3
        refine ⟨?_, τ2, ?_, ?_, k2.2, ?_⟩
        · unfold ok_X10_lettersAgain
          rw [bndP_eq]
          rw [hm, hbt, bndP_eq, hcl, r1, cl_0]
          exact ⟨fun _ => ⟨fun _ => ⟨vp_in_nI (by omega) (by decide), d1⟩, (fun q => by cases q)⟩, (fun q => by cases q)⟩
        · unfold f_X10_lettersAgain
          rw [bnd_eq]
          rw [hm, if_pos rfl, hbt, if_pos rfl, bnd_eq, hcl, r1, cl_0]
          exact d2
        · rw [(k2.1 196 (by decide)).1]; exact thr0
        · exact ((hSτ.J _).t 0).kr (k2.kr.wk (fun i hi => by unfold QP at hi; omega)) (KF.row (k2.1 196 (by decide)).1)
    | false =>
      have e : f_X9_lettersAgain σ (nI k) y = (1, σ, 0) := by unfold f_X9_lettersAgain; rw [dw_r hc hr, bnd_eq]; rfl
      refine simI_no (σ1 := σ) (k := 2) (by unfold f_L_lettersAgain; rw [bnd_eq, e]; rfl) (by decide) ⟨by unfold ok_X9_lettersAgain; rw [dw_r hc hr, bndP_eq]; exact (fun q => by cases q), by rw [e]; exact Or.inr (Or.inr rfl)⟩ ?_
      have hm := md_isCray (σ := setI σ 196 0 0) (w := σ.1 197) rfl hI (nI k)
      rw [hb] at hm
      have hbt : f_X10_isBetween y 1 40 = false := hr
      exact ⟨by unfold ok_X10_lettersAgain; rw [bndP_eq, hm, hbt]; exact ⟨fun _ => ⟨(fun q => by cases q), fun _ => trivial⟩, (fun q => by cases q)⟩, setI (setI σ 196 0 0) 196 0 2, 0, by unfold f_X10_lettersAgain; rw [bnd_eq, hm, hbt]; rfl, thr0, hS.tt 0 2⟩
  · rw [hb] at hc
    have e : f_X9_lettersAgain σ x y = (2, σ, 0) := by unfold f_X9_lettersAgain; rw [dw_f hc, bnd_eq]; rfl
    refine simI_no (σ1 := σ) (k := 1) (by unfold f_L_lettersAgain; rw [bnd_eq, e]; rfl) (by decide) ⟨by unfold ok_X9_lettersAgain; rw [dw_f hc, bndP_eq]; exact (fun q => by cases q), by rw [e]; exact Or.inr (Or.inl rfl)⟩ ?_
    have hm := md_isCray (σ := setI σ 196 0 0) (w := σ.1 197) rfl hI x
    rw [hb] at hm
    exact ⟨by unfold ok_X10_lettersAgain; rw [bndP_eq, hm]; exact ⟨(fun q => by cases q), fun _ => trivial⟩, setI (setI σ 196 0 0) 196 0 1, 0, by unfold f_X10_lettersAgain; rw [bnd_eq, hm]; rfl, thr0, hS.tt 0 1⟩
theorem child_cases (x : Int32) : (f_X9_isChild x = true ∧ ∃ c, c < 6 ∧ x = nI c) ∨ f_X9_isChild x = false := by
  cases h : f_X9_isChild x with
  | false => exact Or.inr rfl
  | true =>
    obtain ⟨c, e, -, h2⟩ := ir_nI (a := 0) (b := 5) (by decide) (by decide) h
    exact Or.inl ⟨rfl, c, by omega, e⟩
theorem sim_22 : Sim_22 Sim := by
  intro σ x hS
  obtain ⟨⟨hO, hI⟩, -⟩ := id hS
  rcases child_cases x with ⟨h, c, hc, rfl⟩ | h
  · have hcl : (nI c).toNatClampNeg = c := nI_clamp (by omega)
    have hv : vp_in (nI c) 6 := vp_in_nI hc (by decide)
    have q1 : σ.1 17 c = nI (cn (tkn (σ.1 197) c) (cnt (σ.1 197))) := hO.2.2.1.2 c hc
    obtain ⟨v, hv2⟩ : ∃ v, v = nI (cn (tkn (σ.1 197) c) (cnt (σ.1 197))) := ⟨_, rfl⟩
    have e : f_X9_read σ (nI c) = (0, σ, v) := by simp [f_X9_read, h, dm0, bnd_eq, hcl, q1, hv2]
    refine simI_ok (σ1 := σ) (by unfold f_L_read; rw [bnd_eq, e]; rfl) ⟨by simp [ok_X9_read, h, dm0, bndP_eq, hv], by rw [e]; exact Or.inl rfl⟩ ?_
    have hm : f_X10_isChild (nI c) = true := h
    have hq := md_read (σ := setI (setJ σ 208 0 v.toInt64) 196 0 0) (w := σ.1 197) rfl hI c
    exact ⟨by unfold ok_X10_read; rw [bndP_eq, hm]; exact ⟨fun _ => hq.1, (fun q => by cases q)⟩, setI (setJ σ 208 0 v.toInt64) 196 0 0, by unfold f_X10_read; rw [bnd_eq, hm, if_pos rfl, hq.2, hv2], thr0, rfl, (hS.J _).t 0⟩
  · have e : f_X9_read σ x = (2, σ, 0) := by simp [f_X9_read, h, dm1, bnd_eq]
    refine simI_no (σ1 := σ) (k := 1) (by unfold f_L_read; rw [bnd_eq, e]; rfl) (by decide) ⟨by simp [ok_X9_read, h, dm1, bndP_eq], by rw [e]; exact Or.inr rfl⟩ ?_
    have hm : f_X10_isChild x = false := h
    exact ⟨by unfold ok_X10_read; rw [bndP_eq, hm]; exact ⟨(fun q => by cases q), fun _ => trivial⟩, setI (setI σ 196 0 0) 196 0 1, 0, by unfold f_X10_read; rw [bnd_eq, hm]; rfl, thr0, hS.tt 0 1⟩
theorem sim_21 : Sim_21 Sim := by
  intro σ x y z hS
  obtain ⟨⟨hO, hI⟩, -⟩ := id hS
  have no : f_X8_isHole x y z = false → simI Sim (ok_L_inHole σ x y z) (f_L_inHole σ x y z) (fun τ => ok_X10_inHole τ x y z) (fun τ => f_X10_inHole τ x y z) := by
    intro h
    have e : f_X9_inHole σ x y z = (2, σ, 0) := by simp [f_X9_inHole, h, dm1, bnd_eq]
    refine simI_no (σ1 := σ) (k := 1) (by unfold f_L_inHole; rw [bnd_eq, e]; rfl) (by decide) ⟨by simp [ok_X9_inHole, h, dm1, bndP_eq], by rw [e]; exact Or.inr (Or.inl rfl)⟩ ?_
    unfold f_X8_isHole at h
    cases h1 : f_X9_isChild x with
    | false =>
      have m1 : f_X10_isChild x = false := h1
      exact ⟨by simp [ok_X10_inHole, bndP_eq, m1], setI (setI σ 196 0 0) 196 0 1, 0, by simp [f_X10_inHole, bnd_eq, m1, f_fails], thr0, hS.tt 0 1⟩
    | true =>
      have m1 : f_X10_isChild x = true := h1
      cases h2 : f_X9_inRange y 0 1 with
      | false =>
        have m2 : f_X10_isBetween y 0 1 = false := h2
        exact ⟨by simp [ok_X10_inHole, bndP_eq, m1, m2], setI (setI σ 196 0 0) 196 0 1, 0, by simp [f_X10_inHole, bnd_eq, m1, m2, f_fails], thr0, hS.tt 0 1⟩
      | true =>
        have m2 : f_X10_isBetween y 0 1 = true := h2
        cases h3 : f_X9_inRange z 0 (f_X8_holesIn y - 1) with
        | true => rw [h1, h2, h3] at h; cases h
        | false =>
          have m3 : f_X10_isBetween z 0 (f_X10_holes y - 1) = false := h3
          exact ⟨by simp [ok_X10_inHole, bndP_eq, m1, m2, m3], setI (setI σ 196 0 0) 196 0 1, 0, by simp [f_X10_inHole, bnd_eq, m1, m2, m3, f_fails], thr0, hS.tt 0 1⟩
  cases h : f_X8_isHole x y z with
  | false => exact no h
  | true =>
    have hh := h
    unfold f_X8_isHole at hh
    cases h1 : f_X9_isChild x with
    | false => rw [h1] at hh; cases hh
    | true =>
      cases h2 : f_X9_inRange y 0 1 with
      | false => rw [h1, h2] at hh; cases hh
      | true =>
        cases h3 : f_X9_inRange z 0 (f_X8_holesIn y - 1) with
        | false => rw [h1, h2, h3] at hh; cases hh
        | true =>
          rcases child_cases x with ⟨-, c, hc, rfl⟩ | q
          · obtain ⟨r, rfl, -, hr⟩ := ir_nI (a := 0) (b := 1) (by decide) (by decide) h2
            have hr2 : r < 2 := by omega
            have hho := holes_nI hr2
            have h3l := hls_le r
            have m3 : f_X10_isBetween z 0 (f_X10_holes (nI r) - 1) = true := h3
            rw [hho.1, hasB_in (by omega)] at h3
            rcases hasB_cases z (n := hls r) (by omega) with ⟨-, b, hb, rfl⟩ | q
            · have m1 : f_X10_isChild (nI c) = true := h1
              have m2 : f_X10_isBetween (nI r) 0 1 = true := h2
              have hA := cl_itemAt hO hI hc hr2 hb
              have hA1 : ok_X8_itemAt σ 15 (nI c) (nI r) (nI b) := hA.1
              have hA2 : f_X8_itemAt σ 15 (nI c) (nI r) (nI b) = inH (σ.1 197) c r b := hA.2
              rcases inH_cases hI.n20 c r b with ⟨z1, -⟩ | ⟨i, -, z2, z3, z4, -⟩
              · have e : f_X9_inHole σ (nI c) (nI r) (nI b) = (4, σ, 0) := by simp [f_X9_inHole, h, dm0, bnd_eq, hA2, z1, df0]
                refine simI_no (σ1 := σ) (k := 2) (by unfold f_L_inHole; rw [bnd_eq, e]; rfl) (by decide) ⟨by simp [ok_X9_inHole, h, dm0, bndP_eq, hA1], by rw [e]; exact Or.inr (Or.inr rfl)⟩ ?_
                have hq := md_itemIn (σ := setI σ 196 0 0) (w := σ.1 197) rfl hI c r b
                rw [z1] at hq
                have hz : ¬ (0 : Int32) ≤ -1 := by decide
                exact ⟨by simp [ok_X10_inHole, bndP_eq, m1, m2, m3, hq.1, hq.2, hz], setI (setI σ 196 0 0) 196 0 2, 0, by simp [f_X10_inHole, bnd_eq, m1, m2, m3, hq.2, hz, f_fails], thr0, hS.tt 0 2⟩
              · have z3' : ¬ nI i = -1 := by rw [← z2]; exact z3
                have z4' : (0 : Int32) ≤ nI i := by rw [← z2]; exact Int32.not_lt.mp z4
                have e : f_X9_inHole σ (nI c) (nI r) (nI b) = (0, σ, nI i) := by simp [f_X9_inHole, h, dm0, bnd_eq, hA2, z2, z3', df1]
                refine simI_ok (σ1 := σ) (by unfold f_L_inHole; rw [bnd_eq, e]; rfl) ⟨by simp [ok_X9_inHole, h, dm0, bndP_eq, hA1], by rw [e]; exact Or.inl rfl⟩ ?_
                have hq := md_itemIn (σ := setI (setJ σ 208 0 (nI i).toInt64) 196 0 0) (w := σ.1 197) rfl hI c r b
                rw [z2] at hq
                exact ⟨by simp [ok_X10_inHole, bndP_eq, m1, m2, m3, hq.1, hq.2, z4'], setI (setJ σ 208 0 (nI i).toInt64) 196 0 0, by simp [f_X10_inHole, bnd_eq, m1, m2, m3, hq.2, z4'], thr0, rfl, (hS.J _).t 0⟩
            · rw [h3] at q; cases q
          · rw [h1] at q; cases q
theorem sim_33 : Sim_33 Sim := by
  intro σ x hS
  have hw := hS.2.1
  unfold SW at hw
  by_cases h : σ.1 196 1 = 0
  · have h' : σ.1 1 1 = 0 := hw.1.trans h
    have e : f_X9_refusal σ x = (4, σ, 0) := by simp [f_X9_refusal, h', df0, bnd_eq]
    refine simI_no (σ1 := σ) (k := 1) (by unfold f_L_refusal; rw [bnd_eq, e]; rfl) (by decide) (by unfold ok_L_refusal; rw [e]; exact Or.inr rfl) ?_
    have q : (setI σ 196 0 0).1 196 1 = 0 := by rw [q1e rfl, un (by decide)]; exact h
    exact ⟨trivial, setI (setI σ 196 0 0) 196 0 1, 0, by simp [f_X10_refusal, bnd_eq, q, f_fails], thr0, hS.tt 0 1⟩
  · have h' : ¬ σ.1 1 1 = 0 := by rw [hw.1]; exact h
    obtain ⟨v, hv⟩ : ∃ v, v = if x = true then σ.1 196 2 else σ.1 196 1 := ⟨_, rfl⟩
    have e : f_X9_refusal σ x = (0, σ, v) := by
      cases x <;> simp [f_X9_refusal, h, df1, bnd_eq, hv, hw.1, hw.2]
    refine simI_ok (σ1 := σ) (by unfold f_L_refusal; rw [bnd_eq, e]; rfl) (by unfold ok_L_refusal; rw [e]; exact Or.inl rfl) ?_
    have q1 : (setI (setJ σ 208 0 v.toInt64) 196 0 0).1 196 1 = σ.1 196 1 := by rw [q1e rfl, un (by decide)]; rfl
    have q2 : (setI (setJ σ 208 0 v.toInt64) 196 0 0).1 196 2 = σ.1 196 2 := by rw [q1e rfl, un (by decide)]; rfl
    refine ⟨trivial, setI (setJ σ 208 0 v.toInt64) 196 0 0, ?_, thr0, rfl, (hS.J _).t 0⟩
    unfold f_X10_refusal
    rw [bnd_eq, q1, if_neg h, q2, hv]
    cases x <;> rfl
theorem sim_29 : Sim_29 Sim := by
  intro σ x hS
  obtain ⟨⟨hO, hI⟩, -⟩ := id hS
  have h20 := hI.n20
  have hc := cl_hasItem hO hI x
  rcases hasB_cases x (n := cnt (σ.1 197)) (by omega) with ⟨hb, k, hk, rfl⟩ | hb
  · rw [hb] at hc
    have hk20 : k < 20 := by omega
    have hcl : (nI k).toNatClampNeg = k := nI_clamp (by omega)
    have hv20 : vp_in (nI k) 20 := vp_in_nI hk20 (by decide)
    have q1 : σ.1 7 k = it (σ.1 197) k 0 := hO.kind hk
    have q2 : σ.1 11 k = it (σ.1 197) k 4 := hO.state hk
    obtain ⟨-, -, ⟨t, t1, t2⟩, -⟩ := hI.2.1 k hk
    have tab : ∀ t, t ≤ 4 → vp_in (nI t) (lenS.getD 4 0) ∧ vp_in (nI t) (lenS.getD 5 0) ∧ chS 4 (nI t) = f_X10_signOf (nI t) ∧ chS 5 (nI t) = ((f_X10_signOf (nI t) - 32).toUInt32 % 65536).toInt32 := by
      intro t ht
      have h5 : t = 0 ∨ t = 1 ∨ t = 2 ∨ t = 3 ∨ t = 4 := by omega
      refine ⟨vp_in_nI (by show t < 5; omega) (by decide), vp_in_nI (by show t < 5; omega) (by decide), ?_, ?_⟩
      · rcases h5 with rfl | rfl | rfl | rfl | rfl <;> decide +kernel
      · rcases h5 with rfl | rfl | rfl | rfl | rfl <;> decide +kernel
    obtain ⟨v1, v2, c1, c2⟩ := tab t t1
    by_cases h0 : it (σ.1 197) k 0 = 0
    · obtain ⟨v, hv⟩ : ∃ v, v = f_X10_signOf (nI t) := ⟨_, rfl⟩
      have e : f_X9_sign σ (nI k) = (0, σ, v) := by simp [f_X9_sign, di_t hc, bnd_eq, hcl, q1, h0, q2, t2, c1, hv]
      refine simI_ok (σ1 := σ) (by unfold f_L_sign; rw [bnd_eq, e]; rfl) ⟨by unfold ok_X9_sign; rw [di_t hc, bndP_eq]; dsimp only; rw [hcl, q1, q2, t2]; exact fun _ => ⟨hv20, fun _ => ⟨hv20, v1⟩, fun q => absurd h0 q⟩, by rw [e]; exact Or.inl rfl⟩ ?_
      have hm := md_isItem (σ := setI (setJ σ 208 0 v.toInt64) 196 0 0) (w := σ.1 197) rfl hI (nI k)
      rw [hb] at hm
      have hq := mL (σ := setI (setJ σ 208 0 v.toInt64) 196 0 0) (w := σ.1 197) rfl hk20
      have hq4 := mo4 (σ := setI (setJ σ 208 0 v.toInt64) 196 0 0) (w := σ.1 197) rfl hk20
      exact ⟨by simp [ok_X10_sign, bndP_eq, hm, hq, mkL hk20, mk4 hk20, h0], setI (setJ σ 208 0 v.toInt64) 196 0 0, by simp [f_X10_sign, bnd_eq, hm, hq, h0, hq4, t2, hv.symm], thr0, rfl, (hS.J _).t 0⟩
    · obtain ⟨v, hv⟩ : ∃ v, v = ((f_X10_signOf (nI t) - 32).toUInt32 % 65536).toInt32 := ⟨_, rfl⟩
      have e : f_X9_sign σ (nI k) = (0, σ, v) := by
        unfold f_X9_sign
        rw [di_t hc, bnd_eq]
        dsimp only
        rw [if_pos rfl, hcl, q1, if_neg h0, q2, t2, c2, hv]
      refine simI_ok (σ1 := σ) (by unfold f_L_sign; rw [bnd_eq, e]; rfl) ⟨by unfold ok_X9_sign; rw [di_t hc, bndP_eq]; dsimp only; rw [hcl, q1, q2, t2]; exact fun _ => ⟨hv20, fun q => absurd q h0, fun _ => ⟨hv20, v2⟩⟩, by rw [e]; exact Or.inl rfl⟩ ?_
      have hm := md_isItem (σ := setI (setJ σ 208 0 v.toInt64) 196 0 0) (w := σ.1 197) rfl hI (nI k)
      rw [hb] at hm
      have hq := mL (σ := setI (setJ σ 208 0 v.toInt64) 196 0 0) (w := σ.1 197) rfl hk20
      have hq4 := mo4 (σ := setI (setJ σ 208 0 v.toInt64) 196 0 0) (w := σ.1 197) rfl hk20
      refine ⟨by simp [ok_X10_sign, bndP_eq, hm, hq, mkL hk20, mk4 hk20, h0], setI (setJ σ 208 0 v.toInt64) 196 0 0, ?_, thr0, rfl, (hS.J _).t 0⟩
      unfold f_X10_sign
      have hqf : f_X10_isLetter (setI (setJ σ 208 0 v.toInt64) 196 0 0) (nI k) = false := by rw [hq]; simp [h0]
      rw [bnd_eq, hm, if_pos rfl, hqf, if_neg (by decide), hq4, t2, hv]
  · rw [hb] at hc
    have e : f_X9_sign σ x = (2, σ, 0) := by simp [f_X9_sign, di_f hc, bnd_eq]
    refine simI_no (σ1 := σ) (k := 1) (by unfold f_L_sign; rw [bnd_eq, e]; rfl) (by decide) ⟨by simp [ok_X9_sign, di_f hc, bndP_eq], by rw [e]; exact Or.inr rfl⟩ ?_
    have hm := md_isItem (σ := setI σ 196 0 0) (w := σ.1 197) rfl hI x
    rw [hb] at hm
    exact ⟨by simp [ok_X10_sign, bndP_eq, hm], setI (setI σ 196 0 0) 196 0 1, _, by unfold f_X10_sign; rw [bnd_eq, hm, if_neg (by decide), bnd_eq]; rfl, thr0, hS.tt 0 1⟩
end ASK2
