/-! loops over the items, the reference's -/
section MTM
variable {σ : St} {w : Nat → Int32} {f : Nat → UInt32}
theorem of_it (hw : σ.1 197 = w) {i j : Nat} (hi : i < 20) (hj : j < 7) : f_X10_of σ (nI i) (nI j) = it w i j ∧ ok_X10_of σ (nI i) (nI j) := by
  have e : ((6 : Int32) + ((7 : Int32) * nI i)) + nI j = nI (6 + 7 * i + j) := by
    rw [show (6 : Int32) = nI 6 from rfl, show (7 : Int32) = nI 7 from rfl, nI_mul, nI_add, nI_add]
  unfold f_X10_of ok_X10_of
  rw [e, hw, nI_clamp (by omega)]
  exact ⟨rfl, vp_in_nI (by omega) (by decide)⟩
theorem mo0 (hw : σ.1 197 = w) {i : Nat} (hi : i < 20) : f_X10_of σ (nI i) 0 = it w i 0 := (of_it hw hi (j := 0) (by decide)).1
theorem mo1 (hw : σ.1 197 = w) {i : Nat} (hi : i < 20) : f_X10_of σ (nI i) 1 = it w i 1 := (of_it hw hi (j := 1) (by decide)).1
theorem mo2 (hw : σ.1 197 = w) {i : Nat} (hi : i < 20) : f_X10_of σ (nI i) 2 = it w i 2 := (of_it hw hi (j := 2) (by decide)).1
theorem mo3 (hw : σ.1 197 = w) {i : Nat} (hi : i < 20) : f_X10_of σ (nI i) 3 = it w i 3 := (of_it hw hi (j := 3) (by decide)).1
theorem mo4 (hw : σ.1 197 = w) {i : Nat} (hi : i < 20) : f_X10_of σ (nI i) 4 = it w i 4 := (of_it hw hi (j := 4) (by decide)).1
theorem mo5 (hw : σ.1 197 = w) {i : Nat} (hi : i < 20) : f_X10_of σ (nI i) 5 = it w i 5 := (of_it hw hi (j := 5) (by decide)).1
theorem mo6 (hw : σ.1 197 = w) {i : Nat} (hi : i < 20) : f_X10_of σ (nI i) 6 = it w i 6 := (of_it hw hi (j := 6) (by decide)).1
theorem mk0 {i : Nat} (hi : i < 20) : ok_X10_of σ (nI i) 0 := (of_it (σ := σ) rfl hi (j := 0) (by decide)).2
theorem mk1 {i : Nat} (hi : i < 20) : ok_X10_of σ (nI i) 1 := (of_it (σ := σ) rfl hi (j := 1) (by decide)).2
theorem mk2 {i : Nat} (hi : i < 20) : ok_X10_of σ (nI i) 2 := (of_it (σ := σ) rfl hi (j := 2) (by decide)).2
theorem mk3 {i : Nat} (hi : i < 20) : ok_X10_of σ (nI i) 3 := (of_it (σ := σ) rfl hi (j := 3) (by decide)).2
theorem mk4 {i : Nat} (hi : i < 20) : ok_X10_of σ (nI i) 4 := (of_it (σ := σ) rfl hi (j := 4) (by decide)).2
theorem mk5 {i : Nat} (hi : i < 20) : ok_X10_of σ (nI i) 5 := (of_it (σ := σ) rfl hi (j := 5) (by decide)).2
theorem mk6 {i : Nat} (hi : i < 20) : ok_X10_of σ (nI i) 6 := (of_it (σ := σ) rfl hi (j := 6) (by decide)).2
theorem mL (hw : σ.1 197 = w) {i : Nat} (hi : i < 20) : f_X10_isLetter σ (nI i) = decide (it w i 0 = 0) := by
  unfold f_X10_isLetter
  rw [mo0 hw hi]
  by_cases h : it w i 0 = 0 <;> simp [h]
theorem mkL {i : Nat} (hi : i < 20) : ok_X10_isLetter σ (nI i) := mk0 hi
theorem m16 {k : Nat} (h : k < 20) : ((16 : Int32) + nI k).toNatClampNeg = 16 + k := by
  rw [show (16 : Int32) = nI 16 from rfl, nI_add, nI_clamp (by omega)]
theorem v16 {k : Nat} (h : k < 20) : vp_in ((16 : Int32) + nI k) 36 := by
  rw [show (16 : Int32) = nI 16 from rfl, nI_add]
  exact vp_in_nI (by omega) (by decide)
theorem m8 {k : Nat} (h : k < 20) : ((8 : Int32) + nI k).toNatClampNeg = 8 + k := by
  rw [show (8 : Int32) = nI 8 from rfl, nI_add, nI_clamp (by omega)]
theorem v8 {k : Nat} (h : k < 20) : vp_in ((8 : Int32) + nI k) 36 := by
  rw [show (8 : Int32) = nI 8 from rfl, nI_add]
  exact vp_in_nI (by omega) (by decide)
theorem md_letters (hw : σ.1 197 = w) (hI : Inv w f) : ok_X10_letters σ ∧ f_X10_letters σ = nI (cn (fun i => decide (it w i 0 = 0)) (cnt w)) := by
  have hn := hI.1.1
  have h20 := hI.n20
  have key := lp_run0 (n := cnt w) (fun fu a k => fX10_letters_L4 σ fu a k) (fun fu a k => okX10_letters_L4 σ fu a k) (fun i a => if decide (it w i 0 = 0) = true then a + 1 else a) id (fun _ _ => True) 0 (by omega) trivial
    (fun fu a _ => by simp [okX10_letters_L4, fX10_letters_L4, hw, cl_2, hn])
    (fun fu k a hk _ => by
      have hlt : ¬ nI (cnt w) ≤ nI k := nI_ge hk (by omega)
      have hk2 : k < 20 := by omega
      by_cases h0 : it w k 0 = 0 <;>
        simp [okX10_letters_L4, fX10_letters_L4, hw, cl_2, hn, hlt, mL hw hk2, mkL hk2, h0, nI_1])
  exact ⟨key.1, key.2.1.trans (cn_lp _ _)⟩
theorem md_itemsIn (hw : σ.1 197 = w) (hI : Inv w f) (x : Int32) : ok_X10_itemsIn σ x ∧ f_X10_itemsIn σ x = nI (cn (fun i => decide (it w i 4 = x)) (cnt w)) := by
  have hn := hI.1.1
  have h20 := hI.n20
  have key := lp_run0 (n := cnt w) (fun fu a k => fX10_itemsIn_L4 σ fu x a k) (fun fu a k => okX10_itemsIn_L4 σ fu x a k) (fun i a => if decide (it w i 4 = x) = true then a + 1 else a) id (fun _ _ => True) 0 (by omega) trivial
    (fun fu a _ => by simp [okX10_itemsIn_L4, fX10_itemsIn_L4, hw, cl_2, hn])
    (fun fu k a hk _ => by
      have hlt : ¬ nI (cnt w) ≤ nI k := nI_ge hk (by omega)
      have hk2 : k < 20 := by omega
      by_cases h0 : it w k 4 = x <;>
        simp [okX10_itemsIn_L4, fX10_itemsIn_L4, hw, cl_2, hn, hlt, mo4 hw hk2, mk4 hk2, h0, nI_1])
  exact ⟨key.1, key.2.1.trans (cn_lp _ _)⟩
theorem md_words (hw : σ.1 197 = w) (hI : Inv w f) : ok_X10_allWords σ ∧ f_X10_allWords σ = wds w := by
  have hn := hI.1.1
  have h20 := hI.n20
  have key := lp_run0 (n := cnt w) (fun fu a k => fX10_allWords_L4 σ fu a k) (fun fu a k => okX10_allWords_L4 σ fu a k) (fun i a => if it w i 0 = 0 then a + it w i 3 else a) id (fun _ _ => True) 0 (by omega) trivial
    (fun fu a _ => by simp [okX10_allWords_L4, fX10_allWords_L4, hw, cl_2, hn])
    (fun fu k a hk _ => by
      have hlt : ¬ nI (cnt w) ≤ nI k := nI_ge hk (by omega)
      have hk2 : k < 20 := by omega
      by_cases h0 : it w k 0 = 0 <;>
        simp [okX10_allWords_L4, fX10_allWords_L4, hw, cl_2, hn, hlt, mL hw hk2, mkL hk2, mo3 hw hk2, mk3 hk2, h0, nI_1])
  exact ⟨key.1, key.2.1⟩
theorem md_onShelf (hw : σ.1 197 = w) (hI : Inv w f) (c : Nat) : ok_X10_onShelf σ (nI c) ∧ f_X10_onShelf σ (nI c) = nI (cn (fun i => decide (it w i 4 = 2 ∧ it w i 2 = nI c)) (cnt w)) := by
  have hn := hI.1.1
  have h20 := hI.n20
  have key := lp_run0 (n := cnt w) (fun fu a k => fX10_onShelf_L4 σ fu (nI c) a k) (fun fu a k => okX10_onShelf_L4 σ fu (nI c) a k) (fun i a => if decide (it w i 4 = 2 ∧ it w i 2 = nI c) = true then a + 1 else a) id (fun _ _ => True) 0 (by omega) trivial
    (fun fu a _ => by simp [okX10_onShelf_L4, fX10_onShelf_L4, hw, cl_2, hn])
    (fun fu k a hk _ => by
      have hlt : ¬ nI (cnt w) ≤ nI k := nI_ge hk (by omega)
      have hk2 : k < 20 := by omega
      by_cases h4 : it w k 4 = 2 <;> by_cases h2 : it w k 2 = nI c <;>
        simp [okX10_onShelf_L4, fX10_onShelf_L4, hw, cl_2, hn, hlt, mo4 hw hk2, mk4 hk2, mo2 hw hk2, mk2 hk2, h4, h2, nI_1])
  exact ⟨key.1, key.2.1.trans (cn_lp _ _)⟩
theorem md_read (hw : σ.1 197 = w) (hI : Inv w f) (c : Nat) : okX10_read_L22 σ 2000 (nI c) 0 0 ∧ fX10_read_L22 σ 2000 (nI c) 0 0 = (σ, nI (cn (tkn w c) (cnt w))) := by
  have hn := hI.1.1
  have h20 := hI.n20
  have key := lp_run0 (n := cnt w) (fun fu a k => fX10_read_L22 σ fu (nI c) a k) (fun fu a k => okX10_read_L22 σ fu (nI c) a k) (fun i a => if tkn w c i = true then a + 1 else a) (fun a => (σ, a)) (fun _ _ => True) 0 (by omega) trivial
    (fun fu a _ => by simp [okX10_read_L22, fX10_read_L22, hw, cl_2, hn])
    (fun fu k a hk _ => by
      have hlt : ¬ nI (cnt w) ≤ nI k := nI_ge hk (by omega)
      have hk2 : k < 20 := by omega
      by_cases h0 : it w k 0 = 0 <;> by_cases h4 : it w k 4 = 3 <;> by_cases h2 : it w k 2 = nI c <;>
        simp [okX10_read_L22, fX10_read_L22, tkn, hw, cl_2, hn, hlt, mL hw hk2, mkL hk2, mo4 hw hk2, mk4 hk2, mo2 hw hk2, mk2 hk2, h0, h4, h2, nI_1])
  exact ⟨key.1, key.2.1.trans (congrArg (Prod.mk σ) (cn_lp _ _))⟩
theorem md_sum (hw : σ.1 197 = w) (hf : σ.2.1 201 = f) (hI : Inv w f) (x : Int32) (r : Int64) (hr : ∀ s : UInt64, s = rds w f → vf_n64 (FP.ddiv s (FP.i2d x)) ∧ f_Jxe99ae_doubleToLongBits_ccdee (FP.ddiv s (FP.i2d x)) = r) : okX10_meanBits_L26 σ 2000 x FP.dconst0 0 ∧ fX10_meanBits_L26 σ 2000 x FP.dconst0 0 = (σ, r) := by
  have hn := hI.1.1
  have h20 := hI.n20
  have key : ∀ (m fu k : Nat) (a : UInt64), m < fu → k + m = cnt w → a.toNat ≤ (dk k).toNat → lp (fun i a => if it w i 0 = 0 then FP.dadd a (FP.f2d (f (16 + i))) else a) m k a = rds w f → okX10_meanBits_L26 σ fu x a (nI k) ∧ fX10_meanBits_L26 σ fu x a (nI k) = (σ, r) := by
    intro m
    induction m with
    | zero =>
      intro fu k a hfu hk ha hl
      obtain ⟨fu, rfl⟩ : ∃ z, fu = z + 1 := ⟨fu - 1, by omega⟩
      have : k = cnt w := by omega
      subst this
      have hl : a = rds w f := hl
      obtain ⟨r1, r3⟩ := hr a hl
      simp [okX10_meanBits_L26, fX10_meanBits_L26, hw, cl_2, hn, r1, r3]
    | succ m ih =>
      intro fu k a hfu hk ha hl
      obtain ⟨fu, rfl⟩ : ∃ z, fu = z + 1 := ⟨fu - 1, by omega⟩
      have hk1 : k < cnt w := by omega
      have hlt : ¬ nI (cnt w) ≤ nI k := nI_ge hk1 (by omega)
      have hk2 : k < 20 := by omega
      have hf2 : FB (f (16 + k)) := hI.2.2.2.2.2.2.2.2.2 k (by omega)
      have d1 := (do_f2d hf2).1
      have d2 := do_acc (by omega) ha hf2
      by_cases h0 : it w k 0 = 0
      · have hl2 : lp (fun i a => if it w i 0 = 0 then FP.dadd a (FP.f2d (f (16 + i))) else a) m (k + 1) (FP.dadd a (FP.f2d (f (16 + k)))) = rds w f := by
          rw [← hl]
          show _ = lp _ m (k + 1) (if it w k 0 = 0 then _ else _)
          rw [if_pos h0]
        obtain ⟨b1, b2⟩ := ih fu (k + 1) (FP.dadd a (FP.f2d (f (16 + k)))) (by omega) (by omega) d2.2 hl2
        simp [okX10_meanBits_L26, fX10_meanBits_L26, hw, hf, cl_2, hn, hlt, mL hw hk2, mkL hk2, h0, m16 hk2, v16 hk2, d1, d2.1, nI_1, b1, b2]
      · have hl2 : lp (fun i a => if it w i 0 = 0 then FP.dadd a (FP.f2d (f (16 + i))) else a) m (k + 1) a = rds w f := by
          rw [← hl]
          show _ = lp _ m (k + 1) (if it w k 0 = 0 then _ else _)
          rw [if_neg h0]
        obtain ⟨b1, b2⟩ := ih fu (k + 1) a (by omega) (by omega) (Nat.le_trans ha (dk_mono k (by omega))) hl2
        simp [okX10_meanBits_L26, fX10_meanBits_L26, hw, hf, cl_2, hn, hlt, mL hw hk2, mkL hk2, h0, nI_1, b1, b2]
  exact key (cnt w) 2000 0 FP.dconst0 (by omega) (by omega) (by decide +kernel) rfl
theorem md_worst (hw : σ.1 197 = w) (hf : σ.2.1 201 = f) (hI : Inv w f) : ok_X10_preyNow σ ∧ f_X10_preyNow σ = wst w f := by
  have hn := hI.1.1
  have h20 := hI.n20
  have key := lp_run0 (n := cnt w) (fun fu a k => fX10_preyNow_L4 σ fu a k) (fun fu a k => okX10_preyNow_L4 σ fu a k) (wsg w f) id (wsP w) (-1) (by omega) (Or.inl rfl)
    (fun fu a _ => by simp [okX10_preyNow_L4, fX10_preyNow_L4, hw, cl_2, hn])
    (fun fu k a hk ha => by
      refine ⟨wsg_P ha, ?_⟩
      have hlt : ¬ nI (cnt w) ≤ nI k := nI_ge hk (by omega)
      have hk2 : k < 20 := by omega
      have hf1 : P32 (f (16 + k)) := fb_p (hI.2.2.2.2.2.2.2.2.2 k (by omega))
      unfold wsg
      by_cases h0 : it w k 0 = 0
      · by_cases h4 : it w k 4 = 2
        · rcases ha with ha | ⟨j, hj, ha, -⟩
          · subst ha
            have hm : (-1 : Int32) < 0 := by decide
            simp [okX10_preyNow_L4, fX10_preyNow_L4, hw, cl_2, hn, hlt, mL hw hk2, mkL hk2, mo4 hw hk2, mk4 hk2, h0, h4, nI_1, hm]
          · subst ha
            have hf2 : P32 (f (16 + j)) := fb_p (hI.2.2.2.2.2.2.2.2.2 j (by omega))
            have hcj : (nI j).toNatClampNeg = j := nI_clamp (by omega)
            have hm : ¬ nI j < 0 := nI_pos (by omega)
            have hm2 : ¬ nI j = -1 := nI_m1 (by omega)
            have hj2 : j < 20 := by omega
            have hcmp := fl_ge0 hf1 hf2 CmpOp.g
            by_cases hlt2 : (f (16 + k)).toNat < (f (16 + j)).toNat
            · have hx : ¬ 0 ≤ Op.cmpValue (FP.fcmp (f (16 + k)) (f (16 + j))) CmpOp.g := fun z => absurd (hcmp.mp z) (by omega)
              simp [okX10_preyNow_L4, fX10_preyNow_L4, hw, hf, cl_2, hn, hlt, mL hw hk2, mkL hk2, mo4 hw hk2, mk4 hk2, h0, h4, nI_1, hm, hm2, hcj, hlt2, hx, m16 hk2, v16 hk2, m16 hj2, v16 hj2]
            · have hx : 0 ≤ Op.cmpValue (FP.fcmp (f (16 + k)) (f (16 + j))) CmpOp.g := hcmp.mpr (by omega)
              simp [okX10_preyNow_L4, fX10_preyNow_L4, hw, hf, cl_2, hn, hlt, mL hw hk2, mkL hk2, mo4 hw hk2, mk4 hk2, h0, h4, nI_1, hm, hm2, hcj, hlt2, hx, m16 hk2, v16 hk2, m16 hj2, v16 hj2]
        · simp [okX10_preyNow_L4, fX10_preyNow_L4, hw, cl_2, hn, hlt, mL hw hk2, mkL hk2, mo4 hw hk2, mk4 hk2, h0, h4, nI_1]
      · simp [okX10_preyNow_L4, fX10_preyNow_L4, hw, cl_2, hn, hlt, mL hw hk2, mkL hk2, mo4 hw hk2, mk4 hk2, h0, nI_1])
  exact ⟨key.1, key.2.1⟩
/-- the ranks -/
def agI (w : Nat → Int32) (f : Nat → UInt32) (j i : Nat) (a : Int32) : Int32 := if (decide (it w i 0 = 0) && ahd f i j) = true then a + 1 else a
theorem md_ahead (hw : σ.1 197 = w) (hf : σ.2.1 201 = f) (hI : Inv w f) (k7 : Int32 → Int32 → St × Int32) (p7 : Int32 → Int32 → Prop) (x : Int32) {j : Nat} (hj : j < cnt w) : (¬ nI (ahs w f j) = x → p7 x (nI (j + 1))) → okX10_ranked_L33 σ p7 2000 x (nI j) 0 0 ∧ fX10_ranked_L33 σ k7 2000 x (nI j) 0 0 = if nI (ahs w f j) = x then (σ, nI j) else k7 x (nI (j + 1)) := by
  intro hp7
  have hn := hI.1.1
  have h20 := hI.n20
  have hj2 : j < 20 := by omega
  have hfj : P32 (f (16 + j)) := fb_p (hI.2.2.2.2.2.2.2.2.2 j (by omega))
  have key := lp_run (n := cnt w) (fun fu a k => fX10_ranked_L33 σ k7 fu x (nI j) a k) (fun fu a k => (¬ lp (agI w f j) (cnt w) 0 0 = x → p7 x (nI (j + 1))) → okX10_ranked_L33 σ p7 fu x (nI j) a k) (agI w f j) (fun a => if a = x then (σ, nI j) else k7 x (nI (j + 1))) (fun k a => a = lp (agI w f j) k 0 0)
    (fun fu a ha => by
      subst ha
      refine ⟨fun z => ?_, ?_⟩
      · by_cases h : lp (agI w f j) (cnt w) 0 0 = x
        · simp [okX10_ranked_L33, hw, cl_2, hn, h]
        · have := z h
          simp [okX10_ranked_L33, hw, cl_2, hn, h, nI_1, this]
      · simp [fX10_ranked_L33, hw, cl_2, hn, nI_1])
    (fun fu k a hk ha => by
      refine ⟨by rw [lp_sr, Nat.zero_add, ← ha], ?_⟩
      clear ha
      unfold agI
      have hlt : ¬ nI (cnt w) ≤ nI k := nI_ge hk (by omega)
      have hk2 : k < 20 := by omega
      have hfk : P32 (f (16 + k)) := fb_p (hI.2.2.2.2.2.2.2.2.2 k (by omega))
      have g1 := fl_gt0 hfk hfj CmpOp.l
      have g2 := fl_eq0 hfk hfj CmpOp.l
      have g3 := @nI_leI j k (by omega) (by omega)
      by_cases h0 : it w k 0 = 0
      · by_cases h1 : (f (16 + j)).toNat < (f (16 + k)).toNat
        · have e1 := g1.mpr h1
          simp [okX10_ranked_L33, fX10_ranked_L33, hw, hf, cl_2, hn, hlt, mL hw hk2, mkL hk2, h0, m16 hk2, v16 hk2, m16 hj2, v16 hj2, e1, ahd, h1, nI_1]
        · have e1 : ¬ 0 < Op.cmpValue (FP.fcmp (f (16 + k)) (f (16 + j))) CmpOp.l := fun z => h1 (g1.mp z)
          by_cases h2 : (f (16 + k)).toNat = (f (16 + j)).toNat
          · have e2 := g2.mpr h2
            by_cases h3 : j ≤ k
            · have e3 := g3.mpr h3
              have h4 : ¬ k < j := by omega
              simp [okX10_ranked_L33, fX10_ranked_L33, hw, hf, cl_2, hn, hlt, mL hw hk2, mkL hk2, h0, m16 hk2, v16 hk2, m16 hj2, v16 hj2, e1, e2, e3, ahd, h1, h2, h4, nI_1]
            · have e3 : ¬ nI j ≤ nI k := fun z => h3 (g3.mp z)
              have h4 : k < j := by omega
              simp [okX10_ranked_L33, fX10_ranked_L33, hw, hf, cl_2, hn, hlt, mL hw hk2, mkL hk2, h0, m16 hk2, v16 hk2, m16 hj2, v16 hj2, e1, e2, e3, ahd, h1, h2, h4, nI_1]
          · have e2 : ¬ Op.cmpValue (FP.fcmp (f (16 + k)) (f (16 + j))) CmpOp.l = 0 := fun z => h2 (g2.mp z)
            simp [okX10_ranked_L33, fX10_ranked_L33, hw, hf, cl_2, hn, hlt, mL hw hk2, mkL hk2, h0, m16 hk2, v16 hk2, m16 hj2, v16 hj2, e1, e2, ahd, h1, h2, nI_1]
      · simp [okX10_ranked_L33, fX10_ranked_L33, hw, hf, cl_2, hn, hlt, mL hw hk2, mkL hk2, h0, nI_1])
    (cnt w) 2000 0 0 (by omega) (Nat.zero_add _) rfl
  have e : lp (agI w f j) (cnt w) 0 0 = nI (ahs w f j) := cn_lp _ _
  rw [e] at key
  exact ⟨key.1 hp7, key.2.1⟩
theorem md_ranked (hw : σ.1 197 = w) (hf : σ.2.1 201 = f) (hI : Inv w f) (x : Int32) : okX10_ranked_L7 σ 2000 x 0 ∧ fX10_ranked_L7 σ 2000 x 0 = if rkd w f x = -1 then f_X10_fails σ 1 else (σ, rkd w f x) := by
  have hn := hI.1.1
  have h20 := hI.n20
  have key := fd_run (n := cnt w) (fun fu k => fX10_ranked_L7 σ fu x k) (fun fu k => okX10_ranked_L7 σ fu x k) (fun i => decide (it w i 0 = 0 ∧ nI (ahs w f i) = x)) (fun v => if v = -1 then f_X10_fails σ 1 else (σ, v))
    (fun fu => by
      have e : f_X10_fails σ 1 = ((f_X10_fails σ 1).1, (f_X10_fails σ 1).2) := rfl
      simp [okX10_ranked_L7, fX10_ranked_L7, hw, cl_2, hn, bnd])
    (fun fu k hk => by
      have hlt : ¬ nI (cnt w) ≤ nI k := nI_ge hk (by omega)
      have hk2 : k < 20 := by omega
      have hm : ¬ nI k = -1 := nI_m1 (by omega)
      have ha := md_ahead hw hf hI (fun x1 x2 => fX10_ranked_L7 σ fu x1 x2) (fun x1 x2 => okX10_ranked_L7 σ fu x1 x2) x hk
      by_cases h0 : it w k 0 = 0
      · by_cases h1 : nI (ahs w f k) = x
        · have hb := ha (fun z => absurd h1 z)
          rw [if_pos h1] at hb
          refine ⟨fun _ => ?_, fun z => by simp [h0, h1] at z⟩
          simp [okX10_ranked_L7, fX10_ranked_L7, hw, cl_2, hn, hlt, mL hw hk2, mkL hk2, h0, hb.1, hb.2, hm]
        · refine ⟨fun z => by simp [h0, h1] at z, fun _ => ⟨fun z => ?_, ?_⟩⟩
          · have hb := ha (fun _ => z)
            simp [okX10_ranked_L7, hw, cl_2, hn, hlt, mL hw hk2, mkL hk2, h0, hb.1]
          · have ha := md_ahead hw hf hI (fun x1 x2 => fX10_ranked_L7 σ fu x1 x2) (fun _ _ => True) x hk (fun _ => trivial)
            rw [if_neg h1] at ha
            simp [fX10_ranked_L7, hw, cl_2, hn, hlt, mL hw hk2, h0, ha.2]
      · refine ⟨fun z => by simp [h0] at z, fun _ => ?_⟩
        simp [okX10_ranked_L7, fX10_ranked_L7, hw, cl_2, hn, hlt, mL hw hk2, mkL hk2, h0, nI_1])
    (cnt w) 2000 0 (by omega) (Nat.zero_add _)
  exact key
end MTM
