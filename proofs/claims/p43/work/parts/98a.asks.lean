/-! what the law asks of an office -/
section ASKL
variable {σ : St} {w : Nat → Int32} {f : Nat → UInt32}
def accV (w : Nat → Int32) (k : Nat) : Int32 := if k = 0 then w 0 else if k = 1 then w 1 else if k = 2 then w 2 else if k = 3 then nI (cn (fun i => decide (it w i 0 = 0)) (cnt w)) else if k = 4 then w 3 else if k < 10 then nI (cn (fun i => decide (it w i 4 = nI (k - 5))) (cnt w)) else if k = 10 then w 4 else if k = 11 then w 5 else wds w
theorem la_of {x v : Int32} (e : f_X9_account σ x = (0, σ, v)) (o : ok_X9_account σ x) : ok_L_account σ x ∧ f_L_account σ x = (σ, v.toInt64) := by
  unfold ok_L_account f_L_account
  rw [bnd_eq, e]
  exact ⟨⟨o, Or.inl rfl⟩, rfl⟩
theorem l_account (hO : Off σ 2 w f) (hI : Inv w f) {k : Nat} (hk : k < 13) : ok_L_account σ (nI k) ∧ f_L_account σ (nI k) = (σ, (accV w k).toInt64) := by
  obtain ⟨⟨d1, d2, -⟩, ⟨i1, -⟩, -, ⟨g1, g2, g3, g4⟩⟩ := id hO
  have hl1 : ok_X5_letters σ 6 := (cl_letters hO hI).1
  have hl2 : f_X5_letters σ 6 = _ := (cl_letters hO hI).2
  have hw1 : ok_X5_allWords σ 6 := (cl_words hO hI).1
  have hw2 : f_X5_allWords σ 6 = _ := (cl_words hO hI).2
  have hs1 : ∀ y, ok_X5_inState σ 6 y := fun y => (cl_inState hO hI y).1
  have hs2 : ∀ y, f_X5_inState σ 6 y = _ := fun y => (cl_inState hO hI y).2
  have e0 : σ.1 18 3 = w 0 := g4
  have e1 : σ.1 3 2 = w 1 := d1
  have e2 : σ.1 6 8 = w 2 := i1
  have e4 : σ.1 3 3 = w 3 := d2
  have e10 : σ.1 18 1 = w 4 := g2
  have e11 : σ.1 18 2 = w 5 := g3
  rcases (show k = 0 ∨ k = 1 ∨ k = 2 ∨ k = 3 ∨ k = 4 ∨ k = 5 ∨ k = 6 ∨ k = 7 ∨ k = 8 ∨ k = 9 ∨ k = 10 ∨ k = 11 ∨ k = 12 by omega) with rfl | rfl | rfl | rfl | rfl | rfl | rfl | rfl | rfl | rfl | rfl | rfl | rfl
  · exact la_of (x := 0) (by simp [f_X9_account, e0]; rfl) (by simp [ok_X9_account])
  · exact la_of (x := 1) (by simp [f_X9_account, e1]; rfl) (by simp [ok_X9_account])
  · exact la_of (x := 2) (by simp [f_X9_account, e2]; rfl) (by simp [ok_X9_account])
  · exact la_of (x := 3) (by simp [f_X9_account, hl2]; rfl) (by simp [ok_X9_account, hl1])
  · exact la_of (x := 4) (by simp [f_X9_account, e4]; rfl) (by simp [ok_X9_account])
  · exact la_of (x := 5) (by simp [f_X9_account, hs2]; rfl) (by simp [ok_X9_account, hs1])
  · exact la_of (x := 6) (by simp [f_X9_account, hs2]; rfl) (by simp [ok_X9_account, hs1])
  · exact la_of (x := 7) (by simp [f_X9_account, hs2]; rfl) (by simp [ok_X9_account, hs1])
  · exact la_of (x := 8) (by simp [f_X9_account, hs2]; rfl) (by simp [ok_X9_account, hs1])
  · exact la_of (x := 9) (by simp [f_X9_account, hs2]; rfl) (by simp [ok_X9_account, hs1])
  · exact la_of (x := 10) (by simp [f_X9_account, e10]; rfl) (by simp [ok_X9_account])
  · exact la_of (x := 11) (by simp [f_X9_account, e11]; rfl) (by simp [ok_X9_account])
  · exact la_of (x := 12) (by simp [f_X9_account, hw2]; rfl) (by simp [ok_X9_account, hw1])
theorem l_acc13 (σ : St) : ok_L_account σ 13 ∧ f_L_account σ 13 = (σ, (σ.1 191 3).toInt64) := la_of (x := 13) (by simp [f_X9_account]) (by simp [ok_X9_account])
theorem l_acc14 (σ : St) : ok_L_account σ 14 ∧ f_L_account σ 14 = (σ, (σ.1 189 2).toInt64) := la_of (x := 14) (by simp [f_X9_account]) (by simp [ok_X9_account])
theorem l_itemOf (hO : Off σ 2 w f) (hI : Inv w f) {i j : Nat} (hi : i < cnt w) (hj : j ≤ 6) : ok_L_itemOf σ (nI i) (nI j) ∧ f_L_itemOf σ (nI i) (nI j) = (σ, (cv j (it w i j)).toInt64) := by
  have h20 := hI.n20
  have hc := cl_hasItem hO hI (nI i)
  rw [hasB_nI hi (by omega)] at hc
  have hr : f_X9_inRange (nI j) 0 6 = true := nI_ir (a := 0) (b := 6) (by omega) (by omega) (by decide)
  have hn := cl_number hO hi (by omega) hj
  have e : f_X9_itemOf σ (nI i) (nI j) = (0, σ, cv j (it w i j)) := by simp [f_X9_itemOf, di_t hc, bnd_eq, hr, dm0, hn.2]
  unfold ok_L_itemOf f_L_itemOf
  rw [bnd_eq, e]
  exact ⟨⟨by simp [ok_X9_itemOf, di_t hc, bndP_eq, hr, dm0, hn.1], Or.inl rfl⟩, rfl⟩
def rdV (w : Nat → Int32) (f : Nat → UInt32) (i : Nat) : Int64 := if it w i 0 = 0 then (nI (f (16 + i)).toNat).toInt64 else -4000000000000000002
theorem l_reads (hO : Off σ 2 w f) (hI : Inv w f) {i : Nat} (hi : i < cnt w) : ok_L_reads σ (nI i) ∧ f_L_reads σ (nI i) = (σ, rdV w f i) := by
  have h20 := hI.n20
  have hc := cl_hasItem hO hI (nI i)
  rw [hasB_nI hi (by omega)] at hc
  have hcl : (nI i).toNatClampNeg = i := nI_clamp (by omega)
  have hv : vp_in (nI i) 20 := vp_in_nI (by omega) (by decide)
  have ek : σ.1 7 i = it w i 0 := hO.kind hi
  have er : σ.2.1 14 i = f (16 + i) := hO.read hi
  have hb := b32_of (fb_p (hI.2.2.2.2.2.2.2.2.2 i (by omega)))
  unfold ok_L_reads f_L_reads rdV
  by_cases h0 : it w i 0 = 0
  · have e : f_X9_reads σ (nI i) = (0, σ, nI (f (16 + i)).toNat) := by
      unfold f_X9_reads
      rw [di_t hc, bnd_eq]
      dsimp only
      rw [if_pos rfl, hcl, ek, if_pos h0, df1, bnd_eq]
      dsimp only
      rw [if_pos rfl, er, hb.2]
    rw [bnd_eq, e, if_pos h0]
    refine ⟨⟨?_, Or.inl rfl⟩, rfl⟩
    unfold ok_X9_reads
    rw [di_t hc, bndP_eq]
    dsimp only
    rw [hcl, ek, df1, df0, bndP_eq, bndP_eq]
    dsimp only
    rw [er]
    exact fun _ => ⟨hv, fun _ _ => ⟨hv, hb.1⟩, fun z => absurd h0 z⟩
  · have e : f_X9_reads σ (nI i) = (4, σ, 0) := by
      unfold f_X9_reads
      rw [di_t hc, bnd_eq]
      dsimp only
      rw [if_pos rfl, hcl, ek, if_neg h0, df0, bnd_eq]
      rfl
    rw [bnd_eq, e, if_neg h0]
    refine ⟨⟨?_, Or.inr (Or.inr rfl)⟩, rfl⟩
    unfold ok_X9_reads
    rw [di_t hc, bndP_eq]
    dsimp only
    rw [hcl, ek, df1, df0, bndP_eq, bndP_eq]
    dsimp only
    rw [er]
    exact fun _ => ⟨hv, fun z => absurd z h0, fun _ q => absurd q (by decide)⟩
theorem l_crayonOf (hO : Off σ 2 w f) (hI : Inv w f) {c : Nat} (hc : c < (w 1).toNatClampNeg) : ok_L_crayonOf σ (nI c) ∧ f_L_crayonOf σ (nI c) = (σ, (f_Jxf58ca_floatToIntBits_5c35a (f c)).toInt64) := by
  have h8 := cray8 hI
  have h := cl_hasCray hO hI (nI c)
  rw [hasB_nI hc (by omega)] at h
  have hcl : (nI c).toNatClampNeg = c := nI_clamp (by omega)
  have er : σ.2.1 4 c = f c := hO.cray (k := c) (by omega)
  have e : f_X9_crayonOf σ (nI c) = (0, σ, f c) := by
    unfold f_X9_crayonOf
    rw [h, if_pos rfl, dm0, bnd_eq]
    dsimp only
    rw [if_pos rfl, hcl, er]
  unfold ok_L_crayonOf f_L_crayonOf
  rw [bnd_eq, e]
  refine ⟨⟨?_, Or.inl rfl⟩, rfl⟩
  unfold ok_X9_crayonOf
  rw [h]
  exact ⟨fun _ _ => vp_in_nI (by omega) (by decide), fun q => by cases q⟩
theorem l_firm (hO : Off σ 2 w f) (hI : Inv w f) {p : Nat} (hp : p < (w 3).toNatClampNeg) : ok_L_firmness σ (nI p) ∧ f_L_firmness σ (nI p) = (σ, (f_Jxf58ca_floatToIntBits_5c35a (f (8 + p))).toInt64) := by
  have h5 := pot5 hI
  have h := cl_hasPot hO hI (nI p)
  rw [hasB_nI hp (by omega)] at h
  have hcl : (nI p).toNatClampNeg = p := nI_clamp (by omega)
  have er : σ.2.1 5 p = f (8 + p) := hO.pot (k := p) (by omega)
  have e : f_X9_firmness σ (nI p) = (0, σ, f (8 + p)) := by
    unfold f_X9_firmness
    rw [dp_t h, bnd_eq]
    dsimp only
    rw [if_pos rfl, hcl, er]
  unfold ok_L_firmness f_L_firmness
  rw [bnd_eq, e]
  refine ⟨⟨?_, Or.inl rfl⟩, rfl⟩
  unfold ok_X9_firmness
  rw [dp_t h, bndP_eq]
  exact fun _ => vp_in_nI (by omega) (by decide)
theorem l_read (hO : Off σ 2 w f) {c : Nat} (hc : c < 6) : ok_L_read σ (nI c) ∧ f_L_read σ (nI c) = (σ, (nI (cn (tkn w c) (cnt w))).toInt64) := by
  have h : f_X9_isChild (nI c) = true := nI_ir (a := 0) (b := 5) (by omega) (by omega) (by decide)
  have hcl : (nI c).toNatClampNeg = c := nI_clamp (by omega)
  have er : σ.1 17 c = nI (cn (tkn w c) (cnt w)) := hO.2.2.1.2 c hc
  have e : f_X9_read σ (nI c) = (0, σ, nI (cn (tkn w c) (cnt w))) := by
    unfold f_X9_read
    rw [h, if_pos rfl, dm0, bnd_eq]
    dsimp only
    rw [if_pos rfl, hcl, er]
  unfold ok_L_read f_L_read
  rw [bnd_eq, e]
  refine ⟨⟨?_, Or.inl rfl⟩, rfl⟩
  unfold ok_X9_read
  rw [h]
  exact ⟨fun _ _ => vp_in_nI (by omega) (by decide), fun q => by cases q⟩
theorem l_ink (hO : Off σ 2 w f) : f_L_inkNow σ = (f_Jxf58ca_floatToIntBits_5c35a (f 14)).toInt64 := by
  have e : σ.2.1 3 5 = f 14 := hO.1.2.2.2.1
  unfold f_L_inkNow f_X9_inkNow
  rw [e]
theorem l_hung (hO : Off σ 2 w f) : f_L_hunger σ = (f_Jxf58ca_floatToIntBits_5c35a (f 15)).toInt64 := by
  have e : σ.2.1 18 0 = f 15 := hO.2.2.2.1
  unfold f_L_hunger f_X9_hunger
  rw [e]
/-! longs that come of numbers -/
theorem nJ_toInt {n : Nat} (h : n < 2 ^ 31) : (nI n).toInt64.toInt = (n : Int) := by
  rw [Int32.toInt_toInt64, nI_toInt h]
theorem lg_ge {x y : Int64} : 0 ≤ lg_cmp x y ↔ y ≤ x := by
  unfold lg_cmp
  rw [Int64.le_iff_toInt_le]
  by_cases h1 : x > y
  · rw [if_pos h1]
    have := Int64.lt_iff_toInt_lt.mp h1
    exact ⟨fun _ => by omega, fun _ => by decide⟩
  · rw [if_neg h1]
    have h3 : ¬ y.toInt < x.toInt := fun z => h1 (Int64.lt_iff_toInt_lt.mpr z)
    by_cases h2 : x = y
    · rw [if_pos h2, h2]; exact ⟨fun _ => Int.le_refl _, fun _ => by decide⟩
    · rw [if_neg h2]
      have h4 : ¬ x.toInt = y.toInt := fun z => h2 (Int64.toInt_inj.mp z)
      exact ⟨fun z => absurd z (by decide), fun z => by omega⟩
theorem lg_eq {x y : Int64} : lg_cmp x y = 0 ↔ x = y := by
  unfold lg_cmp
  by_cases h1 : x > y
  · rw [if_pos h1]
    refine ⟨fun z => absurd z (by decide), fun z => ?_⟩
    subst z
    exact absurd h1 (Int64.lt_irrefl)
  · rw [if_neg h1]
    by_cases h2 : x = y
    · rw [if_pos h2]; exact ⟨fun _ => h2, fun _ => rfl⟩
    · rw [if_neg h2]; exact ⟨fun z => absurd z (by decide), fun z => absurd z h2⟩
theorem lg_le {x y : Int64} : lg_cmp x y ≤ 0 ↔ x ≤ y := by
  unfold lg_cmp
  rw [Int64.le_iff_toInt_le]
  by_cases h1 : x > y
  · rw [if_pos h1]
    have := Int64.lt_iff_toInt_lt.mp h1
    exact ⟨fun z => absurd z (by decide), fun z => by omega⟩
  · rw [if_neg h1]
    have h3 : ¬ y.toInt < x.toInt := fun z => h1 (Int64.lt_iff_toInt_lt.mpr z)
    by_cases h2 : x = y
    · rw [if_pos h2, h2]; exact ⟨fun _ => Int.le_refl _, fun _ => by decide⟩
    · rw [if_neg h2]; exact ⟨fun _ => by omega, fun _ => by decide⟩
theorem lg_lt {x y : Int64} : lg_cmp x y < 0 ↔ x < y := by
  have h := @lg_ge x y
  rw [Int32.lt_iff_toInt_lt, Int64.lt_iff_toInt_lt]
  rw [Int32.le_iff_toInt_le, Int64.le_iff_toInt_le] at h
  omega
theorem lg_gt {x y : Int64} : 0 < lg_cmp x y ↔ y < x := by
  have h := @lg_le x y
  rw [Int32.lt_iff_toInt_lt, Int64.lt_iff_toInt_lt]
  rw [Int32.le_iff_toInt_le, Int64.le_iff_toInt_le] at h
  omega
theorem nJ_le {a b : Nat} (ha : a < 2 ^ 31) (hb : b < 2 ^ 31) : (nI a).toInt64 ≤ (nI b).toInt64 ↔ a ≤ b := by
  rw [Int64.le_iff_toInt_le, nJ_toInt ha, nJ_toInt hb]; omega
theorem nJ_lt {a b : Nat} (ha : a < 2 ^ 31) (hb : b < 2 ^ 31) : (nI a).toInt64 < (nI b).toInt64 ↔ a < b := by
  rw [Int64.lt_iff_toInt_lt, nJ_toInt ha, nJ_toInt hb]; omega
theorem nJ_eq {a b : Nat} (ha : a < 2 ^ 31) (hb : b < 2 ^ 31) : (nI a).toInt64 = (nI b).toInt64 ↔ a = b := by
  rw [← Int64.toInt_inj, nJ_toInt ha, nJ_toInt hb]; omega
end ASKL
