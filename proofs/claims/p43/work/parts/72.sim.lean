/-- rows alone -/
def KR (P : Nat → Prop) (σ σ' : St) : Prop := ∀ i, P i → σ'.1 i = σ.1 i ∧ σ'.2.1 i = σ.2.1 i
theorem Kp.kr {P : Nat → Prop} {σ σ' : St} (h : Kp P σ σ') : KR P σ σ' := h.1
theorem KR.wk {P Q : Nat → Prop} {σ σ' : St} (h : KR P σ σ') (hq : ∀ i, Q i → P i) : KR Q σ σ' := fun i hi => h i (hq i hi)
theorem KR.tr {P : Nat → Prop} {σ σ1 σ2 : St} (h1 : KR P σ σ1) (h2 : KR P σ1 σ2) : KR P σ σ2 := fun i hi => ⟨(h2 i hi).1.trans (h1 i hi).1, (h2 i hi).2.trans (h1 i hi).2⟩
theorem Off.kr {σ σ' : St} {o : Nat} {w : Nat → Int32} {f : Nat → UInt32} {P : Nat → Prop} (h : Off σ o w f) (hk : KR P σ σ') (hp : ∀ j, j < 17 → P (o + j)) : Off σ' o w f :=
  h.frame (fun j hj => hk _ (hp j hj))
theorem Ring.kr {σ σ' : St} {l : List Dat} {P : Nat → Prop} (h : Ring σ l) (hk : KR P σ σ') (hp : ∀ j, 53 ≤ j → j < 190 → P j) : Ring σ' l := by
  obtain ⟨r1, r2, nx, r3, r4, r5⟩ := h
  have e := (hk 189 (hp 189 (by decide) (by decide))).1
  refine ⟨r1, by rw [e]; exact r2, nx, r3, by rw [e]; exact r4, fun j D hj => ?_⟩
  obtain ⟨a, b⟩ := r5 j D hj
  exact ⟨a.kr hk (fun i hi => hp _ (by omega) (by omega)), b⟩
/-- rows that count -/
def QP (j : Nat) : Prop := j < 19 ∨ (36 ≤ j ∧ j < 193) ∨ j = 197 ∨ j = 198 ∨ j = 199 ∨ j = 201 ∨ j = 202 ∨ j = 203 ∨ j = 206
/-! small questions -/
theorem dm0 (σ : St) : f_X9_demand σ 0 = (0, σ) := rfl
theorem dm1 (σ : St) : f_X9_demand σ (-1) = (2, σ) := rfl
theorem dm2 (σ : St) : f_X9_demand σ (-2) = (1, σ) := rfl
theorem dm3 (σ : St) {x : Int32} (h1 : ¬ x = -1) (h2 : ¬ x = -2) (h3 : ¬ x = 0) : f_X9_demand σ x = (3, σ) := by
  unfold f_X9_demand; rw [if_neg h1, if_neg h2, if_neg h3]
theorem df1 (σ : St) : f_X9_demandFound σ true = (0, σ) := rfl
theorem df0 (σ : St) : f_X9_demandFound σ false = (4, σ) := rfl
def hasB (x : Int32) (n : Nat) : Bool := if x < 0 then false else if nI n ≤ x then false else true
theorem hasB_cases (x : Int32) {n : Nat} (hn : n < 2 ^ 30) : (hasB x n = true ∧ ∃ k, k < n ∧ x = nI k) ∨ hasB x n = false := by
  unfold hasB
  by_cases h1 : x < 0
  · rw [if_pos h1]; exact Or.inr rfl
  · rw [if_neg h1]
    by_cases h2 : nI n ≤ x
    · rw [if_pos h2]; exact Or.inr rfl
    · rw [if_neg h2]
      obtain ⟨k, hk, rfl⟩ := nI_of h1
      rw [nI_leI (by omega) hk] at h2
      exact Or.inl ⟨rfl, k, by omega, rfl⟩
theorem hasB_in {x : Int32} {n : Nat} (hn : n < 2 ^ 30) : f_X9_inRange x 0 (nI n - 1) = hasB x n := by
  unfold f_X9_inRange hasB
  by_cases h1 : x < 0
  · rw [if_pos h1, if_pos h1]
  · rw [if_neg h1, if_neg h1]
    obtain ⟨k, hk, rfl⟩ := nI_of h1
    have e : (nI n - 1 < nI k) ↔ nI n ≤ nI k := by
      cases n with
      | zero =>
        have hz : nI 0 - 1 = (-1 : Int32) := by decide
        rw [hz, Int32.lt_iff_toInt_lt, Int32.le_iff_toInt_le, nI_toInt hk, nI_toInt (by decide), show (-1 : Int32).toInt = -1 from by decide]
        omega
      | succ n =>
        rw [nI_pred, nI_ltI (by omega) hk, nI_leI (by omega) hk]
        omega
    by_cases h2 : nI n ≤ nI k
    · rw [if_pos h2, if_pos (e.mpr h2)]
    · rw [if_neg h2, if_neg (fun z => h2 (e.mp z))]
theorem hasB_nI {k n : Nat} (h : k < n) (hn : n < 2 ^ 30) : hasB (nI k) n = true := by
  unfold hasB
  rw [if_neg (nI_pos (by omega)), if_neg (nI_ge h (by omega))]
section QST
variable {σ : St} {w : Nat → Int32} {f : Nat → UInt32}
theorem cl_hasItem (hO : Off σ 2 w f) (hI : Inv w f) (x : Int32) : f_X5_has σ 6 x = hasB x (cnt w) := by
  have hn : σ.1 6 8 = nI (cnt w) := hO.n hI
  unfold f_X5_has hasB
  rw [hn]
theorem cl_hasPot (hO : Off σ 2 w f) (hI : Inv w f) (x : Int32) : f_X2_hasPotato σ 3 x = hasB x (w 3).toNatClampNeg := by
  obtain ⟨p, h1, h2, h3⟩ := hI.pots
  have hn : σ.1 3 3 = nI p := hO.1.2.1.trans h2
  unfold f_X2_hasPotato hasB
  rw [hn, h3]
theorem cl_hasCray (hO : Off σ 2 w f) (hI : Inv w f) (x : Int32) : f_X2_hasCrayon σ 3 x = hasB x (w 1).toNatClampNeg := by
  obtain ⟨p, h1, h2⟩ := hI.crays
  have hn : σ.1 3 2 = nI p := hO.1.1.trans h2
  unfold f_X2_hasCrayon hasB
  rw [hn, h2, nI_clamp (by omega)]
theorem cray8 (hI : Inv w f) : (w 1).toNatClampNeg ≤ 8 := by obtain ⟨p, h1, h2⟩ := hI.crays; rw [h2, nI_clamp (by omega)]; exact h1
theorem pot5 (hI : Inv w f) : (w 3).toNatClampNeg ≤ 5 := by obtain ⟨p, h1, h2, h3⟩ := hI.pots; rw [h3]; exact h1
theorem di_t {x : Int32} (h : f_X5_has σ 6 x = true) : f_X9_demandItem σ x = (0, σ) := by unfold f_X9_demandItem; rw [h]; rfl
theorem di_f {x : Int32} (h : f_X5_has σ 6 x = false) : f_X9_demandItem σ x = (2, σ) := by unfold f_X9_demandItem; rw [h]; rfl
theorem dp_t {x : Int32} (h : f_X2_hasPotato σ 3 x = true) : f_X9_demandPotato σ x = (0, σ) := by unfold f_X9_demandPotato; rw [h]; rfl
theorem dp_f {x : Int32} (h : f_X2_hasPotato σ 3 x = false) : f_X9_demandPotato σ x = (2, σ) := by unfold f_X9_demandPotato; rw [h]; rfl
theorem dw_f {x y : Int32} (h : f_X2_hasCrayon σ 3 x = false) : f_X9_demandWriting σ x y = (2, σ) := by unfold f_X9_demandWriting; rw [h]; rfl
theorem dw_t {x y : Int32} (h : f_X2_hasCrayon σ 3 x = true) (h2 : f_X9_inRange y 1 40 = true) : f_X9_demandWriting σ x y = (0, σ) := by unfold f_X9_demandWriting; rw [h, h2]; rfl
theorem dw_r {x y : Int32} (h : f_X2_hasCrayon σ 3 x = true) (h2 : f_X9_inRange y 1 40 = false) : f_X9_demandWriting σ x y = (1, σ) := by unfold f_X9_demandWriting; rw [h, h2]; rfl
end QST
/-- a float of an office as a double -/
theorem do_f2dH {a : UInt32} (h : HB a) : vf_n64 (FP.f2d a) ∧ P64 (FP.f2d a) := by
  have hp := hb_p h
  have hnn : Jvm.FP.Core.fIsNaN a = false := (Jvm.FP.Core.notNaN_iff32 a).mpr (fl_val (Nat.le_of_lt hp))
  have e1 : FP.f2d a = Jvm.FP.Core.f2d a := by unfold FP.f2d; rw [hnn]; rfl
  obtain ⟨c, q, k1, k2, k3⟩ := fc_dec (f := Jvm.FP.Core.b32) fl_g (fl_pi hp)
  have hv : Jvm.FP.Core.decode Jvm.FP.Core.b64 (Jvm.FP.Core.f2d a).toNat = Jvm.FP.Core.roundRatio Jvm.FP.Core.b64 false c 1 q := by
    show Jvm.FP.Core.val64 (Jvm.FP.Core.f2d a) = _
    rw [Jvm.FP.Core.val64_f2d]
    show Jvm.FP.Core.round Jvm.FP.Core.b64 (Jvm.FP.Core.decode Jvm.FP.Core.b32 a.toNat) = _
    rw [k1]; rfl
  have hl := Jvm.FP.Core.lt_full64 (Jvm.FP.Core.f2d a)
  have hm : Jvm.FP.Core.decode Jvm.FP.Core.b64 4719772409484279808 = Jvm.FP.Core.roundRatio Jvm.FP.Core.b64 false (Jvm.FP.Core.unitsOf Jvm.FP.Core.b32 1275068416) 1 Jvm.FP.Core.b32.qmin := by decide +kernel
  have hq := k2.2.1
  have hle := fc_le (f := Jvm.FP.Core.b64) (e0 := Jvm.FP.Core.b64.qmin) do_g hv hl hm (by decide +kernel) (by decide) (by decide) (Int.le_refl _) (Int.le_trans (by decide +kernel) hq) (by decide +kernel) (by
    rw [Nat.mul_one, Nat.mul_one]
    have h1 := Jvm.FP.Core.unitsOf_le_iff (f := Jvm.FP.Core.b32).mpr h
    rw [← k3] at h1
    rw [Jvm.FP.Core.inUnits_move c (r := Jvm.FP.Core.b32.qmin) (e := Jvm.FP.Core.b64.qmin) (by decide +kernel) hq]
    exact Nat.mul_le_mul_right _ h1)
  rw [e1]
  refine ⟨do_n (Nat.le_trans hle (by decide)), ?_⟩
  show _ < _
  exact Nat.lt_of_le_of_lt hle (by decide)
