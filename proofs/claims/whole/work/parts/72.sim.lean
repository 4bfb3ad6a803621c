/-! what the two sides have in common, all the time -/
def SN (σ : St) : Prop := Off σ 2 (σ.1 197) (σ.2.1 201) ∧ Inv (σ.1 197) (σ.2.1 201)
def SW (σ : St) : Prop := σ.1 1 1 = σ.1 196 1 ∧ σ.1 1 2 = σ.1 196 2
def SS (σ : St) : Prop := σ.1 0 7 = σ.1 196 15 ∧ (σ.1 196 15 = 0 ∨ (σ.1 196 15 = 1 ∧ Off σ 36 (σ.1 199) (σ.2.1 203) ∧ Inv (σ.1 199) (σ.2.1 203)))
def SH (σ : St) : Prop := ∃ l, Ring σ l ∧ Und σ l
def SI (σ : St) : Prop := ∃ n, n ≤ 60 ∧ σ.1 191 3 = nI n ∧ σ.1 196 18 = nI n ∧ ∀ k, k < n → σ.1 192 k = σ.1 206 k
def SE (σ : St) : Prop := σ.1 191 5 = σ.1 196 20
def Sim (σ : St) : Prop := SN σ ∧ SW σ ∧ SS σ ∧ SH σ ∧ SI σ ∧ SE σ
/-- rows alone -/
def KR (P : Nat → Prop) (σ σ' : St) : Prop := ∀ i, P i → σ'.1 i = σ.1 i ∧ σ'.2.1 i = σ.2.1 i
theorem Kp.kr {P : Nat → Prop} {σ σ' : St} (h : Kp P σ σ') : KR P σ σ' := h.1
theorem KR.wk {P Q : Nat → Prop} {σ σ' : St} (h : KR P σ σ') (hq : ∀ i, Q i → P i) : KR Q σ σ' := fun i hi => h i (hq i hi)
theorem KR.tr {P : Nat → Prop} {σ σ1 σ2 : St} (h1 : KR P σ σ1) (h2 : KR P σ1 σ2) : KR P σ σ2 := fun i hi => ⟨(h2 i hi).1.trans (h1 i hi).1, (h2 i hi).2.trans (h1 i hi).2⟩
/-- the fields that count -/
def KF (σ σ' : St) : Prop := σ'.1 196 1 = σ.1 196 1 ∧ σ'.1 196 2 = σ.1 196 2 ∧ σ'.1 196 13 = σ.1 196 13 ∧ σ'.1 196 14 = σ.1 196 14 ∧ σ'.1 196 15 = σ.1 196 15 ∧ σ'.1 196 18 = σ.1 196 18 ∧ σ'.1 196 20 = σ.1 196 20
theorem KF.rf {σ : St} : KF σ σ := ⟨rfl, rfl, rfl, rfl, rfl, rfl, rfl⟩
theorem KF.tr {σ σ1 σ2 : St} (h1 : KF σ σ1) (h2 : KF σ1 σ2) : KF σ σ2 := by
  obtain ⟨a1, a2, a3, a4, a5, a6, a7⟩ := h1
  obtain ⟨b1, b2, b3, b4, b5, b6, b7⟩ := h2
  exact ⟨b1.trans a1, b2.trans a2, b3.trans a3, b4.trans a4, b5.trans a5, b6.trans a6, b7.trans a7⟩
theorem KF.set {σ σ' : St} (h : KF σ σ') {k : Nat} {v : Int32} (hk : k = 0 ∨ k = 3 ∨ k = 4 ∨ k = 19 ∨ k = 22 ∨ k = 23 ∨ k = 24) : KF σ (setI σ' 196 k v) := by
  refine h.tr ⟨?_, ?_, ?_, ?_, ?_, ?_, ?_⟩ <;> rw [q1e rfl, un (by omega)]
theorem KF.row {σ σ' : St} (h : σ'.1 196 = σ.1 196) : KF σ σ' := by
  unfold KF
  rw [h]
  exact ⟨rfl, rfl, rfl, rfl, rfl, rfl, rfl⟩
theorem Off.kr {σ σ' : St} {o : Nat} {w : Nat → Int32} {f : Nat → UInt32} {P : Nat → Prop} (h : Off σ o w f) (hk : KR P σ σ') (hp : ∀ j, j < 17 → P (o + j)) : Off σ' o w f :=
  h.frame (fun j hj => hk _ (hp j hj))
theorem SN.kr {σ σ' : St} {P : Nat → Prop} (h : SN σ) (hk : KR P σ σ') (hp : ∀ j, 2 ≤ j → j < 19 → P j) (h1 : P 197) (h2 : P 201) : SN σ' := by
  unfold SN
  rw [(hk 197 h1).1, (hk 201 h2).2]
  exact ⟨h.1.kr hk (fun j hj => hp _ (by omega) (by omega)), h.2⟩
theorem SW.kr {σ σ' : St} {P : Nat → Prop} (h : SW σ) (hk : KR P σ σ') (hp : P 1) (hf : KF σ σ') : SW σ' := by
  unfold SW
  rw [(hk 1 hp).1, hf.1, hf.2.1]
  exact h
theorem SS.kr {σ σ' : St} {P : Nat → Prop} (h : SS σ) (hk : KR P σ σ') (hp : ∀ j, 36 ≤ j → j < 53 → P j) (h0 : P 0) (h1 : P 199) (h2 : P 203) (hf : KF σ σ') : SS σ' := by
  unfold SS
  rw [(hk 0 h0).1, hf.2.2.2.2.1, (hk 199 h1).1, (hk 203 h2).2]
  refine ⟨h.1, ?_⟩
  rcases h.2 with a | ⟨a, b, c⟩
  · exact Or.inl a
  · exact Or.inr ⟨a, b.kr hk (fun j hj => hp _ (by omega) (by omega)), c⟩
theorem Ring.kr {σ σ' : St} {l : List Dat} {P : Nat → Prop} (h : Ring σ l) (hk : KR P σ σ') (hp : ∀ j, 53 ≤ j → j < 190 → P j) : Ring σ' l := by
  obtain ⟨r1, r2, nx, r3, r4, r5⟩ := h
  have e := (hk 189 (hp 189 (by decide) (by decide))).1
  refine ⟨r1, by rw [e]; exact r2, nx, r3, by rw [e]; exact r4, fun j D hj => ?_⟩
  obtain ⟨a, b⟩ := r5 j D hj
  exact ⟨a.kr hk (fun i hi => hp _ (by omega) (by omega)), b⟩
theorem SH.kr {σ σ' : St} {P : Nat → Prop} (h : SH σ) (hk : KR P σ σ') (hp : ∀ j, 53 ≤ j → j < 190 → P j) (h1 : P 198) (h2 : P 202) (hf : KF σ σ') : SH σ' := by
  obtain ⟨l, a, b⟩ := h
  exact ⟨l, a.kr hk hp, b.kp hf.2.2.1 hf.2.2.2.1 (hk 198 h1).1 (hk 202 h2).2⟩
theorem SI.kr {σ σ' : St} {P : Nat → Prop} (h : SI σ) (hk : KR P σ σ') (h1 : P 191) (h2 : P 192) (h3 : P 206) (hf : KF σ σ') : SI σ' := by
  obtain ⟨n, a, b, c, d⟩ := h
  refine ⟨n, a, by rw [(hk 191 h1).1]; exact b, by rw [hf.2.2.2.2.2.1]; exact c, ?_⟩
  rw [(hk 192 h2).1, (hk 206 h3).1]
  exact d
theorem SE.kr {σ σ' : St} {P : Nat → Prop} (h : SE σ) (hk : KR P σ σ') (h1 : P 191) (hf : KF σ σ') : SE σ' := by
  unfold SE
  rw [(hk 191 h1).1, hf.2.2.2.2.2.2]
  exact h
/-- rows that count -/
def QP (j : Nat) : Prop := j < 19 ∨ (36 ≤ j ∧ j < 193) ∨ j = 197 ∨ j = 198 ∨ j = 199 ∨ j = 201 ∨ j = 202 ∨ j = 203 ∨ j = 206
theorem Sim.kr {σ σ' : St} (h : Sim σ) (hk : KR QP σ σ') (hf : KF σ σ') : Sim σ' := by
  obtain ⟨a, b, c, d, e, g⟩ := h
  exact ⟨a.kr hk (fun j x y => Or.inl y) (by unfold QP; omega) (by unfold QP; omega), b.kr hk (by unfold QP; omega) hf, c.kr hk (fun j x y => by unfold QP; omega) (by unfold QP; omega) (by unfold QP; omega) (by unfold QP; omega) hf,
    d.kr hk (fun j x y => by unfold QP; omega) (by unfold QP; omega) (by unfold QP; omega) hf, e.kr hk (by unfold QP; omega) (by unfold QP; omega) (by unfold QP; omega) hf, g.kr hk (by unfold QP; omega) hf⟩
theorem kr_t {σ : St} {k : Nat} {v : Int32} : KR QP σ (setI σ 196 k v) := fun j hj => ⟨q1n (by unfold QP at hj; omega), rfl⟩
theorem Sim.t {σ : St} (h : Sim σ) (v : Int32) : Sim (setI σ 196 0 v) := h.kr kr_t (KF.rf.set (Or.inl rfl))
theorem Sim.tt {σ : St} (h : Sim σ) (v v' : Int32) : Sim (setI (setI σ 196 0 v) 196 0 v') := (h.t v).t v'
theorem Sim.J {σ : St} (h : Sim σ) (v : Int64) : Sim (setJ σ 208 0 v) := h.kr (fun _ _ => ⟨rfl, rfl⟩) KF.rf
theorem Sim.D {σ : St} (h : Sim σ) (v : UInt64) : Sim (setD σ 209 0 v) := h.kr (fun _ _ => ⟨rfl, rfl⟩) KF.rf
theorem thr0 {σ : St} {v : Int32} : (setI σ 196 0 v).1 196 0 = v := by rw [q1e rfl, ue rfl]
theorem f_fails (σ : St) (x : Int32) : f_X10_fails σ x = (setI σ 196 0 x, 0) := rfl
/-! how a call's answers compare -/
theorem simI_ok {S : St → Prop} {okL : Prop} {fL : St × Int32} {okM : St → Prop} {fM : St → St × Int32} {σ1 : St} {v : Int32} (hL : fL = (setJ σ1 208 0 v.toInt64, 0)) (h1 : okL)
    (h2 : okM (setJ σ1 208 0 v.toInt64) ∧ ∃ τ', fM (setJ σ1 208 0 v.toInt64) = (τ', v) ∧ τ'.1 196 0 = 0 ∧ τ'.2.2 = (setJ σ1 208 0 v.toInt64).2.2 ∧ S τ') : simI S okL fL okM fM := by
  subst hL
  obtain ⟨a, τ', b, c, d, e⟩ := h2
  refine ⟨h1, a, ?_, fun _ => ?_, ?_⟩
  · rw [b]; exact c
  · rw [b]
    show τ'.2.2.1 208 0 = v.toInt64
    rw [d]
    rfl
  · rw [b]; exact e
theorem simI_no {S : St → Prop} {okL : Prop} {fL : St × Int32} {okM : St → Prop} {fM : St → St × Int32} {σ1 : St} {k : Int32} (hL : fL = (σ1, k)) (hk : ¬ k = 0) (h1 : okL)
    (h2 : okM σ1 ∧ ∃ τ' r, fM σ1 = (τ', r) ∧ τ'.1 196 0 = k ∧ S τ') : simI S okL fL okM fM := by
  subst hL
  obtain ⟨a, τ', r, b, c, e⟩ := h2
  refine ⟨h1, a, ?_, fun q => absurd q hk, ?_⟩
  · rw [b]; exact c
  · rw [b]; exact e
theorem simJ_ok {S : St → Prop} {okL : Prop} {fL : St × Int32} {okM : St → Prop} {fM : St → St × Int64} {σ1 : St} {v : Int64} (hL : fL = (setJ σ1 208 0 v, 0)) (h1 : okL)
    (h2 : okM (setJ σ1 208 0 v) ∧ ∃ τ', fM (setJ σ1 208 0 v) = (τ', v) ∧ τ'.1 196 0 = 0 ∧ τ'.2.2 = (setJ σ1 208 0 v).2.2 ∧ S τ') : simJ S okL fL okM fM := by
  subst hL
  obtain ⟨a, τ', b, c, d, e⟩ := h2
  refine ⟨h1, a, ?_, fun _ => ?_, ?_⟩
  · rw [b]; exact c
  · rw [b]
    show τ'.2.2.1 208 0 = v
    rw [d]
    rfl
  · rw [b]; exact e
theorem simJ_no {S : St → Prop} {okL : Prop} {fL : St × Int32} {okM : St → Prop} {fM : St → St × Int64} {σ1 : St} {k : Int32} (hL : fL = (σ1, k)) (hk : ¬ k = 0) (h1 : okL)
    (h2 : okM σ1 ∧ ∃ τ' r, fM σ1 = (τ', r) ∧ τ'.1 196 0 = k ∧ S τ') : simJ S okL fL okM fM := by
  subst hL
  obtain ⟨a, τ', r, b, c, e⟩ := h2
  refine ⟨h1, a, ?_, fun q => absurd q hk, ?_⟩
  · rw [b]; exact c
  · rw [b]; exact e
theorem simF_ok {S : St → Prop} {okL : Prop} {fL : St × Int32} {okM : St → Prop} {fM : St → St × UInt32} {σ1 : St} {v : UInt32} (hL : fL = (setD σ1 209 0 (FP.f2d v), 0)) (h1 : okL) (hn : vf_n64 (FP.f2d v)) (hp : P64 (FP.f2d v))
    (h2 : okM (setD σ1 209 0 (FP.f2d v)) ∧ ∃ τ', fM (setD σ1 209 0 (FP.f2d v)) = (τ', v) ∧ τ'.1 196 0 = 0 ∧ τ'.2.2 = (setD σ1 209 0 (FP.f2d v)).2.2 ∧ S τ') : simF S okL fL okM fM := by
  subst hL
  obtain ⟨a, τ', b, c, d, e⟩ := h2
  refine ⟨h1, a, ?_, fun _ => ?_, ?_⟩
  · rw [b]; exact c
  · rw [b]
    show τ'.2.2.2 209 0 = FP.f2d v ∧ vf_n64 (FP.f2d v) ∧ Op.cmpValue (FP.dcmp (FP.f2d v) (FP.f2d v)) CmpOp.l = 0
    rw [d]
    exact ⟨rfl, hn, (do_eq0 hp hp CmpOp.l).mpr rfl⟩
  · rw [b]; exact e
theorem simF_no {S : St → Prop} {okL : Prop} {fL : St × Int32} {okM : St → Prop} {fM : St → St × UInt32} {σ1 : St} {k : Int32} (hL : fL = (σ1, k)) (hk : ¬ k = 0) (h1 : okL)
    (h2 : okM σ1 ∧ ∃ τ' r, fM σ1 = (τ', r) ∧ τ'.1 196 0 = k ∧ S τ') : simF S okL fL okM fM := by
  subst hL
  obtain ⟨a, τ', r, b, c, e⟩ := h2
  refine ⟨h1, a, ?_, fun q => absurd q hk, ?_⟩
  · rw [b]; exact c
  · rw [b]; exact e
/-! small questions -/
theorem dm0 (σ : St) : f_X9_demand σ 0 = (0, σ) := rfl
theorem dm1 (σ : St) : f_X9_demand σ (-1) = (2, σ) := rfl
theorem dm2 (σ : St) : f_X9_demand σ (-2) = (1, σ) := rfl
theorem dm3 (σ : St) {x : Int32} (h1 : ¬ x = -1) (h2 : ¬ x = -2) (h3 : ¬ x = 0) : f_X9_demand σ x = (3, σ) := by
  unfold f_X9_demand; rw [if_neg h1, if_neg h2, if_neg h3]
theorem df1 (σ : St) : f_X9_demandFound σ true = (0, σ) := rfl
theorem df0 (σ : St) : f_X9_demandFound σ false = (4, σ) := rfl
def hasB (x : Int32) (n : Nat) : Bool := if x < 0 then false else if nI n ≤ x then false else true
theorem hasB_cases (x : Int32) {n : Nat} (hn : n < 2 ^ 30) : (hasB x n = true ∧ ∃ k, k < n ∧ x = nI k) ∨ hasB x n = false := by
  unfold hasB
  by_cases h1 : x < 0
  · rw [if_pos h1]; exact Or.inr rfl
  · rw [if_neg h1]
    by_cases h2 : nI n ≤ x
    · rw [if_pos h2]; exact Or.inr rfl
    · rw [if_neg h2]
      obtain ⟨k, hk, rfl⟩ := nI_of h1
      rw [nI_leI (by omega) hk] at h2
      exact Or.inl ⟨rfl, k, by omega, rfl⟩
theorem hasB_in {x : Int32} {n : Nat} (hn : n < 2 ^ 30) : f_X9_inRange x 0 (nI n - 1) = hasB x n := by
  unfold f_X9_inRange hasB
  by_cases h1 : x < 0
  · rw [if_pos h1, if_pos h1]
  · rw [if_neg h1, if_neg h1]
    obtain ⟨k, hk, rfl⟩ := nI_of h1
    have e : (nI n - 1 < nI k) ↔ nI n ≤ nI k := by
      cases n with
      | zero =>
        have hz : nI 0 - 1 = (-1 : Int32) := by decide
        rw [hz, Int32.lt_iff_toInt_lt, Int32.le_iff_toInt_le, nI_toInt hk, nI_toInt (by decide), show (-1 : Int32).toInt = -1 from by decide]
        omega
      | succ n =>
        rw [nI_pred, nI_ltI (by omega) hk, nI_leI (by omega) hk]
        omega
    by_cases h2 : nI n ≤ nI k
    · rw [if_pos h2, if_pos (e.mpr h2)]
    · rw [if_neg h2, if_neg (fun z => h2 (e.mp z))]
theorem hasB_nI {k n : Nat} (h : k < n) (hn : n < 2 ^ 30) : hasB (nI k) n = true := by
  unfold hasB
  rw [if_neg (nI_pos (by omega)), if_neg (nI_ge h (by omega))]
section QST
variable {σ : St} {w : Nat → Int32} {f : Nat → UInt32}
theorem cl_hasItem (hO : Off σ 2 w f) (hI : Inv w f) (x : Int32) : f_X5_has σ 6 x = hasB x (cnt w) := by
  have hn : σ.1 6 8 = nI (cnt w) := hO.n hI
  unfold f_X5_has hasB
  rw [hn]
theorem cl_hasPot (hO : Off σ 2 w f) (hI : Inv w f) (x : Int32) : f_X2_hasPotato σ 3 x = hasB x (w 3).toNatClampNeg := by
  obtain ⟨p, h1, h2, h3⟩ := hI.pots
  have hn : σ.1 3 3 = nI p := hO.1.2.1.trans h2
  unfold f_X2_hasPotato hasB
  rw [hn, h3]
theorem cl_hasCray (hO : Off σ 2 w f) (hI : Inv w f) (x : Int32) : f_X2_hasCrayon σ 3 x = hasB x (w 1).toNatClampNeg := by
  obtain ⟨p, h1, h2⟩ := hI.crays
  have hn : σ.1 3 2 = nI p := hO.1.1.trans h2
  unfold f_X2_hasCrayon hasB
  rw [hn, h2, nI_clamp (by omega)]
theorem md_isItem (hw : σ.1 197 = w) (hI : Inv w f) (x : Int32) : f_X10_isItem σ x = hasB x (cnt w) := by
  have := hI.n20
  unfold f_X10_isItem
  rw [bt_iff, hw, cl_2, hI.1.1]
  exact hasB_in (by omega)
theorem md_isPot (hw : σ.1 197 = w) (hI : Inv w f) (x : Int32) : f_X10_isPotato σ x = hasB x (w 3).toNatClampNeg := by
  obtain ⟨p, h1, h2, h3⟩ := hI.pots
  unfold f_X10_isPotato
  rw [bt_iff, hw, cl_3, h3, h2]
  exact hasB_in (by omega)
theorem md_isCray (hw : σ.1 197 = w) (hI : Inv w f) (x : Int32) : f_X10_isCrayon σ x = hasB x (w 1).toNatClampNeg := by
  obtain ⟨p, h1, h2⟩ := hI.crays
  unfold f_X10_isCrayon
  rw [bt_iff, hw, cl_1, h2, nI_clamp (by omega)]
  exact hasB_in (by omega)
theorem cray8 (hI : Inv w f) : (w 1).toNatClampNeg ≤ 8 := by obtain ⟨p, h1, h2⟩ := hI.crays; rw [h2, nI_clamp (by omega)]; exact h1
theorem pot5 (hI : Inv w f) : (w 3).toNatClampNeg ≤ 5 := by obtain ⟨p, h1, h2, h3⟩ := hI.pots; rw [h3]; exact h1
theorem di_t {x : Int32} (h : f_X5_has σ 6 x = true) : f_X9_demandItem σ x = (0, σ) := by unfold f_X9_demandItem; rw [h]; rfl
theorem di_f {x : Int32} (h : f_X5_has σ 6 x = false) : f_X9_demandItem σ x = (2, σ) := by unfold f_X9_demandItem; rw [h]; rfl
theorem dp_t {x : Int32} (h : f_X2_hasPotato σ 3 x = true) : f_X9_demandPotato σ x = (0, σ) := by unfold f_X9_demandPotato; rw [h]; rfl
theorem dp_f {x : Int32} (h : f_X2_hasPotato σ 3 x = false) : f_X9_demandPotato σ x = (2, σ) := by unfold f_X9_demandPotato; rw [h]; rfl
theorem dw_f {x y : Int32} (h : f_X2_hasCrayon σ 3 x = false) : f_X9_demandWriting σ x y = (2, σ) := by unfold f_X9_demandWriting; rw [h]; rfl
theorem dw_t {x y : Int32} (h : f_X2_hasCrayon σ 3 x = true) (h2 : f_X9_inRange y 1 40 = true) : f_X9_demandWriting σ x y = (0, σ) := by unfold f_X9_demandWriting; rw [h, h2]; rfl
theorem dw_r {x y : Int32} (h : f_X2_hasCrayon σ 3 x = true) (h2 : f_X9_inRange y 1 40 = false) : f_X9_demandWriting σ x y = (1, σ) := by unfold f_X9_demandWriting; rw [h, h2]; rfl
end QST
/-- a float of an office as a double -/
theorem do_f2dH {a : UInt32} (h : HB a) : vf_n64 (FP.f2d a) ∧ P64 (FP.f2d a) := by
  have hp := hb_p h
  have hnn : Jvm.FP.Core.fIsNaN a = false := (Jvm.FP.Core.notNaN_iff32 a).mpr (fl_val (Nat.le_of_lt hp))
  have e1 : FP.f2d a = Jvm.FP.Core.f2d a := by unfold FP.f2d; rw [hnn]; rfl
  obtain ⟨c, q, k1, k2, k3⟩ := fc_dec (f := Jvm.FP.Core.b32) fl_g (fl_pi hp)
  have hv : Jvm.FP.Core.decode Jvm.FP.Core.b64 (Jvm.FP.Core.f2d a).toNat = Jvm.FP.Core.roundRatio Jvm.FP.Core.b64 false c 1 q := by
    show Jvm.FP.Core.val64 (Jvm.FP.Core.f2d a) = _
    rw [Jvm.FP.Core.val64_f2d]
    show Jvm.FP.Core.round Jvm.FP.Core.b64 (Jvm.FP.Core.decode Jvm.FP.Core.b32 a.toNat) = _
    rw [k1]; rfl
  have hl := Jvm.FP.Core.lt_full64 (Jvm.FP.Core.f2d a)
  have hm : Jvm.FP.Core.decode Jvm.FP.Core.b64 4719772409484279808 = Jvm.FP.Core.roundRatio Jvm.FP.Core.b64 false (Jvm.FP.Core.unitsOf Jvm.FP.Core.b32 1275068416) 1 Jvm.FP.Core.b32.qmin := by decide +kernel
  have hq := k2.2.1
  have hle := fc_le (f := Jvm.FP.Core.b64) (e0 := Jvm.FP.Core.b64.qmin) do_g hv hl hm (by decide +kernel) (by decide) (by decide) (Int.le_refl _) (Int.le_trans (by decide +kernel) hq) (by decide +kernel) (by
    rw [Nat.mul_one, Nat.mul_one]
    have h1 := Jvm.FP.Core.unitsOf_le_iff (f := Jvm.FP.Core.b32).mpr h
    rw [← k3] at h1
    rw [Jvm.FP.Core.inUnits_move c (r := Jvm.FP.Core.b32.qmin) (e := Jvm.FP.Core.b64.qmin) (by decide +kernel) hq]
    exact Nat.mul_le_mul_right _ h1)
  rw [e1]
  refine ⟨do_n (Nat.le_trans hle (by decide)), ?_⟩
  show _ < _
  exact Nat.lt_of_le_of_lt hle (by decide)
