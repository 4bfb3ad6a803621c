/-! the orders carried out, on both sides -/
section LOOP
/-- the class's own way through its table of orders: the state and the verdict -/
def crn : Nat → St → Nat → St × Int32
  | 0, σ, _ => (σ, 0)
  | k + 1, σ, m => if (f_X9_carryOut σ (nI m)).2 = 0 then crn k (f_X9_carryOut σ (nI m)).1 (m + 1) else f_X9_carryOut σ (nI m)
def rFin (q : St × Int32) : Nat × St × Int32 := if q.2 = 0 then (0, f_X4_remember q.1 19, (f_X4_remember q.1 19).1 191 4) else if q.2 = -1 then (1, f_X6_copyFrom q.1 2 19, 0) else if q.2 = -2 then (1, f_X6_copyFrom q.1 2 19, 0) else (3, f_X6_copyFrom q.1 2 19, 0)
def okFin (q : St × Int32) : Prop := q.2 = 0 → ok_X4_remember q.1 19
theorem dm_n {σ : St} {v : Int32} (h : ¬ v = 0) : ¬ (f_X9_demand σ v).1 = 0 := by
  unfold f_X9_demand
  split
  · exact (show ¬ (2 : Nat) = 0 by decide)
  · split
    · exact (show ¬ (1 : Nat) = 0 by decide)
    · exact (show ¬ (3 : Nat) = 0 by decide)
theorem rFin_0 {σ : St} : rFin (σ, 0) = (0, f_X4_remember σ 19, (f_X4_remember σ 19).1 191 4) := by
  unfold rFin
  dsimp only
  rw [if_pos rfl]
theorem run_end0 {fu : Nat} {σ : St} {x2 : Int32} (h : σ.1 191 4 ≤ x2) : fX9_run_L42 (fu + 1) σ 0 x2 = rFin (σ, 0) ∧ (okFin (σ, 0) → okX9_run_L42 (fu + 1) σ 0 x2) := by
  have n1 : ¬ (0 : Int32) = -1 := by decide
  rw [rFin_0]
  constructor
  · rw [fX9_run_L42, if_pos h, if_pos rfl, if_neg n1, bnd_eq, dm0]
    dsimp only
    rw [if_pos rfl, bnd_eq]
  · intro q
    have q : ok_X4_remember σ 19 := q rfl
    rw [okX9_run_L42]
    refine ⟨fun _ => ⟨fun _ => ⟨fun z => absurd z n1, fun _ => ?_⟩, fun z => absurd rfl z⟩, fun z => absurd h z⟩
    rw [dm0, bndP_eq]
    exact fun _ => q
theorem run_endN {fu : Nat} {σ : St} {v x2 : Int32} (h : ¬ v = 0) : fX9_run_L42 (fu + 1) σ v x2 = rFin (σ, v) ∧ okX9_run_L42 (fu + 1) σ v x2 := by
  have nz : ¬ (-2 : Int32) = 0 := by decide
  constructor
  · have e : fX9_run_L42 (fu + 1) σ v x2 = (bnd (f_X6_copyFrom σ 2 19) (fun q11 => (if v = (-1 : Int32) then (bnd (f_X9_demand q11 (-2 : Int32)) (fun q15 => (if q15.1 = 0 then (bnd (f_X4_remember q15.2 19) (fun q17 => (0, q17, (q17.1 191 4)))) else (q15.1, q15.2, 0)))) else (bnd (f_X9_demand q11 v) (fun q12 => (if q12.1 = 0 then (bnd (f_X4_remember q12.2 19) (fun q14 => (0, q14, (q14.1 191 4)))) else (q12.1, q12.2, 0))))))) := by
      rw [fX9_run_L42]
      by_cases hl : σ.1 191 4 ≤ x2
      · rw [if_pos hl, if_neg h]
      · rw [if_neg hl, if_neg h, if_neg h]
    rw [e]
    simp only [bnd_eq]
    unfold rFin
    dsimp only
    rw [if_neg h]
    by_cases h1 : v = -1
    · rw [if_pos h1, if_pos h1, dm2]
      rfl
    · rw [if_neg h1, if_neg h1]
      by_cases h2 : v = -2
      · rw [if_pos h2, h2, dm2]
        rfl
      · rw [if_neg h2, dm3 _ h1 h2 h]
        rfl
  · rw [okX9_run_L42]
    simp only [bndP_eq]
    exact ⟨fun _ => ⟨fun z => absurd z h, fun _ => ⟨fun _ z => absurd z (dm_n nz), fun _ z => absurd z (dm_n h)⟩⟩, fun _ => ⟨fun z => absurd z h, fun _ => ⟨fun z => absurd z h, fun _ => ⟨fun _ z => absurd z (dm_n nz), fun _ z => absurd z (dm_n h)⟩⟩⟩⟩
theorem run_step {fu : Nat} {σ : St} {x2 : Int32} (h : ¬ σ.1 191 4 ≤ x2) : fX9_run_L42 (fu + 1) σ 0 x2 = fX9_run_L42 fu (f_X9_carryOut σ x2).1 (f_X9_carryOut σ x2).2 (x2 + 1) ∧ (ok_X9_carryOut σ x2 → okX9_run_L42 fu (f_X9_carryOut σ x2).1 (f_X9_carryOut σ x2).2 (x2 + 1) → okX9_run_L42 (fu + 1) σ 0 x2) := by
  constructor
  · rw [fX9_run_L42, if_neg h, if_pos rfl, bnd_eq]
  · intro a b
    rw [okX9_run_L42]
    simp only [bndP_eq]
    exact ⟨fun z => absurd z h, fun _ => ⟨fun _ => ⟨a, b⟩, fun z => absurd trivial z⟩⟩
theorem da_end {fu : Nat} {τ : St} : fX10_doesAll_L17 (fu + 1) τ false = τ ∧ okX10_doesAll_L17 (fu + 1) τ false := by
  rw [fX10_doesAll_L17, okX10_doesAll_L17, if_neg (show ¬ (false = true) by decide)]
  exact ⟨rfl, (fun q => by cases q), fun _ => trivial⟩
theorem da_stop {fu : Nat} {τ τ1 : St} {e : St × Int32} (o1 : ok_X10_readsOrder τ) (o2 : (f_X10_readsOrder τ).1 = τ1) (k1 : ok_X10_notNow τ1) (q1 : f_X10_notNow τ1 = e) (he : ¬ e.2 = 0) : fX10_doesAll_L17 (fu + 1) τ true = setI e.1 196 24 e.2 ∧ okX10_doesAll_L17 (fu + 1) τ true := by
  have g : (setI e.1 196 24 e.2).1 196 24 = e.2 := by rw [q1e rfl, ue rfl]
  rw [fX10_doesAll_L17, okX10_doesAll_L17, if_pos rfl]
  simp only [bnd_eq, bndP_eq]
  rw [o2, q1, g, if_neg he]
  exact ⟨rfl, fun _ => ⟨o1, k1, fun z => absurd z he, fun _ => trivial⟩, (fun q => by cases q)⟩
theorem da_go {fu : Nat} {τ τ1 τ3 τ5 : St} {v : Int32} {b : Bool} (o1 : ok_X10_readsOrder τ) (o2 : (f_X10_readsOrder τ).1 = τ1) (k1 : ok_X10_notNow τ1) (q1 : f_X10_notNow τ1 = (τ1, 0)) (k2 : ok_X10_doesNow (setI τ1 196 24 0)) (q2 : f_X10_doesNow (setI τ1 196 24 0) = (τ3, v)) (k3 : ok_X10_passesSign (setI τ3 196 23 (τ3.1 196 23 + 1)) 59) (q3 : f_X10_passesSign (setI τ3 196 23 (τ3.1 196 23 + 1)) 59 = (τ5, b)) :
    fX10_doesAll_L17 (fu + 1) τ true = fX10_doesAll_L17 fu τ5 b ∧ (okX10_doesAll_L17 fu τ5 b → okX10_doesAll_L17 (fu + 1) τ true) := by
  have g : (setI τ1 196 24 0).1 196 24 = 0 := by rw [q1e rfl, ue rfl]
  rw [fX10_doesAll_L17, okX10_doesAll_L17, if_pos rfl]
  simp only [bnd_eq, bndP_eq]
  rw [o2, q1]
  dsimp only
  rw [g, if_pos rfl, q2]
  dsimp only
  rw [q3]
  exact ⟨rfl, fun z => ⟨fun _ => ⟨o1, k1, fun _ => ⟨k2, k3, z⟩, fun y => absurd rfl y⟩, (fun q => by cases q)⟩⟩
/-- what the reference leaves alone while it carries out orders -/
def RFr (τ τ' : St) : Prop := Kp (fun j => ¬ j = 196 ∧ ¬ j = 197 ∧ ¬ j = 201 ∧ ¬ j = 207) τ τ' ∧ ∀ k, (¬ k = 3 ∧ ¬ k = 4 ∧ ¬ k = 19 ∧ ¬ k = 22 ∧ ¬ k = 23 ∧ ¬ k = 24) → τ'.1 196 k = τ.1 196 k
theorem RFr.tr {τ τ1 τ2 : St} (h1 : RFr τ τ1) (h2 : RFr τ1 τ2) : RFr τ τ2 := ⟨h1.1.tr h2.1, fun k hk => (h2.2 k hk).trans (h1.2 k hk)⟩
theorem MF.rfr {τ τ' : St} (h : MF τ τ') : RFr τ τ' := ⟨⟨fun j hj => ⟨h.1 j hj.1 hj.2.2.2, by rw [h.2.1]⟩, by rw [h.2.1]⟩, fun k hk => h.2.2 k hk.2.2.1 hk.2.2.2.1⟩
theorem RFr.set {τ : St} {k : Nat} {v : Int32} (hk : k = 3 ∨ k = 4 ∨ k = 19 ∨ k = 22 ∨ k = 23 ∨ k = 24) : RFr τ (setI τ 196 k v) :=
  ⟨kp_setI Kp.rf (fun q => q.1 rfl), fun j hj => by rw [q1e rfl, un (by omega)]⟩
theorem okm_rfr {τ τ' : St} (h : Kp OKM τ τ') : RFr τ τ' := ⟨h.wk (fun j hj => ⟨hj.2.1, hj.2.2.1⟩), fun k _ => congrFun (h.1 196 (by decide)).1 k⟩
/-- how the two sides end -/
def Jt (σ : St) (q : St × Int32) (τ' : St) (d : Nat) : Prop :=
  (q.2 = 0 ∧ τ'.1 196 24 = 0 ∧ τ'.1 196 23 = nI d ∧ Off q.1 2 (τ'.1 197) (τ'.2.1 201) ∧ Inv (τ'.1 197) (τ'.2.1 201) ∧ Kp (OK1 2) σ q.1)
  ∨ ((q.2 = -1 ∨ q.2 = -2) ∧ ¬ τ'.1 196 24 = 0 ∧ ¬ τ'.1 196 24 = 9 ∧ Kp (OK1 2) σ q.1)
  ∨ (¬ q.2 = 0 ∧ ¬ q.2 = -1 ∧ ¬ q.2 = -2 ∧ τ'.1 196 24 = 9 ∧ ∃ k v σ', q.1 = setI (setI σ' 1 1 k) 1 2 v ∧ τ'.1 196 3 = k ∧ τ'.1 196 4 = v ∧ Kp (OK1 2) σ σ')
theorem Jt.tr {σ σ1 τ' : St} {q : St × Int32} {d : Nat} (k : Kp (OK1 2) σ σ1) (h : Jt σ1 q τ' d) : Jt σ q τ' d := by
  rcases h with ⟨a1, a2, a3, a4, a5, a6⟩ | ⟨a1, a2, a3, a4⟩ | ⟨a1, a2, a3, a4, x, v, s, a5, a6, a7, a8⟩
  · exact Or.inl ⟨a1, a2, a3, a4, a5, k.tr a6⟩
  · exact Or.inr (Or.inl ⟨a1, a2, a3, k.tr a4⟩)
  · exact Or.inr (Or.inr ⟨a1, a2, a3, a4, x, v, s, a5, a6, a7, k.tr a8⟩)
variable {inp : Nat → Int32} {n : Nat}
theorem MO.kp {τ τ' : St} {p : Nat} (h : MO τ inp n p) (h18 : τ'.1 196 18 = τ.1 196 18) (h19 : τ'.1 196 19 = τ.1 196 19) (h206 : τ'.1 206 = τ.1 206) : MO τ' inp n p :=
  ⟨h18.trans h.1, h19.trans h.2.1, fun k hk => by rw [h206]; exact h.2.2 k hk⟩
theorem sA_cs {fu p : Nat} (h : (sA inp n (fu + 1) p).1 = true) : ∃ p1 κ a, sO inp n p = (true, p1, κ, a) ∧ ((p1 = n ∧ sA inp n (fu + 1) p = (true, n, [(κ, a)])) ∨ (¬ p1 = n ∧ isS inp n 59 p1 = true ∧ (sA inp n fu (p1 + 1)).1 = true ∧ sA inp n (fu + 1) p = (true, (sA inp n fu (p1 + 1)).2.1, (κ, a) :: (sA inp n fu (p1 + 1)).2.2))) := by
  rw [sA] at h ⊢
  generalize hr : sO inp n p = r at h ⊢
  obtain ⟨b, p1, κ, a⟩ := r
  dsimp only at h ⊢
  cases b with
  | false =>
    rw [if_neg (show ¬ (false = true) by decide)] at h
    cases h
  | true =>
    rw [if_pos rfl] at h ⊢
    refine ⟨p1, κ, a, rfl, ?_⟩
    by_cases e : p1 = n
    · rw [if_pos e]
      exact Or.inl ⟨e, rfl⟩
    · rw [if_neg e] at h ⊢
      cases hs : isS inp n 59 p1 with
      | true =>
        rw [hs, if_pos rfl] at h
        have h : (sA inp n fu (p1 + 1)).1 = true := h
        rw [if_pos rfl, h]
        exact Or.inr ⟨e, rfl, rfl, rfl⟩
      | false =>
        rw [hs, if_neg (show ¬ (false = true) by decide)] at h
        cases h
theorem sA_bd : ∀ (fu p : Nat), p ≤ n → (sA inp n fu p).1 = true → 3 * (sA inp n fu p).2.2.length ≤ n + 1 - p := by
  intro fu
  induction fu with
  | zero => intro p _ h; cases h
  | succ fu ih =>
    intro p hp h
    obtain ⟨p1, κ, a, e0, hcase⟩ := sA_cs h
    obtain ⟨l1, l2, l3⟩ := sO_len (inp := inp) hp
    rw [e0] at l1 l2 l3
    dsimp only at l1 l2 l3
    obtain ⟨l4, -⟩ := l3 rfl
    rcases hcase with ⟨e1, e⟩ | ⟨e1, e2, e3, e⟩
    · rw [e]
      show 3 * 1 ≤ _
      omega
    · have hpn := (isS_lt e2).1
      have := ih (p1 + 1) (by omega) e3
      rw [e]
      dsimp only
      rw [List.length_cons]
      omega
theorem run_loop (hn : n ≤ 60) : ∀ (fu fuC fuM p m d : Nat) (σ τ : St) (w : Nat → Int32) (f : Nat → UInt32), n - p < fu → (sA inp n fu p).1 = true → p ≤ n → 3 * m ≤ p → fu < fuC → fu < fuM → Off σ 2 w f → Inv w f → MR τ w f → MO τ inp n p → σ.1 191 4 = nI (m + (sA inp n fu p).2.2.length) → Tb σ m (sA inp n fu p).2.2 → τ.1 196 23 = nI d →
    (fX9_run_L42 fuC σ 0 (nI m) = rFin (crn (sA inp n fu p).2.2.length σ m) ∧ (okFin (crn (sA inp n fu p).2.2.length σ m) → okX9_run_L42 fuC σ 0 (nI m))) ∧ okX10_doesAll_L17 fuM τ true ∧ ∃ τ', fX10_doesAll_L17 fuM τ true = τ' ∧ Jt σ (crn (sA inp n fu p).2.2.length σ m) τ' (d + (sA inp n fu p).2.2.length) ∧ RFr τ τ' := by
  intro fu
  induction fu with
  | zero => intro fuC fuM p m d σ τ w f h; omega
  | succ fu ih =>
    intro fuC fuM p m d σ τ w f hf hs hp h3 hC hM hO hI hm hMO h4 hT hd
    obtain ⟨fuC, rfl⟩ : ∃ z, fuC = z + 2 := ⟨fuC - 2, by omega⟩
    obtain ⟨fuM, rfl⟩ : ∃ z, fuM = z + 2 := ⟨fuM - 2, by omega⟩
    have hbd := sA_bd (inp := inp) (fu + 1) p hp hs
    obtain ⟨p1, κ, a, e0, hcase⟩ := sA_cs hs
    obtain ⟨l1, l2, l3⟩ := sO_len (inp := inp) hp
    have har := sO_ar (inp := inp) (n := n) (p := p)
    obtain ⟨o1, τ1, o2, o3, o4, o5⟩ := md_order hMO hn hp
    rw [e0] at l1 l2 l3 har o2 o3 o5
    dsimp only at l1 l2 l3 har o2 o3 o5
    obtain ⟨l4, l5⟩ := l3 rfl
    have har := har rfl
    obtain ⟨o6, o7⟩ := o5 rfl
    have o2' : (f_X10_readsOrder τ).1 = τ1 := by rw [o2]
    obtain ⟨rest, hrest⟩ : ∃ rest, (sA inp n (fu + 1) p).2.2 = (κ, a) :: rest := by
      rcases hcase with ⟨-, e⟩ | ⟨-, -, -, e⟩
      · exact ⟨_, by rw [e]⟩
      · exact ⟨_, by rw [e]⟩
    have hlen : (sA inp n (fu + 1) p).2.2.length = rest.length + 1 := by rw [hrest]; rfl
    rw [hlen] at h4 hbd
    rw [hlen]
    rw [hrest] at hT
    have hT0 := hT 0 κ a rfl
    rw [Nat.add_zero] at hT0
    have hm21 : m < 21 := by omega
    have hl21 : ¬ σ.1 191 4 ≤ nI m := by
      rw [h4]
      exact nI_ge (by omega) (by omega)
    obtain ⟨rs1, rs2⟩ := run_step (fu := fuC + 1) hl21
    rw [nI_1] at rs1 rs2
    obtain ⟨cl, okC, md, okN, eI, eR, P, act, okA, does, okD, V, D, c1, c2, c3⟩ := ord_step hO hI hm21 l5 hT0.1 hT0.2 har
    have f1 := o4.rfr
    have m1 : MR τ1 w f := ⟨(o4.1 197 (by decide) (by decide)).trans hm.1, by rw [o4.2.1]; exact hm.2⟩
    obtain ⟨v1, v2, hV⟩ := V
    obtain ⟨c4, c5, -⟩ := c3 τ1 m1 o6 o7
    have c5 := c5 (v2 τ1 m1)
    -- an order that is refused or not to be had
    have bad : ∀ (s : St) (v : Int32) (e : St × Int32), ¬ v = 0 → cl = (s, v) → md τ1 = e → ¬ e.2 = 0 →
        (fX9_run_L42 (fuC + 2) σ 0 (nI m) = rFin (crn (rest.length + 1) σ m) ∧ (okFin (crn (rest.length + 1) σ m) → okX9_run_L42 (fuC + 2) σ 0 (nI m))) ∧ crn (rest.length + 1) σ m = (s, v) ∧ okX10_doesAll_L17 (fuM + 2) τ true ∧ fX10_doesAll_L17 (fuM + 2) τ true = setI e.1 196 24 e.2 := by
      intro s v e hv a1 a3 he
      have ecar : f_X9_carryOut σ (nI m) = (s, v) := by
        rw [c1, a1]
        exact if_neg hv
      have okcar : ok_X9_carryOut σ (nI m) := c2 v1 (fun z => absurd (congrArg Prod.snd (a1.symm.trans z)) hv)
      have ec : crn (rest.length + 1) σ m = (s, v) := by
        rw [crn, ecar]
        exact if_neg hv
      obtain ⟨y1, y2⟩ := run_endN (fu := fuC) (σ := s) (x2 := nI (m + 1)) hv
      rw [ecar] at rs1 rs2
      obtain ⟨d1, d2⟩ := da_stop (fu := fuM + 1) o1 o2' c5 (c4.trans a3) he
      refine ⟨⟨?_, fun _ => rs2 okcar y2⟩, ec, d2, d1⟩
      rw [ec]
      exact rs1.trans y1
    rcases hV with ⟨a1, a2, a3⟩ | ⟨a1, a2, a4, a3⟩ | ⟨a1, a2, a4, a3⟩ | ⟨k, v, k0, k1, k2, a1, a3⟩
    · -- an order that is carried out
      obtain ⟨τ2, hτ2⟩ : ∃ z, z = setI τ1 196 24 0 := ⟨_, rfl⟩
      have f2 : RFr τ τ2 := by rw [hτ2]; exact f1.tr (RFr.set (by decide))
      have m2 : MR τ2 w f := by rw [hτ2]; exact ⟨by rw [q1n (by decide)]; exact m1.1, m1.2⟩
      have o62 : τ2.1 196 22 = nI κ := by rw [hτ2, q1e rfl, un (by decide)]; exact o6
      have o72 : ∀ j, j < a.length → τ2.1 207 j = a.getD j 0 := fun j hj => by rw [hτ2, q1n (by decide)]; exact o7 j hj
      obtain ⟨-, -, c6⟩ := c3 τ2 m2 o62 o72
      obtain ⟨c7, c8⟩ := c6 a2
      obtain ⟨d1, d2, σ', τ3, vv, d3, d4, d5, d6, d7, d8⟩ := D a2 σ τ2 hO m2
      have ecar : f_X9_carryOut σ (nI m) = (σ', 0) := by
        rw [c1, a1]
        unfold OX
        dsimp only
        rw [if_pos rfl, d3]
      have okcar : ok_X9_carryOut σ (nI m) := c2 v1 (fun _ => d1)
      rw [ecar] at rs1 rs2
      dsimp only at rs1 rs2
      have h23 : τ3.1 196 23 = nI d := by
        rw [congrFun (d8.1 196 (by decide)).1 23, hτ2, q1e rfl, un (by decide), o4.2.2 23 (by decide) (by decide)]
        exact hd
      obtain ⟨τ4, hτ4⟩ : ∃ z, z = setI τ3 196 23 (τ3.1 196 23 + 1) := ⟨_, rfl⟩
      have g23 : τ4.1 196 23 = nI (d + 1) := by rw [hτ4, q1e rfl, ue rfl, h23, nI_1]
      have g24 : τ4.1 196 24 = 0 := by rw [hτ4, q1e rfl, un (by decide), congrFun (d8.1 196 (by decide)).1 24, hτ2, q1e rfl, ue rfl]
      have f4 : RFr τ τ4 := by rw [hτ4]; exact (f2.tr (okm_rfr d8)).tr (RFr.set (by decide))
      have w4 : τ4.1 197 = τ3.1 197 ∧ τ4.2.1 201 = τ3.2.1 201 := by rw [hτ4]; exact ⟨q1n (by decide), rfl⟩
      have MO4 : MO τ4 inp n p1 := o3.kp (by rw [hτ4, q1e rfl, un (by decide), congrFun (d8.1 196 (by decide)).1 18, hτ2, q1e rfl, un (by decide)]) (by rw [hτ4, q1e rfl, un (by decide), congrFun (d8.1 196 (by decide)).1 19, hτ2, q1e rfl, un (by decide)]) (by rw [hτ4, q1n (by decide), (d8.1 206 (by decide)).1, hτ2, q1n (by decide)])
      have hOd : okX10_doesAll_L17 (fuM + 1 + 1) τ true → True := fun _ => trivial
      obtain ⟨b1, b2⟩ := md_signM (c := 59) (by decide) MO4 hn l1
      have go : ∀ (τ5 : St) (b : Bool), f_X10_passesSign τ4 59 = (τ5, b) → fX10_doesAll_L17 (fuM + 1 + 1) τ true = fX10_doesAll_L17 (fuM + 1) τ5 b ∧ (okX10_doesAll_L17 (fuM + 1) τ5 b → okX10_doesAll_L17 (fuM + 1 + 1) τ true) := fun τ5 b e => by
        refine da_go (fu := fuM + 1) (τ3 := τ3) (v := vv) o1 o2' c5 (c4.trans (a3 τ1 m1)) ?_ ?_ ?_ ?_
        · rw [← hτ2]; exact c8 d2
        · rw [← hτ2, c7]; exact d4
        · rw [← hτ4]; exact b1
        · rw [← hτ4]; exact e
      rcases hcase with ⟨e1, e⟩ | ⟨e1, e2, e3, e⟩
      · -- the last one
        have hr0 : rest = [] := by
          have := hrest
          rw [e] at this
          exact (List.cons.inj this).2.symm
        subst hr0
        rcases b2 with ⟨b3, -⟩ | ⟨-, b3⟩
        · omega
        · obtain ⟨g1, g2⟩ := go _ _ b3
          obtain ⟨y1, y2⟩ := da_end (fu := fuM) (τ := τ4)
          have ec : crn ([] : List (Nat × List Int32)).length.succ σ m = (σ', 0) := by
            show crn (0 + 1) σ m = _
            rw [crn, ecar]
            dsimp only
            rw [if_pos rfl, crn]
          have ec : crn (([] : List (Nat × List Int32)).length + 1) σ m = (σ', 0) := ec
          have hle : σ'.1 191 4 ≤ nI (m + 1) := by
            rw [(d7.1 191 (by decide)).1, h4]
            exact Int32.le_refl _
          obtain ⟨z1, z2⟩ := run_end0 (fu := fuC) hle
          rw [ec]
          refine ⟨⟨rs1.trans z1, fun q => rs2 okcar (z2 q)⟩, g2 y2, τ4, g1.trans y1, Or.inl ⟨rfl, g24, g23, ?_, ?_, d7⟩, f4⟩
          · rw [w4.1, w4.2]; exact d5
          · rw [w4.1, w4.2]; exact d6
      · have hrr : rest = (sA inp n fu (p1 + 1)).2.2 := by
          have := hrest
          rw [e] at this
          exact (List.cons.inj this).2.symm
        rcases b2 with ⟨b0, -, b3, b4, b5⟩ | ⟨b3, -⟩
        · obtain ⟨g1, g2⟩ := go _ _ b3
          have w5 : MR (mvM τ4 (p1 + 1)) (τ3.1 197) (τ3.2.1 201) := ⟨(b5.1 197 (by decide) (by decide)).trans w4.1, by rw [b5.2.1]; exact w4.2⟩
          have hT1 : Tb σ' (m + 1) (sA inp n fu (p1 + 1)).2.2 := fun i κ' a' hi => by
            have := hT (i + 1) κ' a' (by rw [List.getElem?_cons_succ, hrr]; exact hi)
            rw [(d7.1 193 (by decide)).1, (d7.1 194 (by decide)).1, show m + 1 + i = m + (i + 1) by omega]
            exact this
          obtain ⟨⟨x1, x2⟩, x3, τ', x4, x5, x6⟩ := ih (fuC + 1) (fuM + 1) (p1 + 1) (m + 1) (d + 1) σ' (mvM τ4 (p1 + 1)) (τ3.1 197) (τ3.2.1 201) (by omega) e3 b0 (by omega) (by omega) (by omega) d5 d6 w5 b4 (by
            rw [(d7.1 191 (by decide)).1, h4, hrr]
            congr 1
            omega) hT1 ((b5.2.2 23 (by decide)).trans g23)
          rw [← hrr] at x1 x2 x5
          have ec : crn (rest.length + 1) σ m = crn rest.length σ' (m + 1) := by
            rw [crn, ecar]
            dsimp only
            rw [if_pos rfl]
          rw [ec]
          refine ⟨⟨rs1.trans x1, fun q => rs2 okcar (x2 q)⟩, g2 x3, τ', g1.trans x4, ?_, (f4.tr b5.mf.rfr).tr x6⟩
          rw [show d + (rest.length + 1) = d + 1 + rest.length by omega]
          exact x5.tr d7
        · rw [e2] at b3; cases b3
    · obtain ⟨r1, r2, r3, r4⟩ := bad σ (-1) (τ1, eI) (by decide) a1 (a3 τ1 m1) a2
      refine ⟨r1, r3, _, r4, ?_, f1.tr (RFr.set (by decide))⟩
      rw [r2]
      refine Or.inr (Or.inl ⟨Or.inl rfl, ?_, ?_, Kp.rf⟩)
      · rw [q1e rfl, ue rfl]; exact a2
      · rw [q1e rfl, ue rfl]; exact a4
    · obtain ⟨r1, r2, r3, r4⟩ := bad σ (-2) (τ1, eR) (by decide) a1 (a3 τ1 m1) a2
      refine ⟨r1, r3, _, r4, ?_, f1.tr (RFr.set (by decide))⟩
      rw [r2]
      refine Or.inr (Or.inl ⟨Or.inr rfl, ?_, ?_, Kp.rf⟩)
      · rw [q1e rfl, ue rfl]; exact a2
      · rw [q1e rfl, ue rfl]; exact a4
    · obtain ⟨r1, r2, r3, r4⟩ := bad (setI (setI σ 1 1 k) 1 2 v) k (setI (setI τ1 196 3 k) 196 4 v, 9) k0 a1 (a3 τ1 m1) (show ¬ (9 : Int32) = 0 by decide)
      refine ⟨r1, r3, _, r4, ?_, ((f1.tr (RFr.set (by decide))).tr (RFr.set (by decide))).tr (RFr.set (by decide))⟩
      rw [r2]
      refine Or.inr (Or.inr ⟨k0, k1, k2, ?_, k, v, σ, rfl, ?_, ?_, Kp.rf⟩)
      · rw [q1e rfl, ue rfl]
      · rw [q1e rfl, un (by decide), q1e rfl, un (by decide), q1e rfl, ue rfl]
      · rw [q1e rfl, un (by decide), q1e rfl, ue rfl]
end LOOP
