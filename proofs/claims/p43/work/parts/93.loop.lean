/-! the orders carried out, on both sides -/
section LOOP
/-- the class's own way through its table of orders: the state and the verdict -/
def crn : Nat → St → Nat → St × Int32
  | 0, σ, _ => (σ, 0)
  | k + 1, σ, m => if (f_X9_carryOut σ (nI m)).2 = 0 then crn k (f_X9_carryOut σ (nI m)).1 (m + 1) else f_X9_carryOut σ (nI m)
def rFin (q : St × Int32) : Nat × St × Int32 := if q.2 = 0 then (0, f_X4_remember q.1 19, (f_X4_remember q.1 19).1 191 4) else if q.2 = -1 then (1, f_X6_copyFrom q.1 2 19, 0) else if q.2 = -2 then (1, f_X6_copyFrom q.1 2 19, 0) else (3, f_X6_copyFrom q.1 2 19, 0)
def okFin (q : St × Int32) : Prop := q.2 = 0 → ok_X4_remember q.1 19
theorem dm_n {σ : St} {v : Int32} (h : ¬ v = 0) : ¬ (f_X9_demand σ v).1 = 0 := by
  unfold f_X9_demand
  split
  · exact (show ¬ (2 : Nat) = 0 by decide)
  · split
    · exact (show ¬ (1 : Nat) = 0 by decide)
    · exact (show ¬ (3 : Nat) = 0 by decide)
theorem rFin_0 {σ : St} : rFin (σ, 0) = (0, f_X4_remember σ 19, (f_X4_remember σ 19).1 191 4) := by
  unfold rFin
  dsimp only
  rw [if_pos rfl]
theorem run_end0 {fu : Nat} {σ : St} {x2 : Int32} (h : σ.1 191 4 ≤ x2) : fX9_run_L42 (fu + 1) σ 0 x2 = rFin (σ, 0) ∧ (okFin (σ, 0) → okX9_run_L42 (fu + 1) σ 0 x2) := by
  have n1 : ¬ (0 : Int32) = -1 := by decide
  rw [rFin_0]
  constructor
  · rw [fX9_run_L42, if_pos h, if_pos rfl, if_neg n1, bnd_eq, dm0]
    dsimp only
    rw [if_pos rfl, bnd_eq]
  · intro q
    have q : ok_X4_remember σ 19 := q rfl
    rw [okX9_run_L42]
    refine ⟨fun _ => ⟨fun _ => ⟨fun z => absurd z n1, fun _ => ?_⟩, fun z => absurd rfl z⟩, fun z => absurd h z⟩
    rw [dm0, bndP_eq]
    exact fun _ => q
theorem run_endN {fu : Nat} {σ : St} {v x2 : Int32} (h : ¬ v = 0) : fX9_run_L42 (fu + 1) σ v x2 = rFin (σ, v) ∧ okX9_run_L42 (fu + 1) σ v x2 := by
  have nz : ¬ (-2 : Int32) = 0 := by decide
  constructor
  · have e : fX9_run_L42 (fu + 1) σ v x2 = (bnd (f_X6_copyFrom σ 2 19) (fun q11 => (if v = (-1 : Int32) then (bnd (f_X9_demand q11 (-2 : Int32)) (fun q15 => (if q15.1 = 0 then (bnd (f_X4_remember q15.2 19) (fun q17 => (0, q17, (q17.1 191 4)))) else (q15.1, q15.2, 0)))) else (bnd (f_X9_demand q11 v) (fun q12 => (if q12.1 = 0 then (bnd (f_X4_remember q12.2 19) (fun q14 => (0, q14, (q14.1 191 4)))) else (q12.1, q12.2, 0))))))) := by
      rw [fX9_run_L42]
      by_cases hl : σ.1 191 4 ≤ x2
      · rw [if_pos hl, if_neg h]
      · rw [if_neg hl, if_neg h, if_neg h]
    rw [e]
    simp only [bnd_eq]
    unfold rFin
    dsimp only
    rw [if_neg h]
    by_cases h1 : v = -1
    · rw [if_pos h1, if_pos h1, dm2]
      rfl
    · rw [if_neg h1, if_neg h1]
      by_cases h2 : v = -2
      · rw [if_pos h2, h2, dm2]
        rfl
      · rw [if_neg h2, dm3 _ h1 h2 h]
        rfl
  · rw [okX9_run_L42]
    simp only [bndP_eq]
    exact ⟨fun _ => ⟨fun z => absurd z h, fun _ => ⟨fun _ z => absurd z (dm_n nz), fun _ z => absurd z (dm_n h)⟩⟩, fun _ => ⟨fun z => absurd z h, fun _ => ⟨fun z => absurd z h, fun _ => ⟨fun _ z => absurd z (dm_n nz), fun _ z => absurd z (dm_n h)⟩⟩⟩⟩
theorem run_step {fu : Nat} {σ : St} {x2 : Int32} (h : ¬ σ.1 191 4 ≤ x2) : fX9_run_L42 (fu + 1) σ 0 x2 = fX9_run_L42 fu (f_X9_carryOut σ x2).1 (f_X9_carryOut σ x2).2 (x2 + 1) ∧ (ok_X9_carryOut σ x2 → okX9_run_L42 fu (f_X9_carryOut σ x2).1 (f_X9_carryOut σ x2).2 (x2 + 1) → okX9_run_L42 (fu + 1) σ 0 x2) := by
  constructor
  · rw [fX9_run_L42, if_neg h, if_pos rfl, bnd_eq]
  · intro a b
    rw [okX9_run_L42]
    simp only [bndP_eq]
    exact ⟨fun z => absurd z h, fun _ => ⟨fun _ => ⟨a, b⟩, fun z => absurd trivial z⟩⟩
variable {inp : Nat → Int32} {n : Nat}
theorem sA_cs {fu p : Nat} (h : (sA inp n (fu + 1) p).1 = true) : ∃ p1 κ a, sO inp n p = (true, p1, κ, a) ∧ ((p1 = n ∧ sA inp n (fu + 1) p = (true, n, [(κ, a)])) ∨ (¬ p1 = n ∧ isS inp n 59 p1 = true ∧ (sA inp n fu (p1 + 1)).1 = true ∧ sA inp n (fu + 1) p = (true, (sA inp n fu (p1 + 1)).2.1, (κ, a) :: (sA inp n fu (p1 + 1)).2.2))) := by
  rw [sA] at h ⊢
  generalize hr : sO inp n p = r at h ⊢
  obtain ⟨b, p1, κ, a⟩ := r
  dsimp only at h ⊢
  cases b with
  | false =>
    rw [if_neg (show ¬ (false = true) by decide)] at h
    cases h
  | true =>
    rw [if_pos rfl] at h ⊢
    refine ⟨p1, κ, a, rfl, ?_⟩
    by_cases e : p1 = n
    · rw [if_pos e]
      exact Or.inl ⟨e, rfl⟩
    · rw [if_neg e] at h ⊢
      cases hs : isS inp n 59 p1 with
      | true =>
        rw [hs, if_pos rfl] at h
        have h : (sA inp n fu (p1 + 1)).1 = true := h
        rw [if_pos rfl, h]
        exact Or.inr ⟨e, rfl, rfl, rfl⟩
      | false =>
        rw [hs, if_neg (show ¬ (false = true) by decide)] at h
        cases h
theorem sA_bd : ∀ (fu p : Nat), p ≤ n → (sA inp n fu p).1 = true → 3 * (sA inp n fu p).2.2.length ≤ n + 1 - p := by
  intro fu
  induction fu with
  | zero => intro p _ h; cases h
  | succ fu ih =>
    intro p hp h
    obtain ⟨p1, κ, a, e0, hcase⟩ := sA_cs h
    obtain ⟨l1, l2, l3⟩ := sO_len (inp := inp) hp
    rw [e0] at l1 l2 l3
    dsimp only at l1 l2 l3
    obtain ⟨l4, -⟩ := l3 rfl
    rcases hcase with ⟨e1, e⟩ | ⟨e1, e2, e3, e⟩
    · rw [e]
      show 3 * 1 ≤ _
      omega
    · have hpn := (isS_lt e2).1
      have := ih (p1 + 1) (by omega) e3
      rw [e]
      dsimp only
      rw [List.length_cons]
      omega
end LOOP
