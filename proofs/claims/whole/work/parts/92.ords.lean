/-! an order of the line, on both sides -/
section ORDS
variable {σ : St} {w : Nat → Int32} {f : Nat → UInt32} {inp : Nat → Int32} {n : Nat}
theorem sP_ar {c : Int32} {p : Nat} {l : List Int32} (h : (sP inp n c p l).1 = true) : (sP inp n c p l).2.2.length = l.length + (if c = 100 ∨ c = 110 then 1 else 0) := by
  revert h
  unfold sP
  by_cases e1 : c = 100
  · rw [if_pos e1, if_pos (Or.inl e1)]
    unfold sD
    split
    · intro _; show (l ++ [_]).length = _; rw [List.length_append]; rfl
    · intro q; cases q
  · by_cases e2 : c = 110
    · rw [if_neg e1, if_pos e2, if_pos (Or.inr e2)]
      unfold sN
      split
      · split
        · intro _; show (l ++ [_]).length = _; rw [List.length_append]; rfl
        · intro _; show (l ++ [_]).length = _; rw [List.length_append]; rfl
      · intro q; cases q
    · have e3 : ¬ (c = 100 ∨ c = 110) := by simp [e1, e2]
      rw [if_neg e1, if_neg e2, if_neg e3]
      unfold sS
      split
      · intro _; rfl
      · intro q; cases q
theorem sPs_ar : ∀ (cs : List Int32) (p : Nat) (l : List Int32), (sPs inp n cs p l).1 = true → (sPs inp n cs p l).2.2.length = l.length + nn cs := by
  intro cs
  induction cs with
  | nil => intro p l _; rfl
  | cons c cs ih =>
    intro p l
    unfold sPs nn
    split
    · rename_i q
      intro h
      rw [ih _ _ h, sP_ar q]
      omega
    · intro q; cases q
theorem sO_ar {p : Nat} (h : (sO inp n p).1 = true) : (sO inp n p).2.2.2.length = nn (prt (sO inp n p).2.2.1) := by
  revert h
  unfold sO
  split
  · split
    · intro q; cases q
    · intro h
      have := sPs_ar _ _ _ h
      show (sPs inp n (prt (kd (inp p))) (p + 1) []).2.2.length = nn (prt (kd (inp p)))
      rw [this]
      exact Nat.zero_add _
  · intro q; cases q
theorem vd_pass (σ : St) (w : Nat → Int32) (f : Nat → UInt32) (x1 : Int32) : Vd σ w f (σ, f_X1_mayPass x1) True (fun τ => (τ, f_X10_notPass x1)) (fun _ => True) 0 1 (∃ k, x1 = nI k ∧ k ≤ 60) := by
  refine ⟨trivial, fun _ _ => trivial, ?_⟩
  unfold f_X1_mayPass f_X10_notPass
  cases c1 : f_X9_inRange x1 1 60 with
  | true =>
    obtain ⟨k, rfl, k1, k2⟩ := ir_nI (a := 1) (b := 60) (by decide) (by decide) c1
    exact Or.inl ⟨rfl, ⟨k, rfl, k2⟩, fun τ _ => by rw [isn_bt, c1]; rfl⟩
  | false => exact Or.inr (Or.inr (Or.inl ⟨rfl, by decide, by decide, fun τ _ => by rw [isn_bt, c1]; rfl⟩))
theorem dz_pass (hI : Inv w f) {x1 : Int32} (P : ∃ k, x1 = nI k ∧ k ≤ 60) : Dz w f (fun q => f_X6_passHours q 2 x1) (fun q => ok_X6_passHours q 2 x1) (fun q => f_X10_passes q x1) (fun q => ok_X10_passes q x1) := by
  obtain ⟨k, rfl, k2⟩ := P
  intro τ ρ hO hm
  obtain ⟨a1, σ1, a2, a3, a4⟩ := cl_hours2 (N := k) k2 k 2000 0 0 τ w f (by omega) (Nat.zero_add _) hO hI
  obtain ⟨b1, σ2, b2, b3, b4, b5⟩ := md_hours2 (N := k) k2 k 2000 0 0 ρ w f (by omega) (Nat.zero_add _) hm.1 hm.2 hI
  exact ⟨a1, b1, σ1, σ2, _, a2, b2, by rw [b3, b4]; exact a3, by rw [b3, b4]; exact hr_I _ _ _ hI, a4, b5⟩
def OX (may : St × Int32) (act : St → St × Int32) : St × Int32 := if may.2 = 0 then ((act may.1).1, may.2) else may
def Ost (σ : St) (w : Nat → Int32) (f : Nat → UInt32) (m κ : Nat) (a : List Int32) : Prop :=
  ∃ (cl : St × Int32) (okC : Prop) (md : St → St × Int32) (okN : St → Prop) (eI eR : Int32) (P : Prop) (act : St → St × Int32) (okA : St → Prop) (does : St → St × Int32) (okD : St → Prop),
    Vd σ w f cl okC md okN eI eR P ∧ (P → Dz w f act okA does okD) ∧ f_X9_carryOut σ (nI m) = OX cl act ∧ (okC → (cl = (σ, 0) → okA σ) → ok_X9_carryOut σ (nI m)) ∧
    ∀ τ, MR τ w f → τ.1 196 22 = nI κ → (∀ j, j < a.length → τ.1 207 j = a.getD j 0) → f_X10_notNow τ = md τ ∧ (okN τ → ok_X10_notNow τ) ∧ (P → f_X10_doesNow τ = does τ ∧ (okD τ → ok_X10_doesNow τ))
theorem vd_snd {cl : St × Int32} {okC : Prop} {md : St → St × Int32} {okN : St → Prop} {eI eR : Int32} {P : Prop} (V : Vd σ w f cl okC md okN eI eR P) (h : cl.2 = 0) : cl = (σ, 0) := by
  obtain ⟨-, -, hV⟩ := V
  rcases hV with ⟨c1, -⟩ | ⟨c1, -⟩ | ⟨c1, -⟩ | ⟨k, v, k0, -, -, c1, -⟩
  · exact c1
  · rw [c1] at h; exact absurd h (show ¬ (-1 : Int32) = 0 by decide)
  · rw [c1] at h; exact absurd h (show ¬ (-2 : Int32) = 0 by decide)
  · rw [c1] at h; exact absurd h k0
theorem ord_step (hO : Off σ 2 w f) (hI : Inv w f) {m κ : Nat} {a : List Int32} (hm : m < 21) (hκ : κ < 6) (h193 : σ.1 193 m = nI κ) (h194 : ∀ j, j < a.length → σ.1 194 (4 * m + j) = a.getD j 0) (ha : a.length = nn (prt κ)) : Ost σ w f m κ a := by
  have hcm : (nI m).toNatClampNeg = m := nI_clamp (by omega)
  have hvm : vp_in (nI m) 21 := vp_in_nI hm (by decide)
  have hN : ∀ j, j < 4 → f_X7_numberOf σ (nI m) (nI j) = σ.1 194 (4 * m + j) ∧ ok_X7_numberOf σ (nI m) (nI j) := fun j hj => by
    have e : nI m * (4 : Int32) + nI j = nI (4 * m + j) := by
      rw [show (4 : Int32) = nI 4 from rfl, nI_mul, nI_add, Nat.mul_comm]
    unfold f_X7_numberOf ok_X7_numberOf
    rw [e, nI_clamp (by omega)]
    exact ⟨rfl, vp_in_nI (by omega) (by decide)⟩
  have k0 : ok_X7_numberOf σ (nI m) 0 := (hN 0 (by decide)).2
  have k1 : ok_X7_numberOf σ (nI m) 1 := (hN 1 (by decide)).2
  have k2 : ok_X7_numberOf σ (nI m) 2 := (hN 2 (by decide)).2
  have k3 : ok_X7_numberOf σ (nI m) 3 := (hN 3 (by decide)).2
  have n0 : 0 < a.length → f_X7_numberOf σ (nI m) 0 = a.getD 0 0 := fun h => (hN 0 (by decide)).1.trans (h194 0 h)
  have n1 : 1 < a.length → f_X7_numberOf σ (nI m) 1 = a.getD 1 0 := fun h => (hN 1 (by decide)).1.trans (h194 1 h)
  have n2 : 2 < a.length → f_X7_numberOf σ (nI m) 2 = a.getD 2 0 := fun h => (hN 2 (by decide)).1.trans (h194 2 h)
  have n3 : 3 < a.length → f_X7_numberOf σ (nI m) 3 = a.getD 3 0 := fun h => (hN 3 (by decide)).1.trans (h194 3 h)
  have c0 : (0 : Int32).toNatClampNeg = 0 := cl_0
  rcases (show κ = 0 ∨ κ = 1 ∨ κ = 2 ∨ κ = 3 ∨ κ = 4 ∨ κ = 5 by omega) with rfl | rfl | rfl | rfl | rfl | rfl
  · have ha : a.length = 4 := ha
    have h193 : σ.1 193 m = 0 := h193
    have e0 := n0 (by omega)
    have e1 := n1 (by omega)
    have e2 := n2 (by omega)
    have e3 := n3 (by omega)
    generalize hx0 : a.getD 0 0 = x0 at *
    generalize hx1 : a.getD 1 0 = x1 at *
    generalize hx2 : a.getD 2 0 = x2 at *
    generalize hx3 : a.getD 3 0 = x3 at *
    have V := vd_letter hO hI x0 x1 x2 x3
    refine ⟨_, _, _, _, _, _, _, _, _, _, _, V, fun P => dz_letter hI P, ?_, fun o1 o2 => ?_, fun τ hr h22 h207 => ?_⟩
    · unfold f_X9_carryOut f_X9_orderWriting OX
      simp only [bnd_eq]
      rw [hcm, h193, if_pos rfl, e0, e1, e2, e3]
    · unfold ok_X9_carryOut ok_X9_orderWriting
      rw [hcm, h193, e0, e1, e2, e3]
      refine ⟨k0, k1, hvm, fun _ => ⟨k2, k3, o1, ?_⟩, fun q => absurd rfl q⟩
      rw [bndP_eq]
      refine ⟨fun q => ?_, fun _ => trivial⟩
      have := vd_snd V q
      rw [this]
      exact o2 this
    · have r0 := (h207 0 (by omega)).trans hx0
      have r1 := (h207 1 (by omega)).trans hx1
      have r2 := (h207 2 (by omega)).trans hx2
      have r3 := (h207 3 (by omega)).trans hx3
      have h22 : τ.1 196 22 = 0 := h22
      refine ⟨?_, fun q => ?_, fun _ => ⟨?_, fun q => ?_⟩⟩
      · unfold f_X10_notNow
        rw [h22, if_pos rfl, bnd_eq, cl_0, cl_1, cl_2, cl_3, r0, r1, r2, r3]
      · unfold ok_X10_notNow
        rw [h22, cl_0, cl_1, cl_2, cl_3, r0, r1, r2, r3]
        exact ⟨fun _ => q, fun z => absurd rfl z⟩
      · unfold f_X10_doesNow
        rw [h22, if_pos rfl, bnd_eq, cl_0, cl_1, cl_2, cl_3, r0, r1, r2, r3]
      · unfold ok_X10_doesNow
        rw [h22, cl_0, cl_1, cl_2, cl_3, r0, r1, r2, r3]
        exact ⟨fun _ => q, fun z => absurd rfl z⟩
  · have ha : a.length = 2 := ha
    have h193 : σ.1 193 m = 1 := h193
    have e0 := n0 (by omega)
    have e1 := n1 (by omega)
    generalize hx0 : a.getD 0 0 = x0 at *
    generalize hx1 : a.getD 1 0 = x1 at *
    have V := vd_stamp hO hI x0 x1
    refine ⟨_, _, _, _, _, _, _, _, _, _, _, V, fun P => dz_stamp hI P, ?_, fun o1 o2 => ?_, fun τ hr h22 h207 => ?_⟩
    · unfold f_X9_carryOut f_X9_orderStamping OX
      simp only [bnd_eq]
      rw [hcm, h193, if_neg (show ¬ (1 : Int32) = 0 by decide), if_pos rfl, e0, e1]
    · unfold ok_X9_carryOut ok_X9_orderStamping
      rw [hcm, h193, e0, e1]
      refine ⟨k0, k1, hvm, fun z => absurd z (show ¬ (1 : Int32) = 0 by decide), fun _ => ⟨fun _ => ⟨o1, ?_⟩, fun q => absurd rfl q⟩⟩
      rw [bndP_eq]
      refine ⟨fun q => ?_, fun _ => trivial⟩
      have := vd_snd V q
      rw [this]
      exact (o2 this).1
    · have r0 := (h207 0 (by omega)).trans hx0
      have r1 := (h207 1 (by omega)).trans hx1
      have h22 : τ.1 196 22 = 1 := h22
      refine ⟨?_, fun q => ?_, fun _ => ⟨?_, fun q => ?_⟩⟩
      · unfold f_X10_notNow
        rw [h22, if_neg (show ¬ (1 : Int32) = 0 by decide), if_pos rfl, bnd_eq, cl_0, cl_1, r0, r1]
      · unfold ok_X10_notNow
        rw [h22, cl_0, cl_1, r0, r1]
        exact ⟨fun z => absurd z (show ¬ (1 : Int32) = 0 by decide), fun _ => ⟨fun _ => q, fun z => absurd rfl z⟩⟩
      · unfold f_X10_doesNow
        rw [h22, if_neg (show ¬ (1 : Int32) = 0 by decide), if_pos rfl, bnd_eq, cl_0, cl_1, r0, r1]
      · unfold ok_X10_doesNow
        rw [h22, cl_0, cl_1, r0, r1]
        exact ⟨fun z => absurd z (show ¬ (1 : Int32) = 0 by decide), fun _ => ⟨fun _ => q, fun z => absurd rfl z⟩⟩
  · have ha : a.length = 1 := ha
    have h193 : σ.1 193 m = 2 := h193
    have e0 := n0 (by omega)
    generalize hx0 : a.getD 0 0 = x0 at *
    have h20 := hI.n20
    have hit := cl_hasItem hO hI x0
    rcases hasB_cases x0 (n := cnt w) (by omega) with ⟨c1, i, hi, rfl⟩ | c1
    · have hci : (nI i).toNatClampNeg = i := nI_clamp (by omega)
      have hi20 : i < 20 := by omega
      have e1 : σ.1 7 i = it w i 0 := hO.kind hi
      have hvi : vp_in (nI i) 20 := vp_in_nI (by omega) (by decide)
      have V := vd_shelve hO hI (nI i) (it w i 0)
      rw [c1] at hit
      refine ⟨_, _, _, _, _, _, _, _, _, _, _, V, fun P => dz_shelve hI P, ?_, fun o1 o2 => ?_, fun τ hr h22 h207 => ?_⟩
      · unfold f_X9_carryOut f_X9_orderShelving OX
        simp only [bnd_eq]
        rw [hcm, h193, if_neg (show ¬ (2 : Int32) = 0 by decide), if_neg (show ¬ (2 : Int32) = 1 by decide), if_pos rfl, e0, hit, if_pos rfl, hci, e1]
      · unfold ok_X9_carryOut ok_X9_orderShelving
        rw [hcm, h193, e0, hci, e1]
        refine ⟨k0, k1, hvm, fun z => absurd z (show ¬ (2 : Int32) = 0 by decide), fun _ => ⟨fun z => absurd z (show ¬ (2 : Int32) = 1 by decide), fun _ => ⟨fun _ => ⟨fun _ => ⟨hvi, o1, ?_⟩, fun _ => trivial⟩, fun q => absurd rfl q⟩⟩⟩
        rw [bndP_eq]
        refine ⟨fun q => ?_, fun _ => trivial⟩
        have := vd_snd V q
        rw [this]
        exact o2 this
      · have r0 := (h207 0 (by omega)).trans hx0
        have h22 : τ.1 196 22 = 2 := h22
        have hmi := md_isItem hr.1 hI (nI i)
        rw [c1] at hmi
        refine ⟨?_, fun q => ?_, fun _ => ⟨?_, fun q => ?_⟩⟩
        · unfold f_X10_notNow
          rw [h22, if_neg (show ¬ (2 : Int32) = 0 by decide), if_neg (show ¬ (2 : Int32) = 1 by decide), if_pos rfl, cl_0, r0, hmi, if_pos rfl, bnd_eq, mo0 hr.1 hi20]
        · unfold ok_X10_notNow
          rw [h22, cl_0, r0, mo0 hr.1 hi20]
          exact ⟨fun z => absurd z (show ¬ (2 : Int32) = 0 by decide), fun _ => ⟨fun z => absurd z (show ¬ (2 : Int32) = 1 by decide), fun _ => ⟨fun _ => ⟨fun _ => ⟨mk0 hi20, q⟩, fun _ => trivial⟩, fun z => absurd rfl z⟩⟩⟩
        · unfold f_X10_doesNow
          rw [h22, if_neg (show ¬ (2 : Int32) = 0 by decide), if_neg (show ¬ (2 : Int32) = 1 by decide), if_pos rfl, cl_0, r0, bnd_eq, mo0 hr.1 hi20]
        · unfold ok_X10_doesNow
          rw [h22, cl_0, r0, mo0 hr.1 hi20]
          exact ⟨fun z => absurd z (show ¬ (2 : Int32) = 0 by decide), fun _ => ⟨fun z => absurd z (show ¬ (2 : Int32) = 1 by decide), fun _ => ⟨fun _ => ⟨mk0 hi20, q⟩, fun z => absurd rfl z⟩⟩⟩
    · rw [c1] at hit
      refine ⟨(σ, -1), True, (fun τ => (τ, 1)), (fun _ => True), 1, 0, False, (fun q => (q, 0)), (fun _ => True), (fun q => (q, 0)), (fun _ => True), ⟨trivial, fun _ _ => trivial, Or.inr (Or.inl ⟨rfl, by decide, by decide, fun _ _ => rfl⟩)⟩, fun q => q.elim, ?_, fun o1 o2 => ?_, fun τ hr h22 h207 => ?_⟩
      · unfold f_X9_carryOut f_X9_orderShelving OX
        simp only [bnd_eq]
        rw [hcm, h193, if_neg (show ¬ (2 : Int32) = 0 by decide), if_neg (show ¬ (2 : Int32) = 1 by decide), if_pos rfl, e0, hit]
        rfl
      · unfold ok_X9_carryOut ok_X9_orderShelving
        rw [hcm, h193, e0, hit]
        exact ⟨k0, k1, hvm, fun z => absurd z (show ¬ (2 : Int32) = 0 by decide), fun _ => ⟨fun z => absurd z (show ¬ (2 : Int32) = 1 by decide), fun _ => ⟨fun _ => ⟨(fun q => by cases q), fun _ => trivial⟩, fun q => absurd rfl q⟩⟩⟩
      · have r0 := (h207 0 (by omega)).trans hx0
        have h22 : τ.1 196 22 = 2 := h22
        have hmi := md_isItem hr.1 hI x0
        rw [c1] at hmi
        refine ⟨?_, fun q => ?_, fun q => q.elim⟩
        · unfold f_X10_notNow
          rw [h22, if_neg (show ¬ (2 : Int32) = 0 by decide), if_neg (show ¬ (2 : Int32) = 1 by decide), if_pos rfl, cl_0, r0, hmi]
          rfl
        · unfold ok_X10_notNow
          rw [h22, cl_0, r0, hmi]
          exact ⟨fun z => absurd z (show ¬ (2 : Int32) = 0 by decide), fun _ => ⟨fun z => absurd z (show ¬ (2 : Int32) = 1 by decide), fun _ => ⟨fun _ => ⟨(fun q => by cases q), fun _ => trivial⟩, fun z => absurd rfl z⟩⟩⟩
  · have ha : a.length = 1 := ha
    have h193 : σ.1 193 m = 3 := h193
    have e0 := n0 (by omega)
    generalize hx0 : a.getD 0 0 = x0 at *
    have V := vd_take hO hI x0
    refine ⟨_, _, _, _, _, _, _, _, _, _, _, V, fun P => dz_take hI P, ?_, fun o1 o2 => ?_, fun τ hr h22 h207 => ?_⟩
    · unfold f_X9_carryOut f_X9_orderTaking OX
      simp only [bnd_eq]
      rw [hcm, h193, if_neg (show ¬ (3 : Int32) = 0 by decide), if_neg (show ¬ (3 : Int32) = 1 by decide), if_neg (show ¬ (3 : Int32) = 2 by decide), if_pos rfl, e0]
    · unfold ok_X9_carryOut ok_X9_orderTaking
      rw [hcm, h193, e0]
      refine ⟨k0, k1, hvm, fun z => absurd z (show ¬ (3 : Int32) = 0 by decide), fun _ => ⟨fun z => absurd z (show ¬ (3 : Int32) = 1 by decide), fun _ => ⟨fun z => absurd z (show ¬ (3 : Int32) = 2 by decide), fun _ => ⟨fun _ => ⟨o1, ?_⟩, fun q => absurd rfl q⟩⟩⟩⟩
      rw [bndP_eq]
      refine ⟨fun q => ?_, fun _ => trivial⟩
      have := vd_snd V q
      rw [this]
      exact o2 this
    · have r0 := (h207 0 (by omega)).trans hx0
      have h22 : τ.1 196 22 = 3 := h22
      refine ⟨?_, fun q => ?_, fun _ => ⟨?_, fun q => ?_⟩⟩
      · unfold f_X10_notNow
        rw [h22, if_neg (show ¬ (3 : Int32) = 0 by decide), if_neg (show ¬ (3 : Int32) = 1 by decide), if_neg (show ¬ (3 : Int32) = 2 by decide), if_pos rfl, bnd_eq, cl_0, r0]
      · unfold ok_X10_notNow
        rw [h22, cl_0, r0]
        exact ⟨fun z => absurd z (show ¬ (3 : Int32) = 0 by decide), fun _ => ⟨fun z => absurd z (show ¬ (3 : Int32) = 1 by decide), fun _ => ⟨fun z => absurd z (show ¬ (3 : Int32) = 2 by decide), fun _ => ⟨fun _ => q, fun z => absurd rfl z⟩⟩⟩⟩
      · unfold f_X10_doesNow
        rw [h22, if_neg (show ¬ (3 : Int32) = 0 by decide), if_neg (show ¬ (3 : Int32) = 1 by decide), if_neg (show ¬ (3 : Int32) = 2 by decide), if_pos rfl, bnd_eq, cl_0, r0]
      · unfold ok_X10_doesNow
        rw [h22, cl_0, r0]
        exact ⟨fun z => absurd z (show ¬ (3 : Int32) = 0 by decide), fun _ => ⟨fun z => absurd z (show ¬ (3 : Int32) = 1 by decide), fun _ => ⟨fun z => absurd z (show ¬ (3 : Int32) = 2 by decide), fun _ => ⟨fun _ => q, fun z => absurd rfl z⟩⟩⟩⟩
  · have ha : a.length = 1 := ha
    have h193 : σ.1 193 m = 4 := h193
    have e0 := n0 (by omega)
    generalize hx0 : a.getD 0 0 = x0 at *
    have V := vd_feed hO hI x0
    refine ⟨_, _, _, _, _, _, _, _, _, _, _, V, fun P => dz_feed hI P, ?_, fun o1 o2 => ?_, fun τ hr h22 h207 => ?_⟩
    · unfold f_X9_carryOut f_X9_orderFeeding OX
      simp only [bnd_eq]
      rw [hcm, h193, if_neg (show ¬ (4 : Int32) = 0 by decide), if_neg (show ¬ (4 : Int32) = 1 by decide), if_neg (show ¬ (4 : Int32) = 2 by decide), if_neg (show ¬ (4 : Int32) = 3 by decide), if_pos rfl, e0]
    · unfold ok_X9_carryOut ok_X9_orderFeeding
      rw [hcm, h193, e0]
      refine ⟨k0, k1, hvm, fun z => absurd z (show ¬ (4 : Int32) = 0 by decide), fun _ => ⟨fun z => absurd z (show ¬ (4 : Int32) = 1 by decide), fun _ => ⟨fun z => absurd z (show ¬ (4 : Int32) = 2 by decide), fun _ => ⟨fun z => absurd z (show ¬ (4 : Int32) = 3 by decide), fun _ => ⟨fun _ => ?_, fun q => absurd rfl q⟩⟩⟩⟩⟩
      rw [bndP_eq]
      refine ⟨fun q => ?_, fun _ => trivial⟩
      have := vd_snd V q
      rw [this]
      exact (o2 this).1
    · have r0 := (h207 0 (by omega)).trans hx0
      have h22 : τ.1 196 22 = 4 := h22
      refine ⟨?_, fun q => ?_, fun _ => ⟨?_, fun q => ?_⟩⟩
      · unfold f_X10_notNow
        rw [h22, if_neg (show ¬ (4 : Int32) = 0 by decide), if_neg (show ¬ (4 : Int32) = 1 by decide), if_neg (show ¬ (4 : Int32) = 2 by decide), if_neg (show ¬ (4 : Int32) = 3 by decide), if_pos rfl, bnd_eq, cl_0, r0]
      · unfold ok_X10_notNow
        rw [h22]
        exact ⟨fun z => absurd z (show ¬ (4 : Int32) = 0 by decide), fun _ => ⟨fun z => absurd z (show ¬ (4 : Int32) = 1 by decide), fun _ => ⟨fun z => absurd z (show ¬ (4 : Int32) = 2 by decide), fun _ => ⟨fun z => absurd z (show ¬ (4 : Int32) = 3 by decide), fun _ => trivial⟩⟩⟩⟩
      · unfold f_X10_doesNow
        rw [h22, if_neg (show ¬ (4 : Int32) = 0 by decide), if_neg (show ¬ (4 : Int32) = 1 by decide), if_neg (show ¬ (4 : Int32) = 2 by decide), if_neg (show ¬ (4 : Int32) = 3 by decide), if_pos rfl, bnd_eq, cl_0, r0]
      · unfold ok_X10_doesNow
        rw [h22, cl_0, r0]
        exact ⟨fun z => absurd z (show ¬ (4 : Int32) = 0 by decide), fun _ => ⟨fun z => absurd z (show ¬ (4 : Int32) = 1 by decide), fun _ => ⟨fun z => absurd z (show ¬ (4 : Int32) = 2 by decide), fun _ => ⟨fun z => absurd z (show ¬ (4 : Int32) = 3 by decide), fun _ => ⟨fun _ => q, fun z => absurd rfl z⟩⟩⟩⟩⟩
  · have ha : a.length = 1 := ha
    have h193 : σ.1 193 m = 5 := h193
    have e0 := n0 (by omega)
    generalize hx0 : a.getD 0 0 = x0 at *
    have V := vd_pass σ w f x0
    refine ⟨_, _, _, _, _, _, _, _, _, _, _, V, fun P => dz_pass hI P, ?_, fun o1 o2 => ?_, fun τ hr h22 h207 => ?_⟩
    · unfold f_X9_carryOut f_X9_orderPassing OX
      simp only [bnd_eq]
      rw [hcm, h193, if_neg (show ¬ (5 : Int32) = 0 by decide), if_neg (show ¬ (5 : Int32) = 1 by decide), if_neg (show ¬ (5 : Int32) = 2 by decide), if_neg (show ¬ (5 : Int32) = 3 by decide), if_neg (show ¬ (5 : Int32) = 4 by decide), if_pos rfl, e0]
    · unfold ok_X9_carryOut ok_X9_orderPassing
      rw [hcm, h193, e0]
      refine ⟨k0, k1, hvm, fun z => absurd z (show ¬ (5 : Int32) = 0 by decide), fun _ => ⟨fun z => absurd z (show ¬ (5 : Int32) = 1 by decide), fun _ => ⟨fun z => absurd z (show ¬ (5 : Int32) = 2 by decide), fun _ => ⟨fun z => absurd z (show ¬ (5 : Int32) = 3 by decide), fun _ => ⟨fun z => absurd z (show ¬ (5 : Int32) = 4 by decide), fun _ => ⟨fun _ => ⟨fun q => ?_, fun _ => trivial⟩, fun q => absurd rfl q⟩⟩⟩⟩⟩⟩
      have := vd_snd V q
      exact o2 this
    · have r0 := (h207 0 (by omega)).trans hx0
      have h22 : τ.1 196 22 = 5 := h22
      refine ⟨?_, fun q => ?_, fun _ => ⟨?_, fun q => ?_⟩⟩
      · unfold f_X10_notNow
        rw [h22, if_neg (show ¬ (5 : Int32) = 0 by decide), if_neg (show ¬ (5 : Int32) = 1 by decide), if_neg (show ¬ (5 : Int32) = 2 by decide), if_neg (show ¬ (5 : Int32) = 3 by decide), if_neg (show ¬ (5 : Int32) = 4 by decide), cl_0, r0]
      · unfold ok_X10_notNow
        rw [h22]
        exact ⟨fun z => absurd z (show ¬ (5 : Int32) = 0 by decide), fun _ => ⟨fun z => absurd z (show ¬ (5 : Int32) = 1 by decide), fun _ => ⟨fun z => absurd z (show ¬ (5 : Int32) = 2 by decide), fun _ => ⟨fun z => absurd z (show ¬ (5 : Int32) = 3 by decide), fun _ => trivial⟩⟩⟩⟩
      · unfold f_X10_doesNow
        rw [h22, if_neg (show ¬ (5 : Int32) = 0 by decide), if_neg (show ¬ (5 : Int32) = 1 by decide), if_neg (show ¬ (5 : Int32) = 2 by decide), if_neg (show ¬ (5 : Int32) = 3 by decide), if_neg (show ¬ (5 : Int32) = 4 by decide), bnd_eq, cl_0, r0]
      · unfold ok_X10_doesNow
        rw [h22, cl_0, r0]
        exact ⟨fun z => absurd z (show ¬ (5 : Int32) = 0 by decide), fun _ => ⟨fun z => absurd z (show ¬ (5 : Int32) = 1 by decide), fun _ => ⟨fun z => absurd z (show ¬ (5 : Int32) = 2 by decide), fun _ => ⟨fun z => absurd z (show ¬ (5 : Int32) = 3 by decide), fun _ => ⟨fun z => absurd z (show ¬ (5 : Int32) = 4 by decide), fun _ => q⟩⟩⟩⟩⟩
end ORDS
