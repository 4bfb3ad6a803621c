/-! the reference reads the line -/
section READ
variable {inp : Nat → Int32} {n : Nat}
theorem sPs_t {c : Int32} {cs : List Int32} {p p' : Nat} {l l' : List Int32} (h : sP inp n c p l = (true, p', l')) : sPs inp n (c :: cs) p l = sPs inp n cs p' l' := by
  rw [sPs, h]; rfl
theorem sPs_f {c : Int32} {cs : List Int32} {p p' : Nat} {l l' : List Int32} (h : sP inp n c p l = (false, p', l')) : sPs inp n (c :: cs) p l = (false, p', l') := by
  rw [sPs, h]; rfl
theorem sO_of {p p' κ : Nat} {b : Bool} {l : List Int32} (hp : p < n) (hk : kd (inp p) = κ) (h6 : ¬ κ = 6) (hs : sPs inp n (prt κ) (p + 1) [] = (b, p', l)) : sO inp n p = (b, p', κ, l) := by
  unfold sO
  rw [if_pos hp, hk, if_neg h6, hs]
def MO (τ : St) (inp : Nat → Int32) (n p : Nat) : Prop := τ.1 196 18 = nI n ∧ τ.1 196 19 = nI p ∧ ∀ k, k < n → τ.1 206 k = inp k
def MS (τ : St) (inp : Nat → Int32) (n p : Nat) (l : List Int32) : Prop := MO τ inp n p ∧ ∀ j, j < l.length → τ.1 207 j = l.getD j 0
def MP (τ τ' : St) : Prop := (∀ j, ¬ j = 196 → ¬ j = 207 → τ'.1 j = τ.1 j) ∧ τ'.2 = τ.2 ∧ ∀ k, ¬ k = 19 → τ'.1 196 k = τ.1 196 k
def MF (τ τ' : St) : Prop := (∀ j, ¬ j = 196 → ¬ j = 207 → τ'.1 j = τ.1 j) ∧ τ'.2 = τ.2 ∧ ∀ k, ¬ k = 19 → ¬ k = 22 → τ'.1 196 k = τ.1 196 k
theorem MP.rf {τ : St} : MP τ τ := ⟨fun _ _ _ => rfl, rfl, fun _ _ => rfl⟩
theorem MP.tr {τ τ1 τ2 : St} (h1 : MP τ τ1) (h2 : MP τ1 τ2) : MP τ τ2 := ⟨fun j a b => (h2.1 j a b).trans (h1.1 j a b), h2.2.1.trans h1.2.1, fun k a => (h2.2.2 k a).trans (h1.2.2 k a)⟩
theorem MF.rf {τ : St} : MF τ τ := ⟨fun _ _ _ => rfl, rfl, fun _ _ _ => rfl⟩
theorem MF.tr {τ τ1 τ2 : St} (h1 : MF τ τ1) (h2 : MF τ1 τ2) : MF τ τ2 := ⟨fun j a b => (h2.1 j a b).trans (h1.1 j a b), h2.2.1.trans h1.2.1, fun k a b => (h2.2.2 k a b).trans (h1.2.2 k a b)⟩
theorem MP.mf {τ τ' : St} (h : MP τ τ') : MF τ τ' := ⟨h.1, h.2.1, fun k a _ => h.2.2 k a⟩
theorem md_next {τ : St} {p : Nat} (h : MO τ inp n p) (hn : n ≤ 60) (hp : p ≤ n) : ok_X10_next τ ∧ f_X10_next τ = if p < n then inp p else -1 := by
  obtain ⟨h1, h2, h3⟩ := h
  unfold ok_X10_next f_X10_next
  rw [h1, h2, nI_clamp (by omega)]
  rcases Nat.lt_or_ge p n with q | q
  · have hlt : ¬ nI n ≤ nI p := nI_ge q (by omega)
    rw [if_neg hlt, if_pos q, h3 p q]
    exact ⟨⟨fun _ => trivial, fun _ => vp_in_nI (by omega) (by decide)⟩, rfl⟩
  · have hle : nI n ≤ nI p := nI_le q (by omega)
    rw [if_pos hle, if_neg (by omega)]
    exact ⟨⟨fun _ => trivial, fun z => absurd hle z⟩, rfl⟩
theorem md_isD {τ : St} {p : Nat} (h : MO τ inp n p) (hn : n ≤ 60) (hp : p ≤ n) : f_X10_isBetween (f_X10_next τ) 48 57 = isD inp n p := by
  rw [(md_next h hn hp).2]
  unfold isD
  split
  · rfl
  · decide
def mvM (τ : St) (p : Nat) : St := setI τ 196 19 (nI p)
theorem mvM_ok {τ : St} {p p' : Nat} (h : MO τ inp n p) : MO (mvM τ p') inp n p' ∧ MP τ (mvM τ p') := by
  obtain ⟨h1, h2, h3⟩ := h
  unfold mvM
  refine ⟨⟨?_, ?_, ?_⟩, ?_, ?_, ?_⟩
  · rw [q1e rfl, un (by decide)]; exact h1
  · rw [q1e rfl, ue rfl]
  · intro k hk; rw [q1n (by decide)]; exact h3 k hk
  · intro j a b; rw [q1n a]
  · rfl
  · intro k a; rw [q1e rfl, un a]
def wrM (τ : St) (len : Nat) (v : Int32) : St := setI τ 207 len v
theorem wrM_ok {τ : St} {p : Nat} {l : List Int32} (v : Int32) (h : MS τ inp n p l) : MS (wrM τ l.length v) inp n p (l ++ [v]) ∧ MP τ (wrM τ l.length v) := by
  obtain ⟨⟨h1, h2, h3⟩, h4⟩ := h
  unfold wrM
  refine ⟨⟨⟨?_, ?_, ?_⟩, ?_⟩, ?_, ?_, ?_⟩
  · rw [q1n (by decide)]; exact h1
  · rw [q1n (by decide)]; exact h2
  · intro k hk; rw [q1n (by decide)]; exact h3 k hk
  · intro j hj
    rw [List.length_append] at hj
    rw [q1e rfl]
    by_cases e : j = l.length
    · subst e
      rw [ue rfl]
      simp [List.getD]
    · have hjl : j < l.length := by have : j < l.length + 1 := hj; omega
      rw [un e, h4 j hjl]
      simp [List.getD, List.getElem?_append_left hjl]
  · intro j a b; rw [q1n b]
  · rfl
  · intro k a; rw [q1n (by decide)]
theorem md_digit {τ : St} {p : Nat} {l : List Int32} (h : MS τ inp n p l) (hn : n ≤ 60) (hp : p ≤ n) (hl : l.length < 4) :
    ok_X10_readsDigit τ (nI l.length) ∧ ((p + 1 ≤ n ∧ isD inp n p = true ∧ f_X10_readsDigit τ (nI l.length) = (mvM (wrM τ l.length (inp p - 48)) (p + 1), true) ∧ MS (mvM (wrM τ l.length (inp p - 48)) (p + 1)) inp n (p + 1) (l ++ [inp p - 48]) ∧ MP τ (mvM (wrM τ l.length (inp p - 48)) (p + 1))) ∨ (isD inp n p = false ∧ f_X10_readsDigit τ (nI l.length) = (τ, false))) := by
  have hd := md_isD h.1 hn hp
  have e19 : τ.1 196 19 = nI p := h.1.2.1
  have hc : (nI p).toNatClampNeg = p := nI_clamp (by omega)
  have hcl : (nI l.length).toNatClampNeg = l.length := nI_clamp (by omega)
  unfold ok_X10_readsDigit f_X10_readsDigit
  rw [hd, e19, hc, hcl]
  cases hb : isD inp n p with
  | true =>
    have pn := (isD_lt hb).1
    obtain ⟨a1, a2⟩ := wrM_ok (inp p - 48) h
    obtain ⟨b1, b2⟩ := mvM_ok (p' := p + 1) a1.1
    have e2 : (wrM τ l.length (inp p - 48)).1 196 19 = nI p := a1.1.2.1
    refine ⟨⟨(md_next h.1 hn hp).1, fun _ => ⟨vp_in_nI (by omega) (by decide), vp_in_nI hl (by decide)⟩, (fun q => by cases q)⟩, Or.inl ⟨pn, rfl, ?_, ⟨b1, fun j hj => ?_⟩, a2.tr b2⟩⟩
    · rw [if_pos rfl, bnd_eq, bnd_eq, h.1.2.2 p pn]
      show (setI (wrM τ l.length (inp p - 48)) 196 19 ((wrM τ l.length (inp p - 48)).1 196 19 + 1), true) = _
      rw [e2, nI_1]
      rfl
    · rw [show (mvM (wrM τ l.length (inp p - 48)) (p + 1)).1 207 = (wrM τ l.length (inp p - 48)).1 207 from q1n (by decide)]
      exact a1.2 j hj
  | false => exact ⟨⟨(md_next h.1 hn hp).1, (fun q => by cases q), fun _ => trivial⟩, Or.inr ⟨rfl, rfl⟩⟩
theorem MS.cut {τ : St} {p : Nat} {l : List Int32} {v : Int32} (h : MS τ inp n p (l ++ [v])) : MS τ inp n p l ∧ τ.1 207 l.length = v := by
  refine ⟨⟨h.1, fun j hj => ?_⟩, ?_⟩
  · have := h.2 j (by rw [List.length_append]; omega)
    rw [this]
    simp [List.getD, List.getElem?_append_left hj]
  · have := h.2 l.length (by rw [List.length_append]; exact Nat.lt_succ_self _)
    rw [this]
    simp [List.getD]
theorem md_part_d {τ : St} {p : Nat} {l : List Int32} (h : MS τ inp n p l) (hn : n ≤ 60) (hp : p ≤ n) (hl : l.length < 4) :
    ok_X10_readsDigit τ (nI l.length) ∧ ((∃ τ' p' v, p' ≤ n ∧ sP inp n 100 p l = (true, p', l ++ [v]) ∧ f_X10_readsDigit τ (nI l.length) = (τ', true) ∧ MS τ' inp n p' (l ++ [v]) ∧ MP τ τ') ∨ (sP inp n 100 p l = (false, p, l) ∧ f_X10_readsDigit τ (nI l.length) = (τ, false))) := by
  obtain ⟨a, b⟩ := md_digit h hn hp hl
  refine ⟨a, ?_⟩
  have e : sP inp n 100 p l = sD inp n p l := if_pos rfl
  rw [e]
  unfold sD
  rcases b with ⟨b0, b1, b2, b3, b4⟩ | ⟨b1, b2⟩
  · exact Or.inl ⟨_, p + 1, inp p - 48, b0, by rw [b1, if_pos rfl], b2, b3, b4⟩
  · exact Or.inr ⟨by rw [b1]; rfl, b2⟩
theorem md_part_n {τ : St} {p : Nat} {l : List Int32} (h : MS τ inp n p l) (hn : n ≤ 60) (hp : p ≤ n) (hl : l.length < 4) :
    ok_X10_readsNumber τ (nI l.length) ∧ ((∃ τ' p' v, p' ≤ n ∧ sP inp n 110 p l = (true, p', l ++ [v]) ∧ f_X10_readsNumber τ (nI l.length) = (τ', true) ∧ MS τ' inp n p' (l ++ [v]) ∧ MP τ τ') ∨ (sP inp n 110 p l = (false, p, l) ∧ f_X10_readsNumber τ (nI l.length) = (τ, false))) := by
  obtain ⟨a, b⟩ := md_digit h hn hp hl
  have e : sP inp n 110 p l = sN inp n p l := (if_neg (by decide)).trans (if_pos rfl)
  have hcl : (nI l.length).toNatClampNeg = l.length := nI_clamp (by omega)
  have hv : vp_in (nI l.length) 4 := vp_in_nI hl (by decide)
  rw [e]
  unfold ok_X10_readsNumber f_X10_readsNumber sN
  simp only [bnd_eq, bndP_eq]
  rcases b with ⟨b0, b1, b2, b3, b4⟩ | ⟨b1, b2⟩
  · rw [b2, b1]
    obtain ⟨k1, k2⟩ := b3.cut
    obtain ⟨c, d⟩ := md_digit k1 hn b0 hl
    generalize mvM (wrM τ l.length (inp p - 48)) (p + 1) = τ1 at *
    simp only [if_true]
    rcases d with ⟨d0, d1, d2, d3, d4⟩ | ⟨d1, d2⟩
    · obtain ⟨g1, g2⟩ := d3.cut
      generalize mvM (wrM τ1 l.length (inp (p + 1) - 48)) (p + 1 + 1) = τ2 at *
      rw [d2, d1, hcl, k2]
      simp only [if_true]
      rw [g2]
      have ev : (inp (p + 1) - 48) + 10 * (inp p - 48) = (inp p - 48) * 10 + (inp (p + 1) - 48) := by rw [Int32.add_comm, Int32.mul_comm]
      rw [ev]
      obtain ⟨y1, y2⟩ := wrM_ok ((inp p - 48) * 10 + (inp (p + 1) - 48)) g1
      exact ⟨⟨a, fun _ => ⟨hv, c, fun _ => ⟨hv, hv⟩, (fun q => by cases q)⟩, (fun q => by cases q)⟩, Or.inl ⟨_, p + 2, _, d0, rfl, rfl, y1, (b4.tr d4).tr y2⟩⟩
    · rw [d2, d1]
      exact ⟨⟨a, fun _ => ⟨hv, c, (fun q => by cases q), fun _ => trivial⟩, (fun q => by cases q)⟩, Or.inl ⟨τ1, p + 1, _, b0, rfl, rfl, b3, b4⟩⟩
  · rw [b2, b1]
    exact ⟨⟨a, (fun q => by cases q), fun _ => trivial⟩, Or.inr ⟨rfl, rfl⟩⟩
theorem md_signM {τ : St} {p : Nat} {c : Int32} (hc : ¬ c = -1) (h : MO τ inp n p) (hn : n ≤ 60) (hp : p ≤ n) : ok_X10_passesSign τ c ∧ ((p + 1 ≤ n ∧ isS inp n c p = true ∧ f_X10_passesSign τ c = (mvM τ (p + 1), true) ∧ MO (mvM τ (p + 1)) inp n (p + 1) ∧ MP τ (mvM τ (p + 1))) ∨ (isS inp n c p = false ∧ f_X10_passesSign τ c = (τ, false))) := by
  have hx := md_next h hn hp
  have e19 : τ.1 196 19 = nI p := h.2.1
  refine ⟨hx.1, ?_⟩
  unfold f_X10_passesSign isS
  rw [hx.2, e19, nI_1]
  rcases Nat.lt_or_ge p n with q | q
  · rw [if_pos q, if_pos q]
    by_cases e : inp p = c
    · obtain ⟨a, b⟩ := mvM_ok (p' := p + 1) h
      exact Or.inl ⟨q, decide_eq_true e, by rw [if_pos e]; rfl, a, b⟩
    · exact Or.inr ⟨decide_eq_false e, if_neg e⟩
  · rw [if_neg (show ¬ p < n by omega), if_neg (show ¬ p < n by omega)]
    exact Or.inr ⟨rfl, if_neg (fun z => hc z.symm)⟩
theorem md_part_s {τ : St} {p : Nat} {l : List Int32} {c : Int32} (h1 : ¬ c = 100) (h2 : ¬ c = 110) (hc : ¬ c = -1) (h : MS τ inp n p l) (hn : n ≤ 60) (hp : p ≤ n) :
    ok_X10_passesSign τ c ∧ ((∃ τ' p', p' ≤ n ∧ sP inp n c p l = (true, p', l) ∧ f_X10_passesSign τ c = (τ', true) ∧ MS τ' inp n p' l ∧ MP τ τ') ∨ (sP inp n c p l = (false, p, l) ∧ f_X10_passesSign τ c = (τ, false))) := by
  obtain ⟨a, b⟩ := md_signM hc h.1 hn hp
  refine ⟨a, ?_⟩
  have e : sP inp n c p l = sS inp n c p l := (if_neg h1).trans (if_neg h2)
  rw [e]
  unfold sS
  rcases b with ⟨b0, b1, b2, b3, b4⟩ | ⟨b1, b2⟩
  · exact Or.inl ⟨_, p + 1, b0, by rw [b1, if_pos rfl], b2, ⟨b3, fun j hj => by rw [show (mvM τ (p + 1)).1 207 = τ.1 207 from q1n (by decide)]; exact h.2 j hj⟩, b4⟩
  · exact Or.inr ⟨by rw [b1]; rfl, b2⟩
theorem md_sort {τ : St} {p : Nat} {c k : Int32} (hc : ¬ c = -1) (h : MO τ inp n p) (hn : n ≤ 60) (hp : p ≤ n) : ok_X10_isSort τ c k ∧ (isS inp n c p = true → f_X10_isSort τ c k = (setI (mvM τ (p + 1)) 196 22 k, true)) ∧ (isS inp n c p = false → f_X10_isSort τ c k = (τ, false)) := by
  obtain ⟨a, b⟩ := md_signM hc h hn hp
  refine ⟨a, fun q => ?_, fun q => ?_⟩
  · rcases b with ⟨-, -, b2, -⟩ | ⟨b1, -⟩
    · unfold f_X10_isSort
      rw [b2, bnd_eq, if_pos rfl, bnd_eq]
    · rw [q] at b1; cases b1
  · rcases b with ⟨-, b1, -⟩ | ⟨-, b2⟩
    · rw [q] at b1; cases b1
    · unfold f_X10_isSort
      rw [b2, bnd_eq]
      rfl
theorem sort_ok {τ : St} {p : Nat} {k : Int32} (h : MO τ inp n p) : MS (setI (mvM τ (p + 1)) 196 22 k) inp n (p + 1) [] ∧ MF τ (setI (mvM τ (p + 1)) 196 22 k) ∧ (setI (mvM τ (p + 1)) 196 22 k).1 196 22 = k := by
  obtain ⟨⟨h1, h2, h3⟩, g1, g2, g3⟩ := mvM_ok (p' := p + 1) h
  refine ⟨⟨⟨?_, ?_, ?_⟩, fun j hj => absurd hj (Nat.not_lt_zero j)⟩, ⟨?_, ?_, ?_⟩, ?_⟩
  · rw [q1e rfl, un (by decide)]; exact h1
  · rw [q1e rfl, un (by decide)]; exact h2
  · intro k hk; rw [q1n (by decide)]; exact h3 k hk
  · intro j a b; rw [q1n a]; exact g1 j a b
  · exact g2
  · intro k a b; rw [q1e rfl, un b]; exact g3 k a
  · rw [q1e rfl, ue rfl]
theorem kd_of {x : Int32} : (kd x = 0 ∧ x = 119) ∨ (kd x = 1 ∧ x = 115) ∨ (kd x = 2 ∧ x = 104) ∨ (kd x = 3 ∧ x = 116) ∨ (kd x = 4 ∧ x = 102) ∨ (kd x = 5 ∧ x = 112) ∨ (kd x = 6 ∧ ¬ x = 119 ∧ ¬ x = 115 ∧ ¬ x = 104 ∧ ¬ x = 116 ∧ ¬ x = 102 ∧ ¬ x = 112) := by
  unfold kd
  by_cases e0 : x = 119
  · exact Or.inl ⟨if_pos e0, e0⟩
  by_cases e1 : x = 115
  · exact Or.inr (Or.inl ⟨by rw [if_neg e0, if_pos e1], e1⟩)
  by_cases e2 : x = 104
  · exact Or.inr (Or.inr (Or.inl ⟨by rw [if_neg e0, if_neg e1, if_pos e2], e2⟩))
  by_cases e3 : x = 116
  · exact Or.inr (Or.inr (Or.inr (Or.inl ⟨by rw [if_neg e0, if_neg e1, if_neg e2, if_pos e3], e3⟩)))
  by_cases e4 : x = 102
  · exact Or.inr (Or.inr (Or.inr (Or.inr (Or.inl ⟨by rw [if_neg e0, if_neg e1, if_neg e2, if_neg e3, if_pos e4], e4⟩))))
  by_cases e5 : x = 112
  · exact Or.inr (Or.inr (Or.inr (Or.inr (Or.inr (Or.inl ⟨by rw [if_neg e0, if_neg e1, if_neg e2, if_neg e3, if_neg e4, if_pos e5], e5⟩)))))
  exact Or.inr (Or.inr (Or.inr (Or.inr (Or.inr (Or.inr ⟨by rw [if_neg e0, if_neg e1, if_neg e2, if_neg e3, if_neg e4, if_neg e5], e0, e1, e2, e3, e4, e5⟩)))))
theorem isS_of {c : Int32} {p : Nat} (hp : p < n) : isS inp n c p = decide (inp p = c) := by unfold isS; rw [if_pos hp]
abbrev Rd (τ : St) (inp : Nat → Int32) (n p : Nat) (r : Bool × Nat × Nat × List Int32) : Prop := ok_X10_readsOrder τ ∧ ∃ τ', f_X10_readsOrder τ = (τ', r.1) ∧ MO τ' inp n r.2.1 ∧ MF τ τ' ∧ (r.1 = true → τ'.1 196 22 = nI r.2.2.1 ∧ ∀ j, j < r.2.2.2.length → τ'.1 207 j = r.2.2.2.getD j 0)
theorem md_order_2 {τ : St} {p : Nat} (h : MO τ inp n p) (hn : n ≤ 60) (hp : p < n) (hk : kd (inp p) = 2) (hx : inp p = 104) : Rd τ inp n p (sO inp n p) := by
  have hle : p ≤ n := Nat.le_of_lt hp
  have t0 := md_sort (inp := inp) (k := 0) (show ¬ (119 : Int32) = -1 by decide) h hn hle
  have i0 := t0.2.2 (by rw [isS_of hp, hx]; decide)
  have t1 := md_sort (inp := inp) (k := 1) (show ¬ (115 : Int32) = -1 by decide) h hn hle
  have i1 := t1.2.2 (by rw [isS_of hp, hx]; decide)
  have t2 := md_sort (inp := inp) (k := 2) (show ¬ (104 : Int32) = -1 by decide) h hn hle
  have i2 := t2.2.1 (by rw [isS_of hp, hx]; decide)
  obtain ⟨s0, f0, g0⟩ := sort_ok (k := 2) h
  generalize setI (mvM τ (p + 1)) 196 22 2 = τ0 at *
  obtain ⟨o1, z1⟩ := md_part_n s0 hn hp (show ([] : List Int32).length < 4 by simp)
  have o1 : ok_X10_readsNumber τ0 0 := o1
  rcases z1 with ⟨τ1, p1, v1, b1, c1, e1, s1, f1⟩ | ⟨c1, e1⟩
  rotate_left
  · have e1 : f_X10_readsNumber τ0 0 = (τ0, false) := e1
    have hs : sPs inp n (prt 2) (p + 1) [] = (false, (p + 1), []) := by
      show sPs inp n [110] (p + 1) [] = _
      rw [sPs_f c1]
    rw [sO_of hp hk (by decide) hs]
    have fz : MP τ0 τ0 := MP.rf
    exact ⟨by simp [ok_X10_readsOrder, bndP_eq, i0, i1, i2, e1, t0.1, t1.1, t2.1, o1], τ0, by simp [f_X10_readsOrder, bnd_eq, i0, i1, i2, e1], s0.1, f0.tr fz.mf, (fun q => by cases q)⟩
  have e1 : f_X10_readsNumber τ0 0 = (τ1, true) := e1
  have s1 : MS τ1 inp n p1 [v1] := s1
  have c1 : sP inp n 110 (p + 1) [] = (true, p1, [v1]) := c1
  have hs : sPs inp n (prt 2) (p + 1) [] = (true, p1, [v1]) := by
    show sPs inp n [110] (p + 1) [] = _
    rw [sPs_t c1]; rfl
  rw [sO_of hp hk (by decide) hs]
  have fz : MP τ0 τ1 := (MP.rf.tr f1)
  exact ⟨by simp [ok_X10_readsOrder, bndP_eq, i0, i1, i2, e1, t0.1, t1.1, t2.1, o1], τ1, by simp [f_X10_readsOrder, bnd_eq, i0, i1, i2, e1], s1.1, f0.tr fz.mf, fun _ => ⟨by rw [fz.2.2 22 (by decide)] <;> exact g0, s1.2⟩⟩
theorem md_order_3 {τ : St} {p : Nat} (h : MO τ inp n p) (hn : n ≤ 60) (hp : p < n) (hk : kd (inp p) = 3) (hx : inp p = 116) : Rd τ inp n p (sO inp n p) := by
  have hle : p ≤ n := Nat.le_of_lt hp
  have t0 := md_sort (inp := inp) (k := 0) (show ¬ (119 : Int32) = -1 by decide) h hn hle
  have i0 := t0.2.2 (by rw [isS_of hp, hx]; decide)
  have t1 := md_sort (inp := inp) (k := 1) (show ¬ (115 : Int32) = -1 by decide) h hn hle
  have i1 := t1.2.2 (by rw [isS_of hp, hx]; decide)
  have t2 := md_sort (inp := inp) (k := 2) (show ¬ (104 : Int32) = -1 by decide) h hn hle
  have i2 := t2.2.2 (by rw [isS_of hp, hx]; decide)
  have t3 := md_sort (inp := inp) (k := 5) (show ¬ (112 : Int32) = -1 by decide) h hn hle
  have i3 := t3.2.2 (by rw [isS_of hp, hx]; decide)
  have t4 := md_sort (inp := inp) (k := 3) (show ¬ (116 : Int32) = -1 by decide) h hn hle
  have i4 := t4.2.1 (by rw [isS_of hp, hx]; decide)
  obtain ⟨s0, f0, g0⟩ := sort_ok (k := 3) h
  generalize setI (mvM τ (p + 1)) 196 22 3 = τ0 at *
  obtain ⟨o1, z1⟩ := md_part_d s0 hn hp (show ([] : List Int32).length < 4 by simp)
  have o1 : ok_X10_readsDigit τ0 0 := o1
  rcases z1 with ⟨τ1, p1, v1, b1, c1, e1, s1, f1⟩ | ⟨c1, e1⟩
  rotate_left
  · have e1 : f_X10_readsDigit τ0 0 = (τ0, false) := e1
    have hs : sPs inp n (prt 3) (p + 1) [] = (false, (p + 1), []) := by
      show sPs inp n [100] (p + 1) [] = _
      rw [sPs_f c1]
    rw [sO_of hp hk (by decide) hs]
    have fz : MP τ0 τ0 := MP.rf
    exact ⟨by simp [ok_X10_readsOrder, bndP_eq, i0, i1, i2, i3, i4, e1, t0.1, t1.1, t2.1, t3.1, t4.1, o1], τ0, by simp [f_X10_readsOrder, bnd_eq, i0, i1, i2, i3, i4, e1], s0.1, f0.tr fz.mf, (fun q => by cases q)⟩
  have e1 : f_X10_readsDigit τ0 0 = (τ1, true) := e1
  have s1 : MS τ1 inp n p1 [v1] := s1
  have c1 : sP inp n 100 (p + 1) [] = (true, p1, [v1]) := c1
  have hs : sPs inp n (prt 3) (p + 1) [] = (true, p1, [v1]) := by
    show sPs inp n [100] (p + 1) [] = _
    rw [sPs_t c1]; rfl
  rw [sO_of hp hk (by decide) hs]
  have fz : MP τ0 τ1 := (MP.rf.tr f1)
  exact ⟨by simp [ok_X10_readsOrder, bndP_eq, i0, i1, i2, i3, i4, e1, t0.1, t1.1, t2.1, t3.1, t4.1, o1], τ1, by simp [f_X10_readsOrder, bnd_eq, i0, i1, i2, i3, i4, e1], s1.1, f0.tr fz.mf, fun _ => ⟨by rw [fz.2.2 22 (by decide)] <;> exact g0, s1.2⟩⟩
theorem md_order_4 {τ : St} {p : Nat} (h : MO τ inp n p) (hn : n ≤ 60) (hp : p < n) (hk : kd (inp p) = 4) (hx : inp p = 102) : Rd τ inp n p (sO inp n p) := by
  have hle : p ≤ n := Nat.le_of_lt hp
  have t0 := md_sort (inp := inp) (k := 0) (show ¬ (119 : Int32) = -1 by decide) h hn hle
  have i0 := t0.2.2 (by rw [isS_of hp, hx]; decide)
  have t1 := md_sort (inp := inp) (k := 1) (show ¬ (115 : Int32) = -1 by decide) h hn hle
  have i1 := t1.2.2 (by rw [isS_of hp, hx]; decide)
  have t2 := md_sort (inp := inp) (k := 2) (show ¬ (104 : Int32) = -1 by decide) h hn hle
  have i2 := t2.2.2 (by rw [isS_of hp, hx]; decide)
  have t3 := md_sort (inp := inp) (k := 5) (show ¬ (112 : Int32) = -1 by decide) h hn hle
  have i3 := t3.2.2 (by rw [isS_of hp, hx]; decide)
  have t4 := md_sort (inp := inp) (k := 3) (show ¬ (116 : Int32) = -1 by decide) h hn hle
  have i4 := t4.2.2 (by rw [isS_of hp, hx]; decide)
  have t5 := md_sort (inp := inp) (k := 4) (show ¬ (102 : Int32) = -1 by decide) h hn hle
  have i5 := t5.2.1 (by rw [isS_of hp, hx]; decide)
  obtain ⟨s0, f0, g0⟩ := sort_ok (k := 4) h
  generalize setI (mvM τ (p + 1)) 196 22 4 = τ0 at *
  obtain ⟨o1, z1⟩ := md_part_d s0 hn hp (show ([] : List Int32).length < 4 by simp)
  have o1 : ok_X10_readsDigit τ0 0 := o1
  rcases z1 with ⟨τ1, p1, v1, b1, c1, e1, s1, f1⟩ | ⟨c1, e1⟩
  rotate_left
  · have e1 : f_X10_readsDigit τ0 0 = (τ0, false) := e1
    have hs : sPs inp n (prt 4) (p + 1) [] = (false, (p + 1), []) := by
      show sPs inp n [100] (p + 1) [] = _
      rw [sPs_f c1]
    rw [sO_of hp hk (by decide) hs]
    have fz : MP τ0 τ0 := MP.rf
    exact ⟨by simp [ok_X10_readsOrder, bndP_eq, i0, i1, i2, i3, i4, i5, e1, t0.1, t1.1, t2.1, t3.1, t4.1, t5.1, o1], τ0, by simp [f_X10_readsOrder, bnd_eq, i0, i1, i2, i3, i4, i5, e1], s0.1, f0.tr fz.mf, (fun q => by cases q)⟩
  have e1 : f_X10_readsDigit τ0 0 = (τ1, true) := e1
  have s1 : MS τ1 inp n p1 [v1] := s1
  have c1 : sP inp n 100 (p + 1) [] = (true, p1, [v1]) := c1
  have hs : sPs inp n (prt 4) (p + 1) [] = (true, p1, [v1]) := by
    show sPs inp n [100] (p + 1) [] = _
    rw [sPs_t c1]; rfl
  rw [sO_of hp hk (by decide) hs]
  have fz : MP τ0 τ1 := (MP.rf.tr f1)
  exact ⟨by simp [ok_X10_readsOrder, bndP_eq, i0, i1, i2, i3, i4, i5, e1, t0.1, t1.1, t2.1, t3.1, t4.1, t5.1, o1], τ1, by simp [f_X10_readsOrder, bnd_eq, i0, i1, i2, i3, i4, i5, e1], s1.1, f0.tr fz.mf, fun _ => ⟨by rw [fz.2.2 22 (by decide)] <;> exact g0, s1.2⟩⟩
theorem md_order_5 {τ : St} {p : Nat} (h : MO τ inp n p) (hn : n ≤ 60) (hp : p < n) (hk : kd (inp p) = 5) (hx : inp p = 112) : Rd τ inp n p (sO inp n p) := by
  have hle : p ≤ n := Nat.le_of_lt hp
  have t0 := md_sort (inp := inp) (k := 0) (show ¬ (119 : Int32) = -1 by decide) h hn hle
  have i0 := t0.2.2 (by rw [isS_of hp, hx]; decide)
  have t1 := md_sort (inp := inp) (k := 1) (show ¬ (115 : Int32) = -1 by decide) h hn hle
  have i1 := t1.2.2 (by rw [isS_of hp, hx]; decide)
  have t2 := md_sort (inp := inp) (k := 2) (show ¬ (104 : Int32) = -1 by decide) h hn hle
  have i2 := t2.2.2 (by rw [isS_of hp, hx]; decide)
  have t3 := md_sort (inp := inp) (k := 5) (show ¬ (112 : Int32) = -1 by decide) h hn hle
  have i3 := t3.2.1 (by rw [isS_of hp, hx]; decide)
  obtain ⟨s0, f0, g0⟩ := sort_ok (k := 5) h
  generalize setI (mvM τ (p + 1)) 196 22 5 = τ0 at *
  obtain ⟨o1, z1⟩ := md_part_n s0 hn hp (show ([] : List Int32).length < 4 by simp)
  have o1 : ok_X10_readsNumber τ0 0 := o1
  rcases z1 with ⟨τ1, p1, v1, b1, c1, e1, s1, f1⟩ | ⟨c1, e1⟩
  rotate_left
  · have e1 : f_X10_readsNumber τ0 0 = (τ0, false) := e1
    have hs : sPs inp n (prt 5) (p + 1) [] = (false, (p + 1), []) := by
      show sPs inp n [110] (p + 1) [] = _
      rw [sPs_f c1]
    rw [sO_of hp hk (by decide) hs]
    have fz : MP τ0 τ0 := MP.rf
    exact ⟨by simp [ok_X10_readsOrder, bndP_eq, i0, i1, i2, i3, e1, t0.1, t1.1, t2.1, t3.1, o1], τ0, by simp [f_X10_readsOrder, bnd_eq, i0, i1, i2, i3, e1], s0.1, f0.tr fz.mf, (fun q => by cases q)⟩
  have e1 : f_X10_readsNumber τ0 0 = (τ1, true) := e1
  have s1 : MS τ1 inp n p1 [v1] := s1
  have c1 : sP inp n 110 (p + 1) [] = (true, p1, [v1]) := c1
  have hs : sPs inp n (prt 5) (p + 1) [] = (true, p1, [v1]) := by
    show sPs inp n [110] (p + 1) [] = _
    rw [sPs_t c1]; rfl
  rw [sO_of hp hk (by decide) hs]
  have fz : MP τ0 τ1 := (MP.rf.tr f1)
  exact ⟨by simp [ok_X10_readsOrder, bndP_eq, i0, i1, i2, i3, e1, t0.1, t1.1, t2.1, t3.1, o1], τ1, by simp [f_X10_readsOrder, bnd_eq, i0, i1, i2, i3, e1], s1.1, f0.tr fz.mf, fun _ => ⟨by rw [fz.2.2 22 (by decide)] <;> exact g0, s1.2⟩⟩
theorem md_order_1 {τ : St} {p : Nat} (h : MO τ inp n p) (hn : n ≤ 60) (hp : p < n) (hk : kd (inp p) = 1) (hx : inp p = 115) : Rd τ inp n p (sO inp n p) := by
  have hle : p ≤ n := Nat.le_of_lt hp
  have t0 := md_sort (inp := inp) (k := 0) (show ¬ (119 : Int32) = -1 by decide) h hn hle
  have i0 := t0.2.2 (by rw [isS_of hp, hx]; decide)
  have t1 := md_sort (inp := inp) (k := 1) (show ¬ (115 : Int32) = -1 by decide) h hn hle
  have i1 := t1.2.1 (by rw [isS_of hp, hx]; decide)
  obtain ⟨s0, f0, g0⟩ := sort_ok (k := 1) h
  generalize setI (mvM τ (p + 1)) 196 22 1 = τ0 at *
  obtain ⟨o1, z1⟩ := md_part_n s0 hn hp (show ([] : List Int32).length < 4 by simp)
  have o1 : ok_X10_readsNumber τ0 0 := o1
  rcases z1 with ⟨τ1, p1, v1, b1, c1, e1, s1, f1⟩ | ⟨c1, e1⟩
  rotate_left
  · have e1 : f_X10_readsNumber τ0 0 = (τ0, false) := e1
    have hs : sPs inp n (prt 1) (p + 1) [] = (false, (p + 1), []) := by
      show sPs inp n [110, 64, 100] (p + 1) [] = _
      rw [sPs_f c1]
    rw [sO_of hp hk (by decide) hs]
    have fz : MP τ0 τ0 := MP.rf
    exact ⟨by simp [ok_X10_readsOrder, bndP_eq, i0, i1, e1, t0.1, t1.1, o1], τ0, by simp [f_X10_readsOrder, bnd_eq, i0, i1, e1], s0.1, f0.tr fz.mf, (fun q => by cases q)⟩
  have e1 : f_X10_readsNumber τ0 0 = (τ1, true) := e1
  have s1 : MS τ1 inp n p1 [v1] := s1
  have c1 : sP inp n 110 (p + 1) [] = (true, p1, [v1]) := c1
  obtain ⟨o2, z2⟩ := md_part_s (c := 64) (by decide) (by decide) (by decide) s1 hn b1
  rcases z2 with ⟨τ2, p2, b2, c2, e2, s2, f2⟩ | ⟨c2, e2⟩
  rotate_left
  · have hs : sPs inp n (prt 1) (p + 1) [] = (false, p1, [v1]) := by
      show sPs inp n [110, 64, 100] (p + 1) [] = _
      rw [sPs_t c1, sPs_f c2]
    rw [sO_of hp hk (by decide) hs]
    have fz : MP τ0 τ1 := (MP.rf.tr f1)
    exact ⟨by simp [ok_X10_readsOrder, bndP_eq, i0, i1, e1, e2, t0.1, t1.1, o1, o2], τ1, by simp [f_X10_readsOrder, bnd_eq, i0, i1, e1, e2], s1.1, f0.tr fz.mf, (fun q => by cases q)⟩
  obtain ⟨o3, z3⟩ := md_part_d s2 hn b2 (show ([v1] : List Int32).length < 4 by simp)
  have o3 : ok_X10_readsDigit τ2 1 := o3
  rcases z3 with ⟨τ3, p3, v3, b3, c3, e3, s3, f3⟩ | ⟨c3, e3⟩
  rotate_left
  · have e3 : f_X10_readsDigit τ2 1 = (τ2, false) := e3
    have hs : sPs inp n (prt 1) (p + 1) [] = (false, p2, [v1]) := by
      show sPs inp n [110, 64, 100] (p + 1) [] = _
      rw [sPs_t c1, sPs_t c2, sPs_f c3]
    rw [sO_of hp hk (by decide) hs]
    have fz : MP τ0 τ2 := ((MP.rf.tr f1).tr f2)
    exact ⟨by simp [ok_X10_readsOrder, bndP_eq, i0, i1, e1, e2, e3, t0.1, t1.1, o1, o2, o3], τ2, by simp [f_X10_readsOrder, bnd_eq, i0, i1, e1, e2, e3], s2.1, f0.tr fz.mf, (fun q => by cases q)⟩
  have e3 : f_X10_readsDigit τ2 1 = (τ3, true) := e3
  have s3 : MS τ3 inp n p3 [v1, v3] := s3
  have c3 : sP inp n 100 p2 [v1] = (true, p3, [v1, v3]) := c3
  have hs : sPs inp n (prt 1) (p + 1) [] = (true, p3, [v1, v3]) := by
    show sPs inp n [110, 64, 100] (p + 1) [] = _
    rw [sPs_t c1, sPs_t c2, sPs_t c3]; rfl
  rw [sO_of hp hk (by decide) hs]
  have fz : MP τ0 τ3 := (((MP.rf.tr f1).tr f2).tr f3)
  exact ⟨by simp [ok_X10_readsOrder, bndP_eq, i0, i1, e1, e2, e3, t0.1, t1.1, o1, o2, o3], τ3, by simp [f_X10_readsOrder, bnd_eq, i0, i1, e1, e2, e3], s3.1, f0.tr fz.mf, fun _ => ⟨by rw [fz.2.2 22 (by decide)] <;> exact g0, s3.2⟩⟩
theorem md_order_0 {τ : St} {p : Nat} (h : MO τ inp n p) (hn : n ≤ 60) (hp : p < n) (hk : kd (inp p) = 0) (hx : inp p = 119) : Rd τ inp n p (sO inp n p) := by
  have hle : p ≤ n := Nat.le_of_lt hp
  have t0 := md_sort (inp := inp) (k := 0) (show ¬ (119 : Int32) = -1 by decide) h hn hle
  have i0 := t0.2.1 (by rw [isS_of hp, hx]; decide)
  obtain ⟨s0, f0, g0⟩ := sort_ok (k := 0) h
  generalize setI (mvM τ (p + 1)) 196 22 0 = τ0 at *
  obtain ⟨o1, z1⟩ := md_part_d s0 hn hp (show ([] : List Int32).length < 4 by simp)
  have o1 : ok_X10_readsDigit τ0 0 := o1
  rcases z1 with ⟨τ1, p1, v1, b1, c1, e1, s1, f1⟩ | ⟨c1, e1⟩
  rotate_left
  · have e1 : f_X10_readsDigit τ0 0 = (τ0, false) := e1
    have hs : sPs inp n (prt 0) (p + 1) [] = (false, (p + 1), []) := by
      show sPs inp n [100, 62, 100, 42, 110, 47, 100] (p + 1) [] = _
      rw [sPs_f c1]
    rw [sO_of hp hk (by decide) hs]
    have fz : MP τ0 τ0 := MP.rf
    exact ⟨by simp [ok_X10_readsOrder, bndP_eq, i0, e1, t0.1, o1], τ0, by simp [f_X10_readsOrder, bnd_eq, i0, e1], s0.1, f0.tr fz.mf, (fun q => by cases q)⟩
  have e1 : f_X10_readsDigit τ0 0 = (τ1, true) := e1
  have s1 : MS τ1 inp n p1 [v1] := s1
  have c1 : sP inp n 100 (p + 1) [] = (true, p1, [v1]) := c1
  obtain ⟨o2, z2⟩ := md_part_s (c := 62) (by decide) (by decide) (by decide) s1 hn b1
  rcases z2 with ⟨τ2, p2, b2, c2, e2, s2, f2⟩ | ⟨c2, e2⟩
  rotate_left
  · have hs : sPs inp n (prt 0) (p + 1) [] = (false, p1, [v1]) := by
      show sPs inp n [100, 62, 100, 42, 110, 47, 100] (p + 1) [] = _
      rw [sPs_t c1, sPs_f c2]
    rw [sO_of hp hk (by decide) hs]
    have fz : MP τ0 τ1 := (MP.rf.tr f1)
    exact ⟨by simp [ok_X10_readsOrder, bndP_eq, i0, e1, e2, t0.1, o1, o2], τ1, by simp [f_X10_readsOrder, bnd_eq, i0, e1, e2], s1.1, f0.tr fz.mf, (fun q => by cases q)⟩
  obtain ⟨o3, z3⟩ := md_part_d s2 hn b2 (show ([v1] : List Int32).length < 4 by simp)
  have o3 : ok_X10_readsDigit τ2 1 := o3
  rcases z3 with ⟨τ3, p3, v3, b3, c3, e3, s3, f3⟩ | ⟨c3, e3⟩
  rotate_left
  · have e3 : f_X10_readsDigit τ2 1 = (τ2, false) := e3
    have hs : sPs inp n (prt 0) (p + 1) [] = (false, p2, [v1]) := by
      show sPs inp n [100, 62, 100, 42, 110, 47, 100] (p + 1) [] = _
      rw [sPs_t c1, sPs_t c2, sPs_f c3]
    rw [sO_of hp hk (by decide) hs]
    have fz : MP τ0 τ2 := ((MP.rf.tr f1).tr f2)
    exact ⟨by simp [ok_X10_readsOrder, bndP_eq, i0, e1, e2, e3, t0.1, o1, o2, o3], τ2, by simp [f_X10_readsOrder, bnd_eq, i0, e1, e2, e3], s2.1, f0.tr fz.mf, (fun q => by cases q)⟩
  have e3 : f_X10_readsDigit τ2 1 = (τ3, true) := e3
  have s3 : MS τ3 inp n p3 [v1, v3] := s3
  have c3 : sP inp n 100 p2 [v1] = (true, p3, [v1, v3]) := c3
  obtain ⟨o4, z4⟩ := md_part_s (c := 42) (by decide) (by decide) (by decide) s3 hn b3
  rcases z4 with ⟨τ4, p4, b4, c4, e4, s4, f4⟩ | ⟨c4, e4⟩
  rotate_left
  · have hs : sPs inp n (prt 0) (p + 1) [] = (false, p3, [v1, v3]) := by
      show sPs inp n [100, 62, 100, 42, 110, 47, 100] (p + 1) [] = _
      rw [sPs_t c1, sPs_t c2, sPs_t c3, sPs_f c4]
    rw [sO_of hp hk (by decide) hs]
    have fz : MP τ0 τ3 := (((MP.rf.tr f1).tr f2).tr f3)
    exact ⟨by simp [ok_X10_readsOrder, bndP_eq, i0, e1, e2, e3, e4, t0.1, o1, o2, o3, o4], τ3, by simp [f_X10_readsOrder, bnd_eq, i0, e1, e2, e3, e4], s3.1, f0.tr fz.mf, (fun q => by cases q)⟩
  obtain ⟨o5, z5⟩ := md_part_n s4 hn b4 (show ([v1, v3] : List Int32).length < 4 by simp)
  have o5 : ok_X10_readsNumber τ4 2 := o5
  rcases z5 with ⟨τ5, p5, v5, b5, c5, e5, s5, f5⟩ | ⟨c5, e5⟩
  rotate_left
  · have e5 : f_X10_readsNumber τ4 2 = (τ4, false) := e5
    have hs : sPs inp n (prt 0) (p + 1) [] = (false, p4, [v1, v3]) := by
      show sPs inp n [100, 62, 100, 42, 110, 47, 100] (p + 1) [] = _
      rw [sPs_t c1, sPs_t c2, sPs_t c3, sPs_t c4, sPs_f c5]
    rw [sO_of hp hk (by decide) hs]
    have fz : MP τ0 τ4 := ((((MP.rf.tr f1).tr f2).tr f3).tr f4)
    exact ⟨by simp [ok_X10_readsOrder, bndP_eq, i0, e1, e2, e3, e4, e5, t0.1, o1, o2, o3, o4, o5], τ4, by simp [f_X10_readsOrder, bnd_eq, i0, e1, e2, e3, e4, e5], s4.1, f0.tr fz.mf, (fun q => by cases q)⟩
  have e5 : f_X10_readsNumber τ4 2 = (τ5, true) := e5
  have s5 : MS τ5 inp n p5 [v1, v3, v5] := s5
  have c5 : sP inp n 110 p4 [v1, v3] = (true, p5, [v1, v3, v5]) := c5
  obtain ⟨o6, z6⟩ := md_part_s (c := 47) (by decide) (by decide) (by decide) s5 hn b5
  rcases z6 with ⟨τ6, p6, b6, c6, e6, s6, f6⟩ | ⟨c6, e6⟩
  rotate_left
  · have hs : sPs inp n (prt 0) (p + 1) [] = (false, p5, [v1, v3, v5]) := by
      show sPs inp n [100, 62, 100, 42, 110, 47, 100] (p + 1) [] = _
      rw [sPs_t c1, sPs_t c2, sPs_t c3, sPs_t c4, sPs_t c5, sPs_f c6]
    rw [sO_of hp hk (by decide) hs]
    have fz : MP τ0 τ5 := (((((MP.rf.tr f1).tr f2).tr f3).tr f4).tr f5)
    exact ⟨by simp [ok_X10_readsOrder, bndP_eq, i0, e1, e2, e3, e4, e5, e6, t0.1, o1, o2, o3, o4, o5, o6], τ5, by simp [f_X10_readsOrder, bnd_eq, i0, e1, e2, e3, e4, e5, e6], s5.1, f0.tr fz.mf, (fun q => by cases q)⟩
  obtain ⟨o7, z7⟩ := md_part_d s6 hn b6 (show ([v1, v3, v5] : List Int32).length < 4 by simp)
  have o7 : ok_X10_readsDigit τ6 3 := o7
  rcases z7 with ⟨τ7, p7, v7, b7, c7, e7, s7, f7⟩ | ⟨c7, e7⟩
  rotate_left
  · have e7 : f_X10_readsDigit τ6 3 = (τ6, false) := e7
    have hs : sPs inp n (prt 0) (p + 1) [] = (false, p6, [v1, v3, v5]) := by
      show sPs inp n [100, 62, 100, 42, 110, 47, 100] (p + 1) [] = _
      rw [sPs_t c1, sPs_t c2, sPs_t c3, sPs_t c4, sPs_t c5, sPs_t c6, sPs_f c7]
    rw [sO_of hp hk (by decide) hs]
    have fz : MP τ0 τ6 := ((((((MP.rf.tr f1).tr f2).tr f3).tr f4).tr f5).tr f6)
    exact ⟨by simp [ok_X10_readsOrder, bndP_eq, i0, e1, e2, e3, e4, e5, e6, e7, t0.1, o1, o2, o3, o4, o5, o6, o7], τ6, by simp [f_X10_readsOrder, bnd_eq, i0, e1, e2, e3, e4, e5, e6, e7], s6.1, f0.tr fz.mf, (fun q => by cases q)⟩
  have e7 : f_X10_readsDigit τ6 3 = (τ7, true) := e7
  have s7 : MS τ7 inp n p7 [v1, v3, v5, v7] := s7
  have c7 : sP inp n 100 p6 [v1, v3, v5] = (true, p7, [v1, v3, v5, v7]) := c7
  have hs : sPs inp n (prt 0) (p + 1) [] = (true, p7, [v1, v3, v5, v7]) := by
    show sPs inp n [100, 62, 100, 42, 110, 47, 100] (p + 1) [] = _
    rw [sPs_t c1, sPs_t c2, sPs_t c3, sPs_t c4, sPs_t c5, sPs_t c6, sPs_t c7]; rfl
  rw [sO_of hp hk (by decide) hs]
  have fz : MP τ0 τ7 := (((((((MP.rf.tr f1).tr f2).tr f3).tr f4).tr f5).tr f6).tr f7)
  exact ⟨by simp [ok_X10_readsOrder, bndP_eq, i0, e1, e2, e3, e4, e5, e6, e7, t0.1, o1, o2, o3, o4, o5, o6, o7], τ7, by simp [f_X10_readsOrder, bnd_eq, i0, e1, e2, e3, e4, e5, e6, e7], s7.1, f0.tr fz.mf, fun _ => ⟨by rw [fz.2.2 22 (by decide)] <;> exact g0, s7.2⟩⟩
end READ
