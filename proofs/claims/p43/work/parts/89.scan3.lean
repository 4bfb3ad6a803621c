/-! .. orders and lines -/
section SCAN3
variable {inp : Nat → Int32} {n : Nat}
theorem cl_kind (x : Int32) : ok_X7_kindOf x ∧ f_X7_kindOf x = if kd x = 6 then -1 else nI (kd x) := by
  have h0 : chS 8 (nI 0) = 119 := by decide
  have h1 : chS 8 (nI 1) = 115 := by decide
  have h2 : chS 8 (nI 2) = 104 := by decide
  have h3 : chS 8 (nI 3) = 116 := by decide
  have h4 : chS 8 (nI 4) = 102 := by decide
  have h5 : chS 8 (nI 5) = 112 := by decide
  have hl : lenV 8 = nI 6 := by decide
  have key := fd_run (n := 6) (fun fu k => fX7_kindOf_L2 fu x k) (fun fu k => okX7_kindOf_L2 fu x k) (fun i => decide (chS 8 (nI i) = x)) id
    (fun fu => by simp [okX7_kindOf_L2, fX7_kindOf_L2, hl])
    (fun fu k hk => by
      have hlt : ¬ nI 6 ≤ nI k := nI_ge hk (by decide)
      have hv : vp_in (nI k) (lenS.getD 8 0) := vp_in_nI hk (by decide)
      by_cases e : chS 8 (nI k) = x
      · simp [okX7_kindOf_L2, fX7_kindOf_L2, hl, hlt, e, nI_1]; exact hv
      · simp [okX7_kindOf_L2, fX7_kindOf_L2, hl, hlt, e, nI_1]; exact fun h => ⟨hv, h⟩)
    6 2000 0 (by decide) rfl
  refine ⟨key.1, key.2.trans ?_⟩
  show fd (fun i => decide (chS 8 (nI i) = x)) 6 0 = _
  simp only [fd, h0, h1, h2, h3, h4, h5, Nat.zero_add, Nat.reduceAdd]
  unfold kd
  by_cases e0 : x = 119
  · subst e0; rfl
  by_cases e1 : x = 115
  · subst e1; rfl
  by_cases e2 : x = 104
  · subst e2; rfl
  by_cases e3 : x = 116
  · subst e3; rfl
  by_cases e4 : x = 102
  · subst e4; rfl
  by_cases e5 : x = 112
  · subst e5; rfl
  have z0 : ¬ (119 : Int32) = x := fun z => e0 z.symm
  have z1 : ¬ (115 : Int32) = x := fun z => e1 z.symm
  have z2 : ¬ (104 : Int32) = x := fun z => e2 z.symm
  have z3 : ¬ (116 : Int32) = x := fun z => e3 z.symm
  have z4 : ¬ (102 : Int32) = x := fun z => e4 z.symm
  have z5 : ¬ (112 : Int32) = x := fun z => e5 z.symm
  simp [e0, e1, e2, e3, e4, e5, z0, z1, z2, z3, z4, z5]
theorem prt_ok {κ : Nat} (h : κ < 6) : f_X7_partsOf (nI κ) < 19 ∧ lenV (f_X7_partsOf (nI κ)) = nI (prt κ).length ∧ lenS.getD (f_X7_partsOf (nI κ)) 0 = (prt κ).length ∧ (∀ j, j < (prt κ).length → chS (f_X7_partsOf (nI κ)) (nI j) = (prt κ).getD j 0) ∧ (prt κ).length < 60 ∧ nn (prt κ) ≤ 4 := by
  rcases (show κ = 0 ∨ κ = 1 ∨ κ = 2 ∨ κ = 3 ∨ κ = 4 ∨ κ = 5 by omega) with rfl | rfl | rfl | rfl | rfl | rfl <;> decide
theorem sP_cnt {c : Int32} {p : Nat} {l : List Int32} : (sP inp n c p l).2.2.length ≤ l.length + (if c = 100 ∨ c = 110 then 1 else 0) := by
  unfold sP
  by_cases e1 : c = 100
  · rw [if_pos e1, if_pos (Or.inl e1)]
    unfold sD
    split
    · show (l ++ [_]).length ≤ _; rw [List.length_append]; exact Nat.le_refl _
    · show l.length ≤ _; omega
  · by_cases e2 : c = 110
    · rw [if_neg e1, if_pos e2, if_pos (Or.inr e2)]
      unfold sN
      split
      · split
        · show (l ++ [_]).length ≤ _; rw [List.length_append]; exact Nat.le_refl _
        · show (l ++ [_]).length ≤ _; rw [List.length_append]; exact Nat.le_refl _
      · show l.length ≤ _; omega
    · have e3 : ¬ (c = 100 ∨ c = 110) := by simp [e1, e2]
      rw [if_neg e1, if_neg e2, if_neg e3]
      unfold sS
      split
      · exact Nat.le_refl _
      · exact Nat.le_refl _
theorem sPs_cnt : ∀ (cs : List Int32) (p : Nat) (l : List Int32), (sPs inp n cs p l).2.2.length ≤ l.length + nn cs := by
  intro cs
  induction cs with
  | nil => intro p l; exact Nat.le_refl _
  | cons c cs ih =>
    intro p l
    have h1 := sP_cnt (inp := inp) (n := n) (c := c) (p := p) (l := l)
    unfold sPs nn
    split
    · have h2 := ih (sP inp n c p l).2.1 (sP inp n c p l).2.2
      omega
    · show (sP inp n c p l).2.2.length ≤ _
      omega
theorem sO_cnt {p : Nat} (h : (sO inp n p).1 = true) : (sO inp n p).2.2.2.length ≤ 4 := by
  revert h
  unfold sO
  split
  · split
    · intro q; cases q
    · rename_i k
      intro _
      have := kd_le (inp p)
      have h2 := (prt_ok (κ := kd (inp p)) (by omega)).2.2.2.2.2
      have h3 := sPs_cnt (inp := inp) (n := n) (prt (kd (inp p))) (p + 1) []
      show (sPs inp n (prt (kd (inp p))) (p + 1) []).2.2.length ≤ 4
      have h4 : ([] : List Int32).length = 0 := rfl
      omega
  · intro q; cases q
def CO (σ : St) (inp : Nat → Int32) (n p m : Nat) : Prop := σ.1 191 3 = nI n ∧ σ.1 191 6 = nI p ∧ σ.1 191 4 = nI m ∧ ∀ k, k < n → σ.1 192 k = inp k
def CF (m : Nat) (σ σ' : St) : Prop := (∀ j, ¬ j = 191 → ¬ j = 193 → ¬ j = 194 → σ'.1 j = σ.1 j) ∧ σ'.2 = σ.2 ∧ (∀ k, k < 4 * m → σ'.1 194 k = σ.1 194 k) ∧ ∀ k, k < m → σ'.1 193 k = σ.1 193 k
theorem CF.rf {m : Nat} {σ : St} : CF m σ σ := ⟨fun _ _ _ _ => rfl, rfl, fun _ _ => rfl, fun _ _ => rfl⟩
theorem CF.tr {m m' : Nat} {σ σ1 σ2 : St} (h1 : CF m σ σ1) (h2 : CF m' σ1 σ2) (hm : m ≤ m') : CF m σ σ2 :=
  ⟨fun j a b c => (h2.1 j a b c).trans (h1.1 j a b c), h2.2.1.trans h1.2.1, fun k a => (h2.2.2.1 k (by omega)).trans (h1.2.2.1 k a), fun k a => (h2.2.2.2 k (by omega)).trans (h1.2.2.2 k a)⟩
theorem PF.cf {m : Nat} {σ σ' : St} (h : PF m σ σ') : CF m σ σ' := ⟨fun j a _ b => h.1 j a b, h.2.1, fun k a => h.2.2.2 k a, fun k _ => by rw [h.1 193 (by decide) (by decide)]⟩
theorem cl_order {σ : St} {p m : Nat} (h : CO σ inp n p m) (hn : n ≤ 60) (hp : p ≤ n) (hm : m ≤ 20) :
    ok_X7_scanOrder σ ∧ ∃ σ', f_X7_scanOrder σ = (σ', (sO inp n p).1) ∧ CO σ' inp n (sO inp n p).2.1 m ∧ CF m σ σ' ∧ ((sO inp n p).1 = true → σ'.1 193 m = nI (sO inp n p).2.2.1 ∧ ∀ j, j < (sO inp n p).2.2.2.length → σ'.1 194 (4 * m + j) = (sO inp n p).2.2.2.getD j 0) := by
  obtain ⟨h1, h2, h3, h4⟩ := id h
  have hc : (nI p).toNatClampNeg = p := nI_clamp (by omega)
  unfold ok_X7_scanOrder f_X7_scanOrder sO
  rw [h1, h2, hc]
  rcases Nat.lt_or_ge p n with q | q
  · have hlt : ¬ nI n ≤ nI p := nI_ge q (by omega)
    have hv : vp_in (nI p) 60 := vp_in_nI (by omega) (by decide)
    obtain ⟨k1, k2⟩ := cl_kind (inp p)
    rw [if_neg hlt, if_pos q, h4 p q, k2]
    by_cases hk : kd (inp p) = 6
    · rw [if_pos hk, if_pos rfl, if_pos hk]
      exact ⟨⟨fun z => absurd z hlt, fun _ => ⟨hv, k1, fun _ => trivial, fun z => absurd rfl z⟩⟩, σ, rfl, h, CF.rf, fun z => by cases z⟩
    · have hle := kd_le (inp p)
      generalize hκ : kd (inp p) = κ at hk hle
      have hκ6 : κ < 6 := by omega
      have hm1 : ¬ nI κ = -1 := nI_m1 (by omega)
      obtain ⟨g1, g2, g3, g4, g5, g6⟩ := prt_ok hκ6
      rw [if_neg hk, if_neg hm1, if_neg hk, nI_1]
      have e4 : (setI σ 191 6 (nI (p + 1))).1 191 4 = nI m := by rw [q1e rfl, un (by decide)]; exact h3
      have hcm : (nI m).toNatClampNeg = m := nI_clamp (by omega)
      simp only [bnd_eq, bndP_eq]
      rw [e4, hcm]
      obtain ⟨σ0, hσ0⟩ : ∃ z, z = setI (setI (setI σ 191 6 (nI (p + 1))) 193 m (nI κ)) 191 7 0 := ⟨_, rfl⟩
      rw [← hσ0]
      have c0 : CS σ0 inp n (p + 1) m [] := by
        rw [hσ0]
        refine ⟨?_, ?_, ?_, ?_, ?_, fun j hj => absurd hj (Nat.not_lt_zero j)⟩
        · rw [q1e rfl, un (by decide), q1n (by decide), q1e rfl, un (by decide)]; exact h1
        · rw [q1e rfl, un (by decide), q1n (by decide), q1e rfl, ue rfl]
        · rw [q1e rfl, un (by decide), q1n (by decide)]; exact e4
        · rw [q1e rfl, ue rfl]; rfl
        · intro k hk; rw [q1n (by decide), q1n (by decide), q1n (by decide)]; exact h4 k hk
      have f0 : CF m σ σ0 := by
        rw [hσ0]
        refine ⟨fun j a b c => by rw [q1n a, q1n b, q1n a], rfl, fun k a => by rw [q1n (by decide), q1n (by decide), q1n (by decide)], fun k a => ?_⟩
        rw [q1n (by decide), q1e rfl, un (by omega), q1n (by decide)]
      have e193 : σ0.1 193 m = nI κ := by rw [hσ0, q1n (by decide), q1e rfl, ue rfl]
      obtain ⟨d1, σ1, d2, d3, d4⟩ := cl_parts (inp := inp) (n := n) (x1 := nI κ) g1 g2 g3 g4 g5 hn hm (prt κ) [] 2000 (p + 1) [] σ0 rfl (by omega) (by simpa using g6) c0 q
      exact ⟨⟨fun z => absurd z hlt, fun _ => ⟨hv, k1, fun z => absurd z hm1, fun _ => ⟨vp_in_nI (by omega) (by decide), d1⟩⟩⟩, σ1, d2, ⟨d3.1, d3.2.1, d3.2.2.1, d3.2.2.2.2.1⟩, f0.tr d4.cf (Nat.le_refl m), fun _ => ⟨by rw [d4.1 193 (by decide) (by decide)]; exact e193, d3.2.2.2.2.2⟩⟩
  · have hle : nI n ≤ nI p := nI_le q (by omega)
    rw [if_pos hle, if_neg (show ¬ p < n by omega)]
    exact ⟨⟨fun _ => trivial, fun z => absurd hle z⟩, σ, rfl, h, CF.rf, fun z => by cases z⟩
theorem cl_signO {σ : St} {p m : Nat} (c : Int32) (h : CO σ inp n p m) (hn : n ≤ 60) (hp : p ≤ n) :
    ok_X7_scanSign σ c ∧ ∃ σ', f_X7_scanSign σ c = (σ', isS inp n c p) ∧ CO σ' inp n (if isS inp n c p = true then p + 1 else p) m ∧ CF m σ σ' := by
  obtain ⟨h1, h2, h3, h4⟩ := id h
  have hc : (nI p).toNatClampNeg = p := nI_clamp (by omega)
  unfold ok_X7_scanSign f_X7_scanSign isS
  rw [h1, h2, hc]
  rcases Nat.lt_or_ge p n with q | q
  · have hlt : ¬ nI n ≤ nI p := nI_ge q (by omega)
    have hv : vp_in (nI p) 60 := vp_in_nI (by omega) (by decide)
    rw [if_neg hlt, if_pos q, h4 p q, nI_1]
    by_cases e : inp p = c
    · rw [if_pos e, decide_eq_true e, if_pos rfl, bnd_eq]
      refine ⟨⟨fun z => absurd z hlt, fun _ => hv⟩, _, rfl, ⟨?_, ?_, ?_, ?_⟩, ?_, ?_, ?_, ?_⟩
      · rw [q1e rfl, un (by decide)]; exact h1
      · rw [q1e rfl, ue rfl]
      · rw [q1e rfl, un (by decide)]; exact h3
      · intro k hk; rw [q1n (by decide)]; exact h4 k hk
      · intro j a _ _; rw [q1n a]
      · rfl
      · intro k a; rw [q1n (by decide)]
      · intro k a; rw [q1n (by decide)]
    · rw [if_neg e, decide_eq_false e, if_neg (by decide)]
      exact ⟨⟨fun z => absurd z hlt, fun _ => hv⟩, σ, rfl, h, CF.rf⟩
  · have hle : nI n ≤ nI p := nI_le q (by omega)
    rw [if_pos hle, if_neg (show ¬ p < n by omega), if_neg (by decide)]
    exact ⟨⟨fun _ => trivial, fun z => absurd hle z⟩, σ, rfl, h, CF.rf⟩
def Tb (σ : St) (m : Nat) (l : List (Nat × List Int32)) : Prop := ∀ i κ a, l[i]? = some (κ, a) → σ.1 193 (m + i) = nI κ ∧ ∀ j, j < a.length → σ.1 194 (4 * (m + i) + j) = a.getD j 0
theorem cl_orders (hn : n ≤ 60) : ∀ (fu fu' p m : Nat) (σ : St), n - p < fu → fu ≤ fu' → CO σ inp n p m → 3 * m ≤ p → p ≤ n →
    okX7_scanOrders_L0 fu' σ ∧ ∃ σ', fX7_scanOrders_L0 fu' σ = (σ', (sA inp n fu p).1) ∧ σ'.1 191 3 = nI n ∧ σ'.1 191 6 = nI (sA inp n fu p).2.1 ∧ CF m σ σ' ∧ ((sA inp n fu p).1 = true → σ'.1 191 4 = nI (m + (sA inp n fu p).2.2.length) ∧ Tb σ' m (sA inp n fu p).2.2) := by
  intro fu
  induction fu with
  | zero => intro fu' p m σ h; omega
  | succ fu ih =>
    intro fu' p m σ hf hf' h h3m hp
    obtain ⟨fu', rfl⟩ : ∃ z, fu' = z + 1 := ⟨fu' - 1, by omega⟩
    have hm : m ≤ 20 := by omega
    have h21 : ¬ (21 : Int32) ≤ σ.1 191 4 := by rw [h.2.2.1]; exact nI_ge (b := 21) (by omega) (by decide)
    obtain ⟨a1, σ1, a2, a3, a4, a5⟩ := cl_order h hn hp hm
    obtain ⟨l1, l2, l3⟩ := sO_len (inp := inp) hp
    have lc := sO_cnt (inp := inp) (n := n) (p := p)
    rw [okX7_scanOrders_L0, fX7_scanOrders_L0, if_neg h21]
    simp only [bnd_eq, bndP_eq]
    rw [a2]
    unfold sA
    cases hb : (sO inp n p).1 with
    | false =>
      simp only [if_neg (show ¬ (false = true) by decide)]
      exact ⟨⟨fun z => absurd z h21, fun _ => ⟨a1, (fun q => by cases q), fun _ => trivial⟩⟩, σ1, rfl, a3.1, a3.2.1, a4, (fun q => by cases q)⟩
    | true =>
      obtain ⟨t1, t2⟩ := a5 hb
      obtain ⟨l4, l5⟩ := l3 hb
      have lc' := lc hb
      generalize hr : sO inp n p = r at *
      obtain ⟨rb, p1, κ, a⟩ := r
      dsimp only at *
      have e4 : σ1.1 191 4 = nI m := a3.2.2.1
      rw [e4, nI_1]
      obtain ⟨σ2, hσ2⟩ : ∃ z, z = setI σ1 191 4 (nI (m + 1)) := ⟨_, rfl⟩
      rw [← hσ2]
      have o2 : CO σ2 inp n p1 (m + 1) := by
        rw [hσ2]
        refine ⟨?_, ?_, ?_, ?_⟩
        · rw [q1e rfl, un (by decide)]; exact a3.1
        · rw [q1e rfl, un (by decide)]; exact a3.2.1
        · rw [q1e rfl, ue rfl]
        · intro k hk; rw [q1n (by decide)]; exact a3.2.2.2 k hk
      have f2 : CF m σ σ2 := by
        refine a4.tr (m' := m) ?_ (Nat.le_refl _)
        rw [hσ2]
        exact ⟨fun j x _ _ => q1n x, rfl, fun k x => by rw [q1n (by decide)], fun k x => by rw [q1n (by decide)]⟩
      have u1 : σ2.1 193 m = nI κ := by rw [hσ2, q1n (by decide)]; exact t1
      have u2 : ∀ j, j < a.length → σ2.1 194 (4 * m + j) = a.getD j 0 := fun j hj => by rw [hσ2, q1n (by decide)]; exact t2 j hj
      simp only [if_true]
      rw [o2.1, o2.2.1]
      by_cases e : p1 = n
      · rw [if_pos (by rw [e]), if_pos e]
        refine ⟨⟨fun z => absurd z h21, fun _ => ⟨a1, fun _ => ⟨fun _ => trivial, fun z => absurd (by rw [e]) z⟩, (fun q => by cases q)⟩⟩, σ2, rfl, o2.1, by rw [o2.2.1, e], f2, fun _ => ⟨o2.2.2.1, fun i κ' a' hi => ?_⟩⟩
        cases i with
        | zero =>
          obtain ⟨rfl, rfl⟩ := Prod.mk.inj (Option.some.inj hi)
          exact ⟨u1, u2⟩
        | succ i => simp at hi
      · have e' : ¬ nI p1 = nI n := fun z => e (nI_inj (by omega) (by omega) z)
        obtain ⟨b1, σ3, b2, b3, b4⟩ := cl_signO 59 o2 hn l1
        rw [if_neg e', if_neg e, b2]
        dsimp only
        cases hs : isS inp n 59 p1 with
        | false =>
          rw [hs, if_neg (by decide)] at b3
          simp only [if_neg (show ¬ (false = true) by decide)]
          exact ⟨⟨fun z => absurd z h21, fun _ => ⟨a1, fun _ => ⟨fun z => absurd z e', fun _ => ⟨b1, (fun q => by cases q), fun _ => trivial⟩⟩, (fun q => by cases q)⟩⟩, σ3, rfl, b3.1, b3.2.1, f2.tr b4 (by omega), (fun q => by cases q)⟩
        | true =>
          rw [hs, if_pos rfl] at b3
          have hpn := (isS_lt hs).1
          simp only [if_true]
          obtain ⟨c1, σ4, c2, c3, c4, c5, c6⟩ := ih fu' (p1 + 1) (m + 1) σ3 (by omega) (by omega) b3 (by omega) (by omega)
          refine ⟨⟨fun z => absurd z h21, fun _ => ⟨a1, fun _ => ⟨fun z => absurd z e', fun _ => ⟨b1, fun _ => c1, (fun q => by cases q)⟩⟩, (fun q => by cases q)⟩⟩, σ4, c2, c3, c4, (f2.tr b4 (by omega)).tr c5 (by omega), fun q => ?_⟩
          obtain ⟨g1, g2⟩ := c6 q
          refine ⟨by rw [g1, List.length_cons, Nat.add_assoc, Nat.add_comm 1], fun i κ' a' hi => ?_⟩
          cases i with
          | zero =>
            obtain ⟨rfl, rfl⟩ := Prod.mk.inj (Option.some.inj hi)
            refine ⟨?_, fun j hj => ?_⟩
            · rw [Nat.add_zero, c5.2.2.2 m (by omega), b4.2.2.2 m (by omega)]; exact u1
            · rw [Nat.add_zero, c5.2.2.1 _ (by omega), b4.2.2.1 _ (by omega)]; exact u2 j hj
          | succ i =>
            rw [List.getElem?_cons_succ] at hi
            have := g2 i κ' a' hi
            rw [show m + (i + 1) = m + 1 + i by omega]
            exact this
end SCAN3
