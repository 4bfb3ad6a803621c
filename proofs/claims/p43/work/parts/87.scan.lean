/-! the line of orders: what is read, and how the class reads it -/
section SCAN
variable (inp : Nat → Int32) (n : Nat)
def isD (p : Nat) : Bool := if p < n then f_X9_inRange (inp p) 48 57 else false
def isS (c : Int32) (p : Nat) : Bool := if p < n then decide (inp p = c) else false
def sD (p : Nat) (l : List Int32) : Bool × Nat × List Int32 := if isD inp n p = true then (true, p + 1, l ++ [inp p - 48]) else (false, p, l)
def sN (p : Nat) (l : List Int32) : Bool × Nat × List Int32 := if isD inp n p = true then (if isD inp n (p + 1) = true then (true, p + 2, l ++ [(inp p - 48) * 10 + (inp (p + 1) - 48)]) else (true, p + 1, l ++ [inp p - 48])) else (false, p, l)
def sS (c : Int32) (p : Nat) (l : List Int32) : Bool × Nat × List Int32 := if isS inp n c p = true then (true, p + 1, l) else (false, p, l)
def sP (c : Int32) (p : Nat) (l : List Int32) : Bool × Nat × List Int32 := if c = 100 then sD inp n p l else if c = 110 then sN inp n p l else sS inp n c p l
def sPs : List Int32 → Nat → List Int32 → Bool × Nat × List Int32
  | [], p, l => (true, p, l)
  | c :: cs, p, l => if (sP inp n c p l).1 = true then sPs cs (sP inp n c p l).2.1 (sP inp n c p l).2.2 else (false, (sP inp n c p l).2.1, (sP inp n c p l).2.2)
def prt (κ : Nat) : List Int32 := ([[100, 62, 100, 42, 110, 47, 100], [110, 64, 100], [110], [100], [100], [110]] : List (List Int32)).getD κ []
def kd (x : Int32) : Nat := if x = 119 then 0 else if x = 115 then 1 else if x = 104 then 2 else if x = 116 then 3 else if x = 102 then 4 else if x = 112 then 5 else 6
/-- an order from p: is it one, where it ends, its kind, its numbers -/
def sO (p : Nat) : Bool × Nat × Nat × List Int32 := if p < n then (if kd (inp p) = 6 then (false, p, 6, []) else ((sPs inp n (prt (kd (inp p))) (p + 1) []).1, (sPs inp n (prt (kd (inp p))) (p + 1) []).2.1, kd (inp p), (sPs inp n (prt (kd (inp p))) (p + 1) []).2.2)) else (false, p, 6, [])
def sA : Nat → Nat → Bool × Nat × List (Nat × List Int32)
  | 0, p => (false, p, [])
  | fu + 1, p => if (sO inp n p).1 = true then (if (sO inp n p).2.1 = n then (true, n, [(sO inp n p).2.2]) else if isS inp n 59 (sO inp n p).2.1 = true then ((sA fu ((sO inp n p).2.1 + 1)).1, (sA fu ((sO inp n p).2.1 + 1)).2.1, (sO inp n p).2.2 :: (sA fu ((sO inp n p).2.1 + 1)).2.2) else (false, (sO inp n p).2.1, [])) else (false, (sO inp n p).2.1, [])
variable {inp n}
theorem isD_lt {p : Nat} (h : isD inp n p = true) : p < n ∧ f_X9_inRange (inp p) 48 57 = true := by
  unfold isD at h
  split at h
  · rename_i q; exact ⟨q, h⟩
  · cases h
theorem isS_lt {c : Int32} {p : Nat} (h : isS inp n c p = true) : p < n ∧ inp p = c := by
  unfold isS at h
  split at h
  · rename_i q; exact ⟨q, of_decide_eq_true h⟩
  · cases h
theorem sP_len {c : Int32} {p : Nat} {l : List Int32} (hp : p ≤ n) : (sP inp n c p l).2.1 ≤ n ∧ p ≤ (sP inp n c p l).2.1 ∧ ((sP inp n c p l).1 = true → p < (sP inp n c p l).2.1) := by
  unfold sP
  split
  · unfold sD
    split
    · rename_i q
      have := (isD_lt q).1
      exact ⟨by show p + 1 ≤ n; omega, by show p ≤ p + 1; omega, fun _ => by show p < p + 1; omega⟩
    · exact ⟨hp, Nat.le_refl _, fun q => by cases q⟩
  · split
    · unfold sN
      split
      · rename_i q
        have := (isD_lt q).1
        split
        · rename_i q2
          have := (isD_lt q2).1
          exact ⟨by show p + 2 ≤ n; omega, by show p ≤ p + 2; omega, fun _ => by show p < p + 2; omega⟩
        · exact ⟨by show p + 1 ≤ n; omega, by show p ≤ p + 1; omega, fun _ => by show p < p + 1; omega⟩
      · exact ⟨hp, Nat.le_refl _, fun q => by cases q⟩
    · unfold sS
      split
      · rename_i q
        have := (isS_lt q).1
        exact ⟨by show p + 1 ≤ n; omega, by show p ≤ p + 1; omega, fun _ => by show p < p + 1; omega⟩
      · exact ⟨hp, Nat.le_refl _, fun q => by cases q⟩
theorem sPs_len : ∀ (cs : List Int32) (p : Nat) (l : List Int32), p ≤ n → (sPs inp n cs p l).2.1 ≤ n ∧ p ≤ (sPs inp n cs p l).2.1 ∧ ((sPs inp n cs p l).1 = true → ¬ cs = [] → p < (sPs inp n cs p l).2.1) := by
  intro cs
  induction cs with
  | nil => intro p l hp; exact ⟨hp, Nat.le_refl _, fun _ q => absurd rfl q⟩
  | cons c cs ih =>
    intro p l hp
    obtain ⟨a, b, d⟩ := sP_len (c := c) (l := l) hp
    unfold sPs
    split
    · rename_i q
      obtain ⟨e, g, _⟩ := ih (sP inp n c p l).2.1 (sP inp n c p l).2.2 a
      have := d q
      exact ⟨e, by omega, fun _ _ => by omega⟩
    · exact ⟨a, b, fun q => by cases q⟩
theorem kd_le (x : Int32) : kd x ≤ 6 := by
  unfold kd
  repeat (first | omega | split)
theorem prt_ne {κ : Nat} (h : κ < 6) : ¬ prt κ = [] := by
  rcases (show κ = 0 ∨ κ = 1 ∨ κ = 2 ∨ κ = 3 ∨ κ = 4 ∨ κ = 5 by omega) with rfl | rfl | rfl | rfl | rfl | rfl <;> decide
theorem sO_len {p : Nat} (hp : p ≤ n) : (sO inp n p).2.1 ≤ n ∧ p ≤ (sO inp n p).2.1 ∧ ((sO inp n p).1 = true → p + 2 ≤ (sO inp n p).2.1 ∧ (sO inp n p).2.2.1 < 6) := by
  unfold sO
  split
  · rename_i q
    split
    · exact ⟨hp, Nat.le_refl _, fun q => by cases q⟩
    · rename_i k
      have := kd_le (inp p)
      obtain ⟨e, g, d⟩ := sPs_len (inp := inp) (n := n) (prt (kd (inp p))) (p + 1) [] q
      refine ⟨e, by show p ≤ (sPs inp n (prt (kd (inp p))) (p + 1) []).2.1; omega, fun h => ⟨?_, by show kd (inp p) < 6; omega⟩⟩
      have := d h (prt_ne (by omega))
      show p + 2 ≤ (sPs inp n (prt (kd (inp p))) (p + 1) []).2.1
      omega
  · exact ⟨hp, Nat.le_refl _, fun q => by cases q⟩
/-- the class's place in the line -/
def CS (σ : St) (inp : Nat → Int32) (n p m : Nat) (l : List Int32) : Prop := σ.1 191 3 = nI n ∧ σ.1 191 6 = nI p ∧ σ.1 191 4 = nI m ∧ σ.1 191 7 = nI l.length ∧ (∀ k, k < n → σ.1 192 k = inp k) ∧ ∀ j, j < l.length → σ.1 194 (4 * m + j) = l.getD j 0
def PF (m : Nat) (σ σ' : St) : Prop := (∀ j, ¬ j = 191 → ¬ j = 194 → σ'.1 j = σ.1 j) ∧ σ'.2 = σ.2 ∧ (∀ k, ¬ k = 6 → ¬ k = 7 → σ'.1 191 k = σ.1 191 k) ∧ ∀ k, k < 4 * m → σ'.1 194 k = σ.1 194 k
theorem PF.rf {m : Nat} {σ : St} : PF m σ σ := ⟨fun _ _ _ => rfl, rfl, fun _ _ _ => rfl, fun _ _ => rfl⟩
theorem PF.tr {m : Nat} {σ σ1 σ2 : St} (h1 : PF m σ σ1) (h2 : PF m σ1 σ2) : PF m σ σ2 :=
  ⟨fun j a b => (h2.1 j a b).trans (h1.1 j a b), h2.2.1.trans h1.2.1, fun k a b => (h2.2.2.1 k a b).trans (h1.2.2.1 k a b), fun k a => (h2.2.2.2 k a).trans (h1.2.2.2 k a)⟩
theorem cl_digit {σ : St} {p m : Nat} {l : List Int32} (h : CS σ inp n p m l) (hn : n ≤ 60) (hp : p ≤ n) : ok_X7_isDigitNext σ ∧ f_X7_isDigitNext σ = isD inp n p := by
  obtain ⟨h1, h2, h3, h4, h5, h6⟩ := h
  unfold ok_X7_isDigitNext f_X7_isDigitNext isD
  rw [h1, h2, nI_clamp (by omega)]
  rcases Nat.lt_or_ge p n with q | q
  · have hlt : ¬ nI n ≤ nI p := nI_ge q (by omega)
    have hv : vp_in (nI p) 60 := vp_in_nI (by omega) (by decide)
    rw [if_neg hlt, if_pos q, h5 p q]
    exact ⟨⟨fun _ => trivial, fun _ => ⟨hv, fun _ => trivial, fun _ => hv⟩⟩, rfl⟩
  · have hle : nI n ≤ nI p := nI_le q (by omega)
    rw [if_pos hle, if_neg (by omega)]
    exact ⟨⟨fun _ => trivial, fun z => absurd hle z⟩, rfl⟩
/-- a number goes into the table -/
def stN (σ : St) (m len : Nat) (v : Int32) : St := setI (setI σ 194 (4 * m + len) v) 191 7 (nI (len + 1))
theorem stN_ok {σ : St} {p m : Nat} {l : List Int32} {v : Int32} (h : CS σ inp n p m l) : CS (stN σ m l.length v) inp n p m (l ++ [v]) ∧ PF m σ (stN σ m l.length v) := by
  obtain ⟨h1, h2, h3, h4, h5, h6⟩ := h
  unfold stN
  refine ⟨⟨?_, ?_, ?_, ?_, ?_, ?_⟩, ?_, ?_, ?_, ?_⟩
  · rw [q1e rfl, un (by decide), q1n (by decide)]; exact h1
  · rw [q1e rfl, un (by decide), q1n (by decide)]; exact h2
  · rw [q1e rfl, un (by decide), q1n (by decide)]; exact h3
  · rw [q1e rfl, ue rfl, List.length_append]; rfl
  · intro k hk
    rw [q1n (by decide), q1n (by decide)]; exact h5 k hk
  · intro j hj
    rw [List.length_append] at hj
    rw [q1n (by decide), q1e rfl]
    by_cases e : j = l.length
    · subst e
      rw [ue rfl]
      simp [List.getD]
    · have hjl : j < l.length := by have : j < l.length + 1 := hj; omega
      rw [un (by omega), h6 j hjl]
      simp [List.getD, List.getElem?_append_left hjl]
  · intro j a b
    rw [q1n a, q1n b]
  · rfl
  · intro k a b
    rw [q1e rfl, un b, q1n (by decide)]
  · intro k a
    rw [q1n (by decide), q1e rfl, un (by omega)]
def mvP (σ : St) (p : Nat) : St := setI σ 191 6 (nI p)
theorem mvP_ok {σ : St} {p p' m : Nat} {l : List Int32} (h : CS σ inp n p m l) : CS (mvP σ p') inp n p' m l ∧ PF m σ (mvP σ p') := by
  obtain ⟨h1, h2, h3, h4, h5, h6⟩ := h
  unfold mvP
  refine ⟨⟨?_, ?_, ?_, ?_, ?_, ?_⟩, ?_, ?_, ?_, ?_⟩
  · rw [q1e rfl, un (by decide)]; exact h1
  · rw [q1e rfl, ue rfl]
  · rw [q1e rfl, un (by decide)]; exact h3
  · rw [q1e rfl, un (by decide)]; exact h4
  · intro k hk
    rw [q1n (by decide)]; exact h5 k hk
  · intro j hj
    rw [q1n (by decide)]; exact h6 j hj
  · intro j a b
    rw [q1n a]
  · rfl
  · intro k a b
    rw [q1e rfl, un a]
  · intro k a
    rw [q1n (by decide)]
theorem cl_stores {σ : St} {p m : Nat} {l : List Int32} (v : Int32) (h : CS σ inp n p m l) (hm : m ≤ 20) (hl : l.length < 4) :
    ¬ (4 : Int32) ≤ σ.1 191 7 ∧ vp_in (((σ.1 191 4) * (4 : Int32)) + (σ.1 191 7)) 84 ∧ setI (setI σ 194 (((σ.1 191 4) * (4 : Int32)) + (σ.1 191 7)).toNatClampNeg v) 191 7 ((setI σ 194 (((σ.1 191 4) * (4 : Int32)) + (σ.1 191 7)).toNatClampNeg v).1 191 7 + 1) = stN σ m l.length v := by
  obtain ⟨h1, h2, h3, h4, h5, h6⟩ := h
  have e : nI m * (4 : Int32) + nI l.length = nI (4 * m + l.length) := by
    rw [show (4 : Int32) = nI 4 from rfl, nI_mul, nI_add, Nat.mul_comm]
  rw [h3, h4, e, nI_clamp (by omega), q1n (by decide), h4, nI_1]
  exact ⟨nI_ge (b := 4) hl (by decide), vp_in_nI (by omega) (by decide), rfl⟩
theorem cl_num1 {σ : St} {p m : Nat} {l : List Int32} (h : CS σ inp n p m l) (hn : n ≤ 60) (hp : p ≤ n) (hm : m ≤ 20) (hl : l.length < 4) :
    ok_X7_scanNumber σ 1 ∧ ∃ σ', f_X7_scanNumber σ 1 = (σ', (sD inp n p l).1) ∧ CS σ' inp n (sD inp n p l).2.1 m (sD inp n p l).2.2 ∧ PF m σ σ' := by
  have hd := cl_digit h hn hp
  have n10 : ¬ (1 : Int32) ≤ 0 := by decide
  have n11 : (1 : Int32) ≤ 1 := by decide
  have n00 : (0 : Int32) ≤ 0 := by decide
  unfold ok_X7_scanNumber f_X7_scanNumber sD
  rw [show (2000 : Nat) = 1998 + 1 + 1 from rfl, fX7_scanNumber_L4, okX7_scanNumber_L4, hd.2]
  cases hb : isD inp n p with
  | true =>
    obtain ⟨pn, -⟩ := isD_lt hb
    have e6 : σ.1 191 6 = nI p := h.2.1
    have hc : (nI p).toNatClampNeg = p := nI_clamp (by omega)
    have hv : vp_in (nI p) 60 := vp_in_nI (by omega) (by decide)
    obtain ⟨c1, c2⟩ := mvP_ok (p' := p + 1) h
    have em : setI σ 191 6 (nI (p + 1)) = mvP σ (p + 1) := rfl
    obtain ⟨s1, s2, s3⟩ := cl_stores (0 * 10 + (inp p - 48)) c1 hm hl
    have ez : (0 : Int32) * 10 + (inp p - 48) = inp p - 48 := by rw [Int32.zero_mul, Int32.zero_add]
    obtain ⟨d1, d2⟩ := stN_ok (v := inp p - 48) c1
    rw [e6, hc, h.2.2.2.2.1 p pn, nI_1, em]
    simp only [bnd_eq, bndP_eq, if_true, if_neg n10]
    rw [show (0 : Int32) + 1 = 1 from rfl, fX7_scanNumber_L4, okX7_scanNumber_L4]
    rw [if_pos n11, if_neg n10, if_neg s1]
    simp only [bnd_eq, if_neg n10]
    rw [s3, ez]
    exact ⟨⟨fun q => absurd q n10, fun _ => ⟨hd.1, fun _ => ⟨hv, fun _ => ⟨fun q => absurd q n10, fun _ => ⟨fun _ => trivial, fun _ => s2⟩⟩, fun q => absurd n11 q⟩, fun q => by cases q⟩⟩, _, rfl, d1, c2.tr d2⟩
  | false =>
    simp only [if_neg n10, if_pos n00]
    exact ⟨⟨fun q => absurd q n10, fun _ => ⟨hd.1, (fun q => by cases q), fun _ => ⟨fun _ => trivial, fun q => absurd n00 q⟩⟩⟩, σ, rfl, h, PF.rf⟩
end SCAN
