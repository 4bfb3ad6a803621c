/-! .. numbers of two digits, signs, orders, lines -/
section SCAN2
variable {inp : Nat → Int32} {n : Nat}
theorem cl_num2 {σ : St} {p m : Nat} {l : List Int32} (h : CS σ inp n p m l) (hn : n ≤ 60) (hp : p ≤ n) (hm : m ≤ 20) (hl : l.length < 4) :
    ok_X7_scanNumber σ 2 ∧ ∃ σ', f_X7_scanNumber σ 2 = (σ', (sN inp n p l).1) ∧ CS σ' inp n (sN inp n p l).2.1 m (sN inp n p l).2.2 ∧ PF m σ σ' := by
  have hd := cl_digit h hn hp
  have n20 : ¬ (2 : Int32) ≤ 0 := by decide
  have n21 : ¬ (2 : Int32) ≤ 1 := by decide
  have n22 : (2 : Int32) ≤ 2 := by decide
  have n10 : ¬ (1 : Int32) ≤ 0 := by decide
  have n00 : (0 : Int32) ≤ 0 := by decide
  have e01 : (0 : Int32) + 1 = 1 := by decide
  have e11 : (1 : Int32) + 1 = 2 := by decide
  unfold ok_X7_scanNumber f_X7_scanNumber sN
  rw [show (2000 : Nat) = 1997 + 1 + 1 + 1 from rfl, fX7_scanNumber_L4, okX7_scanNumber_L4, hd.2]
  cases hb : isD inp n p with
  | true =>
    obtain ⟨pn, -⟩ := isD_lt hb
    have e6 : σ.1 191 6 = nI p := h.2.1
    have hc : (nI p).toNatClampNeg = p := nI_clamp (by omega)
    have hv : vp_in (nI p) 60 := vp_in_nI (by omega) (by decide)
    obtain ⟨c1, c2⟩ := mvP_ok (p' := p + 1) h
    have hd2 := cl_digit c1 hn (by omega)
    have em : setI σ 191 6 (nI (p + 1)) = mvP σ (p + 1) := rfl
    have ez : (0 : Int32) * 10 + (inp p - 48) = inp p - 48 := by rw [Int32.zero_mul, Int32.zero_add]
    rw [e6, hc, h.2.2.2.2.1 p pn, nI_1, em]
    simp only [bnd_eq, bndP_eq, if_true, if_neg n20]
    rw [e01, fX7_scanNumber_L4, okX7_scanNumber_L4, hd2.2]
    cases hb2 : isD inp n (p + 1) with
    | true =>
      obtain ⟨pn2, -⟩ := isD_lt hb2
      have e62 : (mvP σ (p + 1)).1 191 6 = nI (p + 1) := c1.2.1
      have hc2 : (nI (p + 1)).toNatClampNeg = p + 1 := nI_clamp (by omega)
      have hv2 : vp_in (nI (p + 1)) 60 := vp_in_nI (by omega) (by decide)
      obtain ⟨k1, k2⟩ := mvP_ok (p' := p + 2) c1
      have em2 : setI (mvP σ (p + 1)) 191 6 (nI (p + 2)) = mvP (mvP σ (p + 1)) (p + 2) := rfl
      obtain ⟨s1, s2, s3⟩ := cl_stores ((inp p - 48) * 10 + (inp (p + 1) - 48)) k1 hm hl
      obtain ⟨d1, d2⟩ := stN_ok (v := (inp p - 48) * 10 + (inp (p + 1) - 48)) k1
      rw [e62, hc2, c1.2.2.2.2.1 (p + 1) pn2, nI_1, em2, ez]
      simp only [bnd_eq, bndP_eq, if_true, if_neg n21]
      rw [e11, fX7_scanNumber_L4, okX7_scanNumber_L4]
      have n20' : ¬ (2 : Int32) ≤ 0 := n20
      rw [if_pos n22, if_neg n20, if_neg s1]
      simp only [bnd_eq, if_neg n20]
      rw [s3]
      exact ⟨⟨fun q => absurd q n20, fun _ => ⟨hd.1, fun _ => ⟨hv, fun q => absurd q n21, fun _ => ⟨hd2.1, fun _ => ⟨hv2, fun _ => ⟨fun q => absurd q n20, fun _ => ⟨fun _ => trivial, fun _ => s2⟩⟩, fun q => absurd n22 q⟩, (fun q => by cases q)⟩⟩, (fun q => by cases q)⟩⟩, _, rfl, d1, (c2.tr k2).tr d2⟩
    | false =>
      obtain ⟨s1, s2, s3⟩ := cl_stores (inp p - 48) c1 hm hl
      obtain ⟨d1, d2⟩ := stN_ok (v := inp p - 48) c1
      rw [ez]
      simp only [bnd_eq, if_neg n21, if_neg n10, if_neg s1]
      rw [s3]
      exact ⟨⟨fun q => absurd q n20, fun _ => ⟨hd.1, fun _ => ⟨hv, fun q => absurd q n21, fun _ => ⟨hd2.1, (fun q => by cases q), fun _ => ⟨fun q => absurd q n10, fun _ => ⟨fun _ => trivial, fun _ => s2⟩⟩⟩⟩, (fun q => by cases q)⟩⟩, _, rfl, d1, c2.tr d2⟩
  | false =>
    simp only [if_neg n20, if_pos n00]
    exact ⟨⟨fun q => absurd q n20, fun _ => ⟨hd.1, (fun q => by cases q), fun _ => ⟨fun _ => trivial, fun q => absurd n00 q⟩⟩⟩, σ, rfl, h, PF.rf⟩
theorem cl_sign {σ : St} {p m : Nat} {l : List Int32} (c : Int32) (h : CS σ inp n p m l) (hn : n ≤ 60) (hp : p ≤ n) :
    ok_X7_scanSign σ c ∧ ∃ σ', f_X7_scanSign σ c = (σ', (sS inp n c p l).1) ∧ CS σ' inp n (sS inp n c p l).2.1 m (sS inp n c p l).2.2 ∧ PF m σ σ' := by
  have e3 : σ.1 191 3 = nI n := h.1
  have e6 : σ.1 191 6 = nI p := h.2.1
  have hc : (nI p).toNatClampNeg = p := nI_clamp (by omega)
  unfold ok_X7_scanSign f_X7_scanSign sS isS
  rw [e3, e6, hc]
  rcases Nat.lt_or_ge p n with q | q
  · have hlt : ¬ nI n ≤ nI p := nI_ge q (by omega)
    have hv : vp_in (nI p) 60 := vp_in_nI (by omega) (by decide)
    rw [if_neg hlt, if_pos q, h.2.2.2.2.1 p q, nI_1]
    by_cases e : inp p = c
    · obtain ⟨c1, c2⟩ := mvP_ok (p' := p + 1) h
      rw [if_pos e, decide_eq_true e, if_pos rfl, bnd_eq]
      exact ⟨⟨fun z => absurd z hlt, fun _ => hv⟩, _, rfl, c1, c2⟩
    · rw [if_neg e, decide_eq_false e, if_neg (by decide)]
      exact ⟨⟨fun z => absurd z hlt, fun _ => hv⟩, σ, rfl, h, PF.rf⟩
  · have hle : nI n ≤ nI p := nI_le q (by omega)
    rw [if_pos hle, if_neg (show ¬ p < n by omega), if_neg (by decide)]
    exact ⟨⟨fun _ => trivial, fun z => absurd hle z⟩, σ, rfl, h, PF.rf⟩
def nn : List Int32 → Nat
  | [] => 0
  | c :: cs => (if c = 100 ∨ c = 110 then 1 else 0) + nn cs
theorem cl_part {σ : St} {p m : Nat} {l : List Int32} (c : Int32) (h : CS σ inp n p m l) (hn : n ≤ 60) (hp : p ≤ n) (hm : m ≤ 20) (hl : l.length + (if c = 100 ∨ c = 110 then 1 else 0) ≤ 4) :
    ok_X7_scanPart σ c ∧ (∃ σ', f_X7_scanPart σ c = (σ', (sP inp n c p l).1) ∧ CS σ' inp n (sP inp n c p l).2.1 m (sP inp n c p l).2.2 ∧ PF m σ σ') ∧ (sP inp n c p l).2.2.length ≤ l.length + (if c = 100 ∨ c = 110 then 1 else 0) := by
  unfold ok_X7_scanPart f_X7_scanPart sP
  by_cases e1 : c = 100
  · rw [if_pos (Or.inl e1)] at hl ⊢
    obtain ⟨a, σ', b, d⟩ := cl_num1 h hn hp hm (by omega)
    rw [if_pos e1, if_pos e1]
    refine ⟨⟨fun _ => a, fun q => absurd e1 q⟩, ⟨σ', by rw [bnd_eq, b], d⟩, ?_⟩
    unfold sD
    split
    · show (l ++ [_]).length ≤ _; rw [List.length_append]; exact Nat.le_refl _
    · show l.length ≤ _; omega
  · by_cases e2 : c = 110
    · rw [if_pos (Or.inr e2)] at hl ⊢
      obtain ⟨a, σ', b, d⟩ := cl_num2 h hn hp hm (by omega)
      rw [if_neg e1, if_pos e2, if_neg e1, if_pos e2]
      refine ⟨⟨fun q => absurd q e1, fun _ => ⟨fun _ => a, fun q => absurd e2 q⟩⟩, ⟨σ', by rw [bnd_eq, b], d⟩, ?_⟩
      unfold sN
      split
      · split
        · show (l ++ [_]).length ≤ _; rw [List.length_append]; exact Nat.le_refl _
        · show (l ++ [_]).length ≤ _; rw [List.length_append]; exact Nat.le_refl _
      · show l.length ≤ _; omega
    · have e3 : ¬ (c = 100 ∨ c = 110) := by simp [e1, e2]
      rw [if_neg e3] at hl ⊢
      obtain ⟨a, σ', b, d⟩ := cl_sign c h hn hp
      rw [if_neg e1, if_neg e2, if_neg e1, if_neg e2]
      refine ⟨⟨fun q => absurd q e1, fun _ => ⟨fun q => absurd q e2, fun _ => a⟩⟩, ⟨σ', by rw [bnd_eq, b], d⟩, ?_⟩
      unfold sS
      split
      · exact Nat.le_refl _
      · exact Nat.le_refl _
theorem cl_parts {x1 : Int32} {x2 : Nat} {cs0 : List Int32} {m : Nat} (h16 : x2 < 19) (hlen : lenV x2 = nI cs0.length) (hl0 : lenS.getD x2 0 = cs0.length) (hch : ∀ j, j < cs0.length → chS x2 (nI j) = cs0.getD j 0) (h60 : cs0.length < 60) (hn : n ≤ 60) (hm : m ≤ 20) :
    ∀ (cs pre : List Int32) (fu p : Nat) (l : List Int32) (σ : St), cs0 = pre ++ cs → cs.length < fu → l.length + nn cs ≤ 4 → CS σ inp n p m l → p ≤ n →
    okX7_scanOrder_L67 fu σ x1 x2 (nI pre.length) ∧ ∃ σ', fX7_scanOrder_L67 fu σ x1 x2 (nI pre.length) = (σ', (sPs inp n cs p l).1) ∧ CS σ' inp n (sPs inp n cs p l).2.1 m (sPs inp n cs p l).2.2 ∧ PF m σ σ' := by
  intro cs
  induction cs with
  | nil =>
    intro pre fu p l σ he hf hl h hp
    obtain ⟨fu, rfl⟩ : ∃ z, fu = z + 1 := ⟨fu - 1, by omega⟩
    rw [List.append_nil] at he
    have hle : lenV x2 ≤ nI pre.length := by rw [hlen, he]; exact Int32.le_refl _
    rw [okX7_scanOrder_L67, fX7_scanOrder_L67, if_pos hle]
    exact ⟨⟨h16, fun _ => trivial, fun z => absurd hle z⟩, σ, rfl, h, PF.rf⟩
  | cons c cs ih =>
    intro pre fu p l σ he hf hl h hp
    obtain ⟨fu, rfl⟩ : ∃ z, fu = z + 1 := ⟨fu - 1, by omega⟩
    have hpre : pre.length < cs0.length := by rw [he, List.length_append, List.length_cons]; omega
    have hle : ¬ lenV x2 ≤ nI pre.length := by rw [hlen]; exact nI_ge hpre (by omega)
    have hc : chS x2 (nI pre.length) = c := by
      rw [hch _ hpre, he]
      simp [List.getD]
    have hl' : l.length + ((if c = 100 ∨ c = 110 then 1 else 0) + nn cs) ≤ 4 := hl
    obtain ⟨a, ⟨σ1, b1, b2, b3⟩, b4⟩ := cl_part c h hn hp hm (by omega)
    obtain ⟨g1, g2, -⟩ := sP_len (inp := inp) (c := c) (l := l) hp
    have hv : vp_in (nI pre.length) (lenS.getD x2 0) := by rw [hl0]; exact vp_in_nI hpre (by omega)
    rw [okX7_scanOrder_L67, fX7_scanOrder_L67, if_neg hle, hc]
    simp only [bnd_eq, bndP_eq]
    rw [b1]
    unfold sPs
    cases hb : (sP inp n c p l).1 with
    | true =>
      obtain ⟨d1, σ2, d2, d3, d4⟩ := ih (pre ++ [c]) fu (sP inp n c p l).2.1 (sP inp n c p l).2.2 σ1 (by rw [he, List.append_assoc]; rfl) (by simp only [List.length_cons] at hf; omega) (by omega) b2 g1
      rw [List.length_append, show ([c] : List Int32).length = 1 from rfl, ← nI_1] at d1 d2
      simp only [if_true]
      exact ⟨⟨h16, fun z => absurd z hle, fun _ => ⟨h16, hv, a, fun _ => d1, (fun q => by cases q)⟩⟩, σ2, d2, d3, b3.tr d4⟩
    | false =>
      simp only [if_neg (show ¬ (false = true) by decide)]
      exact ⟨⟨h16, fun z => absurd z hle, fun _ => ⟨h16, hv, a, (fun q => by cases q), fun _ => trivial⟩⟩, σ1, rfl, b2, b3⟩
end SCAN2
