/-! an item's numbers change -/
theorem place_inj {c r h c' r' h' : Nat} (h1 : h < hls r) (h2 : h' < hls r') (r1 : r < 2) (r2 : r' < 2) (e : 5 * c + 3 * r + h = 5 * c' + 3 * r' + h') : c = c' ∧ r = r' ∧ h = h' := by
  unfold hls at h1 h2
  rcases (show r = 0 ∨ r = 1 by omega) with rfl | rfl <;> rcases (show r' = 0 ∨ r' = 1 by omega) with rfl | rfl
  all_goals
    simp at h1 h2
    refine ⟨by omega, by omega, by omega⟩
theorem place_lt {c r h : Nat} (hc : c < 6) (hr : r < 2) (h1 : h < hls r) : 5 * c + 3 * r + h < 30 := by
  unfold hls at h1
  rcases (show r = 0 ∨ r = 1 by omega) with rfl | rfl <;> simp at h1 <;> omega
theorem placeOf_nI (c r h : Nat) : f_X8_placeOf (nI c) (nI r) (nI h) = nI (5 * c + 3 * r + h) := by
  unfold f_X8_placeOf
  rw [show (5 : Int32) = nI 5 from rfl, show (3 : Int32) = nI 3 from rfl, nI_mul, nI_mul, nI_add, nI_add, Nat.mul_comm c 5, Nat.mul_comm r 3]
theorem nI_inj {a b : Nat} (ha : a < 2 ^ 31) (hb : b < 2 ^ 31) (h : nI a = nI b) : a = b := (nI_eq ha hb).mp h
theorem atH_uniq {w : Nat → Int32} {i c r b c' r' b' : Nat} (hc : c < 6) (hr : r < 2) (hb : b < 3) (hc' : c' < 6) (hr' : r' < 2) (hb' : b' < 3) (h : atH w i c r b) (h' : atH w i c' r' b') : c = c' ∧ r = r' ∧ b = b' := by
  obtain ⟨-, a1, a2, a3⟩ := h
  obtain ⟨-, b1, b2, b3⟩ := h'
  have e1 := nI_inj (by omega) (by omega) (a1.symm.trans b1)
  have e2 := nI_inj (by omega) (by omega) (a2.symm.trans b2)
  have e3 := nI_inj (by omega) (by omega) (a3.symm.trans b3)
  exact ⟨e1, e2, by omega⟩
theorem hls3 {r h : Nat} (h1 : h < hls r) : h < 3 := by
  unfold hls at h1
  split at h1 <;> omega
theorem it_set {w : Nat → Int32} {i a b j : Nat} {v : Int32} (hb : b < 7) (hj : j < 7) : it (upd w (6 + 7 * i + b) v) a j = if a = i ∧ j = b then v else it w a j := by
  by_cases h : a = i ∧ j = b
  · obtain ⟨rfl, rfl⟩ := h
    rw [if_pos ⟨rfl, rfl⟩]
    exact it_ue rfl
  · rw [if_neg h]
    exact it_un (by omega)
theorem lo_set {w : Nat → Int32} {i b k : Nat} {v : Int32} (hk : k < 6) : upd w (6 + 7 * i + b) v k = w k := un (by omega)
theorem cnt_set {w : Nat → Int32} {i b : Nat} {v : Int32} : cnt (upd w (6 + 7 * i + b) v) = cnt w := cnt_un (by omega)
/-- an office over new item numbers -/
theorem Off.cols {σ σ' : St} {o : Nat} {w w' : Nat → Int32} {f : Nat → UInt32} (h : Off σ o w f) (hlo : ∀ k, k < 6 → w' k = w k) (hf : σ'.2.1 = σ.2.1) (h1 : σ'.1 (o + 1) = σ.1 (o + 1)) (h4 : σ'.1 (o + 4) = σ.1 (o + 4)) (h16 : σ'.1 (o + 16) = σ.1 (o + 16)) (hc : ∀ j, j < 7 → ∀ i, i < cnt w → σ'.1 (o + 5 + j) i = cv j (it w' i j)) (hS : OffS σ' o w') : Off σ' o w' f := by
  obtain ⟨⟨d1, d2, d3, d4, d5, d6⟩, ⟨i1, i2, i3⟩, -, g1, g2, g3, g4⟩ := h
  have hn : cnt w' = cnt w := by unfold cnt; rw [hlo 2 (by decide)]
  refine ⟨⟨?_, ?_, ?_, ?_, ?_, ?_⟩, ⟨?_, ?_, ?_⟩, hS, ?_, ?_, ?_, ?_⟩
  · rw [h1, hlo 1 (by decide)]; exact d1
  · rw [h1, hlo 3 (by decide)]; exact d2
  · rw [hf]; exact d3
  · rw [hf]; exact d4
  · rw [hf]; exact d5
  · rw [hf]; exact d6
  · rw [h4, hlo 2 (by decide)]; exact i1
  · intro j hj i hi; rw [hn] at hi; exact hc j hj i hi
  · intro i hi; rw [hn] at hi; rw [hf]; exact i3 i hi
  · rw [hf]; exact g1
  · rw [h16, hlo 4 (by decide)]; exact g2
  · rw [h16, hlo 5 (by decide)]; exact g3
  · rw [h16, hlo 0 (by decide)]; exact g4
section MOV
variable {σ : St} {o : Nat} {w : Nat → Int32} {f : Nat → UInt32}
theorem it_j {w : Nat → Int32} {i b : Nat} {v : Int32} (hb : b < 7) (a j : Nat) (hj : j < 7) (h : ¬ (a = i ∧ j = b)) : it (upd w (6 + 7 * i + b) v) a j = it w a j := by rw [it_set hb hj, if_neg h]
/-- a state that is neither shelved nor taken, before and behind -/
theorem Off.P12 (h : Off σ o w f) {i : Nat} {v : Int32} (a2 : ¬ it w i 4 = 2) (a3 : ¬ it w i 4 = 3) (v2 : ¬ v = 2) (v3 : ¬ v = 3) : Off (setI σ (o + 4 + 5) i v) o (upd w (6 + 7 * i + 4) v) f := by
  have hA : ∀ a c r b, atH (upd w (6 + 7 * i + 4) v) a c r b ↔ atH w a c r b := by
    intro a c r b
    unfold atH
    rw [it_set (by decide) (by decide), it_set (by decide) (by decide), it_set (by decide) (by decide), it_set (by decide) (by decide)]
    by_cases e : a = i
    · subst e; simp [a2, v2]
    · simp [e]
  have hs := h.2.2.1
  refine h.cols (fun k hk => lo_set hk) rfl (q1n (by omega)) (q1n (by omega)) (q1n (by omega)) (fun j hj a ha => ?_) ⟨fun c r b h1 h2 h3 => ?_, fun c hc => ?_⟩
  · have hz := h.2.1.2.1 j hj a ha
    rw [it_set (by decide) hj]
    by_cases e : j = 4
    · subst e
      rw [q1e rfl]
      by_cases e2 : a = i
      · subst e2; rw [ue rfl, if_pos ⟨rfl, rfl⟩]; rfl
      · rw [un e2, if_neg (fun z => e2 z.1)]; exact hz
    · rw [q1n (by omega), if_neg (fun z => e z.2)]; exact hz
  · rw [q1n (by omega)]
    have H := hs.1 c r b h1 h2 h3
    unfold Hp at H ⊢
    simp only [hA, cnt_set]
    exact H
  · rw [q1n (by omega), cnt_set, hs.2 c hc]
    refine congrArg nI (cn_congr _ (fun a _ => ?_))
    unfold tkn
    rw [it_set (by decide) (by decide), it_set (by decide) (by decide), it_set (by decide) (by decide)]
    by_cases e : a = i
    · subst e; simp [a3, v3]
    · simp [e]
theorem Off.P13 (h : Off σ o w f) {i : Nat} {v : Int32} : Off (setI σ (o + 4 + 7) i v) o (upd w (6 + 7 * i + 6) (v + 1)) f := by
  have hA : ∀ a c r b, atH (upd w (6 + 7 * i + 6) (v + 1)) a c r b ↔ atH w a c r b := by
    intro a c r b
    unfold atH
    rw [it_set (by decide) (by decide), it_set (by decide) (by decide), it_set (by decide) (by decide), it_set (by decide) (by decide)]
    simp
  have hs := h.2.2.1
  refine h.cols (fun k hk => lo_set hk) rfl (q1n (by omega)) (q1n (by omega)) (q1n (by omega)) (fun j hj a ha => ?_) ⟨fun c r b h1 h2 h3 => ?_, fun c hc => ?_⟩
  · have hz := h.2.1.2.1 j hj a ha
    rw [it_set (by decide) hj]
    by_cases e : j = 6
    · subst e
      rw [q1e rfl]
      by_cases e2 : a = i
      · subst e2
        rw [ue rfl, if_pos ⟨rfl, rfl⟩]
        show v = v + 1 - 1
        rw [Int32.add_sub_cancel]
      · rw [un e2, if_neg (fun z => e2 z.1)]; exact hz
    · rw [q1n (by omega), if_neg (fun z => e z.2)]; exact hz
  · rw [q1n (by omega)]
    have H := hs.1 c r b h1 h2 h3
    unfold Hp at H ⊢
    simp only [hA, cnt_set]
    exact H
  · rw [q1n (by omega), cnt_set, hs.2 c hc]
    refine congrArg nI (cn_congr _ (fun a _ => ?_))
    unfold tkn
    rw [it_set (by decide) (by decide), it_set (by decide) (by decide), it_set (by decide) (by decide)]
    simp
/-- an item leaves its hole -/
def leave (w : Nat → Int32) (i t : Nat) : Nat → Int32 := upd (upd w (6 + 7 * i + 4) (nI t)) (6 + 7 * i + 5) 0
theorem it_leave {i t a j : Nat} (hj : j < 7) : it (leave w i t) a j = if a = i ∧ j = 4 then nI t else if a = i ∧ j = 5 then 0 else it w a j := by
  unfold leave
  rw [it_set (by decide) hj, it_set (by decide) hj]
  by_cases h5 : a = i ∧ j = 5
  · obtain ⟨rfl, rfl⟩ := h5; simp
  · simp [h5]
theorem cnt_leave {i t : Nat} : cnt (leave w i t) = cnt w := by unfold leave; rw [cnt_set, cnt_set]
theorem lo_leave {i t k : Nat} (hk : k < 6) : leave w i t k = w k := by unfold leave; rw [lo_set hk, lo_set hk]
theorem atH_leave {i t a c r b : Nat} (ht : ¬ t = 2) (ht2 : t < 10) : atH (leave w i t) a c r b ↔ ¬ a = i ∧ atH w a c r b := by
  unfold atH
  rw [it_leave (by decide), it_leave (by decide), it_leave (by decide), it_leave (by decide)]
  have hn : ¬ nI t = 2 := fun e => ht (nI_inj (b := 2) (by omega) (by decide) e)
  by_cases e : a = i
  · subst e; simp [hn]
  · simp [e]
/-- the class's part, the count of letters read aside -/
theorem leave_off (h : Off σ o w f) (hI : Inv w f) {i t c r b : Nat} (hi : i < cnt w) (hc : c < 6) (hr : r < 2) (hb : b < hls r) (ha : atH w i c r b) (ht : ¬ t = 2) (ht2 : t < 10) {q : Int32} (hq : ∀ d, d < 6 → (if d = c then q else σ.1 (o + 15) d) = nI (cn (tkn (leave w i t) d) (cnt w))) :
    Off (setI (setI (setI (setI σ (o + 13 + 1) (5 * c + 3 * r + b) (-1)) (o + 4 + 5) i (nI t)) (o + 4 + 6) i (-1)) (o + 13 + 2) c q) o (leave w i t) f := by
  have hs := h.2.2.1
  refine h.cols (fun k hk => lo_leave hk) rfl ?_ ?_ ?_ (fun j hj a hA => ?_) ⟨fun c' r' b' h1 h2 h3 => ?_, fun d hd => ?_⟩
  · rw [q1n (by omega), q1n (by omega), q1n (by omega), q1n (by omega)]
  · rw [q1n (by omega), q1n (by omega), q1n (by omega), q1n (by omega)]
  · rw [q1n (by omega), q1n (by omega), q1n (by omega), q1n (by omega)]
  · have hz := h.2.1.2.1 j hj a hA
    rw [it_leave hj, q1n (by omega)]
    by_cases e5 : j = 5
    · subst e5
      rw [q1e rfl, q1n (by omega), q1n (by omega)]
      by_cases e2 : a = i
      · subst e2; rw [ue rfl]; simp [cv]
      · rw [un e2]; simp [e2]; exact hz
    · rw [q1n (by omega)]
      by_cases e4 : j = 4
      · subst e4
        rw [q1e rfl, q1n (by omega)]
        by_cases e2 : a = i
        · subst e2; rw [ue rfl]; simp [cv]
        · rw [un e2]; simp [e2]; exact hz
      · rw [q1n (by omega), q1n (by omega)]
        simp [e4, e5]; exact hz
  · rw [q1n (by omega), q1n (by omega), q1n (by omega), q1e (by omega)]
    have H := hs.1 c' r' b' h1 h2 h3
    by_cases e : c' = c ∧ r' = r ∧ b' = b
    · obtain ⟨rfl, rfl, rfl⟩ := e
      rw [ue rfl]
      refine Or.inl ⟨rfl, fun a hA hq2 => ?_⟩
      rw [cnt_leave] at hA
      obtain ⟨n1, n2⟩ := (atH_leave ht ht2).mp hq2
      exact n1 (hI.2.2.1 a i c' r' b' hA hi n2 ha)
    · rw [un (fun z => e (place_inj h3 hb h2 hr z))]
      rcases H with ⟨v1, v2⟩ | ⟨a, v1, v2, v3⟩
      · refine Or.inl ⟨v1, fun a hA hq2 => ?_⟩
        rw [cnt_leave] at hA
        exact v2 a hA ((atH_leave ht ht2).mp hq2).2
      · refine Or.inr ⟨a, by rw [cnt_leave]; exact v1, v2, (atH_leave ht ht2).mpr ⟨fun z => ?_, v3⟩⟩
        subst z
        exact e (atH_uniq h1 h2 (hls3 h3) hc hr (hls3 hb) v3 ha)
  · have hz := hq d hd
    rw [cnt_leave, ← hz]
    rw [q1e rfl, q1n (by omega), q1n (by omega), q1n (by omega)]
    by_cases e : d = c
    · rw [ue e, if_pos e]
    · rw [un e, if_neg e]
theorem nI_lt6 {v : Nat} (h : v < 10) {k : Nat} (hk : k < 10) (hne : ¬ v = k) : ¬ nI v = nI k := fun e => hne (nI_inj (by omega) (by omega) e)
/-- eaten, or a parcel taken: nothing more is read -/
theorem tkn_leave_same {i t c r b : Nat} (hi : i < cnt w) (ha : atH w i c r b) (hr : r < 2) (h3 : ¬ t = 3 ∨ ¬ r = 0) (ht2 : t < 10) (d : Nat) : cn (tkn (leave w i t) d) (cnt w) = cn (tkn w d) (cnt w) := by
  refine cn_congr _ (fun a _ => ?_)
  unfold tkn
  rw [it_leave (by decide), it_leave (by decide), it_leave (by decide)]
  by_cases e : a = i
  · subst e
    have h0 := ha.2.2.1
    have h4 := ha.1
    have n23 : ¬ (2 : Int32) = 3 := by decide
    rcases h3 with h3 | h3
    · have : ¬ nI t = 3 := nI_lt6 (k := 3) ht2 (by decide) h3
      simp [this, h4, n23]
    · have : ¬ nI r = 0 := nI_lt6 (k := 0) (by omega) (by decide) h3
      simp [h0, this]
  · simp [e]
theorem tkn_leave_one {i c b : Nat} (hi : i < cnt w) (ha : atH w i c 0 b) (hc : c < 6) (d : Nat) (hd : d < 6) : cn (tkn (leave w i 3) d) (cnt w) = cn (tkn w d) (cnt w) + (if d = c then 1 else 0) := by
  have n23 : ¬ (2 : Int32) = 3 := by decide
  by_cases e : d = c
  · subst e
    rw [if_pos rfl]
    refine cn_upd (a := i) ?_ ?_ (fun a hA => ?_) _ hi
    · unfold tkn; simp [ha.1, n23]
    · unfold tkn
      rw [it_leave (by decide), it_leave (by decide), it_leave (by decide)]
      have e1 : it w i 0 = 0 := ha.2.2.1
      have e2 : nI 3 = 3 := rfl
      simp [e1, e2, ha.2.1]
    · unfold tkn
      rw [it_leave (by decide), it_leave (by decide), it_leave (by decide)]
      simp [hA]
  · rw [if_neg e]
    refine cn_congr _ (fun a _ => ?_)
    unfold tkn
    rw [it_leave (by decide), it_leave (by decide), it_leave (by decide)]
    by_cases e2 : a = i
    · subst e2
      have h2 := ha.2.1
      have : ¬ nI c = nI d := nI_lt6 (by omega) (by omega) (fun z => e z.symm)
      simp [h2, this]
    · simp [e2]
theorem Inv.leave (hI : Inv w f) {i t c r b : Nat} (hi : i < cnt w) (ha : atH w i c r b) (ht : t = 3 ∨ t = 4) (h4 : t = 4 → r = 0) : Inv (leave w i t) f := by
  obtain ⟨⟨n1, n2, n3, n4, n5⟩, hIt, hU, hZ, hF⟩ := hI
  have ht2 : ¬ t = 2 := by omega
  have ht9 : t < 10 := by omega
  refine ⟨⟨?_, ?_, ?_, ?_, ?_⟩, ?_, ?_, ?_, hF⟩
  · rw [cnt_leave, lo_leave (by decide)]; exact n1
  · rw [cnt_leave]; exact n2
  · rw [lo_leave (by decide)]; exact n3
  · rw [lo_leave (by decide)]; exact n4
  · rw [lo_leave (by decide)]; exact n5
  · intro a hA
    rw [cnt_leave] at hA
    have hz := hIt a hA
    unfold iw at hz ⊢
    simp only [atH_leave ht2 ht9]
    rw [it_leave (by decide), it_leave (by decide), it_leave (by decide), it_leave (by decide)]
    by_cases e : a = i
    · subst e
      obtain ⟨z1, z2, -⟩ := hz
      have e4 : ¬ nI t = 2 := nI_lt6 (k := 2) ht9 (by decide) ht2
      refine ⟨by simpa using z1, by simpa using z2, ⟨t, by omega, by simp⟩, fun q => ?_, fun _ => by simp, fun q => ?_⟩
      · simp at q; exact absurd q e4
      · simp at q
        have : t = 4 := nI_inj (b := 4) (by omega) (by decide) q
        have h0 := ha.2.2.1
        rw [h4 this] at h0
        simp; exact h0
    · simpa [e] using hz
  · intro a b' c' r' h' h1 h2 h3 h5
    rw [cnt_leave] at h1 h2
    exact hU a b' c' r' h' h1 h2 ((atH_leave ht2 ht9).mp h3).2 ((atH_leave ht2 ht9).mp h5).2
  · intro a h1 h2
    rw [cnt_leave] at h1
    have e : ¬ a = i := by omega
    rw [it_leave (by decide), it_leave (by decide), it_leave (by decide)]
    simpa [e] using hZ a h1 h2
/-- an item comes into a free hole -/
def shel (w : Nat → Int32) (i b : Nat) : Nat → Int32 := upd (upd w (6 + 7 * i + 4) 2) (6 + 7 * i + 5) (nI (b + 1))
theorem it_shel {i b a j : Nat} (hj : j < 7) : it (shel w i b) a j = if a = i ∧ j = 4 then 2 else if a = i ∧ j = 5 then nI (b + 1) else it w a j := by
  unfold shel
  rw [it_set (by decide) hj, it_set (by decide) hj]
  by_cases h5 : a = i ∧ j = 5
  · obtain ⟨rfl, rfl⟩ := h5; simp
  · simp [h5]
theorem cnt_shel {i b : Nat} : cnt (shel w i b) = cnt w := by unfold shel; rw [cnt_set, cnt_set]
theorem lo_shel {i b k : Nat} (hk : k < 6) : shel w i b k = w k := by unfold shel; rw [lo_set hk, lo_set hk]
theorem atH_shel {i b a c r b' : Nat} : atH (shel w i b) a c r b' ↔ (a = i ∧ it w i 2 = nI c ∧ it w i 0 = nI r ∧ nI (b + 1) = nI (b' + 1)) ∨ (¬ a = i ∧ atH w a c r b') := by
  unfold atH
  rw [it_shel (by decide), it_shel (by decide), it_shel (by decide), it_shel (by decide)]
  by_cases e : a = i
  · subst e; simp
  · simp [e]
theorem shel_off (h : Off σ o w f) {i c r b : Nat} (hi : i < cnt w) (hc : c < 6) (hr : r < 2) (hb : b < hls r) (h1 : it w i 4 = 1) (h2 : it w i 2 = nI c) (h0 : it w i 0 = nI r) (hfree : ∀ a, a < cnt w → ¬ atH w a c r b) :
    Off (setI (setI (setI σ (o + 13 + 1) (5 * c + 3 * r + b) (nI i)) (o + 4 + 5) i 2) (o + 4 + 6) i (nI b)) o (shel w i b) f := by
  have hs := h.2.2.1
  have n12 : ¬ (1 : Int32) = 2 := by decide
  have hb3 := hls3 hb
  refine h.cols (fun k hk => lo_shel hk) rfl ?_ ?_ ?_ (fun j hj a hA => ?_) ⟨fun c' r' b' h1' h2' h3' => ?_, fun d hd => ?_⟩
  · rw [q1n (by omega), q1n (by omega), q1n (by omega)]
  · rw [q1n (by omega), q1n (by omega), q1n (by omega)]
  · rw [q1n (by omega), q1n (by omega), q1n (by omega)]
  · have hz := h.2.1.2.1 j hj a hA
    rw [it_shel hj]
    by_cases e5 : j = 5
    · subst e5
      rw [q1e rfl, q1n (by omega), q1n (by omega)]
      by_cases e2 : a = i
      · subst e2
        rw [ue rfl]
        simp [cv]
        exact (nI_pred b).symm
      · rw [un e2]; simp [e2]; exact hz
    · rw [q1n (by omega)]
      by_cases e4 : j = 4
      · subst e4
        rw [q1e rfl, q1n (by omega)]
        by_cases e2 : a = i
        · subst e2; rw [ue rfl]; simp [cv]
        · rw [un e2]; simp [e2]; exact hz
      · rw [q1n (by omega), q1n (by omega)]
        simp [e4, e5]; exact hz
  · rw [q1n (by omega), q1n (by omega), q1e (by omega)]
    have H := hs.1 c' r' b' h1' h2' h3'
    by_cases e : c' = c ∧ r' = r ∧ b' = b
    · obtain ⟨rfl, rfl, rfl⟩ := e
      rw [ue rfl]
      exact Or.inr ⟨i, by rw [cnt_shel]; exact hi, rfl, atH_shel.mpr (Or.inl ⟨rfl, h2, h0, rfl⟩)⟩
    · rw [un (fun z => e (place_inj h3' hb h2' hr z))]
      rcases H with ⟨v1, v2⟩ | ⟨a, v1, v2, v3⟩
      · refine Or.inl ⟨v1, fun a hA hq2 => ?_⟩
        rw [cnt_shel] at hA
        rcases atH_shel.mp hq2 with ⟨-, w2, w3, w4⟩ | ⟨-, w2⟩
        · have b3 := hls3 h3'
          have x1 := nI_inj (by omega) (by omega) (w2.symm.trans h2)
          have x2 := nI_inj (by omega) (by omega) (w3.symm.trans h0)
          have x3 := nI_inj (by omega) (by omega) w4
          exact e ⟨x1, x2, by omega⟩
        · exact v2 a hA w2
      · refine Or.inr ⟨a, by rw [cnt_shel]; exact v1, v2, atH_shel.mpr (Or.inr ⟨fun z => ?_, v3⟩)⟩
        subst z
        rw [v3.1] at h1
        exact absurd h1 (by decide)
  · rw [q1n (by omega), q1n (by omega), q1n (by omega), cnt_shel, hs.2 d hd]
    refine congrArg nI (cn_congr _ (fun a _ => ?_))
    unfold tkn
    rw [it_shel (by decide), it_shel (by decide), it_shel (by decide)]
    by_cases e : a = i
    · subst e
      have n13 : ¬ (1 : Int32) = 3 := by decide
      have n23 : ¬ (2 : Int32) = 3 := by decide
      simp [h1, n13, n23]
    · simp [e]
theorem Inv.shel (hI : Inv w f) {i c r b : Nat} (hi : i < cnt w) (hc : c < 6) (hr : r < 2) (hb : b < hls r) (h1 : it w i 4 = 1) (h2 : it w i 2 = nI c) (h0 : it w i 0 = nI r) (hfree : ∀ a, a < cnt w → ¬ atH w a c r b) : Inv (shel w i b) f := by
  obtain ⟨⟨n1, n2, n3, n4, n5⟩, hIt, hU, hZ, hF⟩ := hI
  have hb3 := hls3 hb
  refine ⟨⟨?_, ?_, ?_, ?_, ?_⟩, ?_, ?_, ?_, hF⟩
  · rw [cnt_shel, lo_shel (by decide)]; exact n1
  · rw [cnt_shel]; exact n2
  · rw [lo_shel (by decide)]; exact n3
  · rw [lo_shel (by decide)]; exact n4
  · rw [lo_shel (by decide)]; exact n5
  · intro a hA
    rw [cnt_shel] at hA
    have hz := hIt a hA
    unfold iw at hz ⊢
    simp only [atH_shel]
    rw [it_shel (by decide), it_shel (by decide), it_shel (by decide), it_shel (by decide)]
    by_cases e : a = i
    · subst e
      obtain ⟨z1, z2, -⟩ := hz
      refine ⟨by simpa using z1, by simpa using z2, ⟨2, by decide, by simp; rfl⟩, fun _ => ⟨c, r, b, hc, hr, hb, Or.inl ⟨rfl, h2, h0, rfl⟩⟩, fun q => ?_, fun q => ?_⟩
      · simp at q
      · simp at q
    · simpa [e] using hz
  · intro a a' c' r' h' h1' h2' h3' h5'
    rw [cnt_shel] at h1' h2'
    rcases atH_shel.mp h3' with ⟨rfl, u2, u3, u4⟩ | ⟨u1, u2⟩ <;> rcases atH_shel.mp h5' with ⟨rfl, v2, v3, v4⟩ | ⟨v1, v2⟩
    · rfl
    · refine absurd ?_ (hfree a' h2')
      exact ⟨v2.1, v2.2.1.trans (u2.symm.trans h2), v2.2.2.1.trans (u3.symm.trans h0), v2.2.2.2.trans u4.symm⟩
    · refine absurd ?_ (hfree a h1')
      exact ⟨u2.1, u2.2.1.trans (v2.symm.trans h2), u2.2.2.1.trans (v3.symm.trans h0), u2.2.2.2.trans v4.symm⟩
    · exact hU a a' c' r' h' h1' h2' u2 v2
  · intro a h1' h2'
    rw [cnt_shel] at h1'
    have e : ¬ a = i := by omega
    rw [it_shel (by decide), it_shel (by decide), it_shel (by decide)]
    simpa [e] using hZ a h1' h2'
/-- a state that is neither shelved nor eaten behind -/
theorem Inv.P12 (hI : Inv w f) {i t : Nat} (hi : i < cnt w) (a2 : ¬ it w i 4 = 2) (ht : t = 0 ∨ t = 1) : Inv (upd w (6 + 7 * i + 4) (nI t)) f := by
  obtain ⟨⟨n1, n2, n3, n4, n5⟩, hIt, hU, hZ, hF⟩ := hI
  have v2 : ¬ nI t = 2 := nI_lt6 (k := 2) (by omega) (by decide) (by omega)
  have v4 : ¬ nI t = 4 := nI_lt6 (k := 4) (by omega) (by decide) (by omega)
  have hA : ∀ a c r b, atH (upd w (6 + 7 * i + 4) (nI t)) a c r b ↔ atH w a c r b := by
    intro a c r b
    unfold atH
    rw [it_set (by decide) (by decide), it_set (by decide) (by decide), it_set (by decide) (by decide), it_set (by decide) (by decide)]
    by_cases e : a = i
    · subst e; simp [a2, v2]
    · simp [e]
  refine ⟨⟨?_, ?_, ?_, ?_, ?_⟩, ?_, ?_, ?_, hF⟩
  · rw [cnt_set, lo_set (by decide)]; exact n1
  · rw [cnt_set]; exact n2
  · rw [lo_set (by decide)]; exact n3
  · rw [lo_set (by decide)]; exact n4
  · rw [lo_set (by decide)]; exact n5
  · intro a h1
    rw [cnt_set] at h1
    have hz := hIt a h1
    unfold iw at hz ⊢
    simp only [hA]
    rw [it_set (by decide) (by decide), it_set (by decide) (by decide), it_set (by decide) (by decide), it_set (by decide) (by decide)]
    by_cases e : a = i
    · subst e
      obtain ⟨z1, z2, z3, z4, z5, z6⟩ := hz
      refine ⟨by simpa using z1, by simpa using z2, ⟨t, by omega, by simp⟩, fun q => ?_, fun _ => by simpa using z5 a2, fun q => ?_⟩
      · simp at q; exact absurd q v2
      · simp at q; exact absurd q v4
    · simpa [e] using hz
  · intro a a' c r b h1 h2 h3 h5
    rw [cnt_set] at h1 h2
    exact hU a a' c r b h1 h2 ((hA _ _ _ _).mp h3) ((hA _ _ _ _).mp h5)
  · intro a h1 h2
    rw [cnt_set] at h1
    have e : ¬ a = i := by omega
    rw [it_set (by decide) (by decide), it_set (by decide) (by decide), it_set (by decide) (by decide)]
    simpa [e] using hZ a h1 h2
theorem Inv.P13 (hI : Inv w f) {i : Nat} (hi : i < cnt w) {v : Int32} : Inv (upd w (6 + 7 * i + 6) v) f := by
  obtain ⟨⟨n1, n2, n3, n4, n5⟩, hIt, hU, hZ, hF⟩ := hI
  have hA : ∀ a c r b, atH (upd w (6 + 7 * i + 6) v) a c r b ↔ atH w a c r b := by
    intro a c r b
    unfold atH
    rw [it_set (by decide) (by decide), it_set (by decide) (by decide), it_set (by decide) (by decide), it_set (by decide) (by decide)]
    simp
  refine ⟨⟨?_, ?_, ?_, ?_, ?_⟩, ?_, ?_, ?_, hF⟩
  · rw [cnt_set, lo_set (by decide)]; exact n1
  · rw [cnt_set]; exact n2
  · rw [lo_set (by decide)]; exact n3
  · rw [lo_set (by decide)]; exact n4
  · rw [lo_set (by decide)]; exact n5
  · intro a h1
    rw [cnt_set] at h1
    have hz := hIt a h1
    unfold iw at hz ⊢
    simp only [hA]
    rw [it_set (by decide) (by decide), it_set (by decide) (by decide), it_set (by decide) (by decide), it_set (by decide) (by decide)]
    simpa using hz
  · intro a a' c r b h1 h2 h3 h5
    rw [cnt_set] at h1 h2
    exact hU a a' c r b h1 h2 ((hA _ _ _ _).mp h3) ((hA _ _ _ _).mp h5)
  · intro a h1 h2
    rw [cnt_set] at h1
    have e : ¬ a = i := by omega
    rw [it_set (by decide) (by decide), it_set (by decide) (by decide), it_set (by decide) (by decide)]
    simpa [e] using hZ a h1 h2
/-- a new item -/
def dMk (w : Nat → Int32) (k a b z : Int32) : Nat → Int32 := upd (upd (upd (upd (upd w 2 (w 2 + 1)) (6 + 7 * cnt w + 0) k) (6 + 7 * cnt w + 1) a) (6 + 7 * cnt w + 2) b) (6 + 7 * cnt w + 3) z
theorem it_dMk {k a b z : Int32} {i j : Nat} (hj : j < 7) : it (dMk w k a b z) i j = if i = cnt w ∧ j = 3 then z else if i = cnt w ∧ j = 2 then b else if i = cnt w ∧ j = 1 then a else if i = cnt w ∧ j = 0 then k else it w i j := by
  unfold dMk
  rw [it_set (by decide) hj, it_set (by decide) hj, it_set (by decide) hj, it_set (by decide) hj, it_un (by omega)]
theorem lo_dMk {k a b z : Int32} {j : Nat} (hj : j < 6) : dMk w k a b z j = if j = 2 then w 2 + 1 else w j := by
  unfold dMk
  rw [lo_set hj, lo_set hj, lo_set hj, lo_set hj]
  rfl
theorem cnt_dMk {k a b z : Int32} (hn : w 2 = nI (cnt w)) (h20 : cnt w ≤ 20) : cnt (dMk w k a b z) = cnt w + 1 := by
  unfold cnt
  rw [lo_dMk (by decide), if_pos rfl]
  show (w 2 + 1).toNatClampNeg = cnt w + 1
  rw [hn, nI_1, nI_clamp (by omega)]
theorem atH_dMk {k a b z : Int32} {i c r h : Nat} (hi : i < cnt w) : atH (dMk w k a b z) i c r h ↔ atH w i c r h := by
  have e : ¬ i = cnt w := by omega
  unfold atH
  rw [it_dMk (by decide), it_dMk (by decide), it_dMk (by decide), it_dMk (by decide)]
  simp [e]
theorem atH_new {k a b z : Int32} {c r h : Nat} (h4 : it w (cnt w) 4 = 0) : ¬ atH (dMk w k a b z) (cnt w) c r h := by
  unfold atH
  rw [it_dMk (by decide)]
  simp [h4]
theorem add_off (h : Off σ o w f) (hI : Inv w f) (hl : cnt w < 20) (k a b z : Int32) : ok_X5_add σ (o + 4) k a b z ∧ (f_X5_add σ (o + 4) k a b z).2 = nI (cnt w) ∧ Off (f_X5_add σ (o + 4) k a b z).1 o (dMk w k a b z) f := by
  have hn := h.n hI
  have hw2 := hI.1.1
  have hz := hI.2.2.2.1 (cnt w) (Nat.le_refl _) hl
  have hcl : (nI (cnt w)).toNatClampNeg = cnt w := nI_clamp (by omega)
  have hv : vp_in (nI (cnt w)) 20 := vp_in_nI hl (by decide)
  have hs := h.2.2.1
  have hc1 := cnt_dMk (k := k) (a := a) (b := b) (z := z) hw2 (by omega)
  refine ⟨by unfold ok_X5_add; rw [hn]; exact ⟨hv, hv, hv, hv, hv, hv, hv, hv⟩, hn, ?_⟩
  obtain ⟨⟨d1, d2, d3, d4, d5, d6⟩, ⟨i1, i2, i3⟩, ⟨s1, s2⟩, g1, g2, g3, g4⟩ := h
  unfold f_X5_add
  simp only [bnd]
  rw [hn, hcl]
  refine ⟨⟨?_, ?_, ?_, ?_, ?_, ?_⟩, ⟨?_, ?_, ?_⟩, ⟨?_, ?_⟩, ?_, ?_, ?_, ?_⟩
  · rw [lo_dMk (by decide), if_neg (by decide)]
    simp (disch := omega) only [q1e, q1n, q2e, q2n, s2_setI, s1_setF]; exact d1
  · rw [lo_dMk (by decide), if_neg (by decide)]
    simp (disch := omega) only [q1e, q1n, q2e, q2n, s2_setI, s1_setF]; exact d2
  · simp (disch := omega) only [q1e, q1n, q2e, q2n, s2_setI, s1_setF]; exact d3
  · simp (disch := omega) only [q1e, q1n, q2e, q2n, s2_setI, s1_setF]; exact d4
  · simp (disch := omega) only [q1e, q1n, q2e, q2n, s2_setI, s1_setF]; exact d5
  · simp (disch := omega) only [q1e, q1n, q2e, q2n, s2_setI, s1_setF]; exact d6
  · rw [lo_dMk (by decide), if_pos rfl]
    simp (disch := omega) only [q1e, q1n, q2e, q2n, s2_setI, s1_setF, ue]
    rw [hn, hw2]
  · intro j hj i hi
    rw [hc1] at hi
    rw [it_dMk hj]
    by_cases e : i = cnt w
    · subst e
      rcases (show j = 0 ∨ j = 1 ∨ j = 2 ∨ j = 3 ∨ j = 4 ∨ j = 5 ∨ j = 6 by omega) with rfl | rfl | rfl | rfl | rfl | rfl | rfl
      all_goals
        simp (disch := omega) only [q1e, q1n, q2e, q2n, s2_setI, s1_setF, ue]
        simp [cv, hz.1, hz.2.1, hz.2.2.1]
    · have hz2 := i2 j hj i (by omega)
      rcases (show j = 0 ∨ j = 1 ∨ j = 2 ∨ j = 3 ∨ j = 4 ∨ j = 5 ∨ j = 6 by omega) with rfl | rfl | rfl | rfl | rfl | rfl | rfl
      all_goals
        simp (disch := omega) only [q1e, q1n, q2e, q2n, s2_setI, s1_setF, un]
        simp only [e, false_and, if_false]
        exact hz2
  · intro i hi
    rw [hc1] at hi
    by_cases e : i = cnt w
    · subst e
      simp (disch := omega) only [q1e, q1n, q2e, q2n, s2_setI, s1_setF, ve]
      rw [hz.2.2.2]
      rfl
    · simp (disch := omega) only [q1e, q1n, q2e, q2n, s2_setI, s1_setF, vn]
      exact i3 i (by omega)
  · intro c r b' h1 h2 h3
    simp (disch := omega) only [q1e, q1n, q2e, q2n, s2_setI, s1_setF]
    rcases s1 c r b' h1 h2 h3 with ⟨v1, v2⟩ | ⟨i, v1, v2, v3⟩
    · refine Or.inl ⟨v1, fun i hi q => ?_⟩
      rw [hc1] at hi
      by_cases e : i = cnt w
      · subst e; exact atH_new hz.1 q
      · exact v2 i (by omega) ((atH_dMk (by omega)).mp q)
    · exact Or.inr ⟨i, by rw [hc1]; omega, v2, (atH_dMk v1).mpr v3⟩
  · intro c hc
    simp (disch := omega) only [q1e, q1n, q2e, q2n, s2_setI, s1_setF]
    rw [s2 c hc, hc1]
    show nI _ = nI (cn (tkn (dMk w k a b z) c) (cnt w) + (if tkn (dMk w k a b z) c (cnt w) = true then 1 else 0))
    have e1 : tkn (dMk w k a b z) c (cnt w) = false := by
      unfold tkn
      rw [it_dMk (j := 4) (by decide)]
      simp [hz.1]
    rw [e1, cn_congr (p := tkn (dMk w k a b z) c) (q := tkn w c) (cnt w) (fun i hi => ?_)]
    · rfl
    · have e : ¬ i = cnt w := by omega
      unfold tkn
      rw [it_dMk (by decide), it_dMk (by decide), it_dMk (by decide)]
      simp [e]
  · simp (disch := omega) only [q1e, q1n, q2e, q2n, s2_setI, s1_setF]; exact g1
  · rw [lo_dMk (by decide), if_neg (by decide)]
    simp (disch := omega) only [q1e, q1n, q2e, q2n, s2_setI, s1_setF]; exact g2
  · rw [lo_dMk (by decide), if_neg (by decide)]
    simp (disch := omega) only [q1e, q1n, q2e, q2n, s2_setI, s1_setF]; exact g3
  · rw [lo_dMk (by decide), if_neg (by decide)]
    simp (disch := omega) only [q1e, q1n, q2e, q2n, s2_setI, s1_setF]; exact g4
theorem Inv.mk (hI : Inv w f) (hl : cnt w < 20) {r b : Nat} (hr : r < 2) (hb : b < 6) (a z : Int32) : Inv (dMk w (nI r) a (nI b) z) f := by
  have hw2 := hI.1.1
  have hz := hI.2.2.2.1 (cnt w) (Nat.le_refl _) hl
  have hc1 := cnt_dMk (k := nI r) (a := a) (b := nI b) (z := z) hw2 (by omega)
  obtain ⟨⟨n1, n2, n3, n4, n5⟩, hIt, hU, hZ, hF⟩ := hI
  refine ⟨⟨?_, ?_, ?_, ?_, ?_⟩, ?_, ?_, ?_, hF⟩
  · rw [hc1, lo_dMk (by decide), if_pos rfl, hw2, nI_1]
  · rw [hc1]; omega
  · rw [lo_dMk (by decide), if_neg (by decide)]; exact n3
  · rw [lo_dMk (by decide), if_neg (by decide)]; exact n4
  · rw [lo_dMk (by decide), if_neg (by decide)]; exact n5
  · intro i hi
    rw [hc1] at hi
    by_cases e : i = cnt w
    · subst e
      unfold iw
      rw [it_dMk (by decide), it_dMk (by decide), it_dMk (by decide), it_dMk (by decide)]
      refine ⟨⟨r, hr, by simp⟩, ⟨b, hb, by simp⟩, ⟨0, by decide, by simp [hz.1]; rfl⟩, fun q => ?_, fun _ => by simp [hz.2.1], fun q => ?_⟩
      · simp [hz.1] at q
      · simp [hz.1] at q
    · have hi2 : i < cnt w := by omega
      have hz2 := hIt i hi2
      unfold iw at hz2 ⊢
      simp only [atH_dMk hi2]
      rw [it_dMk (by decide), it_dMk (by decide), it_dMk (by decide), it_dMk (by decide)]
      simpa [e] using hz2
  · intro i j c r' h h1 h2 h3 h4
    rw [hc1] at h1 h2
    have e1 : i < cnt w := by
      rcases Nat.lt_or_ge i (cnt w) with q | q
      · exact q
      · rw [show i = cnt w by omega] at h3; exact absurd h3 (atH_new hz.1)
    have e2 : j < cnt w := by
      rcases Nat.lt_or_ge j (cnt w) with q | q
      · exact q
      · rw [show j = cnt w by omega] at h4; exact absurd h4 (atH_new hz.1)
    exact hU i j c r' h e1 e2 ((atH_dMk e1).mp h3) ((atH_dMk e2).mp h4)
  · intro i h1 h2
    rw [hc1] at h1
    have e : ¬ i = cnt w := by omega
    rw [it_dMk (by decide), it_dMk (by decide), it_dMk (by decide)]
    simpa [e] using hZ i (by omega) h2
end MOV
