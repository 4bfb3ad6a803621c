/-! the shelves, on both sides -/
def inH (w : Nat → Int32) (c r h : Nat) : Int32 := fd (fun i => decide (it w i 4 = 2 ∧ it w i 2 = nI c ∧ it w i 0 = nI r ∧ it w i 5 = nI (h + 1))) (cnt w) 0
theorem inH_hp (w : Nat → Int32) (c r h : Nat) : Hp w c r h (inH w c r h) := by
  rcases fd_spec (fun i => decide (it w i 4 = 2 ∧ it w i 2 = nI c ∧ it w i 0 = nI r ∧ it w i 5 = nI (h + 1))) (cnt w) 0 with ⟨h1, h2⟩ | ⟨i, h1, h2, h3, h4, -⟩
  · exact Or.inl ⟨h1, fun i hi q => by have := h2 i (Nat.zero_le i) (by omega); simp at this; exact this q.1 q.2.1 q.2.2.1 q.2.2.2⟩
  · exact Or.inr ⟨i, by omega, h3, by simp only [decide_eq_true_eq] at h4; exact h4⟩
theorem hp_uniq {w : Nat → Int32} (hU : InvU w) {c r h : Nat} {v v' : Int32} (h1 : Hp w c r h v) (h2 : Hp w c r h v') : v = v' := by
  rcases h1 with ⟨a1, a2⟩ | ⟨i, a1, a2, a3⟩ <;> rcases h2 with ⟨b1, b2⟩ | ⟨j, b1, b2, b3⟩
  · rw [a1, b1]
  · exact absurd b3 (a2 j b1)
  · exact absurd a3 (b2 i a1)
  · rw [a2, b2, hU i j c r h a1 b1 a3 b3]
theorem inH_cases {w : Nat → Int32} (h20 : cnt w ≤ 20) (c r h : Nat) : (inH w c r h = -1 ∧ ∀ i, i < cnt w → ¬ atH w i c r h) ∨ ∃ i, i < cnt w ∧ inH w c r h = nI i ∧ ¬ inH w c r h = -1 ∧ ¬ inH w c r h < 0 ∧ atH w i c r h := by
  rcases inH_hp w c r h with h1 | ⟨i, h1, h2, h3⟩
  · exact Or.inl h1
  · exact Or.inr ⟨i, h1, h2, by rw [h2]; exact nI_m1 (by omega), by rw [h2]; exact nI_pos (by omega), h3⟩
theorem hls_le (r : Nat) : hls r ≤ 3 := by unfold hls; split <;> omega
theorem holes_nI {r : Nat} (hr : r < 2) : f_X8_holesIn (nI r) = nI (hls r) ∧ True := by
  rcases (show r = 0 ∨ r = 1 by omega) with rfl | rfl <;> exact ⟨by decide, trivial⟩
def lof (w : Nat → Int32) (c r : Nat) : Int32 := fd (fun h => decide (inH w c r h = -1)) (hls r) 0
section SHF
variable {σ : St} {o : Nat} {w : Nat → Int32} {f : Nat → UInt32}
theorem cl_itemAt (hO : Off σ o w f) (hI : Inv w f) {c r h : Nat} (hc : c < 6) (hr : r < 2) (hh : h < hls r) : ok_X8_itemAt σ (o + 13) (nI c) (nI r) (nI h) ∧ f_X8_itemAt σ (o + 13) (nI c) (nI r) (nI h) = inH w c r h := by
  have hp := place_lt hc hr hh
  have hcl : (nI (5 * c + 3 * r + h)).toNatClampNeg = 5 * c + 3 * r + h := nI_clamp (by omega)
  unfold ok_X8_itemAt f_X8_itemAt
  rw [placeOf_nI, hcl]
  refine ⟨vp_in_nI hp (by decide), ?_⟩
  exact hp_uniq hI.2.2.1 (hO.2.2.1.1 c r h hc hr hh) (inH_hp w c r h)
theorem cl_lowest (hO : Off σ o w f) (hI : Inv w f) {c r : Nat} (hc : c < 6) (hr : r < 2) : ok_X8_lowestFree σ (o + 13) (nI c) (nI r) ∧ f_X8_lowestFree σ (o + 13) (nI c) (nI r) = lof w c r := by
  have h3 := hls_le r
  have hh := (holes_nI hr).1
  exact fd_run (n := hls r) (fun fu k => fX8_lowestFree_L2 σ (o + 13) fu (nI c) (nI r) k) (fun fu k => okX8_lowestFree_L2 σ (o + 13) fu (nI c) (nI r) k) (fun h => decide (inH w c r h = -1)) id
    (fun fu => by simp [okX8_lowestFree_L2, fX8_lowestFree_L2, hh])
    (fun fu k hk => by
      have hlt : ¬ nI (hls r) ≤ nI k := nI_ge hk (by omega)
      have hi := cl_itemAt hO hI hc hr hk
      by_cases h1 : inH w c r k = -1 <;>
        simp [okX8_lowestFree_L2, fX8_lowestFree_L2, hh, hlt, hi.1, hi.2, h1, nI_1])
    (hls r) 2000 0 (by omega) (Nat.zero_add _)
theorem lof_cases {c r : Nat} : (lof w c r = -1 ∧ ∀ h, h < hls r → ¬ inH w c r h = -1) ∨ ∃ b, b < hls r ∧ lof w c r = nI b ∧ ¬ lof w c r = -1 ∧ inH w c r b = -1 := by
  have h3 := hls_le r
  rcases fd_spec (fun h => decide (inH w c r h = -1)) (hls r) 0 with ⟨h1, h2⟩ | ⟨b, -, h2, h3', h4, -⟩
  · exact Or.inl ⟨h1, fun h hh q => by have := h2 h (Nat.zero_le h) (by omega); simp at this; exact this q⟩
  · have hb : b < hls r := by omega
    exact Or.inr ⟨b, hb, h3', by unfold lof; rw [h3']; exact nI_m1 (by omega), by simpa using h4⟩
/-- what lies on a child's shelf -/
def onS (w : Nat → Int32) (c i : Nat) : Bool := decide (it w i 4 = 2 ∧ it w i 2 = nI c)
def bare (w : Nat → Int32) (c r : Nat) : Bool := decide (fd (fun h => decide (¬ inH w c r h = -1)) (hls r) 0 = -1)
theorem bare_iff {c r : Nat} : bare w c r = true ↔ ∀ h, h < hls r → inH w c r h = -1 := by
  unfold bare
  have h3 := hls_le r
  rcases fd_spec (fun h => decide (¬ inH w c r h = -1)) (hls r) 0 with ⟨h1, h2⟩ | ⟨b, -, h2, h3', h4, -⟩
  · rw [h1]
    refine ⟨fun _ h hh => ?_, fun _ => by decide⟩
    have := h2 h (Nat.zero_le h) (by omega)
    simpa using this
  · rw [h3']
    have : ¬ nI b = -1 := nI_m1 (by omega)
    refine ⟨fun q => absurd (of_decide_eq_true q) this, fun q => ?_⟩
    have := q b (by omega)
    simp at h4
    exact absurd this h4
theorem bare_all (hI : Inv w f) {c : Nat} (hc : c < 6) : (bare w c 0 = true ∧ bare w c 1 = true) ↔ cn (onS w c) (cnt w) = 0 := by
  rw [bare_iff, bare_iff, cn_zero]
  constructor
  · intro ⟨h0, h1⟩ i hi
    unfold onS
    by_cases q : it w i 4 = 2 ∧ it w i 2 = nI c
    · obtain ⟨-, -, -, a4, -⟩ := hI.2.1 i hi
      obtain ⟨c', r, h, b1, b2, b3, b4⟩ := a4 q.1
      have e := nI_inj (by omega) (by omega) (b4.2.1.symm.trans q.2)
      subst e
      rcases inH_cases hI.n20 c' r h with ⟨z1, z2⟩ | ⟨j, z1, z2, z3, -⟩
      · exact absurd b4 (z2 i hi)
      · rcases (show r = 0 ∨ r = 1 by omega) with rfl | rfl
        · exact absurd (h0 h b3) z3
        · exact absurd (h1 h b3) z3
    · simpa using q
  · intro h
    have key : ∀ r, r < 2 → ∀ b, b < hls r → inH w c r b = -1 := by
      intro r hr b hb
      rcases inH_cases hI.n20 c r b with ⟨z1, -⟩ | ⟨j, z1, -, -, -, z5⟩
      · exact z1
      · have := h j z1
        unfold onS at this
        simp [z5.1, z5.2.1] at this
    exact ⟨key 0 (by decide), key 1 (by decide)⟩
theorem cl_bareRow (hO : Off σ o w f) (hI : Inv w f) {c r : Nat} (hc : c < 6) (hr : r < 2) (k2 : Int32 → Int32 → Bool) (p2 : Int32 → Int32 → Prop) (hp : p2 (nI c) (nI (r + 1))) : okX8_isBare_L9 σ (o + 13) p2 2000 (nI c) (nI r) 0 ∧ fX8_isBare_L9 σ (o + 13) k2 2000 (nI c) (nI r) 0 = if bare w c r = true then k2 (nI c) (nI (r + 1)) else false := by
  have h3 := hls_le r
  have hh := (holes_nI hr).1
  have key := fd_run (n := hls r) (fun fu k => fX8_isBare_L9 σ (o + 13) k2 fu (nI c) (nI r) k) (fun fu k => okX8_isBare_L9 σ (o + 13) p2 fu (nI c) (nI r) k) (fun h => decide (¬ inH w c r h = -1)) (fun v => if decide (v = -1) = true then k2 (nI c) (nI (r + 1)) else false)
    (fun fu => by simp [okX8_isBare_L9, fX8_isBare_L9, hh, nI_1, hp])
    (fun fu k hk => by
      have hlt : ¬ nI (hls r) ≤ nI k := nI_ge hk (by omega)
      have hi := cl_itemAt hO hI hc hr hk
      have hm : ¬ nI k = -1 := nI_m1 (by omega)
      by_cases h1 : inH w c r k = -1 <;>
        simp [okX8_isBare_L9, fX8_isBare_L9, hh, hlt, hi.1, hi.2, h1, hm, nI_1])
    (hls r) 2000 0 (by omega) (Nat.zero_add _)
  exact key
theorem cl_isBare (hO : Off σ o w f) (hI : Inv w f) {c : Nat} (hc : c < 6) : ok_X8_isBare σ (o + 13) (nI c) ∧ f_X8_isBare σ (o + 13) (nI c) = decide (cn (onS w c) (cnt w) = 0) := by
  have hb := bare_all hI hc
  have s2 : ∀ fu, okX8_isBare_L2 σ (o + 13) (fu + 1) (nI c) (nI 2) ∧ fX8_isBare_L2 σ (o + 13) (fu + 1) (nI c) (nI 2) = true := by
    intro fu
    have h1 : (1 : Int32) < nI 2 := by decide
    simp [okX8_isBare_L2, fX8_isBare_L2, h1]
  have s1 : ∀ fu, okX8_isBare_L2 σ (o + 13) (fu + 2) (nI c) (nI 1) ∧ fX8_isBare_L2 σ (o + 13) (fu + 2) (nI c) (nI 1) = bare w c 1 := by
    intro fu
    have h1 : ¬ (1 : Int32) < nI 1 := by decide
    obtain ⟨k1, k2⟩ := cl_bareRow hO hI hc (r := 1) (by decide) (fun x1 x2 => fX8_isBare_L2 σ (o + 13) (fu + 1) x1 x2) (fun x1 x2 => okX8_isBare_L2 σ (o + 13) (fu + 1) x1 x2) (s2 fu).1
    rw [show nI (1 + 1) = nI 2 from rfl, (s2 fu).2] at k2
    rw [okX8_isBare_L2, fX8_isBare_L2, if_neg h1, k2]
    refine ⟨⟨fun z => absurd z h1, fun _ => k1⟩, ?_⟩
    cases bare w c 1 <;> rfl
  have s0 : ∀ fu, okX8_isBare_L2 σ (o + 13) (fu + 3) (nI c) (nI 0) ∧ fX8_isBare_L2 σ (o + 13) (fu + 3) (nI c) (nI 0) = (bare w c 0 && bare w c 1) := by
    intro fu
    have h1 : ¬ (1 : Int32) < nI 0 := by decide
    obtain ⟨k1, k2⟩ := cl_bareRow hO hI hc (r := 0) (by decide) (fun x1 x2 => fX8_isBare_L2 σ (o + 13) (fu + 2) x1 x2) (fun x1 x2 => okX8_isBare_L2 σ (o + 13) (fu + 2) x1 x2) (s1 fu).1
    rw [show nI (0 + 1) = nI 1 from rfl, (s1 fu).2] at k2
    rw [okX8_isBare_L2, fX8_isBare_L2, if_neg h1, k2]
    refine ⟨⟨fun z => absurd z h1, fun _ => k1⟩, ?_⟩
    cases bare w c 0 <;> cases bare w c 1 <;> rfl
  obtain ⟨a1, a2⟩ := s0 1997
  refine ⟨a1, a2.trans ?_⟩
  by_cases q : cn (onS w c) (cnt w) = 0
  · obtain ⟨b1, b2⟩ := hb.mpr q
    rw [b1, b2]
    simp [q]
  · cases e0 : bare w c 0 with
    | false => simp [q]
    | true =>
      cases e1 : bare w c 1 with
      | false => simp [q]
      | true => exact absurd (hb.mp ⟨e0, e1⟩) q
/-! taking all off a shelf -/
/-- w' comes from w by taking items of child c -/
def Tk (c : Nat) (w w' : Nat → Int32) : Prop := (∀ k, k < 6 → w' k = w k) ∧ ∀ a, (∀ j, j < 7 → it w' a j = it w a j) ∨ (a < cnt w ∧ it w a 4 = 2 ∧ it w a 2 = nI c ∧ it w' a 4 = 3 ∧ it w' a 5 = 0 ∧ ∀ j, j < 7 → ¬ j = 4 → ¬ j = 5 → it w' a j = it w a j)
theorem Tk.rf {c : Nat} : Tk c w w := ⟨fun _ _ => rfl, fun _ => Or.inl fun _ _ => rfl⟩
theorem Tk.cnt {c : Nat} {w w' : Nat → Int32} (h : Tk c w w') : cnt w' = cnt w := by
  unfold _root_.Jvm.Pilot.CPotatoStampsLaw_law_r9434_2e764d.cnt
  rw [h.1 2 (by decide)]
theorem Tk.tr {c : Nat} {w w1 w2 : Nat → Int32} (h1 : Tk c w w1) (h2 : Tk c w1 w2) : Tk c w w2 := by
  refine ⟨fun k hk => (h2.1 k hk).trans (h1.1 k hk), fun a => ?_⟩
  have n23 : ¬ (3 : Int32) = 2 := by decide
  rcases h1.2 a with a1 | ⟨a1, a2, a3, a4, a5, a6⟩ <;> rcases h2.2 a with b1 | ⟨b1, b2, b3, b4, b5, b6⟩
  · exact Or.inl fun j hj => (b1 j hj).trans (a1 j hj)
  · rw [h1.cnt] at b1
    refine Or.inr ⟨b1, (a1 4 (by decide)).symm.trans b2, (a1 2 (by decide)).symm.trans b3, b4, b5, fun j hj x y => (b6 j hj x y).trans (a1 j hj)⟩
  · exact Or.inr ⟨a1, a2, a3, (b1 4 (by decide)).trans a4, (b1 5 (by decide)).trans a5, fun j hj x y => (b1 j hj).trans (a6 j hj x y)⟩
  · rw [a4] at b2; exact absurd b2 n23
theorem Tk.leave {c i : Nat} (hi : i < _root_.Jvm.Pilot.CPotatoStampsLaw_law_r9434_2e764d.cnt w) (h4 : it w i 4 = 2) (h2 : it w i 2 = nI c) : Tk c w (leave w i 3) := by
  refine ⟨fun k hk => lo_leave hk, fun a => ?_⟩
  by_cases e : a = i
  · subst e
    refine Or.inr ⟨hi, h4, h2, ?_, ?_, fun j hj x y => ?_⟩
    · rw [it_leave (by decide)]; simp; rfl
    · rw [it_leave (by decide)]; simp
    · rw [it_leave hj]; simp [x, y]
  · exact Or.inl fun j hj => by rw [it_leave hj]; simp [e]
/-- two rows that took all there was are one -/
theorem Tk.all {c : Nat} {w w1 w2 : Nat → Int32} (hn : _root_.Jvm.Pilot.CPotatoStampsLaw_law_r9434_2e764d.cnt w ≤ 20) (h1 : Tk c w w1) (h2 : Tk c w w2) (n1 : ∀ a, a < _root_.Jvm.Pilot.CPotatoStampsLaw_law_r9434_2e764d.cnt w → onS w1 c a = false) (n2 : ∀ a, a < _root_.Jvm.Pilot.CPotatoStampsLaw_law_r9434_2e764d.cnt w → onS w2 c a = false) : ∀ k, k < 146 → w1 k = w2 k := by
  have key : ∀ a j, j < 7 → it w1 a j = it w2 a j := by
    intro a j hj
    rcases h1.2 a with a1 | ⟨a1, a2, a3, a4, a5, a6⟩ <;> rcases h2.2 a with b1 | ⟨b1, b2, b3, b4, b5, b6⟩
    · rw [a1 j hj, b1 j hj]
    · have := n1 a b1
      unfold onS at this
      rw [a1 4 (by decide), a1 2 (by decide)] at this
      simp [b2, b3] at this
    · have := n2 a a1
      unfold onS at this
      rw [b1 4 (by decide), b1 2 (by decide)] at this
      simp [a2, a3] at this
    · by_cases x : j = 4
      · subst x; rw [a4, b4]
      · by_cases y : j = 5
        · subst y; rw [a5, b5]
        · rw [a6 j hj x y, b6 j hj x y]
  intro k hk
  rcases Nat.lt_or_ge k 6 with q | q
  · rw [h1.1 k q, h2.1 k q]
  · have := key ((k - 6) / 7) ((k - 6) % 7) (Nat.mod_lt _ (by decide))
    unfold it at this
    rw [show 6 + 7 * ((k - 6) / 7) + (k - 6) % 7 = k by omega] at this
    exact this
theorem onS_leave {c i t a : Nat} (ht : ¬ t = 2) (ht2 : t < 10) : onS (_root_.Jvm.Pilot.CPotatoStampsLaw_law_r9434_2e764d.leave w i t) c a = (onS w c a && decide (¬ a = i)) := by
  unfold onS
  rw [it_leave (by decide), it_leave (by decide)]
  have hn : ¬ nI t = 2 := nI_lt6 (k := 2) ht2 (by decide) ht
  by_cases e : a = i
  · subst e; simp [hn]
  · simp [e]
end SHF
