/-! single changes -/
theorem it_un {w : Nat → Int32} {k i j : Nat} {v : Int32} (h : ¬ 6 + 7 * i + j = k) : it (upd w k v) i j = it w i j := un h
theorem it_ue {w : Nat → Int32} {k i j : Nat} {v : Int32} (h : 6 + 7 * i + j = k) : it (upd w k v) i j = v := ue h
theorem cnt_un {w : Nat → Int32} {k : Nat} {v : Int32} (h : ¬ 2 = k) : cnt (upd w k v) = cnt w := by unfold cnt; rw [un h]
/-- rows that tell the same of every item -/
def Sit (w w' : Nat → Int32) : Prop := cnt w' = cnt w ∧ w' 2 = w 2 ∧ ∀ i j, it w' i j = it w i j
theorem sit_lo {w : Nat → Int32} {k : Nat} {v : Int32} (hk : k < 6) (h2 : ¬ 2 = k) : Sit w (upd w k v) := ⟨cnt_un h2, un h2, fun i j => it_un (by omega)⟩
theorem Sit.atH {w w' : Nat → Int32} (h : Sit w w') (i c r b : Nat) : atH w' i c r b ↔ atH w i c r b := by
  unfold _root_.Jvm.Pilot.CPotatoStampsLaw_law_r9434_2e764d.atH
  rw [h.2.2, h.2.2, h.2.2, h.2.2]
theorem Sit.hp {w w' : Nat → Int32} (h : Sit w w') {c r b : Nat} {v : Int32} (H : Hp w c r b v) : Hp w' c r b v := by
  unfold Hp
  rw [h.1]
  rcases H with ⟨h1, h2⟩ | ⟨i, h1, h2, h3⟩
  · exact Or.inl ⟨h1, fun i hi q => h2 i hi ((h.atH i c r b).mp q)⟩
  · exact Or.inr ⟨i, h1, h2, (h.atH i c r b).mpr h3⟩
theorem Sit.tkn {w w' : Nat → Int32} (h : Sit w w') (c i : Nat) : tkn w' c i = tkn w c i := by
  unfold _root_.Jvm.Pilot.CPotatoStampsLaw_law_r9434_2e764d.tkn
  rw [h.2.2, h.2.2, h.2.2]
theorem Inv.setl {w : Nat → Int32} {f : Nat → UInt32} (hI : Inv w f) {k : Nat} {v : Int32} (hk : k < 6) (h2 : ¬ 2 = k) (c1 : k = 1 → ∃ c, c ≤ 8 ∧ v = nI c) (c3 : k = 3 → ∃ c, c ≤ 5 ∧ v = nI c) (c4 : k = 4 → ∃ c, c ≤ 50 ∧ v = nI c) : Inv (upd w k v) f := by
  obtain ⟨⟨n1, n2, n3, n4, n5⟩, hIt, hU, hZ, hF⟩ := hI
  have hs : Sit w (upd w k v) := sit_lo hk h2
  refine ⟨⟨?_, ?_, ?_, ?_, ?_⟩, ?_, ?_, ?_, hF⟩
  · rw [hs.1, hs.2.1]; exact n1
  · rw [hs.1]; exact n2
  · by_cases h : k = 1
    · subst h; obtain ⟨c, a, b⟩ := c1 rfl; exact ⟨c, a, by rw [ue rfl]; exact b⟩
    · rw [un (fun e => h e.symm)]; exact n3
  · by_cases h : k = 3
    · subst h; obtain ⟨c, a, b⟩ := c3 rfl; exact ⟨c, a, by rw [ue rfl]; exact b⟩
    · rw [un (fun e => h e.symm)]; exact n4
  · by_cases h : k = 4
    · subst h; obtain ⟨c, a, b⟩ := c4 rfl; exact ⟨c, a, by rw [ue rfl]; exact b⟩
    · rw [un (fun e => h e.symm)]; exact n5
  · intro i hi
    rw [hs.1] at hi
    have := hIt i hi
    unfold iw at this ⊢
    rw [hs.2.2, hs.2.2, hs.2.2, hs.2.2]
    simp only [hs.atH]
    exact this
  · intro i j c r h hi hj h1 h2
    rw [hs.1] at hi hj
    exact hU i j c r h hi hj ((hs.atH _ _ _ _).mp h1) ((hs.atH _ _ _ _).mp h2)
  · intro i h1 h2
    rw [hs.1] at h1
    rw [hs.2.2, hs.2.2, hs.2.2]
    exact hZ i h1 h2
theorem Inv.setf {w : Nat → Int32} {f : Nat → UInt32} (hI : Inv w f) {k : Nat} {v : UInt32} (c0 : k < 8 → LB v) (c8 : 8 ≤ k → k < 13 → FB v) (c13 : k = 13 → v.toNat ≤ 1120272384) (c14 : k = 14 → IB v) (c15 : k = 15 → HB v) (c16 : 16 ≤ k → FB v ∧ k < 16 + cnt w) : Inv w (vf_upd f k v) := by
  obtain ⟨hN, hIt, hU, hZ, f1, f2, f3, f4, f5, f6⟩ := hI
  refine ⟨hN, hIt, hU, ?_, ?_, ?_, ?_, ?_, ?_, ?_⟩
  · intro i h1 h2
    obtain ⟨a1, a2, a3, a4⟩ := hZ i h1 h2
    refine ⟨a1, a2, a3, ?_⟩
    rw [vn (fun e => ?_)]
    · exact a4
    · have := (c16 (by omega)).2; omega
  · intro j hj
    by_cases h : j = k
    · subst h; rw [ve rfl]; exact c0 hj
    · rw [vn h]; exact f1 j hj
  · intro j hj
    by_cases h : 8 + j = k
    · subst h; rw [ve rfl]; exact c8 (by omega) (by omega)
    · rw [vn h]; exact f2 j hj
  · by_cases h : 13 = k
    · rw [ve h]; exact c13 h.symm
    · rw [vn h]; exact f3
  · by_cases h : 14 = k
    · rw [ve h]; exact c14 h.symm
    · rw [vn h]; exact f4
  · by_cases h : 15 = k
    · rw [ve h]; exact c15 h.symm
    · rw [vn h]; exact f5
  · intro j hj
    by_cases h : 16 + j = k
    · subst h; rw [ve rfl]; exact (c16 (by omega)).1
    · rw [vn h]; exact f6 j hj
section STP
variable {σ : St} {o : Nat} {w : Nat → Int32} {f : Nat → UInt32}
theorem Off.P1 (h : Off σ o w f) {x : Nat} (hx : x < 8) {v : UInt32} : Off (setF σ (o + 1 + 1) x v) o w (vf_upd f x v) := by
  obtain ⟨⟨d1, d2, d3, d4, d5, d6⟩, ⟨i1, i2, i3⟩, ⟨s1, s2⟩, g1, g2, g3, g4⟩ := h
  refine ⟨⟨?_, ?_, ?_, ?_, ?_, ?_⟩, ⟨?_, ?_, ?_⟩, ⟨?_, ?_⟩, ?_, ?_, ?_, ?_⟩
  · first | exact d1 | (simp (disch := omega) only [r1e, r1n, r2e, r2n, q1e, q1n, q2e, q2n, s2_setI, s1_setF, s2_rowI, s1_rowF, ue, un, ve, vn]; exact d1)
  · first | exact d2 | (simp (disch := omega) only [r1e, r1n, r2e, r2n, q1e, q1n, q2e, q2n, s2_setI, s1_setF, s2_rowI, s1_rowF, ue, un, ve, vn]; exact d2)
  · first | exact d3 | (simp (disch := omega) only [r1e, r1n, r2e, r2n, q1e, q1n, q2e, q2n, s2_setI, s1_setF, s2_rowI, s1_rowF, ue, un, ve, vn]; exact d3)
  · first | exact d4 | (simp (disch := omega) only [r1e, r1n, r2e, r2n, q1e, q1n, q2e, q2n, s2_setI, s1_setF, s2_rowI, s1_rowF, ue, un, ve, vn]; exact d4)
  · intro k hk
    rw [q2e rfl]
    by_cases hkx : k = x
    · subst hkx; rw [ve rfl, ve rfl]
    · rw [vn hkx, vn hkx]; exact d5 k hk
  · intro k hk
    first | exact d6 k hk | (simp (disch := omega) only [r1e, r1n, r2e, r2n, q1e, q1n, q2e, q2n, s2_setI, s1_setF, s2_rowI, s1_rowF, ue, un, ve, vn]; exact d6 k hk)
  · first | exact i1 | (simp (disch := omega) only [r1e, r1n, r2e, r2n, q1e, q1n, q2e, q2n, s2_setI, s1_setF, s2_rowI, s1_rowF, ue, un, ve, vn]; exact i1)
  · intro j hj i hi
    have hz := i2 j hj i hi
    first | exact hz | (simp (disch := omega) only [r1e, r1n, r2e, r2n, q1e, q1n, q2e, q2n, s2_setI, s1_setF, s2_rowI, s1_rowF]; exact hz)
  · intro i hi
    first | exact i3 i hi | (simp (disch := omega) only [r1e, r1n, r2e, r2n, q1e, q1n, q2e, q2n, s2_setI, s1_setF, s2_rowI, s1_rowF, ue, un, ve, vn]; exact i3 i hi)
  · intro c r b h1 h2 h3
    first | exact s1 c r b h1 h2 h3 | (simp (disch := omega) only [r1e, r1n, r2e, r2n, q1e, q1n, q2e, q2n, s2_setI, s1_setF, s2_rowI, s1_rowF, ue, un, ve, vn]; exact s1 c r b h1 h2 h3)
  · intro c hc
    first | exact s2 c hc | (simp (disch := omega) only [r1e, r1n, r2e, r2n, q1e, q1n, q2e, q2n, s2_setI, s1_setF, s2_rowI, s1_rowF, ue, un, ve, vn]; exact s2 c hc)
  · first | exact g1 | (simp (disch := omega) only [r1e, r1n, r2e, r2n, q1e, q1n, q2e, q2n, s2_setI, s1_setF, s2_rowI, s1_rowF, ue, un, ve, vn]; exact g1)
  · first | exact g2 | (simp (disch := omega) only [r1e, r1n, r2e, r2n, q1e, q1n, q2e, q2n, s2_setI, s1_setF, s2_rowI, s1_rowF, ue, un, ve, vn]; exact g2)
  · first | exact g3 | (simp (disch := omega) only [r1e, r1n, r2e, r2n, q1e, q1n, q2e, q2n, s2_setI, s1_setF, s2_rowI, s1_rowF, ue, un, ve, vn]; exact g3)
  · first | exact g4 | (simp (disch := omega) only [r1e, r1n, r2e, r2n, q1e, q1n, q2e, q2n, s2_setI, s1_setF, s2_rowI, s1_rowF, ue, un, ve, vn]; exact g4)
theorem Off.P2 (h : Off σ o w f) {x : Nat} (hx : x < 5) {v : UInt32} : Off (setF σ (o + 1 + 2) x v) o w (vf_upd f (8 + x) v) := by
  obtain ⟨⟨d1, d2, d3, d4, d5, d6⟩, ⟨i1, i2, i3⟩, ⟨s1, s2⟩, g1, g2, g3, g4⟩ := h
  refine ⟨⟨?_, ?_, ?_, ?_, ?_, ?_⟩, ⟨?_, ?_, ?_⟩, ⟨?_, ?_⟩, ?_, ?_, ?_, ?_⟩
  · first | exact d1 | (simp (disch := omega) only [r1e, r1n, r2e, r2n, q1e, q1n, q2e, q2n, s2_setI, s1_setF, s2_rowI, s1_rowF, ue, un, ve, vn]; exact d1)
  · first | exact d2 | (simp (disch := omega) only [r1e, r1n, r2e, r2n, q1e, q1n, q2e, q2n, s2_setI, s1_setF, s2_rowI, s1_rowF, ue, un, ve, vn]; exact d2)
  · first | exact d3 | (simp (disch := omega) only [r1e, r1n, r2e, r2n, q1e, q1n, q2e, q2n, s2_setI, s1_setF, s2_rowI, s1_rowF, ue, un, ve, vn]; exact d3)
  · first | exact d4 | (simp (disch := omega) only [r1e, r1n, r2e, r2n, q1e, q1n, q2e, q2n, s2_setI, s1_setF, s2_rowI, s1_rowF, ue, un, ve, vn]; exact d4)
  · intro k hk
    first | exact d5 k hk | (simp (disch := omega) only [r1e, r1n, r2e, r2n, q1e, q1n, q2e, q2n, s2_setI, s1_setF, s2_rowI, s1_rowF, ue, un, ve, vn]; exact d5 k hk)
  · intro k hk
    rw [q2e rfl]
    by_cases hkx : k = x
    · subst hkx; rw [ve rfl, ve rfl]
    · rw [vn hkx, vn (by omega)]; exact d6 k hk
  · first | exact i1 | (simp (disch := omega) only [r1e, r1n, r2e, r2n, q1e, q1n, q2e, q2n, s2_setI, s1_setF, s2_rowI, s1_rowF, ue, un, ve, vn]; exact i1)
  · intro j hj i hi
    have hz := i2 j hj i hi
    first | exact hz | (simp (disch := omega) only [r1e, r1n, r2e, r2n, q1e, q1n, q2e, q2n, s2_setI, s1_setF, s2_rowI, s1_rowF]; exact hz)
  · intro i hi
    first | exact i3 i hi | (simp (disch := omega) only [r1e, r1n, r2e, r2n, q1e, q1n, q2e, q2n, s2_setI, s1_setF, s2_rowI, s1_rowF, ue, un, ve, vn]; exact i3 i hi)
  · intro c r b h1 h2 h3
    first | exact s1 c r b h1 h2 h3 | (simp (disch := omega) only [r1e, r1n, r2e, r2n, q1e, q1n, q2e, q2n, s2_setI, s1_setF, s2_rowI, s1_rowF, ue, un, ve, vn]; exact s1 c r b h1 h2 h3)
  · intro c hc
    first | exact s2 c hc | (simp (disch := omega) only [r1e, r1n, r2e, r2n, q1e, q1n, q2e, q2n, s2_setI, s1_setF, s2_rowI, s1_rowF, ue, un, ve, vn]; exact s2 c hc)
  · first | exact g1 | (simp (disch := omega) only [r1e, r1n, r2e, r2n, q1e, q1n, q2e, q2n, s2_setI, s1_setF, s2_rowI, s1_rowF, ue, un, ve, vn]; exact g1)
  · first | exact g2 | (simp (disch := omega) only [r1e, r1n, r2e, r2n, q1e, q1n, q2e, q2n, s2_setI, s1_setF, s2_rowI, s1_rowF, ue, un, ve, vn]; exact g2)
  · first | exact g3 | (simp (disch := omega) only [r1e, r1n, r2e, r2n, q1e, q1n, q2e, q2n, s2_setI, s1_setF, s2_rowI, s1_rowF, ue, un, ve, vn]; exact g3)
  · first | exact g4 | (simp (disch := omega) only [r1e, r1n, r2e, r2n, q1e, q1n, q2e, q2n, s2_setI, s1_setF, s2_rowI, s1_rowF, ue, un, ve, vn]; exact g4)
theorem Off.P3 (h : Off σ o w f) {v : UInt32} : Off (setF σ (o + 1) 4 v) o w (vf_upd f 13 v) := by
  obtain ⟨⟨d1, d2, d3, d4, d5, d6⟩, ⟨i1, i2, i3⟩, ⟨s1, s2⟩, g1, g2, g3, g4⟩ := h
  refine ⟨⟨?_, ?_, ?_, ?_, ?_, ?_⟩, ⟨?_, ?_, ?_⟩, ⟨?_, ?_⟩, ?_, ?_, ?_, ?_⟩
  · first | exact d1 | (simp (disch := omega) only [r1e, r1n, r2e, r2n, q1e, q1n, q2e, q2n, s2_setI, s1_setF, s2_rowI, s1_rowF, ue, un, ve, vn]; exact d1)
  · first | exact d2 | (simp (disch := omega) only [r1e, r1n, r2e, r2n, q1e, q1n, q2e, q2n, s2_setI, s1_setF, s2_rowI, s1_rowF, ue, un, ve, vn]; exact d2)
  · rw [q2e rfl, ve rfl, ve rfl]
  · first | exact d4 | (simp (disch := omega) only [r1e, r1n, r2e, r2n, q1e, q1n, q2e, q2n, s2_setI, s1_setF, s2_rowI, s1_rowF, ue, un, ve, vn]; exact d4)
  · intro k hk
    first | exact d5 k hk | (simp (disch := omega) only [r1e, r1n, r2e, r2n, q1e, q1n, q2e, q2n, s2_setI, s1_setF, s2_rowI, s1_rowF, ue, un, ve, vn]; exact d5 k hk)
  · intro k hk
    first | exact d6 k hk | (simp (disch := omega) only [r1e, r1n, r2e, r2n, q1e, q1n, q2e, q2n, s2_setI, s1_setF, s2_rowI, s1_rowF, ue, un, ve, vn]; exact d6 k hk)
  · first | exact i1 | (simp (disch := omega) only [r1e, r1n, r2e, r2n, q1e, q1n, q2e, q2n, s2_setI, s1_setF, s2_rowI, s1_rowF, ue, un, ve, vn]; exact i1)
  · intro j hj i hi
    have hz := i2 j hj i hi
    first | exact hz | (simp (disch := omega) only [r1e, r1n, r2e, r2n, q1e, q1n, q2e, q2n, s2_setI, s1_setF, s2_rowI, s1_rowF]; exact hz)
  · intro i hi
    first | exact i3 i hi | (simp (disch := omega) only [r1e, r1n, r2e, r2n, q1e, q1n, q2e, q2n, s2_setI, s1_setF, s2_rowI, s1_rowF, ue, un, ve, vn]; exact i3 i hi)
  · intro c r b h1 h2 h3
    first | exact s1 c r b h1 h2 h3 | (simp (disch := omega) only [r1e, r1n, r2e, r2n, q1e, q1n, q2e, q2n, s2_setI, s1_setF, s2_rowI, s1_rowF, ue, un, ve, vn]; exact s1 c r b h1 h2 h3)
  · intro c hc
    first | exact s2 c hc | (simp (disch := omega) only [r1e, r1n, r2e, r2n, q1e, q1n, q2e, q2n, s2_setI, s1_setF, s2_rowI, s1_rowF, ue, un, ve, vn]; exact s2 c hc)
  · first | exact g1 | (simp (disch := omega) only [r1e, r1n, r2e, r2n, q1e, q1n, q2e, q2n, s2_setI, s1_setF, s2_rowI, s1_rowF, ue, un, ve, vn]; exact g1)
  · first | exact g2 | (simp (disch := omega) only [r1e, r1n, r2e, r2n, q1e, q1n, q2e, q2n, s2_setI, s1_setF, s2_rowI, s1_rowF, ue, un, ve, vn]; exact g2)
  · first | exact g3 | (simp (disch := omega) only [r1e, r1n, r2e, r2n, q1e, q1n, q2e, q2n, s2_setI, s1_setF, s2_rowI, s1_rowF, ue, un, ve, vn]; exact g3)
  · first | exact g4 | (simp (disch := omega) only [r1e, r1n, r2e, r2n, q1e, q1n, q2e, q2n, s2_setI, s1_setF, s2_rowI, s1_rowF, ue, un, ve, vn]; exact g4)
theorem Off.P4 (h : Off σ o w f) {v : UInt32} : Off (setF σ (o + 1) 5 v) o w (vf_upd f 14 v) := by
  obtain ⟨⟨d1, d2, d3, d4, d5, d6⟩, ⟨i1, i2, i3⟩, ⟨s1, s2⟩, g1, g2, g3, g4⟩ := h
  refine ⟨⟨?_, ?_, ?_, ?_, ?_, ?_⟩, ⟨?_, ?_, ?_⟩, ⟨?_, ?_⟩, ?_, ?_, ?_, ?_⟩
  · first | exact d1 | (simp (disch := omega) only [r1e, r1n, r2e, r2n, q1e, q1n, q2e, q2n, s2_setI, s1_setF, s2_rowI, s1_rowF, ue, un, ve, vn]; exact d1)
  · first | exact d2 | (simp (disch := omega) only [r1e, r1n, r2e, r2n, q1e, q1n, q2e, q2n, s2_setI, s1_setF, s2_rowI, s1_rowF, ue, un, ve, vn]; exact d2)
  · first | exact d3 | (simp (disch := omega) only [r1e, r1n, r2e, r2n, q1e, q1n, q2e, q2n, s2_setI, s1_setF, s2_rowI, s1_rowF, ue, un, ve, vn]; exact d3)
  · rw [q2e rfl, ve rfl, ve rfl]
  · intro k hk
    first | exact d5 k hk | (simp (disch := omega) only [r1e, r1n, r2e, r2n, q1e, q1n, q2e, q2n, s2_setI, s1_setF, s2_rowI, s1_rowF, ue, un, ve, vn]; exact d5 k hk)
  · intro k hk
    first | exact d6 k hk | (simp (disch := omega) only [r1e, r1n, r2e, r2n, q1e, q1n, q2e, q2n, s2_setI, s1_setF, s2_rowI, s1_rowF, ue, un, ve, vn]; exact d6 k hk)
  · first | exact i1 | (simp (disch := omega) only [r1e, r1n, r2e, r2n, q1e, q1n, q2e, q2n, s2_setI, s1_setF, s2_rowI, s1_rowF, ue, un, ve, vn]; exact i1)
  · intro j hj i hi
    have hz := i2 j hj i hi
    first | exact hz | (simp (disch := omega) only [r1e, r1n, r2e, r2n, q1e, q1n, q2e, q2n, s2_setI, s1_setF, s2_rowI, s1_rowF]; exact hz)
  · intro i hi
    first | exact i3 i hi | (simp (disch := omega) only [r1e, r1n, r2e, r2n, q1e, q1n, q2e, q2n, s2_setI, s1_setF, s2_rowI, s1_rowF, ue, un, ve, vn]; exact i3 i hi)
  · intro c r b h1 h2 h3
    first | exact s1 c r b h1 h2 h3 | (simp (disch := omega) only [r1e, r1n, r2e, r2n, q1e, q1n, q2e, q2n, s2_setI, s1_setF, s2_rowI, s1_rowF, ue, un, ve, vn]; exact s1 c r b h1 h2 h3)
  · intro c hc
    first | exact s2 c hc | (simp (disch := omega) only [r1e, r1n, r2e, r2n, q1e, q1n, q2e, q2n, s2_setI, s1_setF, s2_rowI, s1_rowF, ue, un, ve, vn]; exact s2 c hc)
  · first | exact g1 | (simp (disch := omega) only [r1e, r1n, r2e, r2n, q1e, q1n, q2e, q2n, s2_setI, s1_setF, s2_rowI, s1_rowF, ue, un, ve, vn]; exact g1)
  · first | exact g2 | (simp (disch := omega) only [r1e, r1n, r2e, r2n, q1e, q1n, q2e, q2n, s2_setI, s1_setF, s2_rowI, s1_rowF, ue, un, ve, vn]; exact g2)
  · first | exact g3 | (simp (disch := omega) only [r1e, r1n, r2e, r2n, q1e, q1n, q2e, q2n, s2_setI, s1_setF, s2_rowI, s1_rowF, ue, un, ve, vn]; exact g3)
  · first | exact g4 | (simp (disch := omega) only [r1e, r1n, r2e, r2n, q1e, q1n, q2e, q2n, s2_setI, s1_setF, s2_rowI, s1_rowF, ue, un, ve, vn]; exact g4)
theorem Off.P5 (h : Off σ o w f) {x : Nat} (hx : x < 20) {v : UInt32} : Off (setF σ (o + 4 + 8) x v) o w (vf_upd f (16 + x) v) := by
  obtain ⟨⟨d1, d2, d3, d4, d5, d6⟩, ⟨i1, i2, i3⟩, ⟨s1, s2⟩, g1, g2, g3, g4⟩ := h
  refine ⟨⟨?_, ?_, ?_, ?_, ?_, ?_⟩, ⟨?_, ?_, ?_⟩, ⟨?_, ?_⟩, ?_, ?_, ?_, ?_⟩
  · first | exact d1 | (simp (disch := omega) only [r1e, r1n, r2e, r2n, q1e, q1n, q2e, q2n, s2_setI, s1_setF, s2_rowI, s1_rowF, ue, un, ve, vn]; exact d1)
  · first | exact d2 | (simp (disch := omega) only [r1e, r1n, r2e, r2n, q1e, q1n, q2e, q2n, s2_setI, s1_setF, s2_rowI, s1_rowF, ue, un, ve, vn]; exact d2)
  · first | exact d3 | (simp (disch := omega) only [r1e, r1n, r2e, r2n, q1e, q1n, q2e, q2n, s2_setI, s1_setF, s2_rowI, s1_rowF, ue, un, ve, vn]; exact d3)
  · first | exact d4 | (simp (disch := omega) only [r1e, r1n, r2e, r2n, q1e, q1n, q2e, q2n, s2_setI, s1_setF, s2_rowI, s1_rowF, ue, un, ve, vn]; exact d4)
  · intro k hk
    first | exact d5 k hk | (simp (disch := omega) only [r1e, r1n, r2e, r2n, q1e, q1n, q2e, q2n, s2_setI, s1_setF, s2_rowI, s1_rowF, ue, un, ve, vn]; exact d5 k hk)
  · intro k hk
    first | exact d6 k hk | (simp (disch := omega) only [r1e, r1n, r2e, r2n, q1e, q1n, q2e, q2n, s2_setI, s1_setF, s2_rowI, s1_rowF, ue, un, ve, vn]; exact d6 k hk)
  · first | exact i1 | (simp (disch := omega) only [r1e, r1n, r2e, r2n, q1e, q1n, q2e, q2n, s2_setI, s1_setF, s2_rowI, s1_rowF, ue, un, ve, vn]; exact i1)
  · intro j hj i hi
    have hz := i2 j hj i hi
    first | exact hz | (simp (disch := omega) only [r1e, r1n, r2e, r2n, q1e, q1n, q2e, q2n, s2_setI, s1_setF, s2_rowI, s1_rowF]; exact hz)
  · intro i hi
    rw [q2e rfl]
    by_cases hkx : i = x
    · subst hkx; rw [ve rfl, ve rfl]
    · rw [vn hkx, vn (by omega)]; exact i3 i hi
  · intro c r b h1 h2 h3
    first | exact s1 c r b h1 h2 h3 | (simp (disch := omega) only [r1e, r1n, r2e, r2n, q1e, q1n, q2e, q2n, s2_setI, s1_setF, s2_rowI, s1_rowF, ue, un, ve, vn]; exact s1 c r b h1 h2 h3)
  · intro c hc
    first | exact s2 c hc | (simp (disch := omega) only [r1e, r1n, r2e, r2n, q1e, q1n, q2e, q2n, s2_setI, s1_setF, s2_rowI, s1_rowF, ue, un, ve, vn]; exact s2 c hc)
  · first | exact g1 | (simp (disch := omega) only [r1e, r1n, r2e, r2n, q1e, q1n, q2e, q2n, s2_setI, s1_setF, s2_rowI, s1_rowF, ue, un, ve, vn]; exact g1)
  · first | exact g2 | (simp (disch := omega) only [r1e, r1n, r2e, r2n, q1e, q1n, q2e, q2n, s2_setI, s1_setF, s2_rowI, s1_rowF, ue, un, ve, vn]; exact g2)
  · first | exact g3 | (simp (disch := omega) only [r1e, r1n, r2e, r2n, q1e, q1n, q2e, q2n, s2_setI, s1_setF, s2_rowI, s1_rowF, ue, un, ve, vn]; exact g3)
  · first | exact g4 | (simp (disch := omega) only [r1e, r1n, r2e, r2n, q1e, q1n, q2e, q2n, s2_setI, s1_setF, s2_rowI, s1_rowF, ue, un, ve, vn]; exact g4)
theorem Off.P6 (h : Off σ o w f) {v : UInt32} : Off (setF σ (o + 16) 0 v) o w (vf_upd f 15 v) := by
  obtain ⟨⟨d1, d2, d3, d4, d5, d6⟩, ⟨i1, i2, i3⟩, ⟨s1, s2⟩, g1, g2, g3, g4⟩ := h
  refine ⟨⟨?_, ?_, ?_, ?_, ?_, ?_⟩, ⟨?_, ?_, ?_⟩, ⟨?_, ?_⟩, ?_, ?_, ?_, ?_⟩
  · first | exact d1 | (simp (disch := omega) only [r1e, r1n, r2e, r2n, q1e, q1n, q2e, q2n, s2_setI, s1_setF, s2_rowI, s1_rowF, ue, un, ve, vn]; exact d1)
  · first | exact d2 | (simp (disch := omega) only [r1e, r1n, r2e, r2n, q1e, q1n, q2e, q2n, s2_setI, s1_setF, s2_rowI, s1_rowF, ue, un, ve, vn]; exact d2)
  · first | exact d3 | (simp (disch := omega) only [r1e, r1n, r2e, r2n, q1e, q1n, q2e, q2n, s2_setI, s1_setF, s2_rowI, s1_rowF, ue, un, ve, vn]; exact d3)
  · first | exact d4 | (simp (disch := omega) only [r1e, r1n, r2e, r2n, q1e, q1n, q2e, q2n, s2_setI, s1_setF, s2_rowI, s1_rowF, ue, un, ve, vn]; exact d4)
  · intro k hk
    first | exact d5 k hk | (simp (disch := omega) only [r1e, r1n, r2e, r2n, q1e, q1n, q2e, q2n, s2_setI, s1_setF, s2_rowI, s1_rowF, ue, un, ve, vn]; exact d5 k hk)
  · intro k hk
    first | exact d6 k hk | (simp (disch := omega) only [r1e, r1n, r2e, r2n, q1e, q1n, q2e, q2n, s2_setI, s1_setF, s2_rowI, s1_rowF, ue, un, ve, vn]; exact d6 k hk)
  · first | exact i1 | (simp (disch := omega) only [r1e, r1n, r2e, r2n, q1e, q1n, q2e, q2n, s2_setI, s1_setF, s2_rowI, s1_rowF, ue, un, ve, vn]; exact i1)
  · intro j hj i hi
    have hz := i2 j hj i hi
    first | exact hz | (simp (disch := omega) only [r1e, r1n, r2e, r2n, q1e, q1n, q2e, q2n, s2_setI, s1_setF, s2_rowI, s1_rowF]; exact hz)
  · intro i hi
    first | exact i3 i hi | (simp (disch := omega) only [r1e, r1n, r2e, r2n, q1e, q1n, q2e, q2n, s2_setI, s1_setF, s2_rowI, s1_rowF, ue, un, ve, vn]; exact i3 i hi)
  · intro c r b h1 h2 h3
    first | exact s1 c r b h1 h2 h3 | (simp (disch := omega) only [r1e, r1n, r2e, r2n, q1e, q1n, q2e, q2n, s2_setI, s1_setF, s2_rowI, s1_rowF, ue, un, ve, vn]; exact s1 c r b h1 h2 h3)
  · intro c hc
    first | exact s2 c hc | (simp (disch := omega) only [r1e, r1n, r2e, r2n, q1e, q1n, q2e, q2n, s2_setI, s1_setF, s2_rowI, s1_rowF, ue, un, ve, vn]; exact s2 c hc)
  · rw [q2e rfl, ve rfl, ve rfl]
  · first | exact g2 | (simp (disch := omega) only [r1e, r1n, r2e, r2n, q1e, q1n, q2e, q2n, s2_setI, s1_setF, s2_rowI, s1_rowF, ue, un, ve, vn]; exact g2)
  · first | exact g3 | (simp (disch := omega) only [r1e, r1n, r2e, r2n, q1e, q1n, q2e, q2n, s2_setI, s1_setF, s2_rowI, s1_rowF, ue, un, ve, vn]; exact g3)
  · first | exact g4 | (simp (disch := omega) only [r1e, r1n, r2e, r2n, q1e, q1n, q2e, q2n, s2_setI, s1_setF, s2_rowI, s1_rowF, ue, un, ve, vn]; exact g4)
theorem Off.P7 (h : Off σ o w f) {v : Int32} : Off (setI σ (o + 1) 2 v) o (upd w 1 v) f := by
  obtain ⟨⟨d1, d2, d3, d4, d5, d6⟩, ⟨i1, i2, i3⟩, ⟨s1, s2⟩, g1, g2, g3, g4⟩ := h
  have hs : Sit w (upd w 1 v) := sit_lo (by decide) (by decide)
  refine ⟨⟨?_, ?_, ?_, ?_, ?_, ?_⟩, ⟨?_, ?_, ?_⟩, ⟨?_, ?_⟩, ?_, ?_, ?_, ?_⟩
  · rw [q1e rfl, ue rfl, ue rfl]
  · first | exact d2 | (simp (disch := omega) only [r1e, r1n, r2e, r2n, q1e, q1n, q2e, q2n, s2_setI, s1_setF, s2_rowI, s1_rowF, ue, un, ve, vn]; exact d2)
  · first | exact d3 | (simp (disch := omega) only [r1e, r1n, r2e, r2n, q1e, q1n, q2e, q2n, s2_setI, s1_setF, s2_rowI, s1_rowF, ue, un, ve, vn]; exact d3)
  · first | exact d4 | (simp (disch := omega) only [r1e, r1n, r2e, r2n, q1e, q1n, q2e, q2n, s2_setI, s1_setF, s2_rowI, s1_rowF, ue, un, ve, vn]; exact d4)
  · intro k hk
    first | exact d5 k hk | (simp (disch := omega) only [r1e, r1n, r2e, r2n, q1e, q1n, q2e, q2n, s2_setI, s1_setF, s2_rowI, s1_rowF, ue, un, ve, vn]; exact d5 k hk)
  · intro k hk
    first | exact d6 k hk | (simp (disch := omega) only [r1e, r1n, r2e, r2n, q1e, q1n, q2e, q2n, s2_setI, s1_setF, s2_rowI, s1_rowF, ue, un, ve, vn]; exact d6 k hk)
  · rw [hs.2.1]
    first | exact i1 | (simp (disch := omega) only [r1e, r1n, r2e, r2n, q1e, q1n, q2e, q2n, s2_setI, s1_setF, s2_rowI, s1_rowF, ue, un, ve, vn]; exact i1)
  · intro j hj i hi
    rw [hs.1] at hi
    rw [hs.2.2]
    have hz := i2 j hj i hi
    first | exact hz | (simp (disch := omega) only [r1e, r1n, r2e, r2n, q1e, q1n, q2e, q2n, s2_setI, s1_setF, s2_rowI, s1_rowF]; exact hz)
  · intro i hi
    rw [hs.1] at hi
    first | exact i3 i hi | (simp (disch := omega) only [r1e, r1n, r2e, r2n, q1e, q1n, q2e, q2n, s2_setI, s1_setF, s2_rowI, s1_rowF, ue, un, ve, vn]; exact i3 i hi)
  · intro c r b h1 h2 h3
    refine hs.hp ?_
    first | exact s1 c r b h1 h2 h3 | (simp (disch := omega) only [r1e, r1n, r2e, r2n, q1e, q1n, q2e, q2n, s2_setI, s1_setF, s2_rowI, s1_rowF, ue, un, ve, vn]; exact s1 c r b h1 h2 h3)
  · intro c hc
    rw [hs.1, cn_congr (q := tkn w c) _ (fun i _ => hs.tkn c i)]
    first | exact s2 c hc | (simp (disch := omega) only [r1e, r1n, r2e, r2n, q1e, q1n, q2e, q2n, s2_setI, s1_setF, s2_rowI, s1_rowF, ue, un, ve, vn]; exact s2 c hc)
  · first | exact g1 | (simp (disch := omega) only [r1e, r1n, r2e, r2n, q1e, q1n, q2e, q2n, s2_setI, s1_setF, s2_rowI, s1_rowF, ue, un, ve, vn]; exact g1)
  · first | exact g2 | (simp (disch := omega) only [r1e, r1n, r2e, r2n, q1e, q1n, q2e, q2n, s2_setI, s1_setF, s2_rowI, s1_rowF, ue, un, ve, vn]; exact g2)
  · first | exact g3 | (simp (disch := omega) only [r1e, r1n, r2e, r2n, q1e, q1n, q2e, q2n, s2_setI, s1_setF, s2_rowI, s1_rowF, ue, un, ve, vn]; exact g3)
  · first | exact g4 | (simp (disch := omega) only [r1e, r1n, r2e, r2n, q1e, q1n, q2e, q2n, s2_setI, s1_setF, s2_rowI, s1_rowF, ue, un, ve, vn]; exact g4)
theorem Off.P8 (h : Off σ o w f) {v : Int32} : Off (setI σ (o + 1) 3 v) o (upd w 3 v) f := by
  obtain ⟨⟨d1, d2, d3, d4, d5, d6⟩, ⟨i1, i2, i3⟩, ⟨s1, s2⟩, g1, g2, g3, g4⟩ := h
  have hs : Sit w (upd w 3 v) := sit_lo (by decide) (by decide)
  refine ⟨⟨?_, ?_, ?_, ?_, ?_, ?_⟩, ⟨?_, ?_, ?_⟩, ⟨?_, ?_⟩, ?_, ?_, ?_, ?_⟩
  · first | exact d1 | (simp (disch := omega) only [r1e, r1n, r2e, r2n, q1e, q1n, q2e, q2n, s2_setI, s1_setF, s2_rowI, s1_rowF, ue, un, ve, vn]; exact d1)
  · rw [q1e rfl, ue rfl, ue rfl]
  · first | exact d3 | (simp (disch := omega) only [r1e, r1n, r2e, r2n, q1e, q1n, q2e, q2n, s2_setI, s1_setF, s2_rowI, s1_rowF, ue, un, ve, vn]; exact d3)
  · first | exact d4 | (simp (disch := omega) only [r1e, r1n, r2e, r2n, q1e, q1n, q2e, q2n, s2_setI, s1_setF, s2_rowI, s1_rowF, ue, un, ve, vn]; exact d4)
  · intro k hk
    first | exact d5 k hk | (simp (disch := omega) only [r1e, r1n, r2e, r2n, q1e, q1n, q2e, q2n, s2_setI, s1_setF, s2_rowI, s1_rowF, ue, un, ve, vn]; exact d5 k hk)
  · intro k hk
    first | exact d6 k hk | (simp (disch := omega) only [r1e, r1n, r2e, r2n, q1e, q1n, q2e, q2n, s2_setI, s1_setF, s2_rowI, s1_rowF, ue, un, ve, vn]; exact d6 k hk)
  · rw [hs.2.1]
    first | exact i1 | (simp (disch := omega) only [r1e, r1n, r2e, r2n, q1e, q1n, q2e, q2n, s2_setI, s1_setF, s2_rowI, s1_rowF, ue, un, ve, vn]; exact i1)
  · intro j hj i hi
    rw [hs.1] at hi
    rw [hs.2.2]
    have hz := i2 j hj i hi
    first | exact hz | (simp (disch := omega) only [r1e, r1n, r2e, r2n, q1e, q1n, q2e, q2n, s2_setI, s1_setF, s2_rowI, s1_rowF]; exact hz)
  · intro i hi
    rw [hs.1] at hi
    first | exact i3 i hi | (simp (disch := omega) only [r1e, r1n, r2e, r2n, q1e, q1n, q2e, q2n, s2_setI, s1_setF, s2_rowI, s1_rowF, ue, un, ve, vn]; exact i3 i hi)
  · intro c r b h1 h2 h3
    refine hs.hp ?_
    first | exact s1 c r b h1 h2 h3 | (simp (disch := omega) only [r1e, r1n, r2e, r2n, q1e, q1n, q2e, q2n, s2_setI, s1_setF, s2_rowI, s1_rowF, ue, un, ve, vn]; exact s1 c r b h1 h2 h3)
  · intro c hc
    rw [hs.1, cn_congr (q := tkn w c) _ (fun i _ => hs.tkn c i)]
    first | exact s2 c hc | (simp (disch := omega) only [r1e, r1n, r2e, r2n, q1e, q1n, q2e, q2n, s2_setI, s1_setF, s2_rowI, s1_rowF, ue, un, ve, vn]; exact s2 c hc)
  · first | exact g1 | (simp (disch := omega) only [r1e, r1n, r2e, r2n, q1e, q1n, q2e, q2n, s2_setI, s1_setF, s2_rowI, s1_rowF, ue, un, ve, vn]; exact g1)
  · first | exact g2 | (simp (disch := omega) only [r1e, r1n, r2e, r2n, q1e, q1n, q2e, q2n, s2_setI, s1_setF, s2_rowI, s1_rowF, ue, un, ve, vn]; exact g2)
  · first | exact g3 | (simp (disch := omega) only [r1e, r1n, r2e, r2n, q1e, q1n, q2e, q2n, s2_setI, s1_setF, s2_rowI, s1_rowF, ue, un, ve, vn]; exact g3)
  · first | exact g4 | (simp (disch := omega) only [r1e, r1n, r2e, r2n, q1e, q1n, q2e, q2n, s2_setI, s1_setF, s2_rowI, s1_rowF, ue, un, ve, vn]; exact g4)
theorem Off.P9 (h : Off σ o w f) {v : Int32} : Off (setI σ (o + 16) 1 v) o (upd w 4 v) f := by
  obtain ⟨⟨d1, d2, d3, d4, d5, d6⟩, ⟨i1, i2, i3⟩, ⟨s1, s2⟩, g1, g2, g3, g4⟩ := h
  have hs : Sit w (upd w 4 v) := sit_lo (by decide) (by decide)
  refine ⟨⟨?_, ?_, ?_, ?_, ?_, ?_⟩, ⟨?_, ?_, ?_⟩, ⟨?_, ?_⟩, ?_, ?_, ?_, ?_⟩
  · first | exact d1 | (simp (disch := omega) only [r1e, r1n, r2e, r2n, q1e, q1n, q2e, q2n, s2_setI, s1_setF, s2_rowI, s1_rowF, ue, un, ve, vn]; exact d1)
  · first | exact d2 | (simp (disch := omega) only [r1e, r1n, r2e, r2n, q1e, q1n, q2e, q2n, s2_setI, s1_setF, s2_rowI, s1_rowF, ue, un, ve, vn]; exact d2)
  · first | exact d3 | (simp (disch := omega) only [r1e, r1n, r2e, r2n, q1e, q1n, q2e, q2n, s2_setI, s1_setF, s2_rowI, s1_rowF, ue, un, ve, vn]; exact d3)
  · first | exact d4 | (simp (disch := omega) only [r1e, r1n, r2e, r2n, q1e, q1n, q2e, q2n, s2_setI, s1_setF, s2_rowI, s1_rowF, ue, un, ve, vn]; exact d4)
  · intro k hk
    first | exact d5 k hk | (simp (disch := omega) only [r1e, r1n, r2e, r2n, q1e, q1n, q2e, q2n, s2_setI, s1_setF, s2_rowI, s1_rowF, ue, un, ve, vn]; exact d5 k hk)
  · intro k hk
    first | exact d6 k hk | (simp (disch := omega) only [r1e, r1n, r2e, r2n, q1e, q1n, q2e, q2n, s2_setI, s1_setF, s2_rowI, s1_rowF, ue, un, ve, vn]; exact d6 k hk)
  · rw [hs.2.1]
    first | exact i1 | (simp (disch := omega) only [r1e, r1n, r2e, r2n, q1e, q1n, q2e, q2n, s2_setI, s1_setF, s2_rowI, s1_rowF, ue, un, ve, vn]; exact i1)
  · intro j hj i hi
    rw [hs.1] at hi
    rw [hs.2.2]
    have hz := i2 j hj i hi
    first | exact hz | (simp (disch := omega) only [r1e, r1n, r2e, r2n, q1e, q1n, q2e, q2n, s2_setI, s1_setF, s2_rowI, s1_rowF]; exact hz)
  · intro i hi
    rw [hs.1] at hi
    first | exact i3 i hi | (simp (disch := omega) only [r1e, r1n, r2e, r2n, q1e, q1n, q2e, q2n, s2_setI, s1_setF, s2_rowI, s1_rowF, ue, un, ve, vn]; exact i3 i hi)
  · intro c r b h1 h2 h3
    refine hs.hp ?_
    first | exact s1 c r b h1 h2 h3 | (simp (disch := omega) only [r1e, r1n, r2e, r2n, q1e, q1n, q2e, q2n, s2_setI, s1_setF, s2_rowI, s1_rowF, ue, un, ve, vn]; exact s1 c r b h1 h2 h3)
  · intro c hc
    rw [hs.1, cn_congr (q := tkn w c) _ (fun i _ => hs.tkn c i)]
    first | exact s2 c hc | (simp (disch := omega) only [r1e, r1n, r2e, r2n, q1e, q1n, q2e, q2n, s2_setI, s1_setF, s2_rowI, s1_rowF, ue, un, ve, vn]; exact s2 c hc)
  · first | exact g1 | (simp (disch := omega) only [r1e, r1n, r2e, r2n, q1e, q1n, q2e, q2n, s2_setI, s1_setF, s2_rowI, s1_rowF, ue, un, ve, vn]; exact g1)
  · rw [q1e rfl, ue rfl, ue rfl]
  · first | exact g3 | (simp (disch := omega) only [r1e, r1n, r2e, r2n, q1e, q1n, q2e, q2n, s2_setI, s1_setF, s2_rowI, s1_rowF, ue, un, ve, vn]; exact g3)
  · first | exact g4 | (simp (disch := omega) only [r1e, r1n, r2e, r2n, q1e, q1n, q2e, q2n, s2_setI, s1_setF, s2_rowI, s1_rowF, ue, un, ve, vn]; exact g4)
theorem Off.P10 (h : Off σ o w f) {v : Int32} : Off (setI σ (o + 16) 2 v) o (upd w 5 v) f := by
  obtain ⟨⟨d1, d2, d3, d4, d5, d6⟩, ⟨i1, i2, i3⟩, ⟨s1, s2⟩, g1, g2, g3, g4⟩ := h
  have hs : Sit w (upd w 5 v) := sit_lo (by decide) (by decide)
  refine ⟨⟨?_, ?_, ?_, ?_, ?_, ?_⟩, ⟨?_, ?_, ?_⟩, ⟨?_, ?_⟩, ?_, ?_, ?_, ?_⟩
  · first | exact d1 | (simp (disch := omega) only [r1e, r1n, r2e, r2n, q1e, q1n, q2e, q2n, s2_setI, s1_setF, s2_rowI, s1_rowF, ue, un, ve, vn]; exact d1)
  · first | exact d2 | (simp (disch := omega) only [r1e, r1n, r2e, r2n, q1e, q1n, q2e, q2n, s2_setI, s1_setF, s2_rowI, s1_rowF, ue, un, ve, vn]; exact d2)
  · first | exact d3 | (simp (disch := omega) only [r1e, r1n, r2e, r2n, q1e, q1n, q2e, q2n, s2_setI, s1_setF, s2_rowI, s1_rowF, ue, un, ve, vn]; exact d3)
  · first | exact d4 | (simp (disch := omega) only [r1e, r1n, r2e, r2n, q1e, q1n, q2e, q2n, s2_setI, s1_setF, s2_rowI, s1_rowF, ue, un, ve, vn]; exact d4)
  · intro k hk
    first | exact d5 k hk | (simp (disch := omega) only [r1e, r1n, r2e, r2n, q1e, q1n, q2e, q2n, s2_setI, s1_setF, s2_rowI, s1_rowF, ue, un, ve, vn]; exact d5 k hk)
  · intro k hk
    first | exact d6 k hk | (simp (disch := omega) only [r1e, r1n, r2e, r2n, q1e, q1n, q2e, q2n, s2_setI, s1_setF, s2_rowI, s1_rowF, ue, un, ve, vn]; exact d6 k hk)
  · rw [hs.2.1]
    first | exact i1 | (simp (disch := omega) only [r1e, r1n, r2e, r2n, q1e, q1n, q2e, q2n, s2_setI, s1_setF, s2_rowI, s1_rowF, ue, un, ve, vn]; exact i1)
  · intro j hj i hi
    rw [hs.1] at hi
    rw [hs.2.2]
    have hz := i2 j hj i hi
    first | exact hz | (simp (disch := omega) only [r1e, r1n, r2e, r2n, q1e, q1n, q2e, q2n, s2_setI, s1_setF, s2_rowI, s1_rowF]; exact hz)
  · intro i hi
    rw [hs.1] at hi
    first | exact i3 i hi | (simp (disch := omega) only [r1e, r1n, r2e, r2n, q1e, q1n, q2e, q2n, s2_setI, s1_setF, s2_rowI, s1_rowF, ue, un, ve, vn]; exact i3 i hi)
  · intro c r b h1 h2 h3
    refine hs.hp ?_
    first | exact s1 c r b h1 h2 h3 | (simp (disch := omega) only [r1e, r1n, r2e, r2n, q1e, q1n, q2e, q2n, s2_setI, s1_setF, s2_rowI, s1_rowF, ue, un, ve, vn]; exact s1 c r b h1 h2 h3)
  · intro c hc
    rw [hs.1, cn_congr (q := tkn w c) _ (fun i _ => hs.tkn c i)]
    first | exact s2 c hc | (simp (disch := omega) only [r1e, r1n, r2e, r2n, q1e, q1n, q2e, q2n, s2_setI, s1_setF, s2_rowI, s1_rowF, ue, un, ve, vn]; exact s2 c hc)
  · first | exact g1 | (simp (disch := omega) only [r1e, r1n, r2e, r2n, q1e, q1n, q2e, q2n, s2_setI, s1_setF, s2_rowI, s1_rowF, ue, un, ve, vn]; exact g1)
  · first | exact g2 | (simp (disch := omega) only [r1e, r1n, r2e, r2n, q1e, q1n, q2e, q2n, s2_setI, s1_setF, s2_rowI, s1_rowF, ue, un, ve, vn]; exact g2)
  · rw [q1e rfl, ue rfl, ue rfl]
  · first | exact g4 | (simp (disch := omega) only [r1e, r1n, r2e, r2n, q1e, q1n, q2e, q2n, s2_setI, s1_setF, s2_rowI, s1_rowF, ue, un, ve, vn]; exact g4)
theorem Off.P11 (h : Off σ o w f) {v : Int32} : Off (setI σ (o + 16) 3 v) o (upd w 0 v) f := by
  obtain ⟨⟨d1, d2, d3, d4, d5, d6⟩, ⟨i1, i2, i3⟩, ⟨s1, s2⟩, g1, g2, g3, g4⟩ := h
  have hs : Sit w (upd w 0 v) := sit_lo (by decide) (by decide)
  refine ⟨⟨?_, ?_, ?_, ?_, ?_, ?_⟩, ⟨?_, ?_, ?_⟩, ⟨?_, ?_⟩, ?_, ?_, ?_, ?_⟩
  · first | exact d1 | (simp (disch := omega) only [r1e, r1n, r2e, r2n, q1e, q1n, q2e, q2n, s2_setI, s1_setF, s2_rowI, s1_rowF, ue, un, ve, vn]; exact d1)
  · first | exact d2 | (simp (disch := omega) only [r1e, r1n, r2e, r2n, q1e, q1n, q2e, q2n, s2_setI, s1_setF, s2_rowI, s1_rowF, ue, un, ve, vn]; exact d2)
  · first | exact d3 | (simp (disch := omega) only [r1e, r1n, r2e, r2n, q1e, q1n, q2e, q2n, s2_setI, s1_setF, s2_rowI, s1_rowF, ue, un, ve, vn]; exact d3)
  · first | exact d4 | (simp (disch := omega) only [r1e, r1n, r2e, r2n, q1e, q1n, q2e, q2n, s2_setI, s1_setF, s2_rowI, s1_rowF, ue, un, ve, vn]; exact d4)
  · intro k hk
    first | exact d5 k hk | (simp (disch := omega) only [r1e, r1n, r2e, r2n, q1e, q1n, q2e, q2n, s2_setI, s1_setF, s2_rowI, s1_rowF, ue, un, ve, vn]; exact d5 k hk)
  · intro k hk
    first | exact d6 k hk | (simp (disch := omega) only [r1e, r1n, r2e, r2n, q1e, q1n, q2e, q2n, s2_setI, s1_setF, s2_rowI, s1_rowF, ue, un, ve, vn]; exact d6 k hk)
  · rw [hs.2.1]
    first | exact i1 | (simp (disch := omega) only [r1e, r1n, r2e, r2n, q1e, q1n, q2e, q2n, s2_setI, s1_setF, s2_rowI, s1_rowF, ue, un, ve, vn]; exact i1)
  · intro j hj i hi
    rw [hs.1] at hi
    rw [hs.2.2]
    have hz := i2 j hj i hi
    first | exact hz | (simp (disch := omega) only [r1e, r1n, r2e, r2n, q1e, q1n, q2e, q2n, s2_setI, s1_setF, s2_rowI, s1_rowF]; exact hz)
  · intro i hi
    rw [hs.1] at hi
    first | exact i3 i hi | (simp (disch := omega) only [r1e, r1n, r2e, r2n, q1e, q1n, q2e, q2n, s2_setI, s1_setF, s2_rowI, s1_rowF, ue, un, ve, vn]; exact i3 i hi)
  · intro c r b h1 h2 h3
    refine hs.hp ?_
    first | exact s1 c r b h1 h2 h3 | (simp (disch := omega) only [r1e, r1n, r2e, r2n, q1e, q1n, q2e, q2n, s2_setI, s1_setF, s2_rowI, s1_rowF, ue, un, ve, vn]; exact s1 c r b h1 h2 h3)
  · intro c hc
    rw [hs.1, cn_congr (q := tkn w c) _ (fun i _ => hs.tkn c i)]
    first | exact s2 c hc | (simp (disch := omega) only [r1e, r1n, r2e, r2n, q1e, q1n, q2e, q2n, s2_setI, s1_setF, s2_rowI, s1_rowF, ue, un, ve, vn]; exact s2 c hc)
  · first | exact g1 | (simp (disch := omega) only [r1e, r1n, r2e, r2n, q1e, q1n, q2e, q2n, s2_setI, s1_setF, s2_rowI, s1_rowF, ue, un, ve, vn]; exact g1)
  · first | exact g2 | (simp (disch := omega) only [r1e, r1n, r2e, r2n, q1e, q1n, q2e, q2n, s2_setI, s1_setF, s2_rowI, s1_rowF, ue, un, ve, vn]; exact g2)
  · first | exact g3 | (simp (disch := omega) only [r1e, r1n, r2e, r2n, q1e, q1n, q2e, q2n, s2_setI, s1_setF, s2_rowI, s1_rowF, ue, un, ve, vn]; exact g3)
  · rw [q1e rfl, ue rfl, ue rfl]
end STP
