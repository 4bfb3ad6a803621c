/-! rows by label, under a side condition -/
theorem r1e {σ : St} {i j : Nat} {g : Nat → Int32} (h : j = i) : (rowI σ i g).1 j = g := by rw [s1_rowI, if_pos h]
theorem r1n {σ : St} {i j : Nat} {g : Nat → Int32} (h : ¬ j = i) : (rowI σ i g).1 j = σ.1 j := by rw [s1_rowI, if_neg h]
theorem r2e {σ : St} {i j : Nat} {g : Nat → UInt32} (h : j = i) : (rowF σ i g).2.1 j = g := by rw [s2_rowF, if_pos h]
theorem r2n {σ : St} {i j : Nat} {g : Nat → UInt32} (h : ¬ j = i) : (rowF σ i g).2.1 j = σ.2.1 j := by rw [s2_rowF, if_neg h]
theorem q1e {σ : St} {i j k : Nat} {v : Int32} (h : j = i) : (setI σ i k v).1 j = upd (σ.1 i) k v := by rw [s1_setI, if_pos h]
theorem q1n {σ : St} {i j k : Nat} {v : Int32} (h : ¬ j = i) : (setI σ i k v).1 j = σ.1 j := by rw [s1_setI, if_neg h]
theorem q2e {σ : St} {i j k : Nat} {v : UInt32} (h : j = i) : (setF σ i k v).2.1 j = vf_upd (σ.2.1 i) k v := by rw [s2_setF, if_pos h]
theorem q2n {σ : St} {i j k : Nat} {v : UInt32} (h : ¬ j = i) : (setF σ i k v).2.1 j = σ.2.1 j := by rw [s2_setF, if_neg h]
theorem ue {g : Nat → Int32} {k l : Nat} {v : Int32} (h : l = k) : upd g k v l = v := if_pos h
theorem un {g : Nat → Int32} {k l : Nat} {v : Int32} (h : ¬ l = k) : upd g k v l = g l := if_neg h
theorem ve {g : Nat → UInt32} {k l : Nat} {v : UInt32} (h : l = k) : vf_upd g k v l = v := if_pos h
theorem vn {g : Nat → UInt32} {k l : Nat} {v : UInt32} (h : ¬ l = k) : vf_upd g k v l = g l := if_neg h
theorem cpy_lt {α : Type} {f g : Nat → α} {n k : Nat} (h : k < n) : va_cpy f g 0 0 n k = f k := by
  unfold va_cpy
  rw [if_pos (by omega), Nat.zero_add, Nat.sub_zero]
/-! an office of the class against the reference's rows -/
def it (w : Nat → Int32) (i j : Nat) : Int32 := w (6 + 7 * i + j)
def cnt (w : Nat → Int32) : Nat := (w 2).toNatClampNeg
def cv (j : Nat) (x : Int32) : Int32 := if j < 5 then x else x - 1
def hls (r : Nat) : Nat := if r = 0 then 3 else 2
/-- item i lies in hole h of row r of child c -/
def atH (w : Nat → Int32) (i c r h : Nat) : Prop := it w i 4 = 2 ∧ it w i 2 = nI c ∧ it w i 0 = nI r ∧ it w i 5 = nI (h + 1)
def Hp (w : Nat → Int32) (c r h : Nat) (v : Int32) : Prop := (v = -1 ∧ ∀ i, i < cnt w → ¬ atH w i c r h) ∨ ∃ i, i < cnt w ∧ v = nI i ∧ atH w i c r h
def tkn (w : Nat → Int32) (c i : Nat) : Bool := decide (it w i 0 = 0 ∧ it w i 4 = 3 ∧ it w i 2 = nI c)
def OffD (σ : St) (o : Nat) (w : Nat → Int32) (f : Nat → UInt32) : Prop := σ.1 (o + 1) 2 = w 1 ∧ σ.1 (o + 1) 3 = w 3 ∧ σ.2.1 (o + 1) 4 = f 13 ∧ σ.2.1 (o + 1) 5 = f 14 ∧ (∀ k, k < 8 → σ.2.1 (o + 2) k = f k) ∧ ∀ k, k < 5 → σ.2.1 (o + 3) k = f (8 + k)
def OffI (σ : St) (o : Nat) (w : Nat → Int32) (f : Nat → UInt32) : Prop := σ.1 (o + 4) 8 = w 2 ∧ (∀ j, j < 7 → ∀ i, i < cnt w → σ.1 (o + 5 + j) i = cv j (it w i j)) ∧ ∀ i, i < cnt w → σ.2.1 (o + 12) i = f (16 + i)
def OffS (σ : St) (o : Nat) (w : Nat → Int32) : Prop := (∀ c r h, c < 6 → r < 2 → h < hls r → Hp w c r h (σ.1 (o + 14) (5 * c + 3 * r + h))) ∧ ∀ c, c < 6 → σ.1 (o + 15) c = nI (cn (tkn w c) (cnt w))
def OffG (σ : St) (o : Nat) (w : Nat → Int32) (f : Nat → UInt32) : Prop := σ.2.1 (o + 16) 0 = f 15 ∧ σ.1 (o + 16) 1 = w 4 ∧ σ.1 (o + 16) 2 = w 5 ∧ σ.1 (o + 16) 3 = w 0
def Off (σ : St) (o : Nat) (w : Nat → Int32) (f : Nat → UInt32) : Prop := OffD σ o w f ∧ OffI σ o w f ∧ OffS σ o w ∧ OffG σ o w f
/-- what the rows keep -/
def InvN (w : Nat → Int32) : Prop := w 2 = nI (cnt w) ∧ cnt w ≤ 20 ∧ (∃ c, c ≤ 8 ∧ w 1 = nI c) ∧ (∃ p, p ≤ 5 ∧ w 3 = nI p) ∧ ∃ s, s ≤ 50 ∧ w 4 = nI s
def iw (w : Nat → Int32) (i : Nat) : Prop := (∃ r, r < 2 ∧ it w i 0 = nI r) ∧ (∃ b, b < 6 ∧ it w i 2 = nI b) ∧ (∃ t, t ≤ 4 ∧ it w i 4 = nI t) ∧ (it w i 4 = 2 → ∃ c r h, c < 6 ∧ r < 2 ∧ h < hls r ∧ atH w i c r h) ∧ (¬ it w i 4 = 2 → it w i 5 = 0) ∧ (it w i 4 = 4 → it w i 0 = 0)
def InvU (w : Nat → Int32) : Prop := ∀ i j c r h, i < cnt w → j < cnt w → atH w i c r h → atH w j c r h → i = j
def InvZ (w : Nat → Int32) (f : Nat → UInt32) : Prop := ∀ i, cnt w ≤ i → i < 20 → it w i 4 = 0 ∧ it w i 5 = 0 ∧ it w i 6 = 0 ∧ f (16 + i) = 0
def InvF (f : Nat → UInt32) : Prop := (∀ k, k < 8 → LB (f k)) ∧ (∀ k, k < 5 → FB (f (8 + k))) ∧ (f 13).toNat ≤ 1120272384 ∧ IB (f 14) ∧ HB (f 15) ∧ ∀ i, i < 20 → FB (f (16 + i))
def Inv (w : Nat → Int32) (f : Nat → UInt32) : Prop := InvN w ∧ (∀ i, i < cnt w → iw w i) ∧ InvU w ∧ InvZ w f ∧ InvF f
theorem it_c {w w' : Nat → Int32} (hw : ∀ k, k < 146 → w' k = w k) {i j : Nat} (hi : i < 20) (hj : j < 7) : it w' i j = it w i j := hw _ (by omega)
theorem atH_c {w w' : Nat → Int32} (hw : ∀ k, k < 146 → w' k = w k) {i c r h : Nat} (hi : i < 20) : atH w' i c r h ↔ atH w i c r h := by
  unfold atH
  rw [it_c hw hi (by decide), it_c hw hi (by decide), it_c hw hi (by decide), it_c hw hi (by decide)]
theorem cnt_c {w w' : Nat → Int32} (hw : ∀ k, k < 146 → w' k = w k) : cnt w' = cnt w := by unfold cnt; rw [hw 2 (by decide)]
theorem Hp_c {w w' : Nat → Int32} (hw : ∀ k, k < 146 → w' k = w k) (hn : cnt w ≤ 20) {c r h : Nat} {v : Int32} (H : Hp w c r h v) : Hp w' c r h v := by
  unfold Hp
  rw [cnt_c hw]
  rcases H with ⟨h1, h2⟩ | ⟨i, h1, h2, h3⟩
  · exact Or.inl ⟨h1, fun i hi h => h2 i hi ((atH_c hw (by omega)).mp h)⟩
  · exact Or.inr ⟨i, h1, h2, (atH_c hw (by omega)).mpr h3⟩
theorem Off.congr {σ : St} {o : Nat} {w w' : Nat → Int32} {f f' : Nat → UInt32} (h : Off σ o w f) (hn : cnt w ≤ 20) (hw : ∀ k, k < 146 → w' k = w k) (hf : ∀ k, k < 36 → f' k = f k) : Off σ o w' f' := by
  obtain ⟨⟨d1, d2, d3, d4, d5, d6⟩, ⟨i1, i2, i3⟩, ⟨s1, s2⟩, g1, g2, g3, g4⟩ := h
  have hc := cnt_c hw
  refine ⟨⟨?_, ?_, ?_, ?_, ?_, ?_⟩, ⟨?_, ?_, ?_⟩, ⟨?_, ?_⟩, ?_, ?_, ?_, ?_⟩
  · rw [hw 1 (by decide)]; exact d1
  · rw [hw 3 (by decide)]; exact d2
  · rw [hf 13 (by decide)]; exact d3
  · rw [hf 14 (by decide)]; exact d4
  · intro k hk; rw [hf k (by omega)]; exact d5 k hk
  · intro k hk; rw [hf (8 + k) (by omega)]; exact d6 k hk
  · rw [hw 2 (by decide)]; exact i1
  · intro j hj i hi; rw [hc] at hi; rw [it_c hw (by omega) hj]; exact i2 j hj i hi
  · intro i hi; rw [hc] at hi; rw [hf (16 + i) (by omega)]; exact i3 i hi
  · intro c r h h1 h2 h3; exact Hp_c hw hn (s1 c r h h1 h2 h3)
  · intro c h1
    rw [hc, s2 c h1]
    refine congrArg nI (cn_congr _ (fun i hi => ?_))
    unfold tkn
    rw [it_c hw (by omega) (by decide), it_c hw (by omega) (by decide), it_c hw (by omega) (by decide)]
  · rw [hf 15 (by decide)]; exact g1
  · rw [hw 4 (by decide)]; exact g2
  · rw [hw 5 (by decide)]; exact g3
  · rw [hw 0 (by decide)]; exact g4
theorem Inv.congr {w w' : Nat → Int32} {f f' : Nat → UInt32} (h : Inv w f) (hw : ∀ k, k < 146 → w' k = w k) (hf : ∀ k, k < 36 → f' k = f k) : Inv w' f' := by
  obtain ⟨⟨n1, n2, n3, n4, n5⟩, hI, hU, hZ, f1, f2, f3, f4, f5, f6⟩ := h
  have hc := cnt_c hw
  refine ⟨⟨?_, ?_, ?_, ?_, ?_⟩, ?_, ?_, ?_, ?_, ?_, ?_, ?_, ?_, ?_⟩
  · rw [hc, hw 2 (by decide)]; exact n1
  · rw [hc]; exact n2
  · rw [hw 1 (by decide)]; exact n3
  · rw [hw 3 (by decide)]; exact n4
  · rw [hw 4 (by decide)]; exact n5
  · intro i hi
    rw [hc] at hi
    have hi2 : i < 20 := by omega
    obtain ⟨a1, a2, a3, a4, a5, a6⟩ := hI i hi
    unfold iw
    rw [it_c hw hi2 (by decide : 0 < 7), it_c hw hi2 (by decide : 2 < 7), it_c hw hi2 (by decide : 4 < 7), it_c hw hi2 (by decide : 5 < 7)]
    refine ⟨a1, a2, a3, fun q => ?_, a5, a6⟩
    obtain ⟨c, r, h, b1, b2, b3, b4⟩ := a4 q
    exact ⟨c, r, h, b1, b2, b3, (atH_c hw hi2).mpr b4⟩
  · intro i j c r h hi hj h1 h2
    rw [hc] at hi hj
    exact hU i j c r h hi hj ((atH_c hw (by omega)).mp h1) ((atH_c hw (by omega)).mp h2)
  · intro i h1 h2
    rw [hc] at h1
    rw [it_c hw h2 (by decide : 4 < 7), it_c hw h2 (by decide : 5 < 7), it_c hw h2 (by decide : 6 < 7), hf (16 + i) (by omega)]
    exact hZ i h1 h2
  · intro k hk; rw [hf k (by omega)]; exact f1 k hk
  · intro k hk; rw [hf (8 + k) (by omega)]; exact f2 k hk
  · rw [hf 13 (by decide)]; exact f3
  · rw [hf 14 (by decide)]; exact f4
  · rw [hf 15 (by decide)]; exact f5
  · intro k hk; rw [hf (16 + k) (by omega)]; exact f6 k hk
/-- an office depends on its own cells alone -/
theorem Off.frame {σ σ' : St} {o : Nat} {w : Nat → Int32} {f : Nat → UInt32} (h : Off σ o w f) (hk : ∀ j, j < 17 → σ'.1 (o + j) = σ.1 (o + j) ∧ σ'.2.1 (o + j) = σ.2.1 (o + j)) : Off σ' o w f := by
  obtain ⟨⟨d1, d2, d3, d4, d5, d6⟩, ⟨i1, i2, i3⟩, ⟨s1, s2⟩, g1, g2, g3, g4⟩ := h
  refine ⟨⟨?_, ?_, ?_, ?_, ?_, ?_⟩, ⟨?_, ?_, ?_⟩, ⟨?_, ?_⟩, ?_, ?_, ?_, ?_⟩
  · rw [(hk 1 (by decide)).1]; exact d1
  · rw [(hk 1 (by decide)).1]; exact d2
  · rw [(hk 1 (by decide)).2]; exact d3
  · rw [(hk 1 (by decide)).2]; exact d4
  · rw [(hk 2 (by decide)).2]; exact d5
  · rw [(hk 3 (by decide)).2]; exact d6
  · rw [(hk 4 (by decide)).1]; exact i1
  · intro j hj
    have := (hk (5 + j) (by omega)).1
    rw [show o + (5 + j) = o + 5 + j by omega] at this
    rw [this]; exact i2 j hj
  · rw [(hk 12 (by decide)).2]; exact i3
  · rw [(hk 14 (by decide)).1]; exact s1
  · rw [(hk 15 (by decide)).1]; exact s2
  · rw [(hk 16 (by decide)).2]; exact g1
  · rw [(hk 16 (by decide)).1]; exact g2
  · rw [(hk 16 (by decide)).1]; exact g3
  · rw [(hk 16 (by decide)).1]; exact g4
theorem Off.kp {σ σ' : St} {o : Nat} {w : Nat → Int32} {f : Nat → UInt32} {P : Nat → Prop} (h : Off σ o w f) (hk : Kp P σ σ') (hp : ∀ j, j < 17 → P (o + j)) : Off σ' o w f :=
  h.frame (fun j hj => hk.1 _ (hp j hj))
/-- the copy of an office -/
theorem copy_kp (σ : St) (o0 o1 : Nat) : Kp (fun i => ¬ (o0 ≤ i ∧ i < o0 + 17)) σ (f_X6_copyFrom σ o0 o1) := by
  unfold f_X6_copyFrom f_X2_copyFrom f_X5_copyFrom f_X8_copyFrom f_X3_copyFrom
  simp only [bnd]
  repeat first
    | exact Kp.rf
    | refine kp_setI ?_ (fun h => h ⟨by omega, by omega⟩)
    | refine kp_setF ?_ (fun h => h ⟨by omega, by omega⟩)
    | refine kp_rowI ?_ (fun h => h ⟨by omega, by omega⟩)
    | refine kp_rowF ?_ (fun h => h ⟨by omega, by omega⟩)
set_option maxHeartbeats 4000000 in
theorem Off.copy {σ : St} {o0 o1 : Nat} {w : Nat → Int32} {f : Nat → UInt32} (h : Off σ o1 w f) (hn : cnt w ≤ 20) (hd : o0 + 17 ≤ o1 ∨ o1 + 17 ≤ o0) : Off (f_X6_copyFrom σ o0 o1) o0 w f := by
  obtain ⟨⟨d1, d2, d3, d4, d5, d6⟩, ⟨i1, i2, i3⟩, ⟨s1, s2⟩, g1, g2, g3, g4⟩ := h
  unfold f_X6_copyFrom f_X2_copyFrom f_X5_copyFrom f_X8_copyFrom f_X3_copyFrom
  simp only [bnd]
  refine ⟨⟨?_, ?_, ?_, ?_, ?_, ?_⟩, ⟨?_, ?_, ?_⟩, ⟨?_, ?_⟩, ?_, ?_, ?_, ?_⟩
  · simp (disch := omega) only [r1e, r1n, r2e, r2n, q1e, q1n, q2e, q2n, s2_setI, s1_setF, s2_rowI, s1_rowF, ue, un, ve, vn]
    exact d1
  · simp (disch := omega) only [r1e, r1n, r2e, r2n, q1e, q1n, q2e, q2n, s2_setI, s1_setF, s2_rowI, s1_rowF, ue, un, ve, vn]
    exact d2
  · simp (disch := omega) only [r1e, r1n, r2e, r2n, q1e, q1n, q2e, q2n, s2_setI, s1_setF, s2_rowI, s1_rowF, ue, un, ve, vn]
    exact d3
  · simp (disch := omega) only [r1e, r1n, r2e, r2n, q1e, q1n, q2e, q2n, s2_setI, s1_setF, s2_rowI, s1_rowF, ue, un, ve, vn]
    exact d4
  · intro k hk
    simp (disch := omega) only [r1e, r1n, r2e, r2n, q1e, q1n, q2e, q2n, s2_setI, s1_setF, s2_rowI, s1_rowF, ue, un, ve, vn, cpy_lt]
    exact d5 k hk
  · intro k hk
    simp (disch := omega) only [r1e, r1n, r2e, r2n, q1e, q1n, q2e, q2n, s2_setI, s1_setF, s2_rowI, s1_rowF, ue, un, ve, vn, cpy_lt]
    exact d6 k hk
  · simp (disch := omega) only [r1e, r1n, r2e, r2n, q1e, q1n, q2e, q2n, s2_setI, s1_setF, s2_rowI, s1_rowF, ue, un, ve, vn]
    exact i1
  · intro j hj i hi
    have hi2 : i < 20 := by omega
    have hj7 : j = 0 ∨ j = 1 ∨ j = 2 ∨ j = 3 ∨ j = 4 ∨ j = 5 ∨ j = 6 := by omega
    have hc := i2 j hj i hi
    rcases hj7 with rfl | rfl | rfl | rfl | rfl | rfl | rfl
    all_goals
      simp (disch := omega) only [r1e, r1n, r2e, r2n, q1e, q1n, q2e, q2n, s2_setI, s1_setF, s2_rowI, s1_rowF, ue, un, ve, vn, cpy_lt]
      exact hc
  · intro i hi
    have hi2 : i < 20 := by omega
    simp (disch := omega) only [r1e, r1n, r2e, r2n, q1e, q1n, q2e, q2n, s2_setI, s1_setF, s2_rowI, s1_rowF, ue, un, ve, vn, cpy_lt]
    exact i3 i hi
  · intro c r h h1 h2 h3
    have h4 : 5 * c + 3 * r + h < 30 := by
      unfold hls at h3
      split at h3 <;> omega
    simp (disch := omega) only [r1e, r1n, r2e, r2n, q1e, q1n, q2e, q2n, s2_setI, s1_setF, s2_rowI, s1_rowF, ue, un, ve, vn, cpy_lt]
    exact s1 c r h h1 h2 h3
  · intro c h1
    simp (disch := omega) only [r1e, r1n, r2e, r2n, q1e, q1n, q2e, q2n, s2_setI, s1_setF, s2_rowI, s1_rowF, ue, un, ve, vn, cpy_lt]
    exact s2 c h1
  · simp (disch := omega) only [r1e, r1n, r2e, r2n, q1e, q1n, q2e, q2n, s2_setI, s1_setF, s2_rowI, s1_rowF, ue, un, ve, vn]
    exact g1
  · simp (disch := omega) only [r1e, r1n, r2e, r2n, q1e, q1n, q2e, q2n, s2_setI, s1_setF, s2_rowI, s1_rowF, ue, un, ve, vn]
    exact g2
  · simp (disch := omega) only [r1e, r1n, r2e, r2n, q1e, q1n, q2e, q2n, s2_setI, s1_setF, s2_rowI, s1_rowF, ue, un, ve, vn]
    exact g3
  · simp (disch := omega) only [r1e, r1n, r2e, r2n, q1e, q1n, q2e, q2n, s2_setI, s1_setF, s2_rowI, s1_rowF, ue, un, ve, vn]
    exact g4
