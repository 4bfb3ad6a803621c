abbrev St : Type := (Nat → Nat → Int32) × (Nat → Nat → UInt32) × (Nat → Nat → Int64) × (Nat → Nat → UInt64)
/-- tables of the run: classes, addresses by label, array classes, the least address, the literals' addresses -/
abbrev GE : Type := va_G × (Nat → Nat) × (Nat → ClassId) × Nat × (Nat → Nat) × (Nat → Nat)
def tyT : List Nat := [9, 1, 6, 2, 21, 21, 5, 20, 20, 20, 20, 20, 20, 20, 21, 8, 20, 20, 3, 6, 2, 21, 21, 5, 20, 20, 20, 20, 20, 20, 20, 21, 8, 20, 20, 3, 6, 2, 21, 21, 5, 20, 20, 20, 20, 20, 20, 20, 21, 8, 20, 20, 3, 6, 2, 21, 21, 5, 20, 20, 20, 20, 20, 20, 20, 21, 8, 20, 20, 3, 6, 2, 21, 21, 5, 20, 20, 20, 20, 20, 20, 20, 21, 8, 20, 20, 3, 6, 2, 21, 21, 5, 20, 20, 20, 20, 20, 20, 20, 21, 8, 20, 20, 3, 6, 2, 21, 21, 5, 20, 20, 20, 20, 20, 20, 20, 21, 8, 20, 20, 3, 6, 2, 21, 21, 5, 20, 20, 20, 20, 20, 20, 20, 21, 8, 20, 20, 3, 6, 2, 21, 21, 5, 20, 20, 20, 20, 20, 20, 20, 21, 8, 20, 20, 3, 6, 2, 21, 21, 5, 20, 20, 20, 20, 20, 20, 20, 21, 8, 20, 20, 3, 6, 2, 21, 21, 5, 20, 20, 20, 20, 20, 20, 20, 21, 8, 20, 20, 3, 4, 23, 7, 22, 20, 20, 21]
def lnT : List Nat := [0, 0, 0, 0, 8, 5, 0, 20, 20, 20, 20, 20, 20, 20, 20, 0, 30, 6, 0, 0, 0, 8, 5, 0, 20, 20, 20, 20, 20, 20, 20, 20, 0, 30, 6, 0, 0, 0, 8, 5, 0, 20, 20, 20, 20, 20, 20, 20, 20, 0, 30, 6, 0, 0, 0, 8, 5, 0, 20, 20, 20, 20, 20, 20, 20, 20, 0, 30, 6, 0, 0, 0, 8, 5, 0, 20, 20, 20, 20, 20, 20, 20, 20, 0, 30, 6, 0, 0, 0, 8, 5, 0, 20, 20, 20, 20, 20, 20, 20, 20, 0, 30, 6, 0, 0, 0, 8, 5, 0, 20, 20, 20, 20, 20, 20, 20, 20, 0, 30, 6, 0, 0, 0, 8, 5, 0, 20, 20, 20, 20, 20, 20, 20, 20, 0, 30, 6, 0, 0, 0, 8, 5, 0, 20, 20, 20, 20, 20, 20, 20, 20, 0, 30, 6, 0, 0, 0, 8, 5, 0, 20, 20, 20, 20, 20, 20, 20, 20, 0, 30, 6, 0, 0, 0, 8, 5, 0, 20, 20, 20, 20, 20, 20, 20, 20, 0, 30, 6, 0, 0, 8, 0, 60, 21, 84, 1000]
def tyOf (i : Nat) : Nat := tyT.getD i 0
def lnOf (i : Nat) : Nat := lnT.getD i 0
abbrev vcl : List vw_C := [(RX1, TX1, 3), (RX2, TX2, 6), (RX3, TX3, 4), (RX4, TX4, 3), (RX5, TX5, 9), (RX6, TX6, 4), (RX7, TX7, 8), (RX8, TX8, 2), (RX9, TX9, 8)]
abbrev gR (G : GE) (i : Nat) : Value := .ref (G.2.1 i)
def cellO (G : GE) (t i : Nat) (I : Nat → Int32) (F : Nat → UInt32) (J : Nat → Int64) (D : Nat → UInt64) : va_E := match t with
  | 1 => .inr (0, [gR G (i + 1), .int (I 1), .int (I 2)])
  | 2 => .inr (1, [gR G (i + 1), gR G (i + 2), .int (I 2), .int (I 3), .float (F 4), .float (F 5)])
  | 3 => .inr (2, [.float (F 0), .int (I 1), .int (I 2), .int (I 3)])
  | 4 => .inr (3, [gR G (i + 1), .int (I 1), .int (I 2)])
  | 5 => .inr (4, [gR G (i + 1), gR G (i + 2), gR G (i + 3), gR G (i + 4), gR G (i + 5), gR G (i + 6), gR G (i + 7), gR G (i + 8), .int (I 8)])
  | 6 => .inr (5, [gR G (i + 1), gR G (i + 4), gR G (i + 13), gR G (i + 16)])
  | 7 => .inr (6, [gR G (i + 1), gR G (i + 2), gR G (i + 3), .int (I 3), .int (I 4), .int (I 5), .int (I 6), .int (I 7)])
  | 8 => .inr (7, [gR G (i + 1), gR G (i + 2)])
  | 9 => .inr (8, [gR G 1, gR G 2, gR G 19, gR G 36, gR G 189, gR G 191, gR G 195, .int (I 7)])
  | 20 => .inl (G.2.2.1 0, lnOf i, .inl I)
  | 21 => .inl (G.2.2.1 1, lnOf i, .inr (.inr (.inl F)))
  | 22 => .inl (G.2.2.1 2, lnOf i, .inl I)
  | 23 => .inl (G.2.2.1 3, lnOf i, .inr (.inr (.inr (.inr (fun k => some (G.2.1 (53 + 17 * k)))))))
  | _ => .inr (0, [])
def cell (G : GE) (σ : St) (i : Nat) : va_E := cellO G (tyOf i) i (σ.1 i) (σ.2.1 i) (σ.2.2.1 i) (σ.2.2.2 i)
theorem cell_1 {G : GE} {σ : St} {i : Nat} (h : tyOf i = 1) : cell G σ i = .inr (0, [gR G (i + 1), .int (σ.1 i 1), .int (σ.1 i 2)]) := by rw [cell, h]; rfl
theorem cell_2 {G : GE} {σ : St} {i : Nat} (h : tyOf i = 2) : cell G σ i = .inr (1, [gR G (i + 1), gR G (i + 2), .int (σ.1 i 2), .int (σ.1 i 3), .float (σ.2.1 i 4), .float (σ.2.1 i 5)]) := by rw [cell, h]; rfl
theorem cell_3 {G : GE} {σ : St} {i : Nat} (h : tyOf i = 3) : cell G σ i = .inr (2, [.float (σ.2.1 i 0), .int (σ.1 i 1), .int (σ.1 i 2), .int (σ.1 i 3)]) := by rw [cell, h]; rfl
theorem cell_4 {G : GE} {σ : St} {i : Nat} (h : tyOf i = 4) : cell G σ i = .inr (3, [gR G (i + 1), .int (σ.1 i 1), .int (σ.1 i 2)]) := by rw [cell, h]; rfl
theorem cell_5 {G : GE} {σ : St} {i : Nat} (h : tyOf i = 5) : cell G σ i = .inr (4, [gR G (i + 1), gR G (i + 2), gR G (i + 3), gR G (i + 4), gR G (i + 5), gR G (i + 6), gR G (i + 7), gR G (i + 8), .int (σ.1 i 8)]) := by rw [cell, h]; rfl
theorem cell_6 {G : GE} {σ : St} {i : Nat} (h : tyOf i = 6) : cell G σ i = .inr (5, [gR G (i + 1), gR G (i + 4), gR G (i + 13), gR G (i + 16)]) := by rw [cell, h]; rfl
theorem cell_7 {G : GE} {σ : St} {i : Nat} (h : tyOf i = 7) : cell G σ i = .inr (6, [gR G (i + 1), gR G (i + 2), gR G (i + 3), .int (σ.1 i 3), .int (σ.1 i 4), .int (σ.1 i 5), .int (σ.1 i 6), .int (σ.1 i 7)]) := by rw [cell, h]; rfl
theorem cell_8 {G : GE} {σ : St} {i : Nat} (h : tyOf i = 8) : cell G σ i = .inr (7, [gR G (i + 1), gR G (i + 2)]) := by rw [cell, h]; rfl
theorem cell_9 {G : GE} {σ : St} {i : Nat} (h : tyOf i = 9) : cell G σ i = .inr (8, [gR G 1, gR G 2, gR G 19, gR G 36, gR G 189, gR G 191, gR G 195, .int (σ.1 i 7)]) := by rw [cell, h]; rfl
theorem cell_20 {G : GE} {σ : St} {i : Nat} (h : tyOf i = 20) : cell G σ i = .inl (G.2.2.1 0, lnOf i, .inl (σ.1 i)) := by rw [cell, h]; rfl
theorem cell_21 {G : GE} {σ : St} {i : Nat} (h : tyOf i = 21) : cell G σ i = .inl (G.2.2.1 1, lnOf i, .inr (.inr (.inl (σ.2.1 i)))) := by rw [cell, h]; rfl
theorem cell_22 {G : GE} {σ : St} {i : Nat} (h : tyOf i = 22) : cell G σ i = .inl (G.2.2.1 2, lnOf i, .inl (σ.1 i)) := by rw [cell, h]; rfl
theorem cell_23 {G : GE} {σ : St} {i : Nat} (h : tyOf i = 23) : cell G σ i = .inl (G.2.2.1 3, lnOf i, .inr (.inr (.inr (.inr (fun k => some (G.2.1 (53 + 17 * k))))))) := by rw [cell, h]; rfl
theorem ty_lt {i t : Nat} (h : tyOf i = t + 1) : i < 196 := by
  rcases Nat.lt_or_ge i 196 with q | q
  · exact q
  · exfalso
    have h1 : tyOf i = 0 := by
      unfold tyOf
      rw [List.getD_eq_getElem?_getD, List.getElem?_eq_none (by exact q)]
      rfl
    omega
def wl (G : GE) (σ : St) : va_W := (List.range 196).map (fun i => (G.2.1 i, cell G σ i))
theorem wl_len (G : GE) (σ : St) : (wl G σ).length = 196 := by simp [wl]
theorem wl_at (G : GE) (σ : St) {i : Nat} (hi : i < 196) : (wl G σ)[i]? = some (G.2.1 i, cell G σ i) := by
  simp [wl, hi]
theorem wl_set {G : GE} {σ σ' : St} {i : Nat} {e : va_E} (hi : i < 196) (he : cell G σ' i = e) (hne : ∀ j, j ≠ i → cell G σ' j = cell G σ j) : (wl G σ).set i (G.2.1 i, e) = wl G σ' := by
  apply List.ext_getElem?
  intro j
  by_cases hj : j < 196
  · by_cases hji : i = j
    · subst hji
      rw [List.getElem?_set_self (by rw [wl_len]; exact hi), wl_at G σ' hi, he]
    · rw [List.getElem?_set_ne hji, wl_at G σ hj, wl_at G σ' hj, hne j (Ne.symm hji)]
  · rw [List.getElem?_eq_none (by rw [List.length_set, wl_len]; omega), List.getElem?_eq_none (by rw [wl_len]; omega)]
/-- one cell's numbers anew -/
def rowI (σ : St) (i : Nat) (f : Nat → Int32) : St := (fun a => if a = i then f else σ.1 a, σ.2)
def rowF (σ : St) (i : Nat) (f : Nat → UInt32) : St := (σ.1, fun a => if a = i then f else σ.2.1 a, σ.2.2)
def rowJ (σ : St) (i : Nat) (f : Nat → Int64) : St := (σ.1, σ.2.1, fun a => if a = i then f else σ.2.2.1 a, σ.2.2.2)
def rowD (σ : St) (i : Nat) (f : Nat → UInt64) : St := (σ.1, σ.2.1, σ.2.2.1, fun a => if a = i then f else σ.2.2.2 a)
def setI (σ : St) (i k : Nat) (v : Int32) : St := rowI σ i (upd (σ.1 i) k v)
def setF (σ : St) (i k : Nat) (v : UInt32) : St := rowF σ i (vf_upd (σ.2.1 i) k v)
def setJ (σ : St) (i k : Nat) (v : Int64) : St := rowJ σ i (vp_updL (σ.2.2.1 i) k v)
def setD (σ : St) (i k : Nat) (v : UInt64) : St := rowD σ i (vf_upd (σ.2.2.2 i) k v)
theorem rowI_s (σ : St) (i : Nat) (f : Nat → Int32) : (rowI σ i f).1 i = f := if_pos rfl
theorem rowF_s (σ : St) (i : Nat) (f : Nat → UInt32) : (rowF σ i f).2.1 i = f := if_pos rfl
theorem rowJ_s (σ : St) (i : Nat) (f : Nat → Int64) : (rowJ σ i f).2.2.1 i = f := if_pos rfl
theorem rowD_s (σ : St) (i : Nat) (f : Nat → UInt64) : (rowD σ i f).2.2.2 i = f := if_pos rfl
theorem rowI_n (G : GE) (σ : St) (i : Nat) (f : Nat → Int32) : ∀ j, j ≠ i → cell G (rowI σ i f) j = cell G σ j := fun j h => by
  have e : (rowI σ i f).1 j = σ.1 j := if_neg h
  unfold cell; rw [e]; rfl
theorem rowF_n (G : GE) (σ : St) (i : Nat) (f : Nat → UInt32) : ∀ j, j ≠ i → cell G (rowF σ i f) j = cell G σ j := fun j h => by
  have e : (rowF σ i f).2.1 j = σ.2.1 j := if_neg h
  unfold cell; rw [e]; rfl
theorem rowJ_n (G : GE) (σ : St) (i : Nat) (f : Nat → Int64) : ∀ j, j ≠ i → cell G (rowJ σ i f) j = cell G σ j := fun j h => by
  have e : (rowJ σ i f).2.2.1 j = σ.2.2.1 j := if_neg h
  unfold cell; rw [e]; rfl
theorem rowD_n (G : GE) (σ : St) (i : Nat) (f : Nat → UInt64) : ∀ j, j ≠ i → cell G (rowD σ i f) j = cell G σ j := fun j h => by
  have e : (rowD σ i f).2.2.2 j = σ.2.2.2 j := if_neg h
  unfold cell; rw [e]; rfl
/-- which cells may change -/
def GA (G : GE) : Nat → Prop := fun q => G.2.2.2.1 ≤ q
def Gok (G : GE) : Prop := (∀ i j, i < 196 → j < 196 → G.2.1 i = G.2.1 j → i = j) ∧ ∀ i, i < 196 → G.2.2.2.1 ≤ G.2.1 i
theorem wl_D {G : GE} (h : Gok G) (σ : St) : va_D (GA G) (wl G σ) := by
  have key : ∀ (k : Nat) (q : Nat × va_E), (wl G σ)[k]? = some q → k < 196 ∧ q.1 = G.2.1 k := by
    intro k q hk
    have hl : k < 196 := by
      rcases Nat.lt_or_ge k 196 with z | z
      · exact z
      · rw [List.getElem?_eq_none (by rw [wl_len]; exact z)] at hk; cases hk
    rw [wl_at G σ hl] at hk
    cases hk
    exact ⟨hl, rfl⟩
  refine ⟨fun i j p q hi hj e => ?_, fun k q hk => ?_⟩
  · obtain ⟨a1, a2⟩ := key i p hi
    obtain ⟨b1, b2⟩ := key j q hj
    exact h.1 i j a1 b1 (a2.symm.trans (e.trans b2))
  · obtain ⟨a1, a2⟩ := key k q hk
    show G.2.2.2.1 ≤ q.1
    rw [a2]
    exact h.2 k a1
abbrev tysG (G : GE) : List (ClassId × FieldType) := [(G.2.2.1 0, .int), (G.2.2.1 1, .float), (G.2.2.1 2, .char), (G.2.2.1 3, .object "PotatoStamps$Office")]
def allW : List Cond := lw_tbl.filter goodWord
theorem allW_in {w : Cond} (h : w ∈ lw_tbl) (hg : goodWord w = true) : w ∈ allW := List.mem_filter.mpr ⟨h, hg⟩
theorem allW_good {w : Cond} (h : w ∈ allW) : goodWord w = true := (List.mem_filter.mp h).2
