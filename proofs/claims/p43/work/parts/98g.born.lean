theorem rl_0 (G : GE) (a b : Nat → Nat) {k : Nat} (hk : k < 11) (h : ∀ j, j < 17 → a (2 + 17 * k + j) = b (2 + j)) : cell (GA' G a) s0 (2 + 17 * k + 0) = cell (GA' G b) s0 (2 + 0) := by
  have t1 : tyOf (2 + 17 * k + 0) = 6 := (by decide +kernel : ∀ k, k < 11 → tyOf (2 + 17 * k + 0) = 6) k hk
  have l1 : lnOf (2 + 17 * k + 0) = 0 := (by decide +kernel : ∀ k, k < 11 → lnOf (2 + 17 * k + 0) = 0) k hk
  have e1 : s0.1 (2 + 17 * k + 0) = s0.1 (2 + 0) := by
    show sI0 (tyOf (2 + 17 * k + 0)) (lnOf (2 + 17 * k + 0)) = _
    rw [t1, l1]
    rfl
  have e2 : s0.2.1 (2 + 17 * k + 0) = s0.2.1 (2 + 0) := by
    show sF0 (tyOf (2 + 17 * k + 0)) (2 + 17 * k + 0) = _
    rw [t1]
    rfl
  rw [cell_6 t1, cell_6 (i := 2 + 0) rfl]
  have g1 : gR (GA' G a) (2 + 17 * k + 0 + 1) = gR (GA' G b) (2 + 0 + 1) := congrArg Value.ref (h (0 + 1) (by decide))
  have g4 : gR (GA' G a) (2 + 17 * k + 0 + 4) = gR (GA' G b) (2 + 0 + 4) := congrArg Value.ref (h (0 + 4) (by decide))
  have g13 : gR (GA' G a) (2 + 17 * k + 0 + 13) = gR (GA' G b) (2 + 0 + 13) := congrArg Value.ref (h (0 + 13) (by decide))
  have g16 : gR (GA' G a) (2 + 17 * k + 0 + 16) = gR (GA' G b) (2 + 0 + 16) := congrArg Value.ref (h (0 + 16) (by decide))
  rw [g1, g4, g13, g16]
theorem rl_1 (G : GE) (a b : Nat → Nat) {k : Nat} (hk : k < 11) (h : ∀ j, j < 17 → a (2 + 17 * k + j) = b (2 + j)) : cell (GA' G a) s0 (2 + 17 * k + 1) = cell (GA' G b) s0 (2 + 1) := by
  have t1 : tyOf (2 + 17 * k + 1) = 2 := (by decide +kernel : ∀ k, k < 11 → tyOf (2 + 17 * k + 1) = 2) k hk
  have l1 : lnOf (2 + 17 * k + 1) = 0 := (by decide +kernel : ∀ k, k < 11 → lnOf (2 + 17 * k + 1) = 0) k hk
  have e1 : s0.1 (2 + 17 * k + 1) = s0.1 (2 + 1) := by
    show sI0 (tyOf (2 + 17 * k + 1)) (lnOf (2 + 17 * k + 1)) = _
    rw [t1, l1]
    rfl
  have e2 : s0.2.1 (2 + 17 * k + 1) = s0.2.1 (2 + 1) := by
    show sF0 (tyOf (2 + 17 * k + 1)) (2 + 17 * k + 1) = _
    rw [t1]
    rfl
  rw [cell_2 t1, cell_2 (i := 2 + 1) rfl, e1, e2]
  have g1 : gR (GA' G a) (2 + 17 * k + 1 + 1) = gR (GA' G b) (2 + 1 + 1) := congrArg Value.ref (h (1 + 1) (by decide))
  have g2 : gR (GA' G a) (2 + 17 * k + 1 + 2) = gR (GA' G b) (2 + 1 + 2) := congrArg Value.ref (h (1 + 2) (by decide))
  rw [g1, g2]
theorem rl_2 (G : GE) (a b : Nat → Nat) {k : Nat} (hk : k < 11) (h : ∀ j, j < 17 → a (2 + 17 * k + j) = b (2 + j)) : cell (GA' G a) s0 (2 + 17 * k + 2) = cell (GA' G b) s0 (2 + 2) := by
  have t1 : tyOf (2 + 17 * k + 2) = 21 := (by decide +kernel : ∀ k, k < 11 → tyOf (2 + 17 * k + 2) = 21) k hk
  have l1 : lnOf (2 + 17 * k + 2) = 8 := (by decide +kernel : ∀ k, k < 11 → lnOf (2 + 17 * k + 2) = 8) k hk
  have e1 : s0.1 (2 + 17 * k + 2) = s0.1 (2 + 2) := by
    show sI0 (tyOf (2 + 17 * k + 2)) (lnOf (2 + 17 * k + 2)) = _
    rw [t1, l1]
    rfl
  have e2 : s0.2.1 (2 + 17 * k + 2) = s0.2.1 (2 + 2) := by
    show sF0 (tyOf (2 + 17 * k + 2)) (2 + 17 * k + 2) = _
    rw [t1]
    rfl
  rw [cell_21 t1, cell_21 (i := 2 + 2) rfl, e2, l1]
  rfl
theorem rl_3 (G : GE) (a b : Nat → Nat) {k : Nat} (hk : k < 11) (h : ∀ j, j < 17 → a (2 + 17 * k + j) = b (2 + j)) : cell (GA' G a) s0 (2 + 17 * k + 3) = cell (GA' G b) s0 (2 + 3) := by
  have t1 : tyOf (2 + 17 * k + 3) = 21 := (by decide +kernel : ∀ k, k < 11 → tyOf (2 + 17 * k + 3) = 21) k hk
  have l1 : lnOf (2 + 17 * k + 3) = 5 := (by decide +kernel : ∀ k, k < 11 → lnOf (2 + 17 * k + 3) = 5) k hk
  have e1 : s0.1 (2 + 17 * k + 3) = s0.1 (2 + 3) := by
    show sI0 (tyOf (2 + 17 * k + 3)) (lnOf (2 + 17 * k + 3)) = _
    rw [t1, l1]
    rfl
  have e2 : s0.2.1 (2 + 17 * k + 3) = s0.2.1 (2 + 3) := by
    show sF0 (tyOf (2 + 17 * k + 3)) (2 + 17 * k + 3) = _
    rw [t1]
    rfl
  rw [cell_21 t1, cell_21 (i := 2 + 3) rfl, e2, l1]
  rfl
theorem rl_4 (G : GE) (a b : Nat → Nat) {k : Nat} (hk : k < 11) (h : ∀ j, j < 17 → a (2 + 17 * k + j) = b (2 + j)) : cell (GA' G a) s0 (2 + 17 * k + 4) = cell (GA' G b) s0 (2 + 4) := by
  have t1 : tyOf (2 + 17 * k + 4) = 5 := (by decide +kernel : ∀ k, k < 11 → tyOf (2 + 17 * k + 4) = 5) k hk
  have l1 : lnOf (2 + 17 * k + 4) = 0 := (by decide +kernel : ∀ k, k < 11 → lnOf (2 + 17 * k + 4) = 0) k hk
  have e1 : s0.1 (2 + 17 * k + 4) = s0.1 (2 + 4) := by
    show sI0 (tyOf (2 + 17 * k + 4)) (lnOf (2 + 17 * k + 4)) = _
    rw [t1, l1]
    rfl
  have e2 : s0.2.1 (2 + 17 * k + 4) = s0.2.1 (2 + 4) := by
    show sF0 (tyOf (2 + 17 * k + 4)) (2 + 17 * k + 4) = _
    rw [t1]
    rfl
  rw [cell_5 t1, cell_5 (i := 2 + 4) rfl, e1]
  have g1 : gR (GA' G a) (2 + 17 * k + 4 + 1) = gR (GA' G b) (2 + 4 + 1) := congrArg Value.ref (h (4 + 1) (by decide))
  have g2 : gR (GA' G a) (2 + 17 * k + 4 + 2) = gR (GA' G b) (2 + 4 + 2) := congrArg Value.ref (h (4 + 2) (by decide))
  have g3 : gR (GA' G a) (2 + 17 * k + 4 + 3) = gR (GA' G b) (2 + 4 + 3) := congrArg Value.ref (h (4 + 3) (by decide))
  have g4 : gR (GA' G a) (2 + 17 * k + 4 + 4) = gR (GA' G b) (2 + 4 + 4) := congrArg Value.ref (h (4 + 4) (by decide))
  have g5 : gR (GA' G a) (2 + 17 * k + 4 + 5) = gR (GA' G b) (2 + 4 + 5) := congrArg Value.ref (h (4 + 5) (by decide))
  have g6 : gR (GA' G a) (2 + 17 * k + 4 + 6) = gR (GA' G b) (2 + 4 + 6) := congrArg Value.ref (h (4 + 6) (by decide))
  have g7 : gR (GA' G a) (2 + 17 * k + 4 + 7) = gR (GA' G b) (2 + 4 + 7) := congrArg Value.ref (h (4 + 7) (by decide))
  have g8 : gR (GA' G a) (2 + 17 * k + 4 + 8) = gR (GA' G b) (2 + 4 + 8) := congrArg Value.ref (h (4 + 8) (by decide))
  rw [g1, g2, g3, g4, g5, g6, g7, g8]
theorem rl_5 (G : GE) (a b : Nat → Nat) {k : Nat} (hk : k < 11) (h : ∀ j, j < 17 → a (2 + 17 * k + j) = b (2 + j)) : cell (GA' G a) s0 (2 + 17 * k + 5) = cell (GA' G b) s0 (2 + 5) := by
  have t1 : tyOf (2 + 17 * k + 5) = 20 := (by decide +kernel : ∀ k, k < 11 → tyOf (2 + 17 * k + 5) = 20) k hk
  have l1 : lnOf (2 + 17 * k + 5) = 20 := (by decide +kernel : ∀ k, k < 11 → lnOf (2 + 17 * k + 5) = 20) k hk
  have e1 : s0.1 (2 + 17 * k + 5) = s0.1 (2 + 5) := by
    show sI0 (tyOf (2 + 17 * k + 5)) (lnOf (2 + 17 * k + 5)) = _
    rw [t1, l1]
    rfl
  have e2 : s0.2.1 (2 + 17 * k + 5) = s0.2.1 (2 + 5) := by
    show sF0 (tyOf (2 + 17 * k + 5)) (2 + 17 * k + 5) = _
    rw [t1]
    rfl
  rw [cell_20 t1, cell_20 (i := 2 + 5) rfl, e1, l1]
  rfl
theorem rl_6 (G : GE) (a b : Nat → Nat) {k : Nat} (hk : k < 11) (h : ∀ j, j < 17 → a (2 + 17 * k + j) = b (2 + j)) : cell (GA' G a) s0 (2 + 17 * k + 6) = cell (GA' G b) s0 (2 + 6) := by
  have t1 : tyOf (2 + 17 * k + 6) = 20 := (by decide +kernel : ∀ k, k < 11 → tyOf (2 + 17 * k + 6) = 20) k hk
  have l1 : lnOf (2 + 17 * k + 6) = 20 := (by decide +kernel : ∀ k, k < 11 → lnOf (2 + 17 * k + 6) = 20) k hk
  have e1 : s0.1 (2 + 17 * k + 6) = s0.1 (2 + 6) := by
    show sI0 (tyOf (2 + 17 * k + 6)) (lnOf (2 + 17 * k + 6)) = _
    rw [t1, l1]
    rfl
  have e2 : s0.2.1 (2 + 17 * k + 6) = s0.2.1 (2 + 6) := by
    show sF0 (tyOf (2 + 17 * k + 6)) (2 + 17 * k + 6) = _
    rw [t1]
    rfl
  rw [cell_20 t1, cell_20 (i := 2 + 6) rfl, e1, l1]
  rfl
theorem rl_7 (G : GE) (a b : Nat → Nat) {k : Nat} (hk : k < 11) (h : ∀ j, j < 17 → a (2 + 17 * k + j) = b (2 + j)) : cell (GA' G a) s0 (2 + 17 * k + 7) = cell (GA' G b) s0 (2 + 7) := by
  have t1 : tyOf (2 + 17 * k + 7) = 20 := (by decide +kernel : ∀ k, k < 11 → tyOf (2 + 17 * k + 7) = 20) k hk
  have l1 : lnOf (2 + 17 * k + 7) = 20 := (by decide +kernel : ∀ k, k < 11 → lnOf (2 + 17 * k + 7) = 20) k hk
  have e1 : s0.1 (2 + 17 * k + 7) = s0.1 (2 + 7) := by
    show sI0 (tyOf (2 + 17 * k + 7)) (lnOf (2 + 17 * k + 7)) = _
    rw [t1, l1]
    rfl
  have e2 : s0.2.1 (2 + 17 * k + 7) = s0.2.1 (2 + 7) := by
    show sF0 (tyOf (2 + 17 * k + 7)) (2 + 17 * k + 7) = _
    rw [t1]
    rfl
  rw [cell_20 t1, cell_20 (i := 2 + 7) rfl, e1, l1]
  rfl
theorem rl_8 (G : GE) (a b : Nat → Nat) {k : Nat} (hk : k < 11) (h : ∀ j, j < 17 → a (2 + 17 * k + j) = b (2 + j)) : cell (GA' G a) s0 (2 + 17 * k + 8) = cell (GA' G b) s0 (2 + 8) := by
  have t1 : tyOf (2 + 17 * k + 8) = 20 := (by decide +kernel : ∀ k, k < 11 → tyOf (2 + 17 * k + 8) = 20) k hk
  have l1 : lnOf (2 + 17 * k + 8) = 20 := (by decide +kernel : ∀ k, k < 11 → lnOf (2 + 17 * k + 8) = 20) k hk
  have e1 : s0.1 (2 + 17 * k + 8) = s0.1 (2 + 8) := by
    show sI0 (tyOf (2 + 17 * k + 8)) (lnOf (2 + 17 * k + 8)) = _
    rw [t1, l1]
    rfl
  have e2 : s0.2.1 (2 + 17 * k + 8) = s0.2.1 (2 + 8) := by
    show sF0 (tyOf (2 + 17 * k + 8)) (2 + 17 * k + 8) = _
    rw [t1]
    rfl
  rw [cell_20 t1, cell_20 (i := 2 + 8) rfl, e1, l1]
  rfl
theorem rl_9 (G : GE) (a b : Nat → Nat) {k : Nat} (hk : k < 11) (h : ∀ j, j < 17 → a (2 + 17 * k + j) = b (2 + j)) : cell (GA' G a) s0 (2 + 17 * k + 9) = cell (GA' G b) s0 (2 + 9) := by
  have t1 : tyOf (2 + 17 * k + 9) = 20 := (by decide +kernel : ∀ k, k < 11 → tyOf (2 + 17 * k + 9) = 20) k hk
  have l1 : lnOf (2 + 17 * k + 9) = 20 := (by decide +kernel : ∀ k, k < 11 → lnOf (2 + 17 * k + 9) = 20) k hk
  have e1 : s0.1 (2 + 17 * k + 9) = s0.1 (2 + 9) := by
    show sI0 (tyOf (2 + 17 * k + 9)) (lnOf (2 + 17 * k + 9)) = _
    rw [t1, l1]
    rfl
  have e2 : s0.2.1 (2 + 17 * k + 9) = s0.2.1 (2 + 9) := by
    show sF0 (tyOf (2 + 17 * k + 9)) (2 + 17 * k + 9) = _
    rw [t1]
    rfl
  rw [cell_20 t1, cell_20 (i := 2 + 9) rfl, e1, l1]
  rfl
theorem rl_10 (G : GE) (a b : Nat → Nat) {k : Nat} (hk : k < 11) (h : ∀ j, j < 17 → a (2 + 17 * k + j) = b (2 + j)) : cell (GA' G a) s0 (2 + 17 * k + 10) = cell (GA' G b) s0 (2 + 10) := by
  have t1 : tyOf (2 + 17 * k + 10) = 20 := (by decide +kernel : ∀ k, k < 11 → tyOf (2 + 17 * k + 10) = 20) k hk
  have l1 : lnOf (2 + 17 * k + 10) = 20 := (by decide +kernel : ∀ k, k < 11 → lnOf (2 + 17 * k + 10) = 20) k hk
  have e1 : s0.1 (2 + 17 * k + 10) = s0.1 (2 + 10) := by
    show sI0 (tyOf (2 + 17 * k + 10)) (lnOf (2 + 17 * k + 10)) = _
    rw [t1, l1]
    rfl
  have e2 : s0.2.1 (2 + 17 * k + 10) = s0.2.1 (2 + 10) := by
    show sF0 (tyOf (2 + 17 * k + 10)) (2 + 17 * k + 10) = _
    rw [t1]
    rfl
  rw [cell_20 t1, cell_20 (i := 2 + 10) rfl, e1, l1]
  rfl
theorem rl_11 (G : GE) (a b : Nat → Nat) {k : Nat} (hk : k < 11) (h : ∀ j, j < 17 → a (2 + 17 * k + j) = b (2 + j)) : cell (GA' G a) s0 (2 + 17 * k + 11) = cell (GA' G b) s0 (2 + 11) := by
  have t1 : tyOf (2 + 17 * k + 11) = 20 := (by decide +kernel : ∀ k, k < 11 → tyOf (2 + 17 * k + 11) = 20) k hk
  have l1 : lnOf (2 + 17 * k + 11) = 20 := (by decide +kernel : ∀ k, k < 11 → lnOf (2 + 17 * k + 11) = 20) k hk
  have e1 : s0.1 (2 + 17 * k + 11) = s0.1 (2 + 11) := by
    show sI0 (tyOf (2 + 17 * k + 11)) (lnOf (2 + 17 * k + 11)) = _
    rw [t1, l1]
    rfl
  have e2 : s0.2.1 (2 + 17 * k + 11) = s0.2.1 (2 + 11) := by
    show sF0 (tyOf (2 + 17 * k + 11)) (2 + 17 * k + 11) = _
    rw [t1]
    rfl
  rw [cell_20 t1, cell_20 (i := 2 + 11) rfl, e1, l1]
  rfl
theorem rl_12 (G : GE) (a b : Nat → Nat) {k : Nat} (hk : k < 11) (h : ∀ j, j < 17 → a (2 + 17 * k + j) = b (2 + j)) : cell (GA' G a) s0 (2 + 17 * k + 12) = cell (GA' G b) s0 (2 + 12) := by
  have t1 : tyOf (2 + 17 * k + 12) = 21 := (by decide +kernel : ∀ k, k < 11 → tyOf (2 + 17 * k + 12) = 21) k hk
  have l1 : lnOf (2 + 17 * k + 12) = 20 := (by decide +kernel : ∀ k, k < 11 → lnOf (2 + 17 * k + 12) = 20) k hk
  have e1 : s0.1 (2 + 17 * k + 12) = s0.1 (2 + 12) := by
    show sI0 (tyOf (2 + 17 * k + 12)) (lnOf (2 + 17 * k + 12)) = _
    rw [t1, l1]
    rfl
  have e2 : s0.2.1 (2 + 17 * k + 12) = s0.2.1 (2 + 12) := by
    show sF0 (tyOf (2 + 17 * k + 12)) (2 + 17 * k + 12) = _
    rw [t1]
    rfl
  rw [cell_21 t1, cell_21 (i := 2 + 12) rfl, e2, l1]
  rfl
theorem rl_13 (G : GE) (a b : Nat → Nat) {k : Nat} (hk : k < 11) (h : ∀ j, j < 17 → a (2 + 17 * k + j) = b (2 + j)) : cell (GA' G a) s0 (2 + 17 * k + 13) = cell (GA' G b) s0 (2 + 13) := by
  have t1 : tyOf (2 + 17 * k + 13) = 8 := (by decide +kernel : ∀ k, k < 11 → tyOf (2 + 17 * k + 13) = 8) k hk
  have l1 : lnOf (2 + 17 * k + 13) = 0 := (by decide +kernel : ∀ k, k < 11 → lnOf (2 + 17 * k + 13) = 0) k hk
  have e1 : s0.1 (2 + 17 * k + 13) = s0.1 (2 + 13) := by
    show sI0 (tyOf (2 + 17 * k + 13)) (lnOf (2 + 17 * k + 13)) = _
    rw [t1, l1]
    rfl
  have e2 : s0.2.1 (2 + 17 * k + 13) = s0.2.1 (2 + 13) := by
    show sF0 (tyOf (2 + 17 * k + 13)) (2 + 17 * k + 13) = _
    rw [t1]
    rfl
  rw [cell_8 t1, cell_8 (i := 2 + 13) rfl]
  have g1 : gR (GA' G a) (2 + 17 * k + 13 + 1) = gR (GA' G b) (2 + 13 + 1) := congrArg Value.ref (h (13 + 1) (by decide))
  have g2 : gR (GA' G a) (2 + 17 * k + 13 + 2) = gR (GA' G b) (2 + 13 + 2) := congrArg Value.ref (h (13 + 2) (by decide))
  rw [g1, g2]
theorem rl_14 (G : GE) (a b : Nat → Nat) {k : Nat} (hk : k < 11) (h : ∀ j, j < 17 → a (2 + 17 * k + j) = b (2 + j)) : cell (GA' G a) s0 (2 + 17 * k + 14) = cell (GA' G b) s0 (2 + 14) := by
  have t1 : tyOf (2 + 17 * k + 14) = 20 := (by decide +kernel : ∀ k, k < 11 → tyOf (2 + 17 * k + 14) = 20) k hk
  have l1 : lnOf (2 + 17 * k + 14) = 30 := (by decide +kernel : ∀ k, k < 11 → lnOf (2 + 17 * k + 14) = 30) k hk
  have e1 : s0.1 (2 + 17 * k + 14) = s0.1 (2 + 14) := by
    show sI0 (tyOf (2 + 17 * k + 14)) (lnOf (2 + 17 * k + 14)) = _
    rw [t1, l1]
    rfl
  have e2 : s0.2.1 (2 + 17 * k + 14) = s0.2.1 (2 + 14) := by
    show sF0 (tyOf (2 + 17 * k + 14)) (2 + 17 * k + 14) = _
    rw [t1]
    rfl
  rw [cell_20 t1, cell_20 (i := 2 + 14) rfl, e1, l1]
  rfl
theorem rl_15 (G : GE) (a b : Nat → Nat) {k : Nat} (hk : k < 11) (h : ∀ j, j < 17 → a (2 + 17 * k + j) = b (2 + j)) : cell (GA' G a) s0 (2 + 17 * k + 15) = cell (GA' G b) s0 (2 + 15) := by
  have t1 : tyOf (2 + 17 * k + 15) = 20 := (by decide +kernel : ∀ k, k < 11 → tyOf (2 + 17 * k + 15) = 20) k hk
  have l1 : lnOf (2 + 17 * k + 15) = 6 := (by decide +kernel : ∀ k, k < 11 → lnOf (2 + 17 * k + 15) = 6) k hk
  have e1 : s0.1 (2 + 17 * k + 15) = s0.1 (2 + 15) := by
    show sI0 (tyOf (2 + 17 * k + 15)) (lnOf (2 + 17 * k + 15)) = _
    rw [t1, l1]
    rfl
  have e2 : s0.2.1 (2 + 17 * k + 15) = s0.2.1 (2 + 15) := by
    show sF0 (tyOf (2 + 17 * k + 15)) (2 + 17 * k + 15) = _
    rw [t1]
    rfl
  rw [cell_20 t1, cell_20 (i := 2 + 15) rfl, e1, l1]
  rfl
theorem rl_16 (G : GE) (a b : Nat → Nat) {k : Nat} (hk : k < 11) (h : ∀ j, j < 17 → a (2 + 17 * k + j) = b (2 + j)) : cell (GA' G a) s0 (2 + 17 * k + 16) = cell (GA' G b) s0 (2 + 16) := by
  have t1 : tyOf (2 + 17 * k + 16) = 3 := (by decide +kernel : ∀ k, k < 11 → tyOf (2 + 17 * k + 16) = 3) k hk
  have l1 : lnOf (2 + 17 * k + 16) = 0 := (by decide +kernel : ∀ k, k < 11 → lnOf (2 + 17 * k + 16) = 0) k hk
  have e1 : s0.1 (2 + 17 * k + 16) = s0.1 (2 + 16) := by
    show sI0 (tyOf (2 + 17 * k + 16)) (lnOf (2 + 17 * k + 16)) = _
    rw [t1, l1]
    rfl
  have e2 : s0.2.1 (2 + 17 * k + 16) = s0.2.1 (2 + 16) := by
    show sF0 (tyOf (2 + 17 * k + 16)) (2 + 17 * k + 16) = _
    rw [t1]
    rfl
  rw [cell_3 t1, cell_3 (i := 2 + 16) rfl, e1, e2]
theorem rl_all (G : GE) (a b : Nat → Nat) {k : Nat} (hk : k < 11) (h : ∀ j, j < 17 → a (2 + 17 * k + j) = b (2 + j)) : ∀ r, r < 17 → cell (GA' G a) s0 (2 + 17 * k + r) = cell (GA' G b) s0 (2 + r) := by
  intro r hr
  match r, hr with
  | 0, _ => exact rl_0 G a b hk h
  | 1, _ => exact rl_1 G a b hk h
  | 2, _ => exact rl_2 G a b hk h
  | 3, _ => exact rl_3 G a b hk h
  | 4, _ => exact rl_4 G a b hk h
  | 5, _ => exact rl_5 G a b hk h
  | 6, _ => exact rl_6 G a b hk h
  | 7, _ => exact rl_7 G a b hk h
  | 8, _ => exact rl_8 G a b hk h
  | 9, _ => exact rl_9 G a b hk h
  | 10, _ => exact rl_10 G a b hk h
  | 11, _ => exact rl_11 G a b hk h
  | 12, _ => exact rl_12 G a b hk h
  | 13, _ => exact rl_13 G a b hk h
  | 14, _ => exact rl_14 G a b hk h
  | 15, _ => exact rl_15 G a b hk h
  | 16, _ => exact rl_16 G a b hk h
  | r + 17, h => exact absurd h (by omega)
/-- which labels a cell refers to -/
def refL (t i : Nat) : List Nat := match t with
  | 1 => [i + 1]
  | 2 => [i + 1, i + 2]
  | 4 => [i + 1]
  | 5 => [i + 1, i + 2, i + 3, i + 4, i + 5, i + 6, i + 7, i + 8]
  | 6 => [i + 1, i + 4, i + 13, i + 16]
  | 7 => [i + 1, i + 2, i + 3]
  | 8 => [i + 1, i + 2]
  | 9 => [1, 2, 19, 36, 189, 191, 195]
  | _ => []
theorem cell_refs (G : GE) {a a' : Nat → Nat} {i : Nat} (h23 : tyOf i ≠ 23) (h : ∀ j ∈ refL (tyOf i) i, a j = a' j) : cell (GA' G a) s0 i = cell (GA' G a') s0 i := by
  have key : ∀ (t : Nat) (I : Nat → Int32) (F : Nat → UInt32) (J : Nat → Int64) (D : Nat → UInt64), t ≠ 23 → (∀ j ∈ refL t i, a j = a' j) → cellO (GA' G a) t i I F J D = cellO (GA' G a') t i I F J D := by
    intro t I F J D ht hh
    have hg : ∀ j ∈ refL t i, gR (GA' G a) j = gR (GA' G a') j := fun j hj => congrArg Value.ref (hh j hj)
    unfold cellO
    split
    · rw [hg _ (by simp [refL])]
    · rw [hg _ (by simp [refL] : i + 1 ∈ refL 2 i), hg _ (by simp [refL] : i + 2 ∈ refL 2 i)]
    · rfl
    · rw [hg _ (by simp [refL])]
    · rw [hg _ (by simp [refL] : i + 1 ∈ refL 5 i), hg _ (by simp [refL] : i + 2 ∈ refL 5 i), hg _ (by simp [refL] : i + 3 ∈ refL 5 i), hg _ (by simp [refL] : i + 4 ∈ refL 5 i), hg _ (by simp [refL] : i + 5 ∈ refL 5 i), hg _ (by simp [refL] : i + 6 ∈ refL 5 i), hg _ (by simp [refL] : i + 7 ∈ refL 5 i), hg _ (by simp [refL] : i + 8 ∈ refL 5 i)]
    · rw [hg _ (by simp [refL] : i + 1 ∈ refL 6 i), hg _ (by simp [refL] : i + 4 ∈ refL 6 i), hg _ (by simp [refL] : i + 13 ∈ refL 6 i), hg _ (by simp [refL] : i + 16 ∈ refL 6 i)]
    · rw [hg _ (by simp [refL] : i + 1 ∈ refL 7 i), hg _ (by simp [refL] : i + 2 ∈ refL 7 i), hg _ (by simp [refL] : i + 3 ∈ refL 7 i)]
    · rw [hg _ (by simp [refL] : i + 1 ∈ refL 8 i), hg _ (by simp [refL] : i + 2 ∈ refL 8 i)]
    · rw [hg 1 (by simp [refL]), hg 2 (by simp [refL]), hg 19 (by simp [refL]), hg 36 (by simp [refL]), hg 189 (by simp [refL]), hg 191 (by simp [refL]), hg 195 (by simp [refL])]
    · rfl
    · rfl
    · rfl
    · exact absurd rfl ht
    · rfl
  exact key _ _ _ _ _ h23 h
theorem va_at_mem {D : va_G} {cl : List vw_C} {ws : va_W} {H : Heap} (hP : va_P D cl ws H) {q : Nat × va_E} (hq : q ∈ ws) : va_at D cl q H := by
  obtain ⟨k, hk⟩ := List.getElem?_of_mem hq
  exact hP k q hk
theorem va_P_of {D : va_G} {cl : List vw_C} {ws : va_W} {H : Heap} (h : ∀ q ∈ ws, va_at D cl q H) : va_P D cl ws H := fun k q hk => h q (List.mem_of_getElem? hk)
theorem va_D_of {A : Nat → Prop} {ws ws' : va_W} (hD : va_D A ws) (h : ws.map Prod.fst = ws'.map Prod.fst) : va_D A ws' := by
  have key : ∀ (k : Nat) (q : Nat × va_E), ws'[k]? = some q → ∃ q', ws[k]? = some q' ∧ q'.1 = q.1 := fun k q hk => by
    have h1 : (ws'.map Prod.fst)[k]? = some q.1 := by rw [List.getElem?_map, hk]; rfl
    rw [← h, List.getElem?_map] at h1
    cases h2 : ws[k]? with
    | none => rw [h2] at h1; cases h1
    | some q' => rw [h2] at h1; exact ⟨q', rfl, Option.some.inj h1⟩
  refine ⟨fun i j x y hx hy e => ?_, fun k q hk => ?_⟩
  · obtain ⟨x', a1, a2⟩ := key i x hx
    obtain ⟨y', b1, b2⟩ := key j y hy
    exact hD.1 i j x' y' a1 b1 (a2.trans (e.trans b2.symm))
  · obtain ⟨q', a1, a2⟩ := key k q hk
    rw [← a2]
    exact hD.2 k q' a1
theorem lw_mem {G : GE} {a : Nat → Nat} {labs : List Nat} {i : Nat} (h : i ∈ labs) : (a i, cell (GA' G a) s0 i) ∈ lw G a labs := List.mem_map.mpr ⟨i, h, rfl⟩
theorem va_ref8 {D : va_G} {cl : List vw_C} {q : Nat} {cA : ClassId} {f g : Nat → Option Nat} {H : Heap} (hfg : ∀ j, j < 8 → f j = g j) (h : va_at D cl (q, .inl (cA, 8, .inr (.inr (.inr (.inr f))))) H) : va_at D cl (q, .inl (cA, 8, .inr (.inr (.inr (.inr g))))) H := by
  have h1 : H[q]? = some (arrV cA 8 (fun j => va_rf (f j))) := h
  show H[q]? = some (arrV cA 8 (fun j => va_rf (g j)))
  rw [h1]
  unfold arrV
  congr 2
  refine congrArg _ ?_
  funext j
  show va_rf (f j.val) = va_rf (g j.val)
  rw [hfg j.val j.isLt]
theorem n_newq {p : Program} {l : Launch} {e : Env} {R : Room} {s : State} {m : MethodId} {args : Array Value} {below : List Frame} {meth : Method} {c : Code} {H : Heap} {locs : List Loc} {cells slots : Nat} {Q : State → Prop} {G : GE} {cc : ByteArray} {nL : Nat} {own : String} {pc : Nat} {ls : Array Slot} {rest : List Value} {A : Nat → Prop} {ws : va_W} {index : Nat} {n : Int32} {N' : Nat} (X : CxN G p s m args c cc nL own) (hcl : Cond.classLink own index "PotatoStamps$Office" ∈ allW) (hP : va_P G.1 vcl ws H) (hD : va_D A ws) (hS : va_S A s.heap H locs) (hA : ∀ q, s.heap.size ≤ q → A q) (hn : ¬ n < 0) (hN : n.toNatClampNeg = N') (hbytes : N' * 4 ≤ 536870912) (hcells : cells + 1 ≤ R.cells) (hslots : slots + N' ≤ R.slots) (hdg : decode cc pc = .ok (.anewarray index, 3))
    (kk : ∀ (q : Nat) (H1 : Heap), va_P G.1 vcl (ws ++ [(q, .inl (G.2.2.1 3, N', .inr (.inr (.inr (.inr (fun _ => none))))))]) H1 → va_D A (ws ++ [(q, .inl (G.2.2.1 3, N', .inr (.inr (.inr (.inr (fun _ => none))))))]) → va_S A s.heap H1 locs →
      W p l e R s m args below meth c H1 locs (cells + 1) (slots + N') Q (F0 m (pc + 3) ls (.ref q :: rest))) : W p l e R s m args below meth c H locs cells slots Q (F0 m pc ls (.int n :: rest)) := by
  obtain ⟨hx, hb, hml, hown, hts, hK, hbs, hXW, hAO⟩ := X
  refine va_newq hx hb hown (hts _ hcl) hAO hK hP hD hS hA hn hN hbytes hcells hslots hdg (fun q cA H1 hK1 hP1 hD1 hS1 => ?_)
  obtain ⟨k1, c1, -, -, -, e1⟩ := (hK1.2 (tysG G).length (cA, .object "PotatoStamps$Office") (by rw [List.getElem?_append_right (Nat.le_refl _), Nat.sub_self]; rfl)).2
  obtain ⟨k2, c2, -, -, -, e2⟩ := (hK.2 3 (G.2.2.1 3, .object "PotatoStamps$Office") rfl).2
  have e3 : cA = G.2.2.1 3 := Option.some.inj (e1.symm.trans e2)
  subst e3
  exact kk q H1 hP1 hD1 hS1
def offs (G : GE) (b : Nat → Nat → Nat) : Nat → va_W
  | 0 => []
  | k + 1 => offs G b k ++ lw G (b k) L6
theorem offs_congr (G : GE) {b b' : Nat → Nat → Nat} : ∀ k, (∀ j, j < k → b j = b' j) → offs G b k = offs G b' k := by
  intro k
  induction k with
  | zero => intro _; rfl
  | succ k ih => intro h; rw [offs, offs, ih (fun j hj => h j (by omega)), h k (by omega)]
theorem offs_mem {G : GE} {b : Nat → Nat → Nat} : ∀ (n k : Nat), k < n → ∀ q ∈ lw G (b k) L6, q ∈ offs G b n := by
  intro n
  induction n with
  | zero => intro k hk; omega
  | succ n ih =>
    intro k hk q hq
    rw [offs]
    by_cases h : k = n
    · subst h; exact List.mem_append_right _ hq
    · exact List.mem_append_left _ (ih k (by omega) q hq)
def gk (b : Nat → Nat → Nat) (k : Nat) : Nat → Option Nat := fun j => if j < k then some (b j 2) else none
abbrev rm_X4_init : Room := { frames := 4, cells := 137, slots := 1880, locals := 124 }
set_option maxHeartbeats 4000000 in
set_option maxRecDepth 100000 in
theorem c_X4_init (l : Launch) (G : GE) : MtN l G yX4_init cX4_init 2 rm_X4_init (.inr (3, [.null, .int 0, .int 0])) 189 L4 137 1880 := by
  intro h0 sz
  refine n_start (plainFor_of_name (by decide)) (Nat.le_of_ble_eq_true rfl) ?_
  intro p e s m args below meth c X hr hlk hin hA hAG hD ls hl H locs hP hS
  have X : CxN G p s m args c cX4_init 2 RX4 := X
  obtain ⟨hx, hb, hml, hown, hts, hK, hbs, hXW, hAO⟩ := id X
  have hl : lv_has ls 2 [(0, .ref h0)] := hl
  have hin : meth.name = "<init>" := hin
  generalize hAe : va_A [(h0, .inr (3, [.null, .int 0, .int 0]))] sz = A at hD hS hA hAG ⊢
  refine lv_aload_n hx hb dX4_init_0 rfl (lv_at hl 0 rfl) ?_
  refine n_obj X ol_X4 ob_i ob_c hl.1 dX4_init_1 (Nat.le_of_ble_eq_true rfl) (Nat.le_of_ble_eq_true rfl) ?_
  refine lv_aload_n hx hb dX4_init_4 rfl (lv_at hl 0 rfl) ?_
  refine lv_bipush (v := 8) hx hb dX4_init_5 (by decide) ?_
  refine n_newq X nw_X4_9 hP hD hS hA (by decide) rfl (Nat.le_of_ble_eq_true rfl) (Nat.le_of_ble_eq_true rfl) (Nat.le_of_ble_eq_true rfl) dX4_init_7 (fun q1 H hP hD hS => ?_)
  have hP : va_P G.1 vcl ((h0, .inr (3, [.null, .int 0, .int 0])) :: [(q1, .inl (G.2.2.1 3, 8, .inr (.inr (.inr (.inr (fun _ => none))))))]) H := hP
  have hD : va_D A ((h0, .inr (3, [.null, .int 0, .int 0])) :: [(q1, .inl (G.2.2.1 3, 8, .inr (.inr (.inr (.inr (fun _ => none))))))]) := hD
  refine n_putF (k := 0) (v := .ref q1) X in_X4 tyX4_ok nmX4 hP hD hS rfl (by decide) kf_X4_11 rfl hin rfl (tyX4_ok 0 (by decide)) rfl rfl (Nat.le_of_ble_eq_true rfl) dX4_init_10 (fun H locs hP hD hS => ?_)
  refine lv_iconst (v := 0) hx hb dX4_init_13 (by decide) ?_
  refine lv_istore_n (lv' := [(1, .int 0), (0, .ref h0)]) hx hb dX4_init_14 rfl hl (by decide) rfl (fun ls hl => ?_)
  have K : ∀ (d k : Nat), k + d = 8 → ∀ (b : Nat → Nat → Nat) (H : Heap) (locs : List Loc), va_P G.1 vcl ((h0, .inr (3, [.ref q1, .int 0, .int 0])) :: ((q1, .inl (G.2.2.1 3, 8, .inr (.inr (.inr (.inr (gk b k)))))) :: offs G b k)) H → va_D A ((h0, .inr (3, [.ref q1, .int 0, .int 0])) :: ((q1, .inl (G.2.2.1 3, 8, .inr (.inr (.inr (.inr (gk b k)))))) :: offs G b k)) → va_S A s.heap H locs → ∀ (ls : Array Slot), lv_has ls 2 [(1, .int (nI k)), (0, .ref h0)] → W p l e rm_X4_init s m args below meth c H locs (1 + 17 * k) (8 + 234 * k) (MQ below (va_Qv (fun a : Nat → Nat => a 189 = h0) (fun a t => va_P G.1 vcl (lw G a L4) t.heap ∧ va_D A (lw G a L4)) A) args s 137 1880 A) (F0 m 15 ls []) := by
    intro d
    induction d with
    | zero =>
      intro k hk b H locs hP hD hS ls hl
      have : k = 8 := by omega
      subst this
      refine lv_iload_n hx hb dX4_init_15 rfl (lv_at hl 0 rfl) ?_
      refine lv_bipush (v := 8) hx hb dX4_init_16 (by decide) ?_
      refine lv_icmp_ge (tgt := 40) hx hb dX4_init_18 (by decide) (fun hc => ?_) (fun hc => absurd (by decide) hc)
      obtain ⟨a, ha⟩ : ∃ a : Nat → Nat, a = fun i => if i = 189 then h0 else if i = 190 then q1 else b ((i - 53) / 17) ((i - 53) % 17 + 2) := ⟨_, rfl⟩
      have a1 : a 189 = h0 := by rw [ha]; rfl
      have a2 : a 190 = q1 := by rw [ha]; rfl
      have a3 : ∀ k r, k < 8 → r < 17 → a (2 + 17 * (k + 3) + r) = b k (2 + r) := fun k r hk hr => by
        rw [ha]
        show (if 2 + 17 * (k + 3) + r = 189 then h0 else if 2 + 17 * (k + 3) + r = 190 then q1 else b ((2 + 17 * (k + 3) + r - 53) / 17) ((2 + 17 * (k + 3) + r - 53) % 17 + 2)) = _
        rw [if_neg (by omega), if_neg (by omega), show (2 + 17 * (k + 3) + r - 53) / 17 = k by omega, show (2 + 17 * (k + 3) + r - 53) % 17 + 2 = 2 + r by omega]
      have hD2 : va_D A (lw G a L4) := by
        refine va_D_of hD ?_
        rw [ha]
        rfl
      have hP2 : va_P G.1 vcl (lw G a L4) H := by
        refine va_P_of (fun q hq => ?_)
        obtain ⟨i, hi, rfl⟩ := List.mem_map.mp hq
        have hi2 := (by decide +kernel : ∀ i ∈ L4, i = 189 ∨ i = 190 ∨ (53 ≤ i ∧ i < 189)) i hi
        rcases hi2 with rfl | rfl | ⟨i1, i2⟩
        · rw [a1]
          have e1 : cell (GA' G a) s0 189 = .inr (3, [.ref q1, .int 0, .int 0]) := by
            show (Sum.inr : _ → va_E) (3, [Value.ref (a 190), .int 0, .int 0]) = _
            rw [a2]
          rw [e1]
          exact va_at_mem hP List.mem_cons_self
        · rw [a2]
          exact va_ref8 (fun j hj => by
            show (if j < 8 then some (b j 2) else none) = some (a (53 + 17 * j))
            rw [if_pos hj, show 53 + 17 * j = 2 + 17 * (j + 3) + 0 by omega, a3 j 0 hj (by decide)]) (va_at_mem hP (List.mem_cons_of_mem _ List.mem_cons_self))
        · obtain ⟨k, r, hk, hr, rfl⟩ : ∃ k r, k < 8 ∧ r < 17 ∧ i = 2 + 17 * (k + 3) + r := ⟨(i - 53) / 17, (i - 53) % 17, by omega, by omega, by omega⟩
          rw [rl_all G a (b k) (k := k + 3) (by omega) (fun j hj => a3 k j hk hj) r hr, a3 k r hk hr]
          exact va_at_mem hP (List.mem_cons_of_mem _ (List.mem_cons_of_mem _ (offs_mem 8 k hk _ (lw_mem ((by decide +kernel : ∀ r, r < 17 → 2 + r ∈ L6) r hr)))))
      exact W.vret hx hb hr (fun t ht _ => ⟨⟨a, rfl, a1, (by rw [ht]; exact hP2), hD2⟩, hS.F ht⟩) hS.2.2 dX4_init_40 hlk
    | succ d ih =>
      intro k hk b H locs hP hD hS ls hl
      have hk8 : k < 8 := by omega
      refine lv_iload_n hx hb dX4_init_15 rfl (lv_at hl 0 rfl) ?_
      refine lv_bipush (v := 8) hx hb dX4_init_16 (by decide) ?_
      have hlt : ¬ (8 : Int32) ≤ nI k := nI_ge hk8 (by decide)
      refine lv_icmp_ge (tgt := 40) hx hb dX4_init_18 (by decide) (fun hc => absurd hc hlt) (fun hc => ?_)
      refine lv_aload_n hx hb dX4_init_21 rfl (lv_at hl 1 rfl) ?_
      refine n_get (q0 := 0) (k := 0) X in_X4 hP rfl rfl (by decide) kf_X4_11 rfl dX4_init_22 ?_
      refine lv_iload_n hx hb dX4_init_25 rfl (lv_at hl 0 rfl) ?_
      refine n_new (ci := 5) (fs := [.null, .null, .null, .null]) (ty := tyX6) X in_X6 tyX6_ok nw_X4_9 ni_X6.1 ni_X6.2 hP hD hS hA rfl (by decide) (by show 1 + 17 * k + 1 ≤ 137; omega) (by show 8 + 234 * k + 4 ≤ 1880; omega) dX4_init_26 (fun q2 H hP hD hS => ?_)
      refine lv_dup hx hb dX4_init_29 rfl ?_
      refine n_call X (c_X6_init l G) ca_X6_init (Or.inl ⟨_, km_X4_17⟩) rfl rfl rfl ⟨Nat.le_of_ble_eq_true rfl, Nat.le_of_ble_eq_true rfl⟩ (ws := (h0, .inr (3, [.ref q1, .int 0, .int 0])) :: ((q1, .inl (G.2.2.1 3, 8, .inr (.inr (.inr (.inr (gk b k)))))) :: offs G b k)) hP hD hS hA hAG hl.1 (Nat.le_of_ble_eq_true rfl) ⟨by show 1 + 17 * k + 1 + 16 ≤ 137; omega, by show 8 + 234 * k + 4 + 230 ≤ 1880; omega⟩ dX4_init_30 (fun a ha H locs hP1 hD1 hS => ?_)
      subst ha
      have hP := hP1
      have hD := hD1
      have hP : va_P G.1 vcl ((h0, .inr (3, [.ref q1, .int 0, .int 0])) :: ((q1, .inl (G.2.2.1 3, 8, .inr (.inr (.inr (.inr (gk b k)))))) :: (offs G b k ++ lw G a L6))) H := hP
      have hD : va_D A ((h0, .inr (3, [.ref q1, .int 0, .int 0])) :: ((q1, .inl (G.2.2.1 3, 8, .inr (.inr (.inr (.inr (gk b k)))))) :: (offs G b k ++ lw G a L6))) := hD
      refine va_astq (ci := 5) (qk := (offs G b k).length + 2) (vs := [.ref (a 3), .ref (a 6), .ref (a 15), .ref (a 18)]) (r := (RX6, TX6, 4)) hx hb hK hP hD hS 1 3 rfl rfl (by
        show (offs G b k ++ lw G a L6)[(offs G b k).length]? = _
        rw [List.getElem?_append_right (Nat.le_refl _), Nat.sub_self]
        rfl) rfl (vp_in_nI hk8 (by decide)) dX4_init_33 (fun H locs hP hD hS => ?_)
      obtain ⟨b2, hb2⟩ : ∃ b2 : Nat → Nat → Nat, b2 = fun j => if j = k then a else b j := ⟨_, rfl⟩
      have e1 : b2 k = a := by rw [hb2]; exact if_pos rfl
      have e2 : ∀ j, j < k → b j = b2 j := fun j hj => by rw [hb2]; exact (if_neg (by omega)).symm
      have e3 : va_up (gk b k) (nI k).toNatClampNeg (some (a 2)) = gk b2 (k + 1) := by
        rw [nI_clamp (by omega)]
        funext j
        unfold va_up gk
        by_cases h1 : j = k
        · subst h1; rw [if_pos rfl, if_pos (by omega), e1]
        · rw [if_neg h1]
          by_cases h2 : j < k
          · rw [if_pos h2, if_pos (by omega), e2 j h2]
          · rw [if_neg h2, if_neg (by omega)]
      have e4 : offs G b k ++ lw G a L6 = offs G b2 (k + 1) := by rw [offs, offs_congr G k e2, e1]
      have hP : va_P G.1 vcl ((h0, .inr (3, [.ref q1, .int 0, .int 0])) :: ((q1, .inl (G.2.2.1 3, 8, .inr (.inr (.inr (.inr (va_up (gk b k) (nI k).toNatClampNeg (some (a 2)))))))) :: (offs G b k ++ lw G a L6))) H := hP
      have hD : va_D A ((h0, .inr (3, [.ref q1, .int 0, .int 0])) :: ((q1, .inl (G.2.2.1 3, 8, .inr (.inr (.inr (.inr (va_up (gk b k) (nI k).toNatClampNeg (some (a 2)))))))) :: (offs G b k ++ lw G a L6))) := hD
      rw [e3, e4] at hP hD
      refine lv_iinc (v := nI (k + 1)) (lv' := [(1, .int (nI (k + 1))), (0, .ref h0)]) hx hb dX4_init_34 hl (k := 0) rfl (by rw [← nI_1]; rfl) (by decide) rfl (fun ls hl => ?_)
      refine lv_goto (tgt := 15) hx hb dX4_init_37 (by decide) ?_
      have := ih (k + 1) (by omega) b2 H locs hP hD hS ls (lv_sub hl [0, 1] rfl)
      rw [show 1 + 17 * (k + 1) = 1 + 17 * k + 1 + 16 by omega, show 8 + 234 * (k + 1) = 8 + 234 * k + 4 + 230 by omega] at this
      exact this
  exact K 8 0 (by decide) (fun _ _ => 0) H locs hP hD hS ls hl
abbrev rm_X9_init : Room := { frames := 5, cells := 195, slots := 3761, locals := 145 }
set_option maxHeartbeats 8000000 in
set_option maxRecDepth 100000 in
theorem c_X9_init (l : Launch) (G : GE) : MtN l G yX9_init cX9_init 1 rm_X9_init (.inr (8, [.null, .null, .null, .null, .null, .null, .null, .int 0])) 0 L9 195 3761 := by
  intro h0 sz
  refine n_start (plainFor_of_name (by decide)) (Nat.le_of_ble_eq_true rfl) ?_
  intro p e s m args below meth c X hr hlk hin hA hAG hD ls hl H locs hP hS
  have X : CxN G p s m args c cX9_init 1 RX9 := X
  obtain ⟨hx, hb, hml, hown, hts, hK, hbs, hXW, hAO⟩ := id X
  have hl : lv_has ls 1 [(0, .ref h0)] := hl
  have hin : meth.name = "<init>" := hin
  generalize hAe : va_A [(h0, .inr (8, [.null, .null, .null, .null, .null, .null, .null, .int 0]))] sz = A at hD hS hA hAG ⊢
  refine lv_aload_n hx hb dX9_init_0 rfl (lv_at hl 0 rfl) ?_
  refine n_obj X ol_X9 ob_i ob_c hl.1 dX9_init_1 (Nat.le_of_ble_eq_true rfl) (Nat.le_of_ble_eq_true rfl) ?_
  refine lv_aload_n hx hb dX9_init_4 rfl (lv_at hl 0 rfl) ?_
  refine n_new (ci := 0) (fs := [.null, .int 0, .int 0]) (ty := tyX1) X in_X1 tyX1_ok nw_X9_7 ni_X1.1 ni_X1.2 hP hD hS hA rfl (by decide) (Nat.le_of_ble_eq_true rfl) (Nat.le_of_ble_eq_true rfl) dX9_init_5 (fun q1 H hP hD hS => ?_)
  refine lv_dup hx hb dX9_init_8 rfl ?_
  refine n_call X (c_X1_init l G) ca_X1_init (Or.inl ⟨_, km_X9_9⟩) rfl rfl rfl ⟨Nat.le_of_ble_eq_true rfl, Nat.le_of_ble_eq_true rfl⟩ (ws := (h0, .inr (8, [.null, .null, .null, .null, .null, .null, .null, .int 0])) :: []) hP hD hS hA hAG hl.1 (Nat.le_of_ble_eq_true rfl) ⟨Nat.le_of_ble_eq_true rfl, Nat.le_of_ble_eq_true rfl⟩ dX9_init_9 (fun a1 ha1 H locs hP1 hD1 hS => ?_)
  subst ha1
  have hP := hP1
  have hD := hD1
  have hP : va_P G.1 vcl ((h0, .inr (8, [.null, .null, .null, .null, .null, .null, .null, .int 0])) :: lw G a1 L1) H := hP
  have hD : va_D A ((h0, .inr (8, [.null, .null, .null, .null, .null, .null, .null, .int 0])) :: lw G a1 L1) := hD
  refine n_putF (k := 0) (v := .ref (a1 1)) X in_X9 tyX9_ok nmX9 hP hD hS rfl (by decide) kf_X9_10 rfl hin rfl (tyX9_ok 0 (by decide)) rfl rfl (Nat.le_of_ble_eq_true rfl) dX9_init_12 (fun H locs hP hD hS => ?_)
  have hP : va_P G.1 vcl ((h0, .inr (8, [.ref (a1 1), .null, .null, .null, .null, .null, .null, .int 0])) :: lw G a1 L1) H := hP
  have hD : va_D A ((h0, .inr (8, [.ref (a1 1), .null, .null, .null, .null, .null, .null, .int 0])) :: lw G a1 L1) := hD
  refine lv_aload_n hx hb dX9_init_15 rfl (lv_at hl 0 rfl) ?_
  refine lv_aload_n hx hb dX9_init_16 rfl (lv_at hl 0 rfl) ?_
  refine n_get (q0 := 0) (k := 0) X in_X9 hP rfl rfl (by decide) kf_X9_10 rfl dX9_init_17 ?_
  refine n_get (q0 := 1) (k := 0) (fs := [.ref (a1 2), .int 0, .int 0]) (ci := 0) X in_X1 hP rfl rfl (by decide) kf_X9_16 rfl dX9_init_20 ?_
  refine n_putF (k := 1) (v := .ref (a1 2)) X in_X9 tyX9_ok nmX9 hP hD hS rfl (by decide) kf_X9_20 rfl hin rfl (tyX9_ok 1 (by decide)) rfl rfl (Nat.le_of_ble_eq_true rfl) dX9_init_23 (fun H locs hP hD hS => ?_)
  have hP : va_P G.1 vcl ((h0, .inr (8, [.ref (a1 1), .ref (a1 2), .null, .null, .null, .null, .null, .int 0])) :: lw G a1 L1) H := hP
  have hD : va_D A ((h0, .inr (8, [.ref (a1 1), .ref (a1 2), .null, .null, .null, .null, .null, .int 0])) :: lw G a1 L1) := hD
  refine lv_aload_n hx hb dX9_init_26 rfl (lv_at hl 0 rfl) ?_
  refine n_new (ci := 5) (fs := [.null, .null, .null, .null]) (ty := tyX6) X in_X6 tyX6_ok nw_X9_23 ni_X6.1 ni_X6.2 hP hD hS hA rfl (by decide) (Nat.le_of_ble_eq_true rfl) (Nat.le_of_ble_eq_true rfl) dX9_init_27 (fun q2 H hP hD hS => ?_)
  refine lv_dup hx hb dX9_init_30 rfl ?_
  refine n_call X (c_X6_init l G) ca_X6_init (Or.inl ⟨_, km_X9_25⟩) rfl rfl rfl ⟨Nat.le_of_ble_eq_true rfl, Nat.le_of_ble_eq_true rfl⟩ (ws := (h0, .inr (8, [.ref (a1 1), .ref (a1 2), .null, .null, .null, .null, .null, .int 0])) :: lw G a1 L1) hP hD hS hA hAG hl.1 (Nat.le_of_ble_eq_true rfl) ⟨Nat.le_of_ble_eq_true rfl, Nat.le_of_ble_eq_true rfl⟩ dX9_init_31 (fun a2 ha2 H locs hP1 hD1 hS => ?_)
  subst ha2
  have hP := hP1
  have hD := hD1
  have hP : va_P G.1 vcl ((h0, .inr (8, [.ref (a1 1), .ref (a1 2), .null, .null, .null, .null, .null, .int 0])) :: (lw G a1 L1 ++ lw G a2 L6)) H := hP
  have hD : va_D A ((h0, .inr (8, [.ref (a1 1), .ref (a1 2), .null, .null, .null, .null, .null, .int 0])) :: (lw G a1 L1 ++ lw G a2 L6)) := hD
  refine n_putF (k := 2) (v := .ref (a2 2)) X in_X9 tyX9_ok nmX9 hP hD hS rfl (by decide) kf_X9_26 rfl hin rfl (tyX9_ok 2 (by decide)) rfl rfl (Nat.le_of_ble_eq_true rfl) dX9_init_34 (fun H locs hP hD hS => ?_)
  have hP : va_P G.1 vcl ((h0, .inr (8, [.ref (a1 1), .ref (a1 2), .ref (a2 2), .null, .null, .null, .null, .int 0])) :: (lw G a1 L1 ++ lw G a2 L6)) H := hP
  have hD : va_D A ((h0, .inr (8, [.ref (a1 1), .ref (a1 2), .ref (a2 2), .null, .null, .null, .null, .int 0])) :: (lw G a1 L1 ++ lw G a2 L6)) := hD
  refine lv_aload_n hx hb dX9_init_37 rfl (lv_at hl 0 rfl) ?_
  refine n_new (ci := 5) (fs := [.null, .null, .null, .null]) (ty := tyX6) X in_X6 tyX6_ok nw_X9_23 ni_X6.1 ni_X6.2 hP hD hS hA rfl (by decide) (Nat.le_of_ble_eq_true rfl) (Nat.le_of_ble_eq_true rfl) dX9_init_38 (fun q3 H hP hD hS => ?_)
  refine lv_dup hx hb dX9_init_41 rfl ?_
  refine n_call X (c_X6_init l G) ca_X6_init (Or.inl ⟨_, km_X9_25⟩) rfl rfl rfl ⟨Nat.le_of_ble_eq_true rfl, Nat.le_of_ble_eq_true rfl⟩ (ws := (h0, .inr (8, [.ref (a1 1), .ref (a1 2), .ref (a2 2), .null, .null, .null, .null, .int 0])) :: (lw G a1 L1 ++ lw G a2 L6)) hP hD hS hA hAG hl.1 (Nat.le_of_ble_eq_true rfl) ⟨Nat.le_of_ble_eq_true rfl, Nat.le_of_ble_eq_true rfl⟩ dX9_init_42 (fun a3 ha3 H locs hP1 hD1 hS => ?_)
  subst ha3
  have hP := hP1
  have hD := hD1
  have hP : va_P G.1 vcl ((h0, .inr (8, [.ref (a1 1), .ref (a1 2), .ref (a2 2), .null, .null, .null, .null, .int 0])) :: ((lw G a1 L1 ++ lw G a2 L6) ++ lw G a3 L6)) H := hP
  have hD : va_D A ((h0, .inr (8, [.ref (a1 1), .ref (a1 2), .ref (a2 2), .null, .null, .null, .null, .int 0])) :: ((lw G a1 L1 ++ lw G a2 L6) ++ lw G a3 L6)) := hD
  refine n_putF (k := 3) (v := .ref (a3 2)) X in_X9 tyX9_ok nmX9 hP hD hS rfl (by decide) kf_X9_29 rfl hin rfl (tyX9_ok 3 (by decide)) rfl rfl (Nat.le_of_ble_eq_true rfl) dX9_init_45 (fun H locs hP hD hS => ?_)
  have hP : va_P G.1 vcl ((h0, .inr (8, [.ref (a1 1), .ref (a1 2), .ref (a2 2), .ref (a3 2), .null, .null, .null, .int 0])) :: ((lw G a1 L1 ++ lw G a2 L6) ++ lw G a3 L6)) H := hP
  have hD : va_D A ((h0, .inr (8, [.ref (a1 1), .ref (a1 2), .ref (a2 2), .ref (a3 2), .null, .null, .null, .int 0])) :: ((lw G a1 L1 ++ lw G a2 L6) ++ lw G a3 L6)) := hD
  refine lv_aload_n hx hb dX9_init_48 rfl (lv_at hl 0 rfl) ?_
  refine n_new (ci := 3) (fs := [.null, .int 0, .int 0]) (ty := tyX4) X in_X4 tyX4_ok nw_X9_32 ni_X4.1 ni_X4.2 hP hD hS hA rfl (by decide) (Nat.le_of_ble_eq_true rfl) (Nat.le_of_ble_eq_true rfl) dX9_init_49 (fun q4 H hP hD hS => ?_)
  refine lv_dup hx hb dX9_init_52 rfl ?_
  refine n_call X (c_X4_init l G) ca_X4_init (Or.inr km_X9_34) rfl rfl rfl ⟨Nat.le_of_ble_eq_true rfl, Nat.le_of_ble_eq_true rfl⟩ (ws := (h0, .inr (8, [.ref (a1 1), .ref (a1 2), .ref (a2 2), .ref (a3 2), .null, .null, .null, .int 0])) :: ((lw G a1 L1 ++ lw G a2 L6) ++ lw G a3 L6)) hP hD hS hA hAG hl.1 (Nat.le_of_ble_eq_true rfl) ⟨Nat.le_of_ble_eq_true rfl, Nat.le_of_ble_eq_true rfl⟩ dX9_init_53 (fun a4 ha4 H locs hP1 hD1 hS => ?_)
  subst ha4
  have hP := hP1
  have hD := hD1
  have hP : va_P G.1 vcl ((h0, .inr (8, [.ref (a1 1), .ref (a1 2), .ref (a2 2), .ref (a3 2), .null, .null, .null, .int 0])) :: (((lw G a1 L1 ++ lw G a2 L6) ++ lw G a3 L6) ++ lw G a4 L4)) H := hP
  have hD : va_D A ((h0, .inr (8, [.ref (a1 1), .ref (a1 2), .ref (a2 2), .ref (a3 2), .null, .null, .null, .int 0])) :: (((lw G a1 L1 ++ lw G a2 L6) ++ lw G a3 L6) ++ lw G a4 L4)) := hD
  refine n_putF (k := 4) (v := .ref (a4 189)) X in_X9 tyX9_ok nmX9 hP hD hS rfl (by decide) kf_X9_35 rfl hin rfl (tyX9_ok 4 (by decide)) rfl rfl (Nat.le_of_ble_eq_true rfl) dX9_init_56 (fun H locs hP hD hS => ?_)
  have hP : va_P G.1 vcl ((h0, .inr (8, [.ref (a1 1), .ref (a1 2), .ref (a2 2), .ref (a3 2), .ref (a4 189), .null, .null, .int 0])) :: (((lw G a1 L1 ++ lw G a2 L6) ++ lw G a3 L6) ++ lw G a4 L4)) H := hP
  have hD : va_D A ((h0, .inr (8, [.ref (a1 1), .ref (a1 2), .ref (a2 2), .ref (a3 2), .ref (a4 189), .null, .null, .int 0])) :: (((lw G a1 L1 ++ lw G a2 L6) ++ lw G a3 L6) ++ lw G a4 L4)) := hD
  refine lv_aload_n hx hb dX9_init_59 rfl (lv_at hl 0 rfl) ?_
  refine n_new (ci := 6) (fs := [.null, .null, .null, .int 0, .int 0, .int 0, .int 0, .int 0]) (ty := tyX7) X in_X7 tyX7_ok nw_X9_39 ni_X7.1 ni_X7.2 hP hD hS hA rfl (by decide) (Nat.le_of_ble_eq_true rfl) (Nat.le_of_ble_eq_true rfl) dX9_init_60 (fun q5 H hP hD hS => ?_)
  refine lv_dup hx hb dX9_init_63 rfl ?_
  refine n_call X (c_X7_init l G) ca_X7_init (Or.inl ⟨_, km_X9_41⟩) rfl rfl rfl ⟨Nat.le_of_ble_eq_true rfl, Nat.le_of_ble_eq_true rfl⟩ (ws := (h0, .inr (8, [.ref (a1 1), .ref (a1 2), .ref (a2 2), .ref (a3 2), .ref (a4 189), .null, .null, .int 0])) :: (((lw G a1 L1 ++ lw G a2 L6) ++ lw G a3 L6) ++ lw G a4 L4)) hP hD hS hA hAG hl.1 (Nat.le_of_ble_eq_true rfl) ⟨Nat.le_of_ble_eq_true rfl, Nat.le_of_ble_eq_true rfl⟩ dX9_init_64 (fun a5 ha5 H locs hP1 hD1 hS => ?_)
  subst ha5
  have hP := hP1
  have hD := hD1
  have hP : va_P G.1 vcl ((h0, .inr (8, [.ref (a1 1), .ref (a1 2), .ref (a2 2), .ref (a3 2), .ref (a4 189), .null, .null, .int 0])) :: ((((lw G a1 L1 ++ lw G a2 L6) ++ lw G a3 L6) ++ lw G a4 L4) ++ lw G a5 L7)) H := hP
  have hD : va_D A ((h0, .inr (8, [.ref (a1 1), .ref (a1 2), .ref (a2 2), .ref (a3 2), .ref (a4 189), .null, .null, .int 0])) :: ((((lw G a1 L1 ++ lw G a2 L6) ++ lw G a3 L6) ++ lw G a4 L4) ++ lw G a5 L7)) := hD
  refine n_putF (k := 5) (v := .ref (a5 191)) X in_X9 tyX9_ok nmX9 hP hD hS rfl (by decide) kf_X9_42 rfl hin rfl (tyX9_ok 5 (by decide)) rfl rfl (Nat.le_of_ble_eq_true rfl) dX9_init_67 (fun H locs hP hD hS => ?_)
  have hP : va_P G.1 vcl ((h0, .inr (8, [.ref (a1 1), .ref (a1 2), .ref (a2 2), .ref (a3 2), .ref (a4 189), .ref (a5 191), .null, .int 0])) :: ((((lw G a1 L1 ++ lw G a2 L6) ++ lw G a3 L6) ++ lw G a4 L4) ++ lw G a5 L7)) H := hP
  have hD : va_D A ((h0, .inr (8, [.ref (a1 1), .ref (a1 2), .ref (a2 2), .ref (a3 2), .ref (a4 189), .ref (a5 191), .null, .int 0])) :: ((((lw G a1 L1 ++ lw G a2 L6) ++ lw G a3 L6) ++ lw G a4 L4) ++ lw G a5 L7)) := hD
  refine lv_aload_n hx hb dX9_init_70 rfl (lv_at hl 0 rfl) ?_
  refine lv_sipush (v := 1000) hx hb dX9_init_71 (by decide) ?_
  refine n_newa 1 X ac_float rfl rfl (fun _ => rfl) hP hD hS hA (x := .inr (.inr (.inl (fun _ => 0)))) (ty := .float) (N' := 1000) (fun _ => rfl) (by decide) rfl (Nat.le_of_ble_eq_true rfl) (Nat.le_of_ble_eq_true rfl) (Nat.le_of_ble_eq_true rfl) dX9_init_74 (fun q6 H hP hD hS => ?_)
  have hP : va_P G.1 vcl ((h0, .inr (8, [.ref (a1 1), .ref (a1 2), .ref (a2 2), .ref (a3 2), .ref (a4 189), .ref (a5 191), .null, .int 0])) :: (((((lw G a1 L1 ++ lw G a2 L6) ++ lw G a3 L6) ++ lw G a4 L4) ++ lw G a5 L7) ++ [(q6, .inl (G.2.2.1 1, 1000, .inr (.inr (.inl (fun _ => 0)))))])) H := hP
  have hD : va_D A ((h0, .inr (8, [.ref (a1 1), .ref (a1 2), .ref (a2 2), .ref (a3 2), .ref (a4 189), .ref (a5 191), .null, .int 0])) :: (((((lw G a1 L1 ++ lw G a2 L6) ++ lw G a3 L6) ++ lw G a4 L4) ++ lw G a5 L7) ++ [(q6, .inl (G.2.2.1 1, 1000, .inr (.inr (.inl (fun _ => 0)))))])) := hD
  refine n_putF (k := 6) (v := .ref q6) X in_X9 tyX9_ok nmX9 hP hD hS rfl (by decide) kf_X9_46 rfl hin rfl (tyX9_ok 6 (by decide)) rfl rfl (Nat.le_of_ble_eq_true rfl) dX9_init_76 (fun H locs hP hD hS => ?_)
  have hP : va_P G.1 vcl ((h0, .inr (8, [.ref (a1 1), .ref (a1 2), .ref (a2 2), .ref (a3 2), .ref (a4 189), .ref (a5 191), .ref q6, .int 0])) :: (((((lw G a1 L1 ++ lw G a2 L6) ++ lw G a3 L6) ++ lw G a4 L4) ++ lw G a5 L7) ++ [(q6, .inl (G.2.2.1 1, 1000, .inr (.inr (.inl (fun _ => 0)))))])) H := hP
  have hD : va_D A ((h0, .inr (8, [.ref (a1 1), .ref (a1 2), .ref (a2 2), .ref (a3 2), .ref (a4 189), .ref (a5 191), .ref q6, .int 0])) :: (((((lw G a1 L1 ++ lw G a2 L6) ++ lw G a3 L6) ++ lw G a4 L4) ++ lw G a5 L7) ++ [(q6, .inl (G.2.2.1 1, 1000, .inr (.inr (.inl (fun _ => 0)))))])) := hD
  obtain ⟨a, ha⟩ : ∃ a : Nat → Nat, a = fun i => if i = 0 then h0 else if i < 19 then a1 i else if i < 36 then a2 (i - 17) else if i < 53 then a3 (i - 34) else if i < 191 then a4 i else if i < 195 then a5 i else q6 := ⟨_, rfl⟩
  have v0 : a 0 = h0 := by rw [ha]; rfl
  have v1 : ∀ i, 1 ≤ i → i < 19 → a i = a1 i := fun i h1 h2 => by
    rw [ha]; show (if i = 0 then h0 else if i < 19 then a1 i else _) = _
    rw [if_neg (by omega), if_pos h2]
  have v2 : ∀ i, 19 ≤ i → i < 36 → a i = a2 (i - 17) := fun i h1 h2 => by
    rw [ha]; show (if i = 0 then h0 else if i < 19 then a1 i else if i < 36 then a2 (i - 17) else _) = _
    rw [if_neg (by omega), if_neg (by omega), if_pos h2]
  have v3 : ∀ i, 36 ≤ i → i < 53 → a i = a3 (i - 34) := fun i h1 h2 => by
    rw [ha]; show (if i = 0 then h0 else if i < 19 then a1 i else if i < 36 then a2 (i - 17) else if i < 53 then a3 (i - 34) else _) = _
    rw [if_neg (by omega), if_neg (by omega), if_neg (by omega), if_pos h2]
  have v4 : ∀ i, 53 ≤ i → i < 191 → a i = a4 i := fun i h1 h2 => by
    rw [ha]; show (if i = 0 then h0 else if i < 19 then a1 i else if i < 36 then a2 (i - 17) else if i < 53 then a3 (i - 34) else if i < 191 then a4 i else _) = _
    rw [if_neg (by omega), if_neg (by omega), if_neg (by omega), if_neg (by omega), if_pos h2]
  have v5 : ∀ i, 191 ≤ i → i < 195 → a i = a5 i := fun i h1 h2 => by
    rw [ha]; show (if i = 0 then h0 else if i < 19 then a1 i else if i < 36 then a2 (i - 17) else if i < 53 then a3 (i - 34) else if i < 191 then a4 i else if i < 195 then a5 i else q6) = _
    rw [if_neg (by omega), if_neg (by omega), if_neg (by omega), if_neg (by omega), if_neg (by omega), if_pos h2]
  have v6 : a 195 = q6 := by rw [ha]; rfl
  have hD2 : va_D A (lw G a L9) := by
    refine va_D_of hD ?_
    rw [ha]
    rfl
  have hP2 : va_P G.1 vcl (lw G a L9) H := by
    refine va_P_of (fun q hq => ?_)
    obtain ⟨i, hi, rfl⟩ := List.mem_map.mp hq
    have hi2 := (by decide +kernel : ∀ i ∈ L9, i < 196) i hi
    have hcase : i = 0 ∨ (1 ≤ i ∧ i < 19) ∨ (19 ≤ i ∧ i < 36) ∨ (36 ≤ i ∧ i < 53) ∨ i = 190 ∨ (53 ≤ i ∧ i < 191 ∧ i ≠ 190) ∨ (191 ≤ i ∧ i < 195) ∨ i = 195 := by omega
    rcases hcase with rfl | ⟨i1, i2⟩ | ⟨i1, i2⟩ | ⟨i1, i2⟩ | rfl | ⟨i1, i2, i3⟩ | ⟨i1, i2⟩ | rfl
    · have e1 : cell (GA' G a) s0 0 = .inr (8, [.ref (a1 1), .ref (a1 2), .ref (a2 2), .ref (a3 2), .ref (a4 189), .ref (a5 191), .ref q6, .int 0]) := by
        show (Sum.inr : _ → va_E) (8, [Value.ref (a 1), .ref (a 2), .ref (a 19), .ref (a 36), .ref (a 189), .ref (a 191), .ref (a 195), .int 0]) = _
        rw [v1 1 (by decide) (by decide), v1 2 (by decide) (by decide), v2 19 (by decide) (by decide), v3 36 (by decide) (by decide), v4 189 (by decide) (by decide), v5 191 (by decide) (by decide), v6]
      rw [e1, v0]
      exact va_at_mem hP List.mem_cons_self
    · have hr := (by decide +kernel : ∀ i, i < 19 → 1 ≤ i → tyOf i ≠ 23 ∧ i ∈ L1 ∧ ∀ j ∈ refL (tyOf i) i, 1 ≤ j ∧ j < 19) i i2 i1
      rw [cell_refs G (a' := a1) hr.1 (fun j hj => v1 j (hr.2.2 j hj).1 (hr.2.2 j hj).2), v1 i i1 i2]
      exact va_at_mem hP (List.mem_cons_of_mem _ (List.mem_append_left _ (List.mem_append_left _ (List.mem_append_left _ (List.mem_append_left _ (List.mem_append_left _ (lw_mem hr.2.1)))))))
    · obtain ⟨r, hr, rfl⟩ : ∃ r, r < 17 ∧ i = 2 + 17 * 1 + r := ⟨i - 19, by omega, by omega⟩
      rw [rl_all G a a2 (k := 1) (by decide) (fun j hj => by rw [v2 _ (by omega) (by omega), show 2 + 17 * 1 + j - 17 = 2 + j by omega]) r hr, v2 _ i1 i2, show 2 + 17 * 1 + r - 17 = 2 + r by omega]
      exact va_at_mem hP (List.mem_cons_of_mem _ (List.mem_append_left _ (List.mem_append_left _ (List.mem_append_left _ (List.mem_append_left _ (List.mem_append_right _ (lw_mem ((by decide +kernel : ∀ r, r < 17 → 2 + r ∈ L6) r hr))))))))
    · obtain ⟨r, hr, rfl⟩ : ∃ r, r < 17 ∧ i = 2 + 17 * 2 + r := ⟨i - 36, by omega, by omega⟩
      rw [rl_all G a a3 (k := 2) (by decide) (fun j hj => by rw [v3 _ (by omega) (by omega), show 2 + 17 * 2 + j - 34 = 2 + j by omega]) r hr, v3 _ i1 i2, show 2 + 17 * 2 + r - 34 = 2 + r by omega]
      exact va_at_mem hP (List.mem_cons_of_mem _ (List.mem_append_left _ (List.mem_append_left _ (List.mem_append_left _ (List.mem_append_right _ (lw_mem ((by decide +kernel : ∀ r, r < 17 → 2 + r ∈ L6) r hr)))))))
    · rw [v4 190 (by decide) (by decide)]
      refine va_ref8 (f := fun k => some (a4 (53 + 17 * k))) (fun j hj => ?_) ?_
      · show some (a4 (53 + 17 * j)) = some (a (53 + 17 * j))
        rw [v4 _ (by omega) (by omega)]
      · exact va_at_mem hP (List.mem_cons_of_mem _ (List.mem_append_left _ (List.mem_append_left _ (List.mem_append_right _ (lw_mem (by decide +kernel : 190 ∈ L4))))))
    · have hr := ((by decide +kernel : ∀ i, i < 191 → 53 ≤ i → i = 190 ∨ (tyOf i ≠ 23 ∧ i ∈ L4 ∧ ∀ j ∈ refL (tyOf i) i, 53 ≤ j ∧ j < 191)) i i2 i1).resolve_left i3
      rw [cell_refs G (a' := a4) hr.1 (fun j hj => v4 j (hr.2.2 j hj).1 (hr.2.2 j hj).2), v4 i i1 i2]
      exact va_at_mem hP (List.mem_cons_of_mem _ (List.mem_append_left _ (List.mem_append_left _ (List.mem_append_right _ (lw_mem hr.2.1)))))
    · have hr := (by decide +kernel : ∀ i, i < 195 → 191 ≤ i → tyOf i ≠ 23 ∧ i ∈ L7 ∧ ∀ j ∈ refL (tyOf i) i, 191 ≤ j ∧ j < 195) i i2 i1
      rw [cell_refs G (a' := a5) hr.1 (fun j hj => v5 j (hr.2.2 j hj).1 (hr.2.2 j hj).2), v5 i i1 i2]
      exact va_at_mem hP (List.mem_cons_of_mem _ (List.mem_append_left _ (List.mem_append_right _ (lw_mem hr.2.1))))
    · rw [v6]
      exact va_at_mem hP (List.mem_cons_of_mem _ (List.mem_append_right _ (List.mem_cons_self : _ ∈ [(q6, (Sum.inl (G.2.2.1 1, 1000, .inr (.inr (.inl (fun _ => 0)))) : va_E))])))
  exact W.widen (Nat.le_of_ble_eq_true rfl) (Nat.le_of_ble_eq_true rfl) (W.vret hx hb hr (fun t ht _ => ⟨⟨a, rfl, v0, (by rw [ht]; exact hP2), hD2⟩, hS.F ht⟩) hS.2.2 dX9_init_79 hlk)
/-! the whole world, by labels -/
def LO : List Nat := L9
def lpos (i : Nat) : Nat := if i < 53 then i else if i < 189 then i + 2 else if i < 191 then i - 136 else i
theorem LO_at : ∀ i, i < 196 → LO[lpos i]? = some i := by decide +kernel
theorem born_P {G : GE} {a : Nat → Nat} {H : Heap} (hP : va_P G.1 vcl (lw G a LO) H) : va_P (GA' G a).1 vcl (wl (GA' G a) s0) H := by
  refine va_P_of (fun q hq => ?_)
  obtain ⟨i, hi, rfl⟩ := List.mem_map.mp hq
  exact va_at_mem hP (lw_mem (List.mem_of_getElem? (LO_at i (List.mem_range.mp hi))))
theorem born_G {G : GE} {a : Nat → Nat} (hD : va_D (GA G) (lw G a LO)) : Gok (GA' G a) := by
  have key : ∀ i, i < 196 → (lw G a LO)[lpos i]? = some (a i, cell (GA' G a) s0 i) := fun i hi => by
    unfold lw
    rw [List.getElem?_map, LO_at i hi]; rfl
  refine ⟨fun i j hi hj h => ?_, fun i hi => hD.2 _ _ (key i hi)⟩
  have h1 := hD.1 _ _ _ _ (key i hi) (key j hj) h
  have h2 := LO_at i hi
  rw [h1, LO_at j hj] at h2
  exact (Option.some.inj h2).symm
