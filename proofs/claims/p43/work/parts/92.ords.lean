/-! an order of the line, on both sides -/
section ORDS
variable {σ : St} {w : Nat → Int32} {f : Nat → UInt32} {inp : Nat → Int32} {n : Nat}
theorem sP_ar {c : Int32} {p : Nat} {l : List Int32} (h : (sP inp n c p l).1 = true) : (sP inp n c p l).2.2.length = l.length + (if c = 100 ∨ c = 110 then 1 else 0) := by
  revert h
  unfold sP
  by_cases e1 : c = 100
  · rw [if_pos e1, if_pos (Or.inl e1)]
    unfold sD
    split
    · intro _; show (l ++ [_]).length = _; rw [List.length_append]; rfl
    · intro q; cases q
  · by_cases e2 : c = 110
    · rw [if_neg e1, if_pos e2, if_pos (Or.inr e2)]
      unfold sN
      split
      · split
        · intro _; show (l ++ [_]).length = _; rw [List.length_append]; rfl
        · intro _; show (l ++ [_]).length = _; rw [List.length_append]; rfl
      · intro q; cases q
    · have e3 : ¬ (c = 100 ∨ c = 110) := by simp [e1, e2]
      rw [if_neg e1, if_neg e2, if_neg e3]
      unfold sS
      split
      · intro _; rfl
      · intro q; cases q
theorem sPs_ar : ∀ (cs : List Int32) (p : Nat) (l : List Int32), (sPs inp n cs p l).1 = true → (sPs inp n cs p l).2.2.length = l.length + nn cs := by
  intro cs
  induction cs with
  | nil => intro p l _; rfl
  | cons c cs ih =>
    intro p l
    unfold sPs nn
    split
    · rename_i q
      intro h
      rw [ih _ _ h, sP_ar q]
      omega
    · intro q; cases q
theorem sO_ar {p : Nat} (h : (sO inp n p).1 = true) : (sO inp n p).2.2.2.length = nn (prt (sO inp n p).2.2.1) := by
  revert h
  unfold sO
  split
  · split
    · intro q; cases q
    · intro h
      have := sPs_ar _ _ _ h
      show (sPs inp n (prt (kd (inp p))) (p + 1) []).2.2.length = nn (prt (kd (inp p)))
      rw [this]
      exact Nat.zero_add _
  · intro q; cases q
def OX (may : St × Int32) (act : St → St × Int32) : St × Int32 := if may.2 = 0 then ((act may.1).1, may.2) else may
end ORDS
