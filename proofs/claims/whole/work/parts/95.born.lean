/-! both sides at the start -/
section START
theorem w0_z (k : Nat) : s0.1 197 k = 0 := by
  show sI0 (tyOf 197) (lnOf 197) k = 0
  rw [show tyOf 197 = 20 by decide +kernel, show lnOf 197 = 146 by decide +kernel]
  rfl
theorem f0_at (k : Nat) : s0.2.1 201 k = vf_upd (vf_upd (fun _ => 0) 13 1077936128) 14 FP.fconst2 k := by
  show sF0 (tyOf 201) 201 k = _
  rw [show tyOf 201 = 21 by decide +kernel]
  rfl
theorem f0_z {k : Nat} (h1 : ¬ k = 13) (h2 : ¬ k = 14) : s0.2.1 201 k = 0 := by
  rw [f0_at, vn h2, vn h1]
theorem f0_13 : s0.2.1 201 13 = 1077936128 := by
  rw [f0_at, vn (by decide), ve rfl]
theorem f0_14 : s0.2.1 201 14 = 1073741824 := by
  rw [f0_at, ve rfl]
  rfl
theorem cnt_0 : cnt (s0.1 197) = 0 := by
  unfold cnt
  rw [w0_z]
  rfl
theorem it_0 (i j : Nat) : it (s0.1 197) i j = 0 := w0_z _
theorem Inv_0 : Inv (s0.1 197) (s0.2.1 201) := by
  have hz : (0 : UInt32).toNat = 0 := rfl
  refine ⟨⟨?_, ?_, ⟨0, by decide, ?_⟩, ⟨0, by decide, ?_⟩, ⟨0, by decide, ?_⟩⟩, fun i hi => ?_, fun i j c r h hi => ?_, fun i h1 h2 => ⟨it_0 _ _, it_0 _ _, it_0 _ _, f0_z (by omega) (by omega)⟩, fun k hk => ?_, fun k hk => ?_, ?_, ?_, ?_, fun i hi => ?_⟩
  · rw [cnt_0, w0_z]; rfl
  · rw [cnt_0]; decide
  · rw [w0_z]; rfl
  · rw [w0_z]; rfl
  · rw [w0_z]; rfl
  · rw [cnt_0] at hi; omega
  · rw [cnt_0] at hi; omega
  · rw [f0_z (by omega) (by omega)]; exact Nat.zero_le _
  · rw [f0_z (by omega) (by omega)]; exact Nat.zero_le _
  · rw [f0_13]; decide
  · rw [f0_14]; exact Nat.le_of_ble_eq_true rfl
  · rw [f0_z (by omega) (by omega)]; exact Nat.zero_le _
  · rw [f0_z (by omega) (by omega)]; exact Nat.zero_le _
theorem Off_0 : Off s0 2 (s0.1 197) (s0.2.1 201) := by
  refine ⟨⟨?_, ?_, ?_, ?_, fun k hk => ?_, fun k hk => ?_⟩, ⟨?_, fun j hj i hi => ?_, fun i hi => ?_⟩, ⟨fun c r h h1 h2 h3 => ?_, fun c h1 => ?_⟩, ?_, ?_, ?_, ?_⟩
  · rw [w0_z]
    show sI0 (tyOf 3) (lnOf 3) 2 = 0
    rw [show tyOf 3 = 2 by decide +kernel]; rfl
  · rw [w0_z]
    show sI0 (tyOf 3) (lnOf 3) 3 = 0
    rw [show tyOf 3 = 2 by decide +kernel]; rfl
  · rw [f0_13]
    show sF0 (tyOf 3) 3 4 = 1077936128
    rw [show tyOf 3 = 2 by decide +kernel]; rfl
  · rw [f0_14]
    show sF0 (tyOf 3) 3 5 = 1073741824
    rw [show tyOf 3 = 2 by decide +kernel]; rfl
  · rw [f0_z (by omega) (by omega)]
    show sF0 (tyOf 4) 4 k = 0
    rw [show tyOf 4 = 21 by decide +kernel]; rfl
  · rw [f0_z (by omega) (by omega)]
    show sF0 (tyOf 5) 5 k = 0
    rw [show tyOf 5 = 21 by decide +kernel]; rfl
  · rw [w0_z]
    show sI0 (tyOf 6) (lnOf 6) 8 = 0
    rw [show tyOf 6 = 5 by decide +kernel]; rfl
  · rw [cnt_0] at hi; omega
  · rw [cnt_0] at hi; omega
  · refine Or.inl ⟨?_, fun i hi => ?_⟩
    · show sI0 (tyOf 16) (lnOf 16) (5 * c + 3 * r + h) = -1
      rw [show tyOf 16 = 20 by decide +kernel, show lnOf 16 = 30 by decide +kernel]
      exact if_pos (place_lt h1 h2 h3)
    · rw [cnt_0] at hi; omega
  · rw [cnt_0]
    show sI0 (tyOf 17) (lnOf 17) c = nI 0
    rw [show tyOf 17 = 20 by decide +kernel, show lnOf 17 = 6 by decide +kernel]; rfl
  · rw [f0_z (by decide) (by decide)]
    show sF0 (tyOf 18) 18 0 = 0
    rw [show tyOf 18 = 3 by decide +kernel]; rfl
  · rw [w0_z]
    show sI0 (tyOf 18) (lnOf 18) 1 = 0
    rw [show tyOf 18 = 3 by decide +kernel]; rfl
  · rw [w0_z]
    show sI0 (tyOf 18) (lnOf 18) 2 = 0
    rw [show tyOf 18 = 3 by decide +kernel]; rfl
  · rw [w0_z]
    show sI0 (tyOf 18) (lnOf 18) 3 = 0
    rw [show tyOf 18 = 3 by decide +kernel]; rfl
theorem t10 : tyOf 196 = 10 := by decide +kernel
theorem m0_z {k : Nat} (h : ¬ k = 20) : s0.1 196 k = 0 := by
  show sI0 (tyOf 196) (lnOf 196) k = 0
  rw [t10]
  show (match k with | 20 => (-1 : Int32) | _ => 0) = 0
  split
  · exact absurd rfl h
  · rfl
theorem m0_20 : s0.1 196 20 = -1 := by
  show sI0 (tyOf 196) (lnOf 196) 20 = -1
  rw [t10]; rfl
theorem Sim_0s : Sim s0 := by
  have t1 : ∀ k, s0.1 1 k = 0 := fun k => by
    show sI0 (tyOf 1) (lnOf 1) k = 0
    rw [show tyOf 1 = 1 by decide +kernel]; rfl
  have t0 : ∀ k, s0.1 0 k = 0 := fun k => by
    show sI0 (tyOf 0) (lnOf 0) k = 0
    rw [show tyOf 0 = 9 by decide +kernel]; rfl
  have t189 : ∀ k, s0.1 189 k = 0 := fun k => by
    show sI0 (tyOf 189) (lnOf 189) k = 0
    rw [show tyOf 189 = 4 by decide +kernel]; rfl
  have t191 : s0.1 191 3 = 0 ∧ s0.1 191 5 = -1 := by
    constructor
    · show sI0 (tyOf 191) (lnOf 191) 3 = 0
      rw [show tyOf 191 = 7 by decide +kernel]; rfl
    · show sI0 (tyOf 191) (lnOf 191) 5 = -1
      rw [show tyOf 191 = 7 by decide +kernel]; rfl
  have no : ∀ {j : Nat} {D : Dat}, ¬ ([] : List Dat)[j]? = some D := fun {j D} h => by simp at h
  refine ⟨⟨Off_0, Inv_0⟩, ⟨?_, ?_⟩, ⟨?_, Or.inl ?_⟩, ⟨[], ⟨by decide, ?_, 0, by decide, ?_, fun j D h => absurd h no⟩, ⟨by decide, ?_, 0, by decide, ?_, fun j D h => absurd h no⟩⟩, ⟨0, by decide, ?_, ?_, fun k hk => absurd hk (Nat.not_lt_zero k)⟩, ?_⟩
  · rw [t1, m0_z (by decide)]
  · rw [t1, m0_z (by decide)]
  · rw [t0, m0_z (by decide)]
  · exact m0_z (by decide)
  · rw [t189]; rfl
  · rw [t189]; rfl
  · rw [m0_z (by decide)]; rfl
  · rw [m0_z (by decide)]; rfl
  · rw [t191.1]; rfl
  · rw [m0_z (by decide)]; rfl
  · show s0.1 191 5 = s0.1 196 20
    rw [t191.2, m0_20]
theorem Sim_all : SimOK Sim := ⟨sim_0, sim_1, sim_2, sim_3, sim_4, sim_5, sim_6, sim_7, sim_8, sim_9, sim_10, sim_11, sim_12, sim_13, sim_14, sim_15, sim_16, sim_17, sim_18, sim_19, sim_20, sim_21, sim_22, sim_23, sim_24, sim_25, sim_26, sim_27, sim_28, sim_29, sim_30, sim_31, sim_32, sim_33, sim_34, sim_35, sim_36, sim_37, sim_38, sim_39⟩
end START
