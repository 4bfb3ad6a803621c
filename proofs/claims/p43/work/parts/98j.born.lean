/-! the office at the start -/
section START
def w00 : Nat → Int32 := fun _ => 0
def f00 : Nat → UInt32 := vf_upd (vf_upd (fun _ => 0) 13 1077936128) 14 FP.fconst2
theorem w0_z (k : Nat) : w00 k = 0 := rfl
theorem f0_at (k : Nat) : f00 k = vf_upd (vf_upd (fun _ => 0) 13 1077936128) 14 FP.fconst2 k := rfl
theorem f0_z {k : Nat} (h1 : ¬ k = 13) (h2 : ¬ k = 14) : f00 k = 0 := by
  rw [f0_at, vn h2, vn h1]
theorem f0_13 : f00 13 = 1077936128 := by
  rw [f0_at, vn (by decide), ve rfl]
theorem f0_14 : f00 14 = 1073741824 := by
  rw [f0_at, ve rfl]
  rfl
theorem cnt_0 : cnt w00 = 0 := by
  unfold cnt
  rw [w0_z]
  rfl
theorem it_0 (i j : Nat) : it w00 i j = 0 := w0_z _
theorem Inv_0 : Inv w00 f00 := by
  have hz : (0 : UInt32).toNat = 0 := rfl
  refine ⟨⟨?_, ?_, ⟨0, by decide, ?_⟩, ⟨0, by decide, ?_⟩, ⟨0, by decide, ?_⟩⟩, fun i hi => ?_, fun i j c r h hi => ?_, fun i h1 h2 => ⟨it_0 _ _, it_0 _ _, it_0 _ _, f0_z (by omega) (by omega)⟩, fun k hk => ?_, fun k hk => ?_, ?_, ?_, ?_, fun i hi => ?_⟩
  · rw [cnt_0, w0_z]; rfl
  · rw [cnt_0]; decide
  · rw [w0_z]; rfl
  · rw [w0_z]; rfl
  · rw [w0_z]; rfl
  · rw [cnt_0] at hi; omega
  · rw [cnt_0] at hi; omega
  · rw [f0_z (by omega) (by omega)]; exact Nat.zero_le _
  · rw [f0_z (by omega) (by omega)]; exact Nat.zero_le _
  · rw [f0_13]; decide
  · rw [f0_14]; exact Nat.le_of_ble_eq_true rfl
  · rw [f0_z (by omega) (by omega)]; exact Nat.zero_le _
  · rw [f0_z (by omega) (by omega)]; exact Nat.zero_le _
theorem Off_0 : Off s0 2 w00 f00 := by
  refine ⟨⟨?_, ?_, ?_, ?_, fun k hk => ?_, fun k hk => ?_⟩, ⟨?_, fun j hj i hi => ?_, fun i hi => ?_⟩, ⟨fun c r h h1 h2 h3 => ?_, fun c h1 => ?_⟩, ?_, ?_, ?_, ?_⟩
  · rw [w0_z]
    show sI0 (tyOf 3) (lnOf 3) 2 = 0
    rw [show tyOf 3 = 2 by decide +kernel]; rfl
  · rw [w0_z]
    show sI0 (tyOf 3) (lnOf 3) 3 = 0
    rw [show tyOf 3 = 2 by decide +kernel]; rfl
  · rw [f0_13]
    show sF0 (tyOf 3) 3 4 = 1077936128
    rw [show tyOf 3 = 2 by decide +kernel]; rfl
  · rw [f0_14]
    show sF0 (tyOf 3) 3 5 = 1073741824
    rw [show tyOf 3 = 2 by decide +kernel]; rfl
  · rw [f0_z (by omega) (by omega)]
    show sF0 (tyOf 4) 4 k = 0
    rw [show tyOf 4 = 21 by decide +kernel]; rfl
  · rw [f0_z (by omega) (by omega)]
    show sF0 (tyOf 5) 5 k = 0
    rw [show tyOf 5 = 21 by decide +kernel]; rfl
  · rw [w0_z]
    show sI0 (tyOf 6) (lnOf 6) 8 = 0
    rw [show tyOf 6 = 5 by decide +kernel]; rfl
  · rw [cnt_0] at hi; omega
  · rw [cnt_0] at hi; omega
  · refine Or.inl ⟨?_, fun i hi => ?_⟩
    · show sI0 (tyOf 16) (lnOf 16) (5 * c + 3 * r + h) = -1
      rw [show tyOf 16 = 20 by decide +kernel, show lnOf 16 = 30 by decide +kernel]
      exact if_pos (place_lt h1 h2 h3)
    · rw [cnt_0] at hi; omega
  · rw [cnt_0]
    show sI0 (tyOf 17) (lnOf 17) c = nI 0
    rw [show tyOf 17 = 20 by decide +kernel, show lnOf 17 = 6 by decide +kernel]; rfl
  · rw [f0_z (by decide) (by decide)]
    show sF0 (tyOf 18) 18 0 = 0
    rw [show tyOf 18 = 3 by decide +kernel]; rfl
  · rw [w0_z]
    show sI0 (tyOf 18) (lnOf 18) 1 = 0
    rw [show tyOf 18 = 3 by decide +kernel]; rfl
  · rw [w0_z]
    show sI0 (tyOf 18) (lnOf 18) 2 = 0
    rw [show tyOf 18 = 3 by decide +kernel]; rfl
  · rw [w0_z]
    show sI0 (tyOf 18) (lnOf 18) 3 = 0
    rw [show tyOf 18 = 3 by decide +kernel]; rfl
theorem Zs_0 : Zs s0 w00 f00 [] := by
  have t189 : ∀ k, s0.1 189 k = 0 := fun k => by
    show sI0 (tyOf 189) (lnOf 189) k = 0
    rw [show tyOf 189 = 4 by decide +kernel]; rfl
  refine ⟨Off_0, Inv_0, ⟨by decide, ?_, 0, by decide, ?_, fun j D h => by simp at h⟩, ?_⟩
  · rw [t189]; rfl
  · rw [t189]; rfl
  · show sI0 (tyOf 191) (lnOf 191) 3 = 0
    rw [show tyOf 191 = 7 by decide +kernel]; rfl
end START
