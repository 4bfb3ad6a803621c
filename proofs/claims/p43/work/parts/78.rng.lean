/-! string, ink, snacks, hours; potatoes -/
section RNG
theorem mw_p {k : Nat} (h : k < 21) {x : UInt32} (hx : x.toNat ≤ 1120272384) : P32 (FP.fadd x (mw k)) := by
  have h1 := mw_tab k h
  have h2 := fl_add_mono (a := x) (b := mw k) (a' := 1120272384) (b' := 1101004800) (by decide) (by decide) hx h1
  have h3 : (FP.fadd 1120272384 1101004800).toNat < 2139095040 := by decide +kernel
  show _ < 2139095040
  omega
theorem iw_p {k : Nat} (h : k < 121) {x : UInt32} (hx : IB x) : P32 (FP.fadd x (tw k)) := by
  have h1 := tw_tab k h
  have h2 := fl_add_mono (a := x) (b := tw k) (a' := 1091567616) (b' := 1094713344) (by decide) (by decide) hx h1
  have h3 : (FP.fadd 1091567616 1094713344).toNat < 2139095040 := by decide +kernel
  show _ < 2139095040
  omega
end RNG
