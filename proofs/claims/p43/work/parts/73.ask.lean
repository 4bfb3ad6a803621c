/-! the calls that only ask -/
section ASK
theorem n64_0 : vf_n64 (FP.f2d 0) := (do_f2dH (by decide)).1
end ASK
