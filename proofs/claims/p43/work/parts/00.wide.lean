/-! the library's laws of floats are wanted from here on -/
theorem zz_wide : Jvm.FP.Core.Good Jvm.FP.Core.b32 := Jvm.FP.Core.good_b32
