/-! a name of the library's rest: so every round is read over the whole library (see NOTES.md) -/
theorem wd_lib (f : Jvm.FP.Core.Fmt) : 0 < f.exps := Jvm.FP.Core.exps_pos f
