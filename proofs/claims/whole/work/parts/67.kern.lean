/-! ===== the start: by the kernel ===== -/
set_option maxRecDepth 1000000 in
theorem jstart_M : jb_Ev 30 [.ref 307] ((jm_hp jm0).take 307 ++ [(11, jb_def 11)]) = some (none, jm_hp jm0) := jc_Ev (N := 3000) (by decide +kernel)
