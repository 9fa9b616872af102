/-! ===== the instructions are those of the bytes ===== -/
set_option maxRecDepth 100000 in
theorem jb_okI_0 : (List.range' 0 31).all jb_okIs = true := by decide +kernel
set_option maxRecDepth 100000 in
theorem jb_okI_1 : (List.range' 31 31).all jb_okIs = true := by decide +kernel
set_option maxRecDepth 100000 in
theorem jb_okI_2 : (List.range' 62 31).all jb_okIs = true := by decide +kernel
set_option maxRecDepth 100000 in
theorem jb_okI_3 : (List.range' 93 31).all jb_okIs = true := by decide +kernel
set_option maxRecDepth 100000 in
theorem jb_okI_4 : (List.range' 124 31).all jb_okIs = true := by decide +kernel
set_option maxRecDepth 100000 in
theorem jb_okI_5 : (List.range' 155 31).all jb_okIs = true := by decide +kernel
set_option maxRecDepth 100000 in
theorem jb_okI_6 : (List.range' 186 31).all jb_okIs = true := by decide +kernel
set_option maxRecDepth 100000 in
theorem jb_okI_7 : (List.range' 217 31).all jb_okIs = true := by decide +kernel
