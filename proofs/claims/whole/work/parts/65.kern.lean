/-! ===== the start: by the kernel ===== -/
def jhA_6 : jb_H := (((jm_hp jm0).take 153).set 0 (10, [.ref 1, .ref 26, .ref 51, .null, .null, .null, .null, .null, .null, .null, .null, .null, .null, .null, .null, .int 0, .int 0])).set 77 (13, [.ref 78, .ref 103, .ref 128, .null, .null, .null, .null, .null]) ++ [(9, jb_def 9)]
def jhB_6 : jb_H := (((jm_hp jm0).take 178).set 0 (10, [.ref 1, .ref 26, .ref 51, .null, .null, .null, .null, .null, .null, .null, .null, .null, .null, .null, .null, .int 0, .int 0])).set 77 (13, [.ref 78, .ref 103, .ref 128, .null, .null, .null, .null, .null])
set_option maxRecDepth 1000000 in
theorem jvi_6 : jb_Ev 167 [.ref 153] jhA_6 = some (none, jhB_6) := jc_Ev (N := 3000) (by decide +kernel)
def jhA_7 : jb_H := (((jm_hp jm0).take 178).set 0 (10, [.ref 1, .ref 26, .ref 51, .null, .null, .null, .null, .null, .null, .null, .null, .null, .null, .null, .null, .int 0, .int 0])).set 77 (13, [.ref 78, .ref 103, .ref 128, .ref 153, .null, .null, .null, .null]) ++ [(9, jb_def 9)]
def jhB_7 : jb_H := (((jm_hp jm0).take 203).set 0 (10, [.ref 1, .ref 26, .ref 51, .null, .null, .null, .null, .null, .null, .null, .null, .null, .null, .null, .null, .int 0, .int 0])).set 77 (13, [.ref 78, .ref 103, .ref 128, .ref 153, .null, .null, .null, .null])
set_option maxRecDepth 1000000 in
theorem jvi_7 : jb_Ev 167 [.ref 178] jhA_7 = some (none, jhB_7) := jc_Ev (N := 3000) (by decide +kernel)
def jhA_8 : jb_H := (((jm_hp jm0).take 203).set 0 (10, [.ref 1, .ref 26, .ref 51, .null, .null, .null, .null, .null, .null, .null, .null, .null, .null, .null, .null, .int 0, .int 0])).set 77 (13, [.ref 78, .ref 103, .ref 128, .ref 153, .ref 178, .null, .null, .null]) ++ [(9, jb_def 9)]
def jhB_8 : jb_H := (((jm_hp jm0).take 228).set 0 (10, [.ref 1, .ref 26, .ref 51, .null, .null, .null, .null, .null, .null, .null, .null, .null, .null, .null, .null, .int 0, .int 0])).set 77 (13, [.ref 78, .ref 103, .ref 128, .ref 153, .ref 178, .null, .null, .null])
set_option maxRecDepth 1000000 in
theorem jvi_8 : jb_Ev 167 [.ref 203] jhA_8 = some (none, jhB_8) := jc_Ev (N := 3000) (by decide +kernel)
def jhA_9 : jb_H := (((jm_hp jm0).take 228).set 0 (10, [.ref 1, .ref 26, .ref 51, .null, .null, .null, .null, .null, .null, .null, .null, .null, .null, .null, .null, .int 0, .int 0])).set 77 (13, [.ref 78, .ref 103, .ref 128, .ref 153, .ref 178, .ref 203, .null, .null]) ++ [(9, jb_def 9)]
def jhB_9 : jb_H := (((jm_hp jm0).take 253).set 0 (10, [.ref 1, .ref 26, .ref 51, .null, .null, .null, .null, .null, .null, .null, .null, .null, .null, .null, .null, .int 0, .int 0])).set 77 (13, [.ref 78, .ref 103, .ref 128, .ref 153, .ref 178, .ref 203, .null, .null])
set_option maxRecDepth 1000000 in
theorem jvi_9 : jb_Ev 167 [.ref 228] jhA_9 = some (none, jhB_9) := jc_Ev (N := 3000) (by decide +kernel)
def jhA_10 : jb_H := (((jm_hp jm0).take 253).set 0 (10, [.ref 1, .ref 26, .ref 51, .null, .null, .null, .null, .null, .null, .null, .null, .null, .null, .null, .null, .int 0, .int 0])).set 77 (13, [.ref 78, .ref 103, .ref 128, .ref 153, .ref 178, .ref 203, .ref 228, .null]) ++ [(9, jb_def 9)]
def jhB_10 : jb_H := (((jm_hp jm0).take 278).set 0 (10, [.ref 1, .ref 26, .ref 51, .null, .null, .null, .null, .null, .null, .null, .null, .null, .null, .null, .null, .int 0, .int 0])).set 77 (13, [.ref 78, .ref 103, .ref 128, .ref 153, .ref 178, .ref 203, .ref 228, .null])
set_option maxRecDepth 1000000 in
theorem jvi_10 : jb_Ev 167 [.ref 253] jhA_10 = some (none, jhB_10) := jc_Ev (N := 3000) (by decide +kernel)
