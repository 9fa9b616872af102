/-! ===== the start: by the kernel ===== -/
def jm0v (o j : Nat) : Int32 := if (o = 2 ∨ o = 4 ∨ o = 6) ∧ j = 1 then 5 else if o = 3 ∧ j < 5 then 1 else if o = 23 ∧ j = 1 then 60 else if o = 24 ∧ j < 60 then 5 else 0
def jm0 : jm_S := fun r j => if r = 0 then (if j = 16 then -1 else 0) else if r < 76 then jm0v ((r - 1) % 25) j else if r < 78 then 0 else if r < 278 then jm0v ((r - 78) % 25) j else if r = 278 then (if j < 4 then -6 else 0) else if r = 307 then (if j = 10 then -3 else 0) else if r = 308 then (if j = 6 ∨ j = 9 ∨ j = 12 ∨ j = 15 ∨ j = 18 then 1 else 0) else 0
def jhA_0 : jb_H := (((jm_hp jm0).take 1).set 0 (10, [.null, .null, .null, .null, .null, .null, .null, .null, .null, .null, .null, .null, .null, .null, .null, .int 0, .int 0])).set 77 (13, []) ++ [(9, jb_def 9)]
def jhB_0 : jb_H := (((jm_hp jm0).take 26).set 0 (10, [.null, .null, .null, .null, .null, .null, .null, .null, .null, .null, .null, .null, .null, .null, .null, .int 0, .int 0])).set 77 (13, [])
set_option maxRecDepth 1000000 in
theorem jvi_0 : jb_Ev 167 [.ref 1] jhA_0 = some (none, jhB_0) := jc_Ev (N := 3000) (by decide +kernel)
def jhA_1 : jb_H := (((jm_hp jm0).take 26).set 0 (10, [.ref 1, .null, .null, .null, .null, .null, .null, .null, .null, .null, .null, .null, .null, .null, .null, .int 0, .int 0])).set 77 (13, []) ++ [(9, jb_def 9)]
def jhB_1 : jb_H := (((jm_hp jm0).take 51).set 0 (10, [.ref 1, .null, .null, .null, .null, .null, .null, .null, .null, .null, .null, .null, .null, .null, .null, .int 0, .int 0])).set 77 (13, [])
set_option maxRecDepth 1000000 in
theorem jvi_1 : jb_Ev 167 [.ref 26] jhA_1 = some (none, jhB_1) := jc_Ev (N := 3000) (by decide +kernel)
def jhA_2 : jb_H := (((jm_hp jm0).take 51).set 0 (10, [.ref 1, .ref 26, .null, .null, .null, .null, .null, .null, .null, .null, .null, .null, .null, .null, .null, .int 0, .int 0])).set 77 (13, []) ++ [(9, jb_def 9)]
def jhB_2 : jb_H := (((jm_hp jm0).take 76).set 0 (10, [.ref 1, .ref 26, .null, .null, .null, .null, .null, .null, .null, .null, .null, .null, .null, .null, .null, .int 0, .int 0])).set 77 (13, [])
set_option maxRecDepth 1000000 in
theorem jvi_2 : jb_Ev 167 [.ref 51] jhA_2 = some (none, jhB_2) := jc_Ev (N := 3000) (by decide +kernel)
def jhA_3 : jb_H := (((jm_hp jm0).take 78).set 0 (10, [.ref 1, .ref 26, .ref 51, .null, .null, .null, .null, .null, .null, .null, .null, .null, .null, .null, .null, .int 0, .int 0])).set 77 (13, [.null, .null, .null, .null, .null, .null, .null, .null]) ++ [(9, jb_def 9)]
def jhB_3 : jb_H := (((jm_hp jm0).take 103).set 0 (10, [.ref 1, .ref 26, .ref 51, .null, .null, .null, .null, .null, .null, .null, .null, .null, .null, .null, .null, .int 0, .int 0])).set 77 (13, [.null, .null, .null, .null, .null, .null, .null, .null])
set_option maxRecDepth 1000000 in
theorem jvi_3 : jb_Ev 167 [.ref 78] jhA_3 = some (none, jhB_3) := jc_Ev (N := 3000) (by decide +kernel)
def jhA_4 : jb_H := (((jm_hp jm0).take 103).set 0 (10, [.ref 1, .ref 26, .ref 51, .null, .null, .null, .null, .null, .null, .null, .null, .null, .null, .null, .null, .int 0, .int 0])).set 77 (13, [.ref 78, .null, .null, .null, .null, .null, .null, .null]) ++ [(9, jb_def 9)]
def jhB_4 : jb_H := (((jm_hp jm0).take 128).set 0 (10, [.ref 1, .ref 26, .ref 51, .null, .null, .null, .null, .null, .null, .null, .null, .null, .null, .null, .null, .int 0, .int 0])).set 77 (13, [.ref 78, .null, .null, .null, .null, .null, .null, .null])
set_option maxRecDepth 1000000 in
theorem jvi_4 : jb_Ev 167 [.ref 103] jhA_4 = some (none, jhB_4) := jc_Ev (N := 3000) (by decide +kernel)
def jhA_5 : jb_H := (((jm_hp jm0).take 128).set 0 (10, [.ref 1, .ref 26, .ref 51, .null, .null, .null, .null, .null, .null, .null, .null, .null, .null, .null, .null, .int 0, .int 0])).set 77 (13, [.ref 78, .ref 103, .null, .null, .null, .null, .null, .null]) ++ [(9, jb_def 9)]
def jhB_5 : jb_H := (((jm_hp jm0).take 153).set 0 (10, [.ref 1, .ref 26, .ref 51, .null, .null, .null, .null, .null, .null, .null, .null, .null, .null, .null, .null, .int 0, .int 0])).set 77 (13, [.ref 78, .ref 103, .null, .null, .null, .null, .null, .null])
set_option maxRecDepth 1000000 in
theorem jvi_5 : jb_Ev 167 [.ref 128] jhA_5 = some (none, jhB_5) := jc_Ev (N := 3000) (by decide +kernel)
