/-! ===== the start: by the kernel ===== -/
def jm0v (o j : Nat) : Int32 := if (o = 2 ∨ o = 4 ∨ o = 6) ∧ j = 1 then 5 else if o = 3 ∧ j < 5 then 1 else if o = 23 ∧ j = 1 then 60 else if o = 24 ∧ j < 60 then 5 else 0
def jm0 : jm_S := fun r j => if r = 0 then (if j = 16 then -1 else 0) else if r < 76 then jm0v ((r - 1) % 25) j else if r < 78 then 0 else if r < 278 then jm0v ((r - 78) % 25) j else if r = 278 then (if j < 4 then -6 else 0) else if r = 307 then (if j = 10 then -3 else 0) else if r = 308 then (if j = 6 ∨ j = 9 ∨ j = 12 ∨ j = 15 ∨ j = 18 then 1 else 0) else 0
def jhA_0 : jb_H := (((jm_hp jm0).take 1).set 0 (10, [.null, .null, .null, .null, .null, .null, .null, .null, .null, .null, .null, .null, .null, .null, .null, .int 0, .int 0])).set 77 (13, []) ++ [(9, jb_def 9)]
def jhB_0 : jb_H := (((jm_hp jm0).take 26).set 0 (10, [.null, .null, .null, .null, .null, .null, .null, .null, .null, .null, .null, .null, .null, .null, .null, .int 0, .int 0])).set 77 (13, [])
set_option maxRecDepth 1000000 in
theorem jvi_0 : jb_Ev 167 [.ref 1] jhA_0 = some (none, jhB_0) := jc_Ev (N := 3000) (by decide +kernel)
def jhA_1 : jb_H := (((jm_hp jm0).take 26).set 0 (10, [.ref 1, .null, .null, .null, .null, .null, .null, .null, .null, .null, .null, .null, .null, .null, .null, .int 0, .int 0])).set 77 (13, []) ++ [(9, jb_def 9)]
def jhB_1 : jb_H := (((jm_hp jm0).take 51).set 0 (10, [.ref 1, .null, .null, .null, .null, .null, .null, .null, .null, .null, .null, .null, .null, .null, .null, .int 0, .int 0])).set 77 (13, [])
set_option maxRecDepth 1000000 in
theorem jvi_1 : jb_Ev 167 [.ref 26] jhA_1 = some (none, jhB_1) := jc_Ev (N := 3000) (by decide +kernel)
def jhA_2 : jb_H := (((jm_hp jm0).take 51).set 0 (10, [.ref 1, .ref 26, .null, .null, .null, .null, .null, .null, .null, .null, .null, .null, .null, .null, .null, .int 0, .int 0])).set 77 (13, []) ++ [(9, jb_def 9)]
def jhB_2 : jb_H := (((jm_hp jm0).take 76).set 0 (10, [.ref 1, .ref 26, .null, .null, .null, .null, .null, .null, .null, .null, .null, .null, .null, .null, .null, .int 0, .int 0])).set 77 (13, [])
set_option maxRecDepth 1000000 in
theorem jvi_2 : jb_Ev 167 [.ref 51] jhA_2 = some (none, jhB_2) := jc_Ev (N := 3000) (by decide +kernel)
def jhA_3 : jb_H := (((jm_hp jm0).take 78).set 0 (10, [.ref 1, .ref 26, .ref 51, .null, .null, .null, .null, .null, .null, .null, .null, .null, .null, .null, .null, .int 0, .int 0])).set 77 (13, [.null, .null, .null, .null, .null, .null, .null, .null]) ++ [(9, jb_def 9)]
def jhB_3 : jb_H := (((jm_hp jm0).take 103).set 0 (10, [.ref 1, .ref 26, .ref 51, .null, .null, .null, .null, .null, .null, .null, .null, .null, .null, .null, .null, .int 0, .int 0])).set 77 (13, [.null, .null, .null, .null, .null, .null, .null, .null])
set_option maxRecDepth 1000000 in
theorem jvi_3 : jb_Ev 167 [.ref 78] jhA_3 = some (none, jhB_3) := jc_Ev (N := 3000) (by decide +kernel)
def jhA_4 : jb_H := (((jm_hp jm0).take 103).set 0 (10, [.ref 1, .ref 26, .ref 51, .null, .null, .null, .null, .null, .null, .null, .null, .null, .null, .null, .null, .int 0, .int 0])).set 77 (13, [.ref 78, .null, .null, .null, .null, .null, .null, .null]) ++ [(9, jb_def 9)]
def jhB_4 : jb_H := (((jm_hp jm0).take 128).set 0 (10, [.ref 1, .ref 26, .ref 51, .null, .null, .null, .null, .null, .null, .null, .null, .null, .null, .null, .null, .int 0, .int 0])).set 77 (13, [.ref 78, .null, .null, .null, .null, .null, .null, .null])
set_option maxRecDepth 1000000 in
theorem jvi_4 : jb_Ev 167 [.ref 103] jhA_4 = some (none, jhB_4) := jc_Ev (N := 3000) (by decide +kernel)
def jhA_5 : jb_H := (((jm_hp jm0).take 128).set 0 (10, [.ref 1, .ref 26, .ref 51, .null, .null, .null, .null, .null, .null, .null, .null, .null, .null, .null, .null, .int 0, .int 0])).set 77 (13, [.ref 78, .ref 103, .null, .null, .null, .null, .null, .null]) ++ [(9, jb_def 9)]
def jhB_5 : jb_H := (((jm_hp jm0).take 153).set 0 (10, [.ref 1, .ref 26, .ref 51, .null, .null, .null, .null, .null, .null, .null, .null, .null, .null, .null, .null, .int 0, .int 0])).set 77 (13, [.ref 78, .ref 103, .null, .null, .null, .null, .null, .null])
set_option maxRecDepth 1000000 in
theorem jvi_5 : jb_Ev 167 [.ref 128] jhA_5 = some (none, jhB_5) := jc_Ev (N := 3000) (by decide +kernel)
def jhA_6 : jb_H := (((jm_hp jm0).take 153).set 0 (10, [.ref 1, .ref 26, .ref 51, .null, .null, .null, .null, .null, .null, .null, .null, .null, .null, .null, .null, .int 0, .int 0])).set 77 (13, [.ref 78, .ref 103, .ref 128, .null, .null, .null, .null, .null]) ++ [(9, jb_def 9)]
def jhB_6 : jb_H := (((jm_hp jm0).take 178).set 0 (10, [.ref 1, .ref 26, .ref 51, .null, .null, .null, .null, .null, .null, .null, .null, .null, .null, .null, .null, .int 0, .int 0])).set 77 (13, [.ref 78, .ref 103, .ref 128, .null, .null, .null, .null, .null])
set_option maxRecDepth 1000000 in
theorem jvi_6 : jb_Ev 167 [.ref 153] jhA_6 = some (none, jhB_6) := jc_Ev (N := 3000) (by decide +kernel)
def jhA_7 : jb_H := (((jm_hp jm0).take 178).set 0 (10, [.ref 1, .ref 26, .ref 51, .null, .null, .null, .null, .null, .null, .null, .null, .null, .null, .null, .null, .int 0, .int 0])).set 77 (13, [.ref 78, .ref 103, .ref 128, .ref 153, .null, .null, .null, .null]) ++ [(9, jb_def 9)]
def jhB_7 : jb_H := (((jm_hp jm0).take 203).set 0 (10, [.ref 1, .ref 26, .ref 51, .null, .null, .null, .null, .null, .null, .null, .null, .null, .null, .null, .null, .int 0, .int 0])).set 77 (13, [.ref 78, .ref 103, .ref 128, .ref 153, .null, .null, .null, .null])
set_option maxRecDepth 1000000 in
theorem jvi_7 : jb_Ev 167 [.ref 178] jhA_7 = some (none, jhB_7) := jc_Ev (N := 3000) (by decide +kernel)
def jhA_8 : jb_H := (((jm_hp jm0).take 203).set 0 (10, [.ref 1, .ref 26, .ref 51, .null, .null, .null, .null, .null, .null, .null, .null, .null, .null, .null, .null, .int 0, .int 0])).set 77 (13, [.ref 78, .ref 103, .ref 128, .ref 153, .ref 178, .null, .null, .null]) ++ [(9, jb_def 9)]
def jhB_8 : jb_H := (((jm_hp jm0).take 228).set 0 (10, [.ref 1, .ref 26, .ref 51, .null, .null, .null, .null, .null, .null, .null, .null, .null, .null, .null, .null, .int 0, .int 0])).set 77 (13, [.ref 78, .ref 103, .ref 128, .ref 153, .ref 178, .null, .null, .null])
set_option maxRecDepth 1000000 in
theorem jvi_8 : jb_Ev 167 [.ref 203] jhA_8 = some (none, jhB_8) := jc_Ev (N := 3000) (by decide +kernel)
def jhA_9 : jb_H := (((jm_hp jm0).take 228).set 0 (10, [.ref 1, .ref 26, .ref 51, .null, .null, .null, .null, .null, .null, .null, .null, .null, .null, .null, .null, .int 0, .int 0])).set 77 (13, [.ref 78, .ref 103, .ref 128, .ref 153, .ref 178, .ref 203, .null, .null]) ++ [(9, jb_def 9)]
def jhB_9 : jb_H := (((jm_hp jm0).take 253).set 0 (10, [.ref 1, .ref 26, .ref 51, .null, .null, .null, .null, .null, .null, .null, .null, .null, .null, .null, .null, .int 0, .int 0])).set 77 (13, [.ref 78, .ref 103, .ref 128, .ref 153, .ref 178, .ref 203, .null, .null])
set_option maxRecDepth 1000000 in
theorem jvi_9 : jb_Ev 167 [.ref 228] jhA_9 = some (none, jhB_9) := jc_Ev (N := 3000) (by decide +kernel)
def jhA_10 : jb_H := (((jm_hp jm0).take 253).set 0 (10, [.ref 1, .ref 26, .ref 51, .null, .null, .null, .null, .null, .null, .null, .null, .null, .null, .null, .null, .int 0, .int 0])).set 77 (13, [.ref 78, .ref 103, .ref 128, .ref 153, .ref 178, .ref 203, .ref 228, .null]) ++ [(9, jb_def 9)]
def jhB_10 : jb_H := (((jm_hp jm0).take 278).set 0 (10, [.ref 1, .ref 26, .ref 51, .null, .null, .null, .null, .null, .null, .null, .null, .null, .null, .null, .null, .int 0, .int 0])).set 77 (13, [.ref 78, .ref 103, .ref 128, .ref 153, .ref 178, .ref 203, .ref 228, .null])
set_option maxRecDepth 1000000 in
theorem jvi_10 : jb_Ev 167 [.ref 253] jhA_10 = some (none, jhB_10) := jc_Ev (N := 3000) (by decide +kernel)
def jhO : jFn := fun i a h => if i = 167 then (if a = [.ref 1] ∧ h = jhA_0 then some (none, jhB_0) else (if a = [.ref 26] ∧ h = jhA_1 then some (none, jhB_1) else (if a = [.ref 51] ∧ h = jhA_2 then some (none, jhB_2) else (if a = [.ref 78] ∧ h = jhA_3 then some (none, jhB_3) else (if a = [.ref 103] ∧ h = jhA_4 then some (none, jhB_4) else (if a = [.ref 128] ∧ h = jhA_5 then some (none, jhB_5) else (if a = [.ref 153] ∧ h = jhA_6 then some (none, jhB_6) else (if a = [.ref 178] ∧ h = jhA_7 then some (none, jhB_7) else (if a = [.ref 203] ∧ h = jhA_8 then some (none, jhB_8) else (if a = [.ref 228] ∧ h = jhA_9 then some (none, jhB_9) else (if a = [.ref 253] ∧ h = jhA_10 then some (none, jhB_10) else none))))))))))) else none
theorem jhO_of : jFle jhO jb_Ev := by
  intro i a h r e
  unfold jhO at e
  by_cases hi : i = 167
  · subst hi
    rw [if_pos rfl] at e
    by_cases h0 : a = [.ref 1] ∧ h = jhA_0
    · rw [if_pos h0] at e
      rw [h0.1, h0.2, jvi_0]; exact e
    rw [if_neg h0] at e
    by_cases h1 : a = [.ref 26] ∧ h = jhA_1
    · rw [if_pos h1] at e
      rw [h1.1, h1.2, jvi_1]; exact e
    rw [if_neg h1] at e
    by_cases h2 : a = [.ref 51] ∧ h = jhA_2
    · rw [if_pos h2] at e
      rw [h2.1, h2.2, jvi_2]; exact e
    rw [if_neg h2] at e
    by_cases h3 : a = [.ref 78] ∧ h = jhA_3
    · rw [if_pos h3] at e
      rw [h3.1, h3.2, jvi_3]; exact e
    rw [if_neg h3] at e
    by_cases h4 : a = [.ref 103] ∧ h = jhA_4
    · rw [if_pos h4] at e
      rw [h4.1, h4.2, jvi_4]; exact e
    rw [if_neg h4] at e
    by_cases h5 : a = [.ref 128] ∧ h = jhA_5
    · rw [if_pos h5] at e
      rw [h5.1, h5.2, jvi_5]; exact e
    rw [if_neg h5] at e
    by_cases h6 : a = [.ref 153] ∧ h = jhA_6
    · rw [if_pos h6] at e
      rw [h6.1, h6.2, jvi_6]; exact e
    rw [if_neg h6] at e
    by_cases h7 : a = [.ref 178] ∧ h = jhA_7
    · rw [if_pos h7] at e
      rw [h7.1, h7.2, jvi_7]; exact e
    rw [if_neg h7] at e
    by_cases h8 : a = [.ref 203] ∧ h = jhA_8
    · rw [if_pos h8] at e
      rw [h8.1, h8.2, jvi_8]; exact e
    rw [if_neg h8] at e
    by_cases h9 : a = [.ref 228] ∧ h = jhA_9
    · rw [if_pos h9] at e
      rw [h9.1, h9.2, jvi_9]; exact e
    rw [if_neg h9] at e
    by_cases h10 : a = [.ref 253] ∧ h = jhA_10
    · rw [if_pos h10] at e
      rw [h10.1, h10.2, jvi_10]; exact e
    rw [if_neg h10] at e
    cases e
  · rw [if_neg hi] at e; cases e
set_option maxRecDepth 1000000 in
theorem jstart_D : jb_Ev 214 [.ref 0] [(10, jb_def 10)] = some (none, (jm_hp jm0).take 307) := jo_Ev jhO_of (N := 3000) (by decide +kernel)
set_option maxRecDepth 1000000 in
theorem jstart_M : jb_Ev 30 [.ref 307] ((jm_hp jm0).take 307 ++ [(11, jb_def 11)]) = some (none, jm_hp jm0) := jc_Ev (N := 3000) (by decide +kernel)
