/-! ===== the start: by the kernel ===== -/
def jhO : jFn := fun i a h => if i = 167 then (if a = [.ref 1] ∧ h = jhA_0 then some (none, jhB_0) else (if a = [.ref 26] ∧ h = jhA_1 then some (none, jhB_1) else (if a = [.ref 51] ∧ h = jhA_2 then some (none, jhB_2) else (if a = [.ref 78] ∧ h = jhA_3 then some (none, jhB_3) else (if a = [.ref 103] ∧ h = jhA_4 then some (none, jhB_4) else (if a = [.ref 128] ∧ h = jhA_5 then some (none, jhB_5) else (if a = [.ref 153] ∧ h = jhA_6 then some (none, jhB_6) else (if a = [.ref 178] ∧ h = jhA_7 then some (none, jhB_7) else (if a = [.ref 203] ∧ h = jhA_8 then some (none, jhB_8) else (if a = [.ref 228] ∧ h = jhA_9 then some (none, jhB_9) else (if a = [.ref 253] ∧ h = jhA_10 then some (none, jhB_10) else none))))))))))) else none
theorem jhO_of : jFle jhO jb_Ev := by
  intro i a h r e
  unfold jhO at e
  by_cases hi : i = 167
  · subst hi
    rw [if_pos rfl] at e
    by_cases h0 : a = [.ref 1] ∧ h = jhA_0
    · rw [if_pos h0] at e
      rw [h0.1, h0.2, jvi_0]; exact e
    rw [if_neg h0] at e
    by_cases h1 : a = [.ref 26] ∧ h = jhA_1
    · rw [if_pos h1] at e
      rw [h1.1, h1.2, jvi_1]; exact e
    rw [if_neg h1] at e
    by_cases h2 : a = [.ref 51] ∧ h = jhA_2
    · rw [if_pos h2] at e
      rw [h2.1, h2.2, jvi_2]; exact e
    rw [if_neg h2] at e
    by_cases h3 : a = [.ref 78] ∧ h = jhA_3
    · rw [if_pos h3] at e
      rw [h3.1, h3.2, jvi_3]; exact e
    rw [if_neg h3] at e
    by_cases h4 : a = [.ref 103] ∧ h = jhA_4
    · rw [if_pos h4] at e
      rw [h4.1, h4.2, jvi_4]; exact e
    rw [if_neg h4] at e
    by_cases h5 : a = [.ref 128] ∧ h = jhA_5
    · rw [if_pos h5] at e
      rw [h5.1, h5.2, jvi_5]; exact e
    rw [if_neg h5] at e
    by_cases h6 : a = [.ref 153] ∧ h = jhA_6
    · rw [if_pos h6] at e
      rw [h6.1, h6.2, jvi_6]; exact e
    rw [if_neg h6] at e
    by_cases h7 : a = [.ref 178] ∧ h = jhA_7
    · rw [if_pos h7] at e
      rw [h7.1, h7.2, jvi_7]; exact e
    rw [if_neg h7] at e
    by_cases h8 : a = [.ref 203] ∧ h = jhA_8
    · rw [if_pos h8] at e
      rw [h8.1, h8.2, jvi_8]; exact e
    rw [if_neg h8] at e
    by_cases h9 : a = [.ref 228] ∧ h = jhA_9
    · rw [if_pos h9] at e
      rw [h9.1, h9.2, jvi_9]; exact e
    rw [if_neg h9] at e
    by_cases h10 : a = [.ref 253] ∧ h = jhA_10
    · rw [if_pos h10] at e
      rw [h10.1, h10.2, jvi_10]; exact e
    rw [if_neg h10] at e
    cases e
  · rw [if_neg hi] at e; cases e
set_option maxRecDepth 1000000 in
theorem jstart_D : jb_Ev 214 [.ref 0] [(10, jb_def 10)] = some (none, (jm_hp jm0).take 307) := jo_Ev jhO_of (N := 3000) (by decide +kernel)
