/-! ===== the forms: their lengths and characters, as the machine reads them ===== -/
def jfm (c : Nat) : List Nat := (jb_SB.getD c []).map (fun x => x.toNatClampNeg)
def jnr (x : Int32) : Bool := match narrow .char (.int x) with | .int y => decide (y = x) | _ => false
theorem jnr_of {x : Int32} (h : jnr x = true) : narrow .char (.int x) = .int x := by
  unfold jnr at h
  split at h
  · rename_i y e
    rw [e, of_decide_eq_true h]
  · cases h
section CH
variable {σ : jm_S} {c p : Nat}
theorem jstr_len (h : c < 10) : jb_Ev 82 [.ref (1000000 + c)] (jm_hp σ) = some (some (.int (jI (jfm c).length)), jm_hp σ) := by
  have key : ∀ c < 10, jI (jsb (1000000 + c)).length >>> (jI 0 &&& 31) = jI (jfm c).length := by decide +kernel
  have hr : 1000000 ≤ 1000000 + c ∧ 1000000 + c < 1000010 := ⟨by omega, by omega⟩
  rw [jt_Str_length_0 hr, jt_Str_coder_0 hr]
  simp (disch := omega) only [jb_K_n, jb_K_v, ↓reduceIte, jT_lt, jF_lt, jT_le, jF_le, jT_eq, jF_eq, jT_z, jF_z, jF_neg, jT_nn, jT_pos, jF_pos, jT_le0, jF_le0, jT_x, jF_m1, jF_m1r, jT_tt, jI_add, jI_mul, jI_sub, jI_cl, jm_up_same, jm_up_o, jm_up_j, jbR_T, jbR_F, jt_Str_length_9 hr]
  rw [key c h]
theorem jstr_at (h : c < 10) (hp : p < (jfm c).length) : jb_Ev 178 [.ref (1000000 + c), .int (jI p)] (jm_hp σ) = some (some (.int (jI ((jfm c).getD p 0))), jm_hp σ) := by
  have ka : ∀ c < 10, ∀ p < 43, p < (jfm c).length → decide (jI p < 0) = false ∧ decide (jI p < jI (jsb (1000000 + c)).length) = true := by decide +kernel
  have kb : ∀ c < 10, ∀ p < 43, p < (jfm c).length → p < (jsb (1000000 + c)).length ∧ (jI p).toNatClampNeg = p := by decide +kernel
  have kc : ∀ c < 10, ∀ p < 43, p < (jfm c).length → ((((jsb (1000000 + c)).getD p 0) &&& (jI 255)).toUInt32 % 65536).toInt32 = jI ((jfm c).getD p 0) ∧ jnr (jI ((jfm c).getD p 0)) = true := by decide +kernel
  have hl : ∀ c < 10, (jfm c).length < 43 := by decide +kernel
  have hr : 1000000 ≤ 1000000 + c ∧ 1000000 + c < 1000010 := ⟨by omega, by omega⟩
  have hp43 : p < 43 := by have := hl c h; omega
  have k1 := of_decide_eq_false (ka c h p hp43 hp).1
  have k2 := of_decide_eq_true (ka c h p hp43 hp).2
  obtain ⟨b1, b2⟩ := kb c h p hp43 hp
  obtain ⟨k4, k5⟩ := kc c h p hp43 hp
  have k3 : jx (jI p) (jsb (1000000 + c)).length := fun z => z.elim k1 (fun y => by rw [b2] at y; omega)
  rw [jt_Str_charAt_0 hr, jt_Str_isLatin1_0 hr]
  simp (disch := omega) only [jb_K_n, jb_K_v, ↓reduceIte, jT_lt, jF_lt, jT_le, jF_le, jT_eq, jF_eq, jT_z, jF_z, jF_neg, jT_nn, jT_pos, jF_pos, jT_le0, jF_le0, jT_x, jF_m1, jF_m1r, jT_tt, jI_add, jI_mul, jI_sub, jI_cl, jm_up_same, jm_up_o, jm_up_j, jbR_T, jbR_F]
  rw [jt_Str_charAt_4 hr (by decide +kernel), jt_L1_charAt_0 hr, jt_Str_checkIndex_0, jt_Pre_checkIndex_0 k1 k2]
  simp (disch := omega) only [jb_K_n, jb_K_v, ↓reduceIte, jT_lt, jF_lt, jT_le, jF_le, jT_eq, jF_eq, jT_z, jF_z, jF_neg, jT_nn, jT_pos, jF_pos, jT_le0, jF_le0, jT_x, jF_m1, jF_m1r, jT_tt, jI_add, jI_mul, jI_sub, jI_cl, jm_up_same, jm_up_o, jm_up_j, jbR_T, jbR_F, jt_Str_checkIndex_8]
  rw [jt_L1_charAt_6 hr, if_pos k3, b2, k4]
  unfold jb_R
  rw [if_pos (jnr_of k5)]
  simp (disch := omega) only [jb_K_n, jb_K_v, ↓reduceIte, jT_lt, jF_lt, jT_le, jF_le, jT_eq, jF_eq, jT_z, jF_z, jF_neg, jT_nn, jT_pos, jF_pos, jT_le0, jF_le0, jT_x, jF_m1, jF_m1r, jT_tt, jI_add, jI_mul, jI_sub, jI_cl, jm_up_same, jm_up_o, jm_up_j, jbR_T, jbR_F, jt_Str_charAt_15 hr]
  unfold jb_R
  rw [if_pos (jnr_of k5)]
end CH
