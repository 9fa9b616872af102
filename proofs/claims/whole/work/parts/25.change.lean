/-! ===== the changes of one number: what they come to, both ways ===== -/
def qbec (w : Nat → Nat) (k d : Nat) : jRes := if w k = d then .inr (2, d) else .inl (w k, jn0 w k d)
def qren (w : Nat → Nat) (b : Nat) : jRes := if w (7 + 3 * b) = 0 then .inr (3, b) else .inl (w (7 + 3 * b), jn0 w (7 + 3 * b) 0)
def jcom (w : Nat → Nat) (d r : Nat) : Nat → Nat := jn0 (jn0 (jn0 w (69 + 2 * w 1) d) (70 + 2 * w 1) r) 1 (w 1 + 1)
def qcom (w : Nat → Nat) (d r : Nat) : jRes := if w 1 = 6 then .inr (1, 6) else .inl (w 1, jcom w d r)
def jstr (w : Nat → Nat) (i : Nat) : Nat → Nat := jn0 (fun j => if 21 + 6 * i ≤ j ∧ j < 63 then w (j + 6) else if 63 ≤ j ∧ j < 69 then 0 else w j) 0 (w 0 - 1)
def qstr (w : Nat → Nat) (i : Nat) : jRes := .inl (w 0 - 1, jstr w i)
def jlea (w : Nat → Nat) (i : Nat) : Nat → Nat := jn0 (fun j => if 69 + 2 * i ≤ j ∧ j < 79 then w (j + 2) else if 79 ≤ j ∧ j < 81 then 0 else w j) 1 (w 1 - 1)
def qlea (w : Nat → Nat) (i : Nat) : jRes := .inl (w 1 - 1, jlea w i)
section CH
variable {σ : jm_S} {w : Nat → Nat}
/-! the plain form -/
theorem mM_becomes (hA : jAr σ 308 146 w) (h17 : σ 307 17 = jI 0) {k d : Nat} (hk : k < 146) (hd : d < 2147483648) (hw : w k < 2147483648) : jMO σ (qbec w k d) (jb_Ev 94 [.ref (307 : Nat), .int (jI k), .int (jI d)] (jm_hp σ)) := by
  unfold qbec
  have h1 := hA k hk
  by_cases e : w k = d
  · rw [if_pos e]
    exact ⟨jI (w k), jm_up (jm_up (jm_up σ 307 17 (jI 2)) 307 18 (jI d)) 308 k (jI d), by simp (disch := omega) only [jb_K_n, jb_K_v, ↓reduceIte, jT_lt, jF_lt, jT_le, jF_le, jT_eq, jF_eq, jT_z, jF_z, jF_neg, jT_nn, jT_pos, jF_pos, jT_le0, jF_le0, jT_x, jF_m1, jF_m1r, jT_tt, jI_add, jI_mul, jI_sub, jI_cl, jm_up_same, jm_up_o, jm_up_j, jbR_T, jbR_F, jt_M_becomes_0, jt_M_becomes_23, jt_M_hinders_0, h1, h17], by simp (disch := omega) only [jb_K_n, jb_K_v, ↓reduceIte, jT_lt, jF_lt, jT_le, jF_le, jT_eq, jF_eq, jT_z, jF_z, jF_neg, jT_nn, jT_pos, jF_pos, jT_le0, jF_le0, jT_x, jF_m1, jF_m1r, jT_tt, jI_add, jI_mul, jI_sub, jI_cl, jm_up_same, jm_up_o, jm_up_j, jbR_T, jbR_F], by simp (disch := omega) only [jb_K_n, jb_K_v, ↓reduceIte, jT_lt, jF_lt, jT_le, jF_le, jT_eq, jF_eq, jT_z, jF_z, jF_neg, jT_nn, jT_pos, jF_pos, jT_le0, jF_le0, jT_x, jF_m1, jF_m1r, jT_tt, jI_add, jI_mul, jI_sub, jI_cl, jm_up_same, jm_up_o, jm_up_j, jbR_T, jbR_F], ((jmf.rf.u7 _).u7' _).u8 _ _⟩
  · rw [if_neg e]
    exact ⟨jm_up σ 308 k (jI d), by simp (disch := omega) only [jb_K_n, jb_K_v, ↓reduceIte, jT_lt, jF_lt, jT_le, jF_le, jT_eq, jF_eq, jT_z, jF_z, jF_neg, jT_nn, jT_pos, jF_pos, jT_le0, jF_le0, jT_x, jF_m1, jF_m1r, jT_tt, jI_add, jI_mul, jI_sub, jI_cl, jm_up_same, jm_up_o, jm_up_j, jbR_T, jbR_F, jt_M_becomes_0, jt_M_becomes_23, jt_M_hinders_0, h1, h17], hA.up k d, by simp (disch := omega) only [jb_K_n, jb_K_v, ↓reduceIte, jT_lt, jF_lt, jT_le, jF_le, jT_eq, jF_eq, jT_z, jF_z, jF_neg, jT_nn, jT_pos, jF_pos, jT_le0, jF_le0, jT_x, jF_m1, jF_m1r, jT_tt, jI_add, jI_mul, jI_sub, jI_cl, jm_up_same, jm_up_o, jm_up_j, jbR_T, jbR_F, h17], jmf.rf.u8 _ _⟩
theorem mM_renews (hA : jAr σ 308 146 w) (h17 : σ 307 17 = jI 0) {b : Nat} (hb : b < 5) (hw : w (7 + 3 * b) < 2147483648) : jMO σ (qren w b) (jb_Ev 97 [.ref (307 : Nat), .int (jI b)] (jm_hp σ)) := by
  unfold qren
  have h1 := hA (6 + 3 * b + 1) (by omega)
  have e0 : 6 + 3 * b + 1 = 7 + 3 * b := by omega
  rw [e0] at h1
  by_cases e : w (7 + 3 * b) = 0
  · rw [if_pos e]
    exact ⟨jI (w (7 + 3 * b)), jm_up (jm_up (jm_up σ 307 17 (jI 3)) 307 18 (jI b)) 308 (7 + 3 * b) (jI 0), by simp (disch := omega) only [jb_K_n, jb_K_v, ↓reduceIte, jT_lt, jF_lt, jT_le, jF_le, jT_eq, jF_eq, jT_z, jF_z, jF_neg, jT_nn, jT_pos, jF_pos, jT_le0, jF_le0, jT_x, jF_m1, jF_m1r, jT_tt, jI_add, jI_mul, jI_sub, jI_cl, jm_up_same, jm_up_o, jm_up_j, jbR_T, jbR_F, jt_M_renews_0, jt_M_renews_8, jt_M_renews_27, jt_M_renews_35, jt_M_hinders_0, jt_M_bellAt_0, e0, h1, h17], by simp (disch := omega) only [jb_K_n, jb_K_v, ↓reduceIte, jT_lt, jF_lt, jT_le, jF_le, jT_eq, jF_eq, jT_z, jF_z, jF_neg, jT_nn, jT_pos, jF_pos, jT_le0, jF_le0, jT_x, jF_m1, jF_m1r, jT_tt, jI_add, jI_mul, jI_sub, jI_cl, jm_up_same, jm_up_o, jm_up_j, jbR_T, jbR_F], by simp (disch := omega) only [jb_K_n, jb_K_v, ↓reduceIte, jT_lt, jF_lt, jT_le, jF_le, jT_eq, jF_eq, jT_z, jF_z, jF_neg, jT_nn, jT_pos, jF_pos, jT_le0, jF_le0, jT_x, jF_m1, jF_m1r, jT_tt, jI_add, jI_mul, jI_sub, jI_cl, jm_up_same, jm_up_o, jm_up_j, jbR_T, jbR_F], ((jmf.rf.u7 _).u7' _).u8 _ _⟩
  · rw [if_neg e]
    exact ⟨jm_up σ 308 (7 + 3 * b) (jI 0), by simp (disch := omega) only [jb_K_n, jb_K_v, ↓reduceIte, jT_lt, jF_lt, jT_le, jF_le, jT_eq, jF_eq, jT_z, jF_z, jF_neg, jT_nn, jT_pos, jF_pos, jT_le0, jF_le0, jT_x, jF_m1, jF_m1r, jT_tt, jI_add, jI_mul, jI_sub, jI_cl, jm_up_same, jm_up_o, jm_up_j, jbR_T, jbR_F, jt_M_renews_0, jt_M_renews_8, jt_M_renews_27, jt_M_renews_35, jt_M_hinders_0, jt_M_bellAt_0, e0, h1, h17], hA.up (7 + 3 * b) 0, by simp (disch := omega) only [jb_K_n, jb_K_v, ↓reduceIte, jT_lt, jF_lt, jT_le, jF_le, jT_eq, jF_eq, jT_z, jF_z, jF_neg, jT_nn, jT_pos, jF_pos, jT_le0, jF_le0, jT_x, jF_m1, jF_m1r, jT_tt, jI_add, jI_mul, jI_sub, jI_cl, jm_up_same, jm_up_o, jm_up_j, jbR_T, jbR_F, h17], jmf.rf.u8 _ _⟩
theorem mM_comes (hA : jAr σ 308 146 w) (h17 : σ 307 17 = jI 0) (h6 : w 1 ≤ 6) {d r : Nat} : jMO σ (qcom w d r) (jb_Ev 104 [.ref (307 : Nat), .int (jI d), .int (jI r)] (jm_hp σ)) := by
  unfold qcom
  have h1 := hA 1 (by omega)
  by_cases e : w 1 = 6
  · rw [if_pos e]
    rw [e] at h1
    exact ⟨jI 0, jm_up (jm_up σ 307 17 (jI 1)) 307 18 (jI 6), by simp (disch := omega) only [jb_K_n, jb_K_v, ↓reduceIte, jT_lt, jF_lt, jT_le, jF_le, jT_eq, jF_eq, jT_z, jF_z, jF_neg, jT_nn, jT_pos, jF_pos, jT_le0, jF_le0, jT_x, jF_m1, jF_m1r, jT_tt, jI_add, jI_mul, jI_sub, jI_cl, jm_up_same, jm_up_o, jm_up_j, jbR_T, jbR_F, jt_M_comes_0, jt_M_comes_23, jt_M_comes_45, jt_M_comes_62, jt_M_hinders_0, h1, h17], by simp (disch := omega) only [jb_K_n, jb_K_v, ↓reduceIte, jT_lt, jF_lt, jT_le, jF_le, jT_eq, jF_eq, jT_z, jF_z, jF_neg, jT_nn, jT_pos, jF_pos, jT_le0, jF_le0, jT_x, jF_m1, jF_m1r, jT_tt, jI_add, jI_mul, jI_sub, jI_cl, jm_up_same, jm_up_o, jm_up_j, jbR_T, jbR_F], by simp (disch := omega) only [jb_K_n, jb_K_v, ↓reduceIte, jT_lt, jF_lt, jT_le, jF_le, jT_eq, jF_eq, jT_z, jF_z, jF_neg, jT_nn, jT_pos, jF_pos, jT_le0, jF_le0, jT_x, jF_m1, jF_m1r, jT_tt, jI_add, jI_mul, jI_sub, jI_cl, jm_up_same, jm_up_o, jm_up_j, jbR_T, jbR_F], ((jmf.rf.u7 _).u7' _)⟩
  · rw [if_neg e]
    have e1 : 69 + 2 * w 1 + 0 = 69 + 2 * w 1 := rfl
    have e2 : 69 + 2 * w 1 + 1 = 70 + 2 * w 1 := by omega
    refine ⟨jm_up (jm_up (jm_up σ 308 (69 + 2 * w 1) (jI d)) 308 (70 + 2 * w 1) (jI r)) 308 1 (jI (w 1 + 1)), ?_, ((hA.up _ d).up _ r).up 1 (w 1 + 1), by simp (disch := omega) only [jb_K_n, jb_K_v, ↓reduceIte, jT_lt, jF_lt, jT_le, jF_le, jT_eq, jF_eq, jT_z, jF_z, jF_neg, jT_nn, jT_pos, jF_pos, jT_le0, jF_le0, jT_x, jF_m1, jF_m1r, jT_tt, jI_add, jI_mul, jI_sub, jI_cl, jm_up_same, jm_up_o, jm_up_j, jbR_T, jbR_F, h17], ((jmf.rf.u8 _ _).u8 _ _).u8 _ _⟩
    simp (disch := omega) only [jb_K_n, jb_K_v, ↓reduceIte, jT_lt, jF_lt, jT_le, jF_le, jT_eq, jF_eq, jT_z, jF_z, jF_neg, jT_nn, jT_pos, jF_pos, jT_le0, jF_le0, jT_x, jF_m1, jF_m1r, jT_tt, jI_add, jI_mul, jI_sub, jI_cl, jm_up_same, jm_up_o, jm_up_j, jbR_T, jbR_F, jt_M_comes_0, jt_M_comes_23, jt_M_comes_45, jt_M_comes_62, jt_M_hinders_0, jt_M_swimmerAt_0, h1, h17, e1, e2, Nat.add_sub_cancel]
theorem mM_strikesB {w0 : Nat → Nat} : ∀ (m k : Nat) (τ : jm_S), k + m = 69 → 63 ≤ k → jAr τ 308 146 (fun j => if 63 ≤ j ∧ j < k then 0 else w0 j) → 1 ≤ w0 0 → (x : Int32) → ∃ τ', jb_Ex 102 (35, [.ref (307 : Nat), .int x, .int (jI k)], [], jm_hp τ) = some (some (.int (jI (w0 0 - 1))), jm_hp τ') ∧ jAr τ' 308 146 (jn0 (fun j => if 63 ≤ j ∧ j < 69 then 0 else w0 j) 0 (w0 0 - 1)) ∧ jm8 τ τ'
  | 0, k, τ, hm, h1, h2, h3, x => by
    obtain rfl : k = 69 := by omega
    have h0 := h2 0 (by omega)
    dsimp only at h0
    rw [if_neg (by omega)] at h0
    exact ⟨jm_up τ 308 0 (jI (w0 0 - 1)), by simp (disch := omega) only [jb_K_n, jb_K_v, ↓reduceIte, jT_lt, jF_lt, jT_le, jF_le, jT_eq, jF_eq, jT_z, jF_z, jF_neg, jT_nn, jT_pos, jF_pos, jT_le0, jF_le0, jT_x, jF_m1, jF_m1r, jT_tt, jI_add, jI_mul, jI_sub, jI_cl, jm_up_same, jm_up_o, jm_up_j, jbR_T, jbR_F, jt_M_strikes_35, h0], h2.up 0 _, fun q j hq => jm_up_o _ _ hq⟩
  | m + 1, k, τ, hm, h1, h2, h3, x => by
    obtain ⟨τ', e1, e2, e3⟩ := mM_strikesB m (k + 1) (jm_up τ 308 k (jI 0)) (by omega) (by omega) ((h2.up k 0).congr (fun j hj => by
      by_cases e : j = k
      · rw [jn0_e e, if_pos (by omega)]
      · rw [jn0_o e]
        by_cases e2 : 63 ≤ j ∧ j < k
        · rw [if_pos e2, if_pos (by omega)]
        · rw [if_neg e2, if_neg (by omega)])) h3 x
    refine ⟨τ', ?_, e2, fun q j hq => (e3 q j hq).trans (jm_up_o _ _ hq)⟩
    rw [← e1, jt_M_strikes_35]
    simp (disch := omega) only [jb_K_n, jb_K_v, ↓reduceIte, jT_lt, jF_lt, jT_le, jF_le, jT_eq, jF_eq, jT_z, jF_z, jF_neg, jT_nn, jT_pos, jF_pos, jT_le0, jF_le0, jT_x, jF_m1, jF_m1r, jT_tt, jI_add, jI_mul, jI_sub, jI_cl, jm_up_same, jm_up_o, jm_up_j, jbR_T, jbR_F]
theorem mM_strikesA {at0 : Nat} : ∀ (m k : Nat) (τ : jm_S), k + m = 63 → at0 ≤ k → jAr τ 308 146 (fun j => if at0 ≤ j ∧ j < k then w (j + 6) else w j) → (x : Int32) → ∃ τ', jb_Ex 102 (5, [.ref (307 : Nat), .int x, .int (jI k)], [], jm_hp τ) = jb_Ex 102 (35, [.ref (307 : Nat), .int x, .int (jI 63)], [], jm_hp τ') ∧ jAr τ' 308 146 (fun j => if at0 ≤ j ∧ j < 63 then w (j + 6) else w j) ∧ jm8 τ τ'
  | 0, k, τ, hm, h1, h2, x => by
    obtain rfl : k = 63 := by omega
    refine ⟨τ, ?_, h2, fun q j hq => rfl⟩
    rw [jt_M_strikes_5]
    simp (disch := omega) only [jb_K_n, jb_K_v, ↓reduceIte, jT_lt, jF_lt, jT_le, jF_le, jT_eq, jF_eq, jT_z, jF_z, jF_neg, jT_nn, jT_pos, jF_pos, jT_le0, jF_le0, jT_x, jF_m1, jF_m1r, jT_tt, jI_add, jI_mul, jI_sub, jI_cl, jm_up_same, jm_up_o, jm_up_j, jbR_T, jbR_F]
  | m + 1, k, τ, hm, h1, h2, x => by
    have h6 := h2 (k + 6) (by omega)
    dsimp only at h6
    rw [if_neg (by omega)] at h6
    obtain ⟨τ', e1, e2, e3⟩ := mM_strikesA (at0 := at0) m (k + 1) (jm_up τ 308 k (jI (w (k + 6)))) (by omega) (by omega) ((h2.up k _).congr (fun j hj => by
      by_cases e : j = k
      · rw [jn0_e e, if_pos (by omega), e]
      · rw [jn0_o e]
        by_cases e2 : at0 ≤ j ∧ j < k
        · rw [if_pos e2, if_pos (by omega)]
        · rw [if_neg e2, if_neg (by omega)])) x
    refine ⟨τ', ?_, e2, fun q j hq => (e3 q j hq).trans (jm_up_o _ _ hq)⟩
    rw [← e1, jt_M_strikes_5]
    simp (disch := omega) only [jb_K_n, jb_K_v, ↓reduceIte, jT_lt, jF_lt, jT_le, jF_le, jT_eq, jF_eq, jT_z, jF_z, jF_neg, jT_nn, jT_pos, jF_pos, jT_le0, jF_le0, jT_x, jF_m1, jF_m1r, jT_tt, jI_add, jI_mul, jI_sub, jI_cl, jm_up_same, jm_up_o, jm_up_j, jbR_T, jbR_F, h6]
theorem mM_strikes (hA : jAr σ 308 146 w) (h17 : σ 307 17 = jI 0) {i : Nat} (hi : i < w 0) (h8 : w 0 ≤ 8) : jMO σ (qstr w i) (jb_Ev 102 [.ref (307 : Nat), .int (jI i)] (jm_hp σ)) := by
  obtain ⟨τ, e1, e2, e3⟩ := mM_strikesA (w := w) (at0 := 21 + 6 * i) (63 - (21 + 6 * i)) (21 + 6 * i) σ (by omega) (Nat.le_refl _) (hA.congr (fun j _ => by rw [if_neg (by omega)])) (jI i)
  generalize hu : (fun j => if 21 + 6 * i ≤ j ∧ j < 63 then w (j + 6) else w j) = u at e2
  have h0 : u 0 = w 0 := by rw [← hu]; exact if_neg (by omega)
  obtain ⟨τ', e4, e5, e6⟩ := mM_strikesB (w0 := u) 6 63 τ (by omega) (by omega) (e2.congr (fun j _ => (if_neg (by omega)).symm)) (by rw [h0]; omega) (jI i)
  rw [h0] at e4 e5
  have e7 : jm8 σ τ' := fun q j hq => (e6 q j hq).trans (e3 q j hq)
  refine ⟨τ', ?_, e5.congr (fun j hj => ?_), by rw [e7 _ _ (by omega)]; exact h17, e7.f⟩
  · simp (disch := omega) only [jb_K_n, jb_K_v, ↓reduceIte, jT_lt, jF_lt, jT_le, jF_le, jT_eq, jF_eq, jT_z, jF_z, jF_neg, jT_nn, jT_pos, jF_pos, jT_le0, jF_le0, jT_x, jF_m1, jF_m1r, jT_tt, jI_add, jI_mul, jI_sub, jI_cl, jm_up_same, jm_up_o, jm_up_j, jbR_T, jbR_F, jt_M_strikes_0, jt_M_wordAt_0, jt_M_strikes_4, e1, e4]
  · unfold jstr
    by_cases e : j = 0
    · rw [jn0_e e, jn0_e e]
    · rw [jn0_o e, jn0_o e]
      by_cases e2 : 63 ≤ j ∧ j < 69
      · rw [if_pos e2, if_neg (by omega), if_pos e2]
      · rw [if_neg e2, ← hu]
        dsimp only
        by_cases e3 : 21 + 6 * i ≤ j ∧ j < 63
        · rw [if_pos e3, if_pos e3]
        · rw [if_neg e3, if_neg e3, if_neg e2]
theorem mM_leavesA {at0 : Nat} : ∀ (m k : Nat) (τ : jm_S), k + m = 79 → at0 ≤ k → jAr τ 308 146 (fun j => if at0 ≤ j ∧ j < k then w (j + 2) else w j) → (x : Int32) → ∃ τ', jb_Ex 106 (5, [.ref (307 : Nat), .int x, .int (jI k)], [], jm_hp τ) = jb_Ex 106 (5, [.ref (307 : Nat), .int x, .int (jI 79)], [], jm_hp τ') ∧ jAr τ' 308 146 (fun j => if at0 ≤ j ∧ j < 79 then w (j + 2) else w j) ∧ jm8 τ τ'
  | 0, k, τ, hm, h1, h2, x => by
    obtain rfl : k = 79 := by omega
    exact ⟨τ, rfl, h2, fun q j hq => rfl⟩
  | m + 1, k, τ, hm, h1, h2, x => by
    have h6 := h2 (k + 2) (by omega)
    dsimp only at h6
    rw [if_neg (by omega)] at h6
    obtain ⟨τ', e1, e2, e3⟩ := mM_leavesA (at0 := at0) m (k + 1) (jm_up τ 308 k (jI (w (k + 2)))) (by omega) (by omega) ((h2.up k _).congr (fun j hj => by
      by_cases e : j = k
      · rw [jn0_e e, if_pos (by omega), e]
      · rw [jn0_o e]
        by_cases e2 : at0 ≤ j ∧ j < k
        · rw [if_pos e2, if_pos (by omega)]
        · rw [if_neg e2, if_neg (by omega)])) x
    refine ⟨τ', ?_, e2, fun q j hq => (e3 q j hq).trans (jm_up_o _ _ hq)⟩
    rw [← e1, jt_M_leaves_5]
    simp (disch := omega) only [jb_K_n, jb_K_v, ↓reduceIte, jT_lt, jF_lt, jT_le, jF_le, jT_eq, jF_eq, jT_z, jF_z, jF_neg, jT_nn, jT_pos, jF_pos, jT_le0, jF_le0, jT_x, jF_m1, jF_m1r, jT_tt, jI_add, jI_mul, jI_sub, jI_cl, jm_up_same, jm_up_o, jm_up_j, jbR_T, jbR_F, h6]
theorem mM_leaves (hA : jAr σ 308 146 w) (h17 : σ 307 17 = jI 0) {i : Nat} (hi : i < w 1) (h8 : w 1 ≤ 6) : jMO σ (qlea w i) (jb_Ev 106 [.ref (307 : Nat), .int (jI i)] (jm_hp σ)) := by
  obtain ⟨τ, e1, e2, e3⟩ := mM_leavesA (w := w) (at0 := 69 + 2 * i) (79 - (69 + 2 * i)) (69 + 2 * i) σ (by omega) (Nat.le_refl _) (hA.congr (fun j _ => by rw [if_neg (by omega)])) (jI i)
  have h0 := e2 1 (by omega)
  dsimp only at h0
  rw [if_neg (by omega)] at h0
  have e7 : jm8 σ (jm_up (jm_up (jm_up τ 308 79 (jI 0)) 308 80 (jI 0)) 308 1 (jI (w 1 - 1))) := (((show jm8 σ τ from e3).up _ _).up _ _).up _ _
  refine ⟨jm_up (jm_up (jm_up τ 308 79 (jI 0)) 308 80 (jI 0)) 308 1 (jI (w 1 - 1)), ?_, (((e2.up 79 0).up 80 0).up 1 (w 1 - 1)).congr (fun j hj => ?_), by rw [e7 _ _ (by omega)]; exact h17, e7.f⟩
  · rw [jt_M_leaves_0]
    simp (disch := omega) only [jb_K_n, jb_K_v, ↓reduceIte, jT_lt, jF_lt, jT_le, jF_le, jT_eq, jF_eq, jT_z, jF_z, jF_neg, jT_nn, jT_pos, jF_pos, jT_le0, jF_le0, jT_x, jF_m1, jF_m1r, jT_tt, jI_add, jI_mul, jI_sub, jI_cl, jm_up_same, jm_up_o, jm_up_j, jbR_T, jbR_F, jt_M_swimmerAt_0, jt_M_leaves_4, e1]
    rw [jt_M_leaves_5]
    simp (disch := omega) only [jb_K_n, jb_K_v, ↓reduceIte, jT_lt, jF_lt, jT_le, jF_le, jT_eq, jF_eq, jT_z, jF_z, jF_neg, jT_nn, jT_pos, jF_pos, jT_le0, jF_le0, jT_x, jF_m1, jF_m1r, jT_tt, jI_add, jI_mul, jI_sub, jI_cl, jm_up_same, jm_up_o, jm_up_j, jbR_T, jbR_F, h0]
  · unfold jlea
    by_cases e : j = 1
    · rw [jn0_e e, jn0_e e]
    · rw [jn0_o e, jn0_o e]
      by_cases e2 : j = 80
      · rw [jn0_e e2, if_neg (by omega), if_pos (by omega)]
      · rw [jn0_o e2]
        by_cases e3 : j = 79
        · rw [jn0_e e3, if_neg (by omega), if_pos (by omega)]
        · rw [jn0_o e3]
          by_cases e4 : 69 + 2 * i ≤ j ∧ j < 79
          · rw [if_pos e4, if_pos e4]
          · rw [if_neg e4, if_neg e4, if_neg (by omega)]
/-! the class -/
theorem jV_u {k : Nat} {x : Int32} {v : Nat → Nat} (h : jV σ 26 v) (hk : k < 26 ∨ 51 ≤ k) {j : Nat} : jV (jm_up σ k j x) 26 v := h.A (jA_up (a := k) (b := k + 1) (by omega) (by omega)) (by omega)
theorem cBells_moveTo (hV : jV σ 1 w) (hw : jInv w) {b d : Nat} (hb : b < 5) (hd : 1 ≤ d) (hd9 : d ≤ 9) : jCO σ (qbec w (6 + 3 * b) d) (jb_Ev 57 [.ref (2 : Nat), .int (jI b), .int (jI d), .ref (278 : Nat)] (jm_hp σ)) := by
  unfold qbec
  have hB := hw.1.1 b hb
  have h1 := hV.b.1
  by_cases e : w (6 + 3 * b) = d
  · rw [if_pos e]
    refine ⟨⟨by omega, by omega⟩, ?_⟩
    simp (disch := omega) only [jb_K_n, jb_K_v, ↓reduceIte, jT_lt, jF_lt, jT_le, jF_le, jT_eq, jF_eq, jT_z, jF_z, jF_neg, jT_nn, jT_pos, jF_pos, jT_le0, jF_le0, jT_x, jF_m1, jF_m1r, jT_tt, jI_add, jI_mul, jI_sub, jI_cl, jm_up_same, jm_up_o, jm_up_j, jbR_T, jbR_F, jt_Bells_moveTo_0, jt_Bells_moveTo_8, jt_Bells_moveTo_17, jt_Bells_moveTo_31, jt_Bells_moveTo_45, jt_Bells_moveTo_55, jR_hasY h1 hb, jD_depthY hd hd9, jR_at h1 hb, jt_Reasons_refuse_0, jrs]
  · rw [if_neg e]
    refine ⟨by omega, jInv_b hw hb (Or.inl ⟨rfl, hd, hd9⟩), jm_up σ 4 b (jI d), ?_, ?_, jA_up (by omega) (by omega)⟩
    · simp (disch := omega) only [jb_K_n, jb_K_v, ↓reduceIte, jT_lt, jF_lt, jT_le, jF_le, jT_eq, jF_eq, jT_z, jF_z, jF_neg, jT_nn, jT_pos, jF_pos, jT_le0, jF_le0, jT_x, jF_m1, jF_m1r, jT_tt, jI_add, jI_mul, jI_sub, jI_cl, jm_up_same, jm_up_o, jm_up_j, jbR_T, jbR_F, jt_Bells_moveTo_0, jt_Bells_moveTo_8, jt_Bells_moveTo_17, jt_Bells_moveTo_31, jt_Bells_moveTo_45, jt_Bells_moveTo_55, jR_hasY h1 hb, jD_depthY hd hd9, jR_at h1 hb, jR_put h1 hb (jI d)]
    · obtain ⟨v1, v2, v3, v4, v5⟩ := jV1.mp hV
      refine jV1.mpr ⟨⟨(jRn_put h1 b d).congr rfl (fun c hc => ?_), v1.2.1.mv (fun q j z1 z2 => jm_up_o _ _ (by omega)) rfl (fun c hc => jn0_o (by omega)), v1.2.2.mv (fun q j z1 z2 => jm_up_o _ _ (by omega)) rfl (fun c hc => jn0_o (by omega))⟩, v2.fr hw.b0 (fun q j z1 z2 => jm_up_o _ _ (by omega)) (fun j hj => jn0_o (by omega)), v3.fr hw.b1 (fun q j z1 z2 => jm_up_o _ _ (by omega)) (fun j hj => jn0_o (by omega)), v4.fr hw.2.2.2 (fun q j z1 z2 => jm_up_o _ _ (by omega)) (fun j hj => jn0_o (by omega)), v5.fr (fun j z1 z2 => jm_up_o _ _ (by omega)) (fun j z1 z2 => jn0_o (by omega))⟩
      by_cases e : c = b
      · rw [jn0_e e, jn0_e (by omega)]
      · rw [jn0_o e, jn0_o (by omega)]
theorem cBells_mend (hV : jV σ 1 w) (hw : jInv w) {b : Nat} (hb : b < 5) : jCO σ (qren w b) (jb_Ev 58 [.ref (2 : Nat), .int (jI b), .ref (278 : Nat)] (jm_hp σ)) := by
  unfold qren
  have hB := hw.1.1 b hb
  have h1 := hV.b.2.1
  by_cases e : w (7 + 3 * b) = 0
  · rw [if_pos e]
    refine ⟨⟨by omega, by omega⟩, ?_⟩
    simp (disch := omega) only [jb_K_n, jb_K_v, ↓reduceIte, jT_lt, jF_lt, jT_le, jF_le, jT_eq, jF_eq, jT_z, jF_z, jF_neg, jT_nn, jT_pos, jF_pos, jT_le0, jF_le0, jT_x, jF_m1, jF_m1r, jT_tt, jI_add, jI_mul, jI_sub, jI_cl, jm_up_same, jm_up_o, jm_up_j, jbR_T, jbR_F, jt_Bells_mend_0, jt_Bells_mend_8, jt_Bells_mend_21, jt_Bells_mend_32, jt_Bells_mend_42, jR_hasY h1 hb, jR_at h1 hb, jt_Reasons_refuse_0, jrs]
  · rw [if_neg e]
    refine ⟨by omega, jInv_b hw hb (Or.inr ⟨rfl, by omega⟩), jm_up σ 6 b (jI 0), ?_, ?_, jA_up (by omega) (by omega)⟩
    · simp (disch := omega) only [jb_K_n, jb_K_v, ↓reduceIte, jT_lt, jF_lt, jT_le, jF_le, jT_eq, jF_eq, jT_z, jF_z, jF_neg, jT_nn, jT_pos, jF_pos, jT_le0, jF_le0, jT_x, jF_m1, jF_m1r, jT_tt, jI_add, jI_mul, jI_sub, jI_cl, jm_up_same, jm_up_o, jm_up_j, jbR_T, jbR_F, jt_Bells_mend_0, jt_Bells_mend_8, jt_Bells_mend_21, jt_Bells_mend_32, jt_Bells_mend_42, jR_hasY h1 hb, jR_at h1 hb, jR_put h1 hb (jI 0)]
    · obtain ⟨v1, v2, v3, v4, v5⟩ := jV1.mp hV
      refine jV1.mpr ⟨⟨v1.1.mv (fun q j z1 z2 => jm_up_o _ _ (by omega)) rfl (fun c hc => jn0_o (by omega)), (jRn_put h1 b 0).congr rfl (fun c hc => ?_), v1.2.2.mv (fun q j z1 z2 => jm_up_o _ _ (by omega)) rfl (fun c hc => jn0_o (by omega))⟩, v2.fr hw.b0 (fun q j z1 z2 => jm_up_o _ _ (by omega)) (fun j hj => jn0_o (by omega)), v3.fr hw.b1 (fun q j z1 z2 => jm_up_o _ _ (by omega)) (fun j hj => jn0_o (by omega)), v4.fr hw.2.2.2 (fun q j z1 z2 => jm_up_o _ _ (by omega)) (fun j hj => jn0_o (by omega)), v5.fr (fun j z1 z2 => jm_up_o _ _ (by omega)) (fun j z1 z2 => jn0_o (by omega))⟩
      by_cases e : c = b
      · rw [jn0_e e, jn0_e (by omega)]
      · rw [jn0_o e, jn0_o (by omega)]
end CH
