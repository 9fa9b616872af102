/-! ===== conditions that are known ===== -/
theorem jT_tt : ((-1 : Int32) = -1) = True := eq_true rfl
theorem jT_lt {a b : Nat} (h : a < b) (hb : b < 2147483648) : (jI a < jI b) = True := eq_true ((jI_lt (by omega) hb).mpr h)
theorem jF_lt {a b : Nat} (h : b ≤ a) (ha : a < 2147483648) : (jI a < jI b) = False := eq_false (fun z => by have := (jI_lt ha (by omega)).mp z; omega)
theorem jT_le {a b : Nat} (h : a ≤ b) (hb : b < 2147483648) : (jI a ≤ jI b) = True := eq_true ((jI_le (by omega) hb).mpr h)
theorem jF_le {a b : Nat} (h : b < a) (ha : a < 2147483648) : (jI a ≤ jI b) = False := eq_false (fun z => by have := (jI_le ha (by omega)).mp z; omega)
theorem jT_eq {a b : Nat} (h : a = b) : (jI a = jI b) = True := eq_true (by rw [h])
theorem jF_eq {a b : Nat} (h : a ≠ b) (ha : a < 2147483648) (hb : b < 2147483648) : (jI a = jI b) = False := eq_false (fun z => h ((jI_eq ha hb).mp z))
theorem jT_z {a : Nat} (h : a = 0) : (jI a = 0) = True := eq_true (by rw [h]; rfl)
theorem jF_z {a : Nat} (h : a ≠ 0) (ha : a < 2147483648) : (jI a = 0) = False := eq_false (fun z => h ((jI_eq0 ha).mp z))
theorem jF_neg {a : Nat} (ha : a < 2147483648) : (jI a < 0) = False := eq_false (fun z => (jI_neg ha).mp z)
theorem jT_nn {a : Nat} (ha : a < 2147483648) : (0 ≤ jI a) = True := eq_true ((jI_nn ha).mpr trivial)
theorem jT_pos {a : Nat} (h : 0 < a) (ha : a < 2147483648) : (0 < jI a) = True := eq_true ((jI_pos ha).mpr h)
theorem jF_pos {a : Nat} (h : a = 0) : (0 < jI a) = False := eq_false (fun z => by have := (jI_pos (by omega)).mp z; omega)
theorem jT_le0 {a : Nat} (h : a = 0) : (jI a ≤ 0) = True := eq_true ((jI_le0 (by omega)).mpr h)
theorem jF_le0 {a : Nat} (h : 0 < a) (ha : a < 2147483648) : (jI a ≤ 0) = False := eq_false (fun z => by have := (jI_le0 ha).mp z; omega)
theorem jT_x {a n : Nat} (h : a < n) (ha : a < 2147483648) : jx (jI a) n = True := eq_true ((jx_I ha).mpr h)
theorem jF_m1 {a : Nat} (ha : a < 2147483648) : (jI a = (-1 : Int32)) = False := eq_false (fun z => (jI_m1 ha).mp z)
theorem jF_m1r {a : Nat} (ha : a < 2147483648) : ((-1 : Int32) = jI a) = False := eq_false (fun z => (jI_m1' ha).mp z)
theorem jbR_T {h : jb_H} : jb_R .boolean (jI 1) h = some (some (.int (jI 1)), h) := by
  unfold jb_R
  rw [if_pos (by decide)]
theorem jbR_F {h : jb_H} : jb_R .boolean (jI 0) h = some (some (.int (jI 0)), h) := by
  unfold jb_R
  rw [if_pos (by decide)]
/-- x is one of n numbers -/
def jlt (x : Int32) (n : Nat) : Prop := ∃ k, k < n ∧ x = jI k
theorem jlt_n {x : Int32} {n : Nat} (h : ¬ jlt x n) : x < 0 ∨ ∃ a, n ≤ a ∧ a < 2147483648 ∧ x = jI a := by
  rcases jI_cases x with h1 | ⟨a, h1, h2⟩
  · exact Or.inl h1
  · refine Or.inr ⟨a, ?_, h1, h2⟩
    rcases Nat.lt_or_ge a n with z | z
    · exact absurd ⟨a, z, h2⟩ h
    · exact z
def jbt (x : Int32) (l n : Nat) : Prop := ∃ k, l ≤ k ∧ k ≤ n ∧ x = jI k
section SMALL
variable {σ : jm_S}
theorem jR_hasY {r n : Nat} {f : Nat → Int32} (h : jR σ r n f) {k : Nat} (hk : k < n) : jb_Ev 4 [.ref r, .int (jI k)] (jm_hp σ) = some (some (.int (jI 1)), jm_hp σ) := by
  have := h.bd
  rw [jR_has h (by omega), if_pos hk]
theorem jR_hasN {r n : Nat} {f : Nat → Int32} (h : jR σ r n f) {x : Int32} (hx : ¬ jlt x n) : jb_Ev 4 [.ref r, .int x] (jm_hp σ) = some (some (.int (jI 0)), jm_hp σ) := by
  rcases jlt_n hx with z | ⟨a, z1, z2, rfl⟩
  · exact jR_hasn h z
  · rw [jR_has h z2, if_neg (by omega)]
theorem jR_atN {r n : Nat} {f : Nat → Int32} (h : jR σ r n f) {x : Int32} (hx : ¬ jlt x n) : jb_Ev 6 [.ref r, .int x] (jm_hp σ) = some (some (.int (-1)), jm_hp σ) := by
  rcases jlt_n hx with z | ⟨a, z1, z2, rfl⟩
  · exact jR_atn h z
  · exact jR_ato h z1 z2
theorem jR_fullY {r n : Nat} {f : Nat → Int32} (h : jR σ r n f) (hn : jm_ln (r + 1) ≤ n) : jb_Ev 11 [.ref r] (jm_hp σ) = some (some (.int (jI 1)), jm_hp σ) := by
  rw [jR_full h, if_neg (by omega)]
theorem jR_fullN {r n : Nat} {f : Nat → Int32} (h : jR σ r n f) (hn : n < jm_ln (r + 1)) : jb_Ev 11 [.ref r] (jm_hp σ) = some (some (.int (jI 0)), jm_hp σ) := by
  rw [jR_full h, if_pos hn]
theorem jM_inY {k l n : Nat} (h1 : l ≤ k) (h2 : k ≤ n) (h3 : n < 2147483648) : jb_Ev 31 [.int (jI k), .int (jI l), .int (jI n)] (jm_hp σ) = some (some (.int (jI 1)), jm_hp σ) := by
  simp (disch := omega) only [jb_K_n, jb_K_v, ↓reduceIte, jT_lt, jF_lt, jT_le, jF_le, jT_eq, jF_eq, jT_z, jF_z, jF_neg, jT_nn, jT_pos, jF_pos, jT_le0, jF_le0, jT_x, jF_m1, jF_m1r, jT_tt, jI_add, jI_mul, jI_sub, jI_cl, jm_up_same, jm_up_o, jm_up_j, jbR_T, jbR_F, jt_M_isIn_0]
theorem jM_inN {x : Int32} {l n : Nat} (h : ¬ jbt x l n) (hl : l ≤ n) (h3 : n < 2147483648) : jb_Ev 31 [.int x, .int (jI l), .int (jI n)] (jm_hp σ) = some (some (.int (jI 0)), jm_hp σ) := by
  rw [jt_M_isIn_0]
  rcases jI_cases x with h1 | ⟨a, h1, rfl⟩
  · rw [if_pos (jI_ltneg' (by omega) h1)]
  · by_cases e : a < l
    · rw [if_pos ((jI_lt (by omega) (by omega)).mpr e)]
    · by_cases e2 : n < a
      · simp (disch := omega) only [jb_K_n, jb_K_v, ↓reduceIte, jT_lt, jF_lt, jT_le, jF_le, jT_eq, jF_eq, jT_z, jF_z, jF_neg, jT_nn, jT_pos, jF_pos, jT_le0, jF_le0, jT_x, jF_m1, jF_m1r, jT_tt, jI_add, jI_mul, jI_sub, jI_cl, jm_up_same, jm_up_o, jm_up_j, jbR_T, jbR_F]
      · exact absurd ⟨a, by omega, by omega, rfl⟩ h
/-- isIn (x, 0, n - 1) -/
theorem jM_ltY {k n : Nat} (h : k < n) (h3 : n < 2147483648) : jb_Ev 31 [.int (jI k), .int (jI 0), .int (jI n - jI 1)] (jm_hp σ) = some (some (.int (jI 1)), jm_hp σ) := by
  rw [jI_sub (by omega)]
  exact jM_inY (by omega) (by omega) (by omega)
theorem jM_ltN {x : Int32} {n : Nat} (h : ¬ jlt x n) (h3 : n < 2147483648) : jb_Ev 31 [.int x, .int (jI 0), .int (jI n - jI 1)] (jm_hp σ) = some (some (.int (jI 0)), jm_hp σ) := by
  by_cases e : n = 0
  · subst e
    rw [jt_M_isIn_0]
    rcases jI_cases x with h1 | ⟨a, h1, rfl⟩
    · rw [if_pos (jI_ltneg' (by omega) h1)]
    · simp (disch := omega) only [jb_K_n, jb_K_v, ↓reduceIte, jT_lt, jF_lt, jT_le, jF_le, jT_eq, jF_eq, jT_z, jF_z, jF_neg, jT_nn, jT_pos, jF_pos, jT_le0, jF_le0, jT_x, jF_m1, jF_m1r, jT_tt, jI_add, jI_mul, jI_sub, jI_cl, jm_up_same, jm_up_o, jm_up_j, jbR_T, jbR_F]
      rw [if_pos (jI_ltneg' (by omega) (by decide))]
  · rw [jI_sub (by omega)]
    exact jM_inN (fun ⟨k, _, z2, z3⟩ => h ⟨k, by omega, z3⟩) (by omega) (by omega)
theorem jM_bellY {k : Nat} (h : k < 5) : jb_Ev 91 [.int (jI k)] (jm_hp σ) = some (some (.int (jI 1)), jm_hp σ) := by
  simp (disch := omega) only [jb_K_n, jb_K_v, ↓reduceIte, jT_lt, jF_lt, jT_le, jF_le, jT_eq, jF_eq, jT_z, jF_z, jF_neg, jT_nn, jT_pos, jF_pos, jT_le0, jF_le0, jT_x, jF_m1, jF_m1r, jT_tt, jI_add, jI_mul, jI_sub, jI_cl, jm_up_same, jm_up_o, jm_up_j, jbR_T, jbR_F, jt_M_isBell_0, jt_M_isBell_6, jM_inY]
theorem jM_bellN {x : Int32} (h : ¬ jlt x 5) : jb_Ev 91 [.int x] (jm_hp σ) = some (some (.int (jI 0)), jm_hp σ) := by
  have h' : ¬ jbt x 0 4 := fun ⟨k, _, z2, z3⟩ => h ⟨k, by omega, z3⟩
  simp (disch := omega) only [jb_K_n, jb_K_v, ↓reduceIte, jT_lt, jF_lt, jT_le, jF_le, jT_eq, jF_eq, jT_z, jF_z, jF_neg, jT_nn, jT_pos, jF_pos, jT_le0, jF_le0, jT_x, jF_m1, jF_m1r, jT_tt, jI_add, jI_mul, jI_sub, jI_cl, jm_up_same, jm_up_o, jm_up_j, jbR_T, jbR_F, jt_M_isBell_0, jt_M_isBell_6, jM_inN h']
theorem jM_wordY {k n : Nat} (h0 : σ 308 0 = jI n) (h : k < n) (hn : n < 2147483648) : jb_Ev 101 [.ref (307 : Nat), .int (jI k)] (jm_hp σ) = some (some (.int (jI 1)), jm_hp σ) := by
  simp (disch := omega) only [jb_K_n, jb_K_v, ↓reduceIte, jT_lt, jF_lt, jT_le, jF_le, jT_eq, jF_eq, jT_z, jF_z, jF_neg, jT_nn, jT_pos, jF_pos, jT_le0, jF_le0, jT_x, jF_m1, jF_m1r, jT_tt, jI_add, jI_mul, jI_sub, jI_cl, jm_up_same, jm_up_o, jm_up_j, jbR_T, jbR_F, jt_M_isWord_0, h0, jM_inY, jt_M_isWord_13]
theorem jM_wordN {x : Int32} {n : Nat} (h0 : σ 308 0 = jI n) (h : ¬ jlt x n) (hn : n < 2147483648) : jb_Ev 101 [.ref (307 : Nat), .int x] (jm_hp σ) = some (some (.int (jI 0)), jm_hp σ) := by
  simp (disch := omega) only [jb_K_n, jb_K_v, ↓reduceIte, jT_lt, jF_lt, jT_le, jF_le, jT_eq, jF_eq, jT_z, jF_z, jF_neg, jT_nn, jT_pos, jF_pos, jT_le0, jF_le0, jT_x, jF_m1, jF_m1r, jT_tt, jI_add, jI_mul, jI_sub, jI_cl, jm_up_same, jm_up_o, jm_up_j, jbR_T, jbR_F, jt_M_isWord_0, h0, jM_ltN h hn, jt_M_isWord_13]
theorem jM_swimY {k n : Nat} (h0 : σ 308 1 = jI n) (h : k < n) (hn : n < 2147483648) : jb_Ev 105 [.ref (307 : Nat), .int (jI k)] (jm_hp σ) = some (some (.int (jI 1)), jm_hp σ) := by
  simp (disch := omega) only [jb_K_n, jb_K_v, ↓reduceIte, jT_lt, jF_lt, jT_le, jF_le, jT_eq, jF_eq, jT_z, jF_z, jF_neg, jT_nn, jT_pos, jF_pos, jT_le0, jF_le0, jT_x, jF_m1, jF_m1r, jT_tt, jI_add, jI_mul, jI_sub, jI_cl, jm_up_same, jm_up_o, jm_up_j, jbR_T, jbR_F, jt_M_isSwimmer_0, h0, jM_inY, jt_M_isSwimmer_13]
theorem jM_swimN {x : Int32} {n : Nat} (h0 : σ 308 1 = jI n) (h : ¬ jlt x n) (hn : n < 2147483648) : jb_Ev 105 [.ref (307 : Nat), .int x] (jm_hp σ) = some (some (.int (jI 0)), jm_hp σ) := by
  simp (disch := omega) only [jb_K_n, jb_K_v, ↓reduceIte, jT_lt, jF_lt, jT_le, jF_le, jT_eq, jF_eq, jT_z, jF_z, jF_neg, jT_nn, jT_pos, jF_pos, jT_le0, jF_le0, jT_x, jF_m1, jF_m1r, jT_tt, jI_add, jI_mul, jI_sub, jI_cl, jm_up_same, jm_up_o, jm_up_j, jbR_T, jbR_F, jt_M_isSwimmer_0, h0, jM_ltN h hn, jt_M_isSwimmer_13]
theorem jM_pealY {k n : Nat} (h0 : σ 308 2 = jI n) (h : k < n) (hn : n < 2147483648) : jb_Ev 108 [.ref (307 : Nat), .int (jI k)] (jm_hp σ) = some (some (.int (jI 1)), jm_hp σ) := by
  simp (disch := omega) only [jb_K_n, jb_K_v, ↓reduceIte, jT_lt, jF_lt, jT_le, jF_le, jT_eq, jF_eq, jT_z, jF_z, jF_neg, jT_nn, jT_pos, jF_pos, jT_le0, jF_le0, jT_x, jF_m1, jF_m1r, jT_tt, jI_add, jI_mul, jI_sub, jI_cl, jm_up_same, jm_up_o, jm_up_j, jbR_T, jbR_F, jt_M_isPeal_0, h0, jM_inY, jt_M_isPeal_13]
theorem jM_pealN {x : Int32} {n : Nat} (h0 : σ 308 2 = jI n) (h : ¬ jlt x n) (hn : n < 2147483648) : jb_Ev 108 [.ref (307 : Nat), .int x] (jm_hp σ) = some (some (.int (jI 0)), jm_hp σ) := by
  simp (disch := omega) only [jb_K_n, jb_K_v, ↓reduceIte, jT_lt, jF_lt, jT_le, jF_le, jT_eq, jF_eq, jT_z, jF_z, jF_neg, jT_nn, jT_pos, jF_pos, jT_le0, jF_le0, jT_x, jF_m1, jF_m1r, jT_tt, jI_add, jI_mul, jI_sub, jI_cl, jm_up_same, jm_up_o, jm_up_j, jbR_T, jbR_F, jt_M_isPeal_0, h0, jM_ltN h hn, jt_M_isPeal_13]
theorem jM_depthY {k : Nat} (h : 1 ≤ k) (h2 : k ≤ 9) : jb_Ev 92 [.int (jI k)] (jm_hp σ) = some (some (.int (jI 1)), jm_hp σ) := by
  simp (disch := omega) only [jb_K_n, jb_K_v, ↓reduceIte, jT_lt, jF_lt, jT_le, jF_le, jT_eq, jF_eq, jT_z, jF_z, jF_neg, jT_nn, jT_pos, jF_pos, jT_le0, jF_le0, jT_x, jF_m1, jF_m1r, jT_tt, jI_add, jI_mul, jI_sub, jI_cl, jm_up_same, jm_up_o, jm_up_j, jbR_T, jbR_F, jt_M_isDepth_0, jt_M_isDepth_7, jM_inY]
theorem jM_depthN {x : Int32} (h : ¬ jbt x 1 9) : jb_Ev 92 [.int x] (jm_hp σ) = some (some (.int (jI 0)), jm_hp σ) := by
  simp (disch := omega) only [jb_K_n, jb_K_v, ↓reduceIte, jT_lt, jF_lt, jT_le, jF_le, jT_eq, jF_eq, jT_z, jF_z, jF_neg, jT_nn, jT_pos, jF_pos, jT_le0, jF_le0, jT_x, jF_m1, jF_m1r, jT_tt, jI_add, jI_mul, jI_sub, jI_cl, jm_up_same, jm_up_o, jm_up_j, jbR_T, jbR_F, jt_M_isDepth_0, jt_M_isDepth_7, jM_inN h]
theorem jM_reachY {k : Nat} (h2 : k ≤ 9) : jb_Ev 103 [.int (jI k)] (jm_hp σ) = some (some (.int (jI 1)), jm_hp σ) := by
  simp (disch := omega) only [jb_K_n, jb_K_v, ↓reduceIte, jT_lt, jF_lt, jT_le, jF_le, jT_eq, jF_eq, jT_z, jF_z, jF_neg, jT_nn, jT_pos, jF_pos, jT_le0, jF_le0, jT_x, jF_m1, jF_m1r, jT_tt, jI_add, jI_mul, jI_sub, jI_cl, jm_up_same, jm_up_o, jm_up_j, jbR_T, jbR_F, jt_M_isReach_0, jt_M_isReach_7, jM_inY]
theorem jM_reachN {x : Int32} (h : ¬ jbt x 0 9) : jb_Ev 103 [.int x] (jm_hp σ) = some (some (.int (jI 0)), jm_hp σ) := by
  simp (disch := omega) only [jb_K_n, jb_K_v, ↓reduceIte, jT_lt, jF_lt, jT_le, jF_le, jT_eq, jF_eq, jT_z, jF_z, jF_neg, jT_nn, jT_pos, jF_pos, jT_le0, jF_le0, jT_x, jF_m1, jF_m1r, jT_tt, jI_add, jI_mul, jI_sub, jI_cl, jm_up_same, jm_up_o, jm_up_j, jbR_T, jbR_F, jt_M_isReach_0, jt_M_isReach_7, jM_inN h]
theorem jM_kindY {k : Nat} (h2 : k ≤ 2) : jb_Ev 99 [.int (jI k)] (jm_hp σ) = some (some (.int (jI 1)), jm_hp σ) := by
  simp (disch := omega) only [jb_K_n, jb_K_v, ↓reduceIte, jT_lt, jF_lt, jT_le, jF_le, jT_eq, jF_eq, jT_z, jF_z, jF_neg, jT_nn, jT_pos, jF_pos, jT_le0, jF_le0, jT_x, jF_m1, jF_m1r, jT_tt, jI_add, jI_mul, jI_sub, jI_cl, jm_up_same, jm_up_o, jm_up_j, jbR_T, jbR_F, jt_M_isKind_0, jt_M_isKind_6, jM_inY]
theorem jM_kindN {x : Int32} (h : ¬ jbt x 0 2) : jb_Ev 99 [.int x] (jm_hp σ) = some (some (.int (jI 0)), jm_hp σ) := by
  simp (disch := omega) only [jb_K_n, jb_K_v, ↓reduceIte, jT_lt, jF_lt, jT_le, jF_le, jT_eq, jF_eq, jT_z, jF_z, jF_neg, jT_nn, jT_pos, jF_pos, jT_le0, jF_le0, jT_x, jF_m1, jF_m1r, jT_tt, jI_add, jI_mul, jI_sub, jI_cl, jm_up_same, jm_up_o, jm_up_j, jbR_T, jbR_F, jt_M_isKind_0, jt_M_isKind_6, jM_inN h]
theorem jD_depthY {k : Nat} (h : 1 ≤ k) (h2 : k ≤ 9) : jb_Ev 5 [.int (jI k)] (jm_hp σ) = some (some (.int (jI 1)), jm_hp σ) := by
  simp (disch := omega) only [jb_K_n, jb_K_v, ↓reduceIte, jT_lt, jF_lt, jT_le, jF_le, jT_eq, jF_eq, jT_z, jF_z, jF_neg, jT_nn, jT_pos, jF_pos, jT_le0, jF_le0, jT_x, jF_m1, jF_m1r, jT_tt, jI_add, jI_mul, jI_sub, jI_cl, jm_up_same, jm_up_o, jm_up_j, jbR_T, jbR_F, jt_D_isDepth_0]
theorem jD_depthN {x : Int32} (h : ¬ jbt x 1 9) : jb_Ev 5 [.int x] (jm_hp σ) = some (some (.int (jI 0)), jm_hp σ) := by
  rw [jt_D_isDepth_0]
  rcases jI_cases x with h1 | ⟨a, h1, rfl⟩
  · rw [if_pos (jI_ltneg' (by omega) h1)]
  · by_cases e : a < 1
    · rw [if_pos ((jI_lt (by omega) (by omega)).mpr e)]
    · by_cases e2 : 9 < a
      · simp (disch := omega) only [jb_K_n, jb_K_v, ↓reduceIte, jT_lt, jF_lt, jT_le, jF_le, jT_eq, jF_eq, jT_z, jF_z, jF_neg, jT_nn, jT_pos, jF_pos, jT_le0, jF_le0, jT_x, jF_m1, jF_m1r, jT_tt, jI_add, jI_mul, jI_sub, jI_cl, jm_up_same, jm_up_o, jm_up_j, jbR_T, jbR_F]
      · exact absurd ⟨a, by omega, by omega, rfl⟩ h
end SMALL
