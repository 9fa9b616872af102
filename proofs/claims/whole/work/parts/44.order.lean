/-! ===== orders ===== -/
theorem jn_306 : jm_ln 306 = 8 := by decide +kernel
def jlc (K : Nat → Nat) (N a : Nat) : Nat := jsum (fun b => if K b < K a then 1 else 0) N
def jof (K : Nat → Nat) (N : Nat) (x : Int32) : Nat := jfd (fun a => decide (jI (jlc K N a) = x)) N 0
def jor (K : Nat → Nat) (N : Nat) (x : Int32) : Int32 := if jof K N x < N then jI (jof K N x) else -1
theorem jsum_lt {g h : Nat → Nat} {b : Nat} : ∀ {N : Nat}, (∀ i, i < N → g i ≤ h i) → b < N → g b < h b → jsum g N < jsum h N
  | 0, _, hb, _ => absurd hb (Nat.not_lt_zero _)
  | N + 1, hl, hb, hs => by
    have hle : ∀ M, M ≤ N → jsum g M ≤ jsum h M := fun M => by
      induction M with
      | zero => intro _; exact Nat.le_refl _
      | succ M ih =>
        intro hM
        have := ih (by omega)
        have := hl M (by omega)
        unfold jsum
        omega
    unfold jsum
    by_cases e : b = N
    · subst e
      have := hle b (Nat.le_refl _)
      omega
    · have := jsum_lt (N := N) (fun i hi => hl i (by omega)) (by omega) hs
      have := hl N (by omega)
      omega
theorem jlc_le {K : Nat → Nat} {N a : Nat} : jlc K N a ≤ N := jsum_01 (fun i => by split <;> omega)
theorem jlc_lt {K : Nat → Nat} {N a a' : Nat} (ha : a < N) (h : K a < K a') : jlc K N a < jlc K N a' := jsum_lt (b := a) (fun i hi => by split <;> split <;> omega) ha (by rw [if_neg (by omega), if_pos h]; omega)
theorem jlc_inj {K : Nat → Nat} {N a a' : Nat} (hK : ∀ a a', a < N → a' < N → K a = K a' → a = a') (ha : a < N) (ha' : a' < N) (h : jlc K N a = jlc K N a') : a = a' := by
  rcases Nat.lt_trichotomy (K a) (K a') with z | z | z
  · have := jlc_lt ha z
    omega
  · exact hK a a' ha ha' z
  · have := jlc_lt ha' z
    omega
theorem jof_un {K : Nat → Nat} {N a : Nat} {x : Int32} (hN : N < 1000) (hK : ∀ a a', a < N → a' < N → K a = K a' → a = a') (ha : a < N) (h : jI (jlc K N a) = x) : jof K N x = a := by
  have hlt : jof K N x < N := by
    rcases Nat.lt_or_ge (jof K N x) N with z | z
    · exact z
    · have := jfd_no (P := fun a => decide (jI (jlc K N a) = x)) (m := N) (k := 0) (j := a) (Nat.zero_le _) (Nat.lt_of_lt_of_le ha z)
      exact absurd h (of_decide_eq_false this)
  have his : jI (jlc K N (jof K N x)) = x := of_decide_eq_true (jfd_is (P := fun a => decide (jI (jlc K N a) = x)) (m := N) (k := 0) (by show jof K N x < 0 + N; omega))
  have l1 := jlc_le (K := K) (N := N) (a := a)
  have l2 := jlc_le (K := K) (N := N) (a := jof K N x)
  have := (jI_eq (by omega) (by omega)).mp (his.trans h.symm)
  exact jlc_inj hK hlt ha this
theorem jof_no {K : Nat → Nat} {N a : Nat} {x : Int32} (ha : a < N) (h : jI (jlc K N a) ≠ x) : jof K N x ≠ a := fun z => by
  have his : jI (jlc K N (jof K N x)) = x := of_decide_eq_true (jfd_is (P := fun a => decide (jI (jlc K N a) = x)) (m := N) (k := 0) (by show jof K N x < 0 + N; omega))
  rw [z] at his
  exact h his
section OR
variable {σ : jm_S} {w : Nat → Nat} {S : jSt}
theorem cOrderI {K : Nat → Nat} {N a : Nat} (h : jRn σ 305 N K) (hN : N ≤ 8) (hK : ∀ a, a < N → K a < 1000000) (ha : a < N) (x : Int32) : ∀ (m k : Nat), k + m = N → jb_Ex 78 (18, [.ref (0 : Nat), .int x, .int (jI a), .int (jI (jsum (fun b => if K b < K a then 1 else 0) k)), .int (jI k)], [], jm_hp σ) = (if jI (jlc K N a) = x then some (some (.int (jI a)), jm_hp σ) else jb_Ex 78 (2, [.ref (0 : Nat), .int x, .int (jI (a + 1)), .int (jI (jlc K N a)), .int (jI N)], [], jm_hp σ))
  | 0, k, hm => by
    obtain rfl : k = N := by omega
    have e0 : jsum (fun b => if K b < K a then 1 else 0) k = jlc K k a := rfl
    rw [e0, jt_D_inOrder_18, jR_size h, jb_K_v, jt_D_inOrder_27, if_pos (by rw [jI_le (by omega) (by omega)]; omega), jI_add]
  | m + 1, k, hm => by
    have IH := cOrderI h hN hK ha x m (k + 1) (by omega)
    have h1 := jRn_at h (show k < N by omega)
    have h2 := jRn_at h ha
    have k1 := hK k (by omega)
    have k2 := hK a ha
    have e1 : jsum (fun b => if K b < K a then 1 else 0) (k + 1) = jsum (fun b => if K b < K a then 1 else 0) k + (if K k < K a then 1 else 0) := rfl
    rw [← IH, e1, jt_D_inOrder_18]
    by_cases c : K k < K a
    · rw [if_pos c]
      simp (disch := omega) only [jb_K_n, jb_K_v, ↓reduceIte, jT_lt, jF_lt, jT_le, jF_le, jT_eq, jF_eq, jT_z, jF_z, jF_neg, jT_nn, jT_pos, jF_pos, jT_le0, jF_le0, jT_x, jF_m1, jF_m1r, jT_tt, jI_add, jI_mul, jI_sub, jI_cl, jm_up_same, jm_up_o, jm_up_j, jbR_T, jbR_F, jR_size h, jt_D_inOrder_27, h1, jt_D_inOrder_39, h2, jt_D_inOrder_47]
    · rw [if_neg c]
      simp (disch := omega) only [jb_K_n, jb_K_v, ↓reduceIte, jT_lt, jF_lt, jT_le, jF_le, jT_eq, jF_eq, jT_z, jF_z, jF_neg, jT_nn, jT_pos, jF_pos, jT_le0, jF_le0, jT_x, jF_m1, jF_m1r, jT_tt, jI_add, jI_mul, jI_sub, jI_cl, jm_up_same, jm_up_o, jm_up_j, jbR_T, jbR_F, jR_size h, jt_D_inOrder_27, h1, jt_D_inOrder_39, h2, jt_D_inOrder_47, Nat.add_zero]
theorem cOrderL {K : Nat → Nat} {N : Nat} (h : jRn σ 305 N K) (hN : N ≤ 8) (hK : ∀ a, a < N → K a < 1000000) (x : Int32) : ∀ (m a : Nat) (u3 u4 : Value), a + m = N → jb_Ex 78 (2, [.ref (0 : Nat), .int x, .int (jI a), u3, u4], [], jm_hp σ) = some (some (.int (if jfd (fun a => decide (jI (jlc K N a) = x)) m a < N then jI (jfd (fun a => decide (jI (jlc K N a) = x)) m a) else -1)), jm_hp σ)
  | 0, a, u3, u4, hm => by
    rw [if_neg (by unfold jfd; omega), jt_D_inOrder_2, jR_size h, jb_K_v, jt_D_inOrder_10, if_pos (by rw [jI_le (by omega) (by omega)]; omega)]
  | m + 1, a, u3, u4, hm => by
    have hi := cOrderI h hN hK (show a < N by omega) x N 0 (Nat.zero_add _)
    have hi' : jb_Ex 78 (18, [.ref (0 : Nat), .int x, .int (jI a), .int (jI 0), .int (jI 0)], [], jm_hp σ) = _ := hi
    rw [jt_D_inOrder_2, jR_size h, jb_K_v, jt_D_inOrder_10, if_neg (by rw [jI_le (by omega) (by omega)]; omega), hi']
    unfold jfd
    by_cases c : jI (jlc K N a) = x
    · rw [if_pos c, if_pos (decide_eq_true c), if_pos (by omega)]
    · rw [if_neg c, if_neg (show ¬ (decide (jI (jlc K N a) = x) = true) from fun z => c (of_decide_eq_true z))]
      exact cOrderL h hN hK x m (a + 1) _ _ (by omega)
theorem cOrder {K : Nat → Nat} {N : Nat} (h : jRn σ 305 N K) (hN : N ≤ 8) (hK : ∀ a, a < N → K a < 1000000) (x : Int32) : jb_Ev 78 [.ref (0 : Nat), .int x] (jm_hp σ) = some (some (.int (jor K N x)), jm_hp σ) := by
  rw [jt_D_inOrder_0]
  exact cOrderL h hN hK x N 0 _ _ (Nat.zero_add _)
/-! worn -/
def jkw (w : Nat → Nat) (b : Nat) : Nat := ((9 - w (7 + 3 * b)) * 10 + (9 - w (6 + 3 * b))) * 10 + b
theorem jkw_b (hw : jInv w) : (∀ a, a < 5 → jkw w a < 1000000) ∧ (∀ a a', a < 5 → a' < 5 → jkw w a = jkw w a' → a = a') := by
  refine ⟨fun a ha => ?_, fun a a' ha ha' h => ?_⟩
  · have := hw.1.1 a ha
    unfold jkw
    omega
  · have := hw.1.1 a ha
    have := hw.1.1 a' ha'
    unfold jkw at h
    omega
theorem cWornL (hV : jV σ 1 w) (hw : jInv w) (x : Int32) : ∀ (m k : Nat) (τ : jm_S) (u3 u4 : Value), k + m = 5 → jRn τ 305 k (jkw w) → jF 305 σ τ → ∃ τ', jb_Ex 139 (9, [.ref (0 : Nat), .int x, .int (jI k), u3, u4], [], jm_hp τ) = some (some (.int (jor (jkw w) 5 x)), jm_hp τ') ∧ jF 305 σ τ'
  | 0, k, τ, u3, u4, hm, h1, h2 => by
    obtain rfl : k = 5 := by omega
    have ho := cOrder h1 (by omega) (jkw_b hw).1 x
    refine ⟨τ, ?_, h2⟩
    rw [jt_D_worn_9]
    simp (disch := omega) only [jb_K_n, jb_K_v, ↓reduceIte, jT_lt, jF_lt, jT_le, jF_le, jT_eq, jF_eq, jT_z, jF_z, jF_neg, jT_nn, jT_pos, jF_pos, jT_le0, jF_le0, jT_x, jF_m1, jF_m1r, jT_tt, jI_add, jI_mul, jI_sub, jI_cl, jm_up_same, jm_up_o, jm_up_j, jbR_T, jbR_F, ho, jt_D_worn_81]
  | m + 1, k, τ, u3, u4, hm, h1, h2 => by
    have hB := hw.1.1 k (by omega)
    have hV' := hV.A (h2.A (a := 305) (b := 307) (by omega) (by omega)) (by omega)
    have hca : k < jm_ln (305 + 1) := by rw [show (305 : Nat) + 1 = 306 from rfl, jn_306]; omega
    have hadd := jR_add h1 hca (jI (jkw w k))
    obtain ⟨τ', g1, g2⟩ := cWornL hV hw x m (k + 1) _ (.int (jI (9 - w (7 + 3 * k)))) (.int (jI (9 - w (6 + 3 * k)))) (by omega) ((jRn_add h1 hca (jkw w k)).congr rfl (fun j hj => by
      by_cases e : j = k
      · rw [jn0_e e, e]
      · rw [jn0_o e])) (h2.tr (jF_add _ _ _))
    refine ⟨τ', ?_, g2⟩
    rw [← g1, jt_D_worn_9]
    unfold jkw at hadd
    simp (disch := omega) only [jb_K_n, jb_K_v, ↓reduceIte, jT_lt, jF_lt, jT_le, jF_le, jT_eq, jF_eq, jT_z, jF_z, jF_neg, jT_nn, jT_pos, jF_pos, jT_le0, jF_le0, jT_x, jF_m1, jF_m1r, jT_tt, jI_add, jI_mul, jI_sub, jI_cl, jm_up_same, jm_up_o, jm_up_j, jbR_T, jbR_F, hV'.bw (show k < 5 by omega), jt_D_worn_30, hV'.bd (show k < 5 by omega), jt_D_worn_48, hadd, jt_D_worn_70]
    rfl
theorem jsp : ∀ x, x < 10 → ∀ y, y < 10 → ((0 < jI x - jI y) = (y < x)) ∧ ((jI x - jI y = 0) = (x = y)) := by
  have h : ∀ x, x < 10 → ∀ y, y < 10 → ((0 < jI x - jI y) ↔ (y < x)) ∧ ((jI x - jI y = 0) ↔ (x = y)) := by decide +kernel
  exact fun x hx y hy => ⟨propext (h x hx y hy).1, propext (h x hx y hy).2⟩
theorem mWornI {a : Nat} (hA : jAr σ 308 146 w) (hw : jInv w) (ha : a < 5) (x f : Int32) : ∀ (m k : Nat) (u6 u7 : Value), k + m = 5 → ∃ v6 v7, jb_Ex 112 (15, [.ref (307 : Nat), .int x, .int f, .int (jI a), .int (jI (jsum (fun b => if jkw w b < jkw w a then 1 else 0) k)), .int (jI k), u6, u7], [], jm_hp σ) = jb_Ex 112 (4, [.ref (307 : Nat), .int x, .int (if jI (jlc (jkw w) 5 a) = x then jI a else f), .int (jI (a + 1)), .int (jI (jlc (jkw w) 5 a)), .int (jI 5), v6, v7], [], jm_hp σ)
  | 0, k, u6, u7, hm => by
    obtain rfl : k = 5 := by omega
    have e0 : jsum (fun b => if jkw w b < jkw w a then 1 else 0) 5 = jlc (jkw w) 5 a := rfl
    refine ⟨u6, u7, ?_⟩
    rw [e0, jt_M_worn_15, if_pos (by rw [jI_le (by omega) (by omega)]; omega), jI_add]
    by_cases c : jI (jlc (jkw w) 5 a) = x
    · rw [if_pos c, if_pos c]
    · rw [if_neg c, if_neg c]
  | m + 1, k, u6, u7, hm => by
    have hB := hw.1.1 k (by omega)
    have hB' := hw.1.1 a ha
    obtain ⟨v6, v7, g⟩ := mWornI hA hw ha x f m (k + 1) (.int (jI (w (7 + 3 * k)) - jI (w (7 + 3 * a)))) (.int (jI (w (6 + 3 * k)) - jI (w (6 + 3 * a)))) (by omega)
    refine ⟨v6, v7, ?_⟩
    have e1 : jsum (fun b => if jkw w b < jkw w a then 1 else 0) (k + 1) = jsum (fun b => if jkw w b < jkw w a then 1 else 0) k + (if jkw w k < jkw w a then 1 else 0) := rfl
    have a1 := hA (7 + 3 * k) (by omega)
    have a2 := hA (7 + 3 * a) (by omega)
    have a3 := hA (6 + 3 * k) (by omega)
    have a4 := hA (6 + 3 * a) (by omega)
    have e2 : 6 + 3 * k + 1 = 7 + 3 * k := by omega
    have e3 : 6 + 3 * a + 1 = 7 + 3 * a := by omega
    obtain ⟨p1, p2⟩ := jsp (w (7 + 3 * k)) (by omega) (w (7 + 3 * a)) (by omega)
    obtain ⟨p3, p4⟩ := jsp (w (6 + 3 * k)) (by omega) (w (6 + 3 * a)) (by omega)
    rw [← g, e1]
    have key : jb_Ex 112 (15, [.ref (307 : Nat), .int x, .int f, .int (jI a), .int (jI (jsum (fun b => if jkw w b < jkw w a then 1 else 0) k)), .int (jI k), u6, u7], [], jm_hp σ) = jb_Ex 112 (67, [.ref (307 : Nat), .int x, .int f, .int (jI a), .int (jI (jsum (fun b => if jkw w b < jkw w a then 1 else 0) k)), .int (jI k), .int (jI (w (7 + 3 * k)) - jI (w (7 + 3 * a))), u7], [.int (jI (6 + 3 * a)), .ref (308 : Nat), .int (jI (w (6 + 3 * k)))], jm_hp σ) := by
      have hnosub : ∀ y : Int32, y = y := fun _ => rfl
      rw [jt_M_worn_15, if_neg (by rw [jI_le (by omega) (by omega)]; omega), jt_M_bellAt_0, jb_K_v, jt_M_worn_30, jI_mul, jI_add, jI_add, e2, if_pos ((jx_I (by omega)).mpr (by omega)), jt_M_bellAt_0, jb_K_v, jt_M_worn_41, jI_mul, jI_add, jI_add, e3, if_pos ((jx_I (by omega)).mpr (by omega)), jt_M_bellAt_0, jb_K_v, jt_M_worn_56, jI_mul, jI_add, jI_add, Nat.add_zero, if_pos ((jx_I (by omega)).mpr (by omega)), jt_M_bellAt_0, jb_K_v, jI_mul, jI_add]
      simp only [jI_cl (show 7 + 3 * k < 2147483648 by omega), jI_cl (show 7 + 3 * a < 2147483648 by omega), jI_cl (show 6 + 3 * k < 2147483648 by omega), a1, a2, a3]
    rw [key, jt_M_worn_67]
    have hcl : jI (6 + 3 * a) + jI 0 = jI (6 + 3 * a) := by rw [jI_add, Nat.add_zero]
    simp only [hcl, jI_cl (show 6 + 3 * a < 2147483648 by omega), a4, p1, p2, p3, p4, jI_le (show a < 2147483648 by omega) (show k < 2147483648 by omega), jI_add]
    rw [if_pos ((jx_I (by omega)).mpr (by omega))]
    by_cases c : jkw w k < jkw w a
    · rw [if_pos c]
      unfold jkw at c
      by_cases c1 : w (7 + 3 * a) < w (7 + 3 * k)
      · rw [if_pos c1]
      · rw [if_neg c1, if_pos (by omega)]
        by_cases c2 : w (6 + 3 * a) < w (6 + 3 * k)
        · rw [if_pos c2]
        · rw [if_neg c2, if_pos (by omega), if_neg (by omega)]
    · rw [if_neg c]
      unfold jkw at c
      rw [if_neg (by omega)]
      by_cases c1 : w (7 + 3 * k) = w (7 + 3 * a)
      · rw [if_pos c1, if_neg (by omega)]
        by_cases c2 : w (6 + 3 * k) = w (6 + 3 * a)
        · rw [if_pos c2, if_pos (by omega)]
        · rw [if_neg c2]
      · rw [if_neg c1]
theorem mWornL (hA : jAr σ 308 146 w) (hw : jInv w) (x : Int32) : ∀ (m a : Nat) (u4 u5 u6 u7 : Value), a + m = 5 → jb_Ex 112 (4, [.ref (307 : Nat), .int x, .int (if jof (jkw w) 5 x < a then jI (jof (jkw w) 5 x) else -1), .int (jI a), u4, u5, u6, u7], [], jm_hp σ) = some (some (.int (jor (jkw w) 5 x)), jm_hp σ)
  | 0, a, u4, u5, u6, u7, hm => by
    obtain rfl : a = 5 := by omega
    rw [jt_M_worn_4, if_pos (by rw [jI_le (by omega) (by omega)]; omega)]
    rfl
  | m + 1, a, u4, u5, u6, u7, hm => by
    obtain ⟨v6, v7, g⟩ := mWornI hA hw (show a < 5 by omega) x (if jof (jkw w) 5 x < a then jI (jof (jkw w) 5 x) else -1) 5 0 u6 u7 (Nat.zero_add _)
    have g' : jb_Ex 112 (15, [.ref (307 : Nat), .int x, .int (if jof (jkw w) 5 x < a then jI (jof (jkw w) 5 x) else -1), .int (jI a), .int (jI 0), .int (jI 0), u6, u7], [], jm_hp σ) = _ := g
    rw [jt_M_worn_4, if_neg (by rw [jI_le (by omega) (by omega)]; omega), g']
    have hX : (if jI (jlc (jkw w) 5 a) = x then jI a else (if jof (jkw w) 5 x < a then jI (jof (jkw w) 5 x) else -1)) = (if jof (jkw w) 5 x < a + 1 then jI (jof (jkw w) 5 x) else -1) := by
      by_cases c : jI (jlc (jkw w) 5 a) = x
      · have := jof_un (by omega) (jkw_b hw).2 (show a < 5 by omega) c
        rw [if_pos c, this, if_pos (by omega)]
      · have := jof_no (show a < 5 by omega) c
        rw [if_neg c]
        by_cases z : jof (jkw w) 5 x < a
        · rw [if_pos z, if_pos (by omega)]
        · rw [if_neg z, if_neg (by omega)]
    rw [hX]
    exact mWornL hA hw x m (a + 1) _ _ _ _ (by omega)
theorem o_worn (hC : JC σ S) (hM : JM σ S) (hI : JI S) (x : Int32) : jOp σ 139 112 [.int x] := by
  have hcl : jb_Ev 13 [.ref (305 : Nat)] (jm_hp σ) = some (none, jm_hp (jm_up σ 305 1 (jI 0))) := jt_Row_clear_0 jc_305
  obtain ⟨τ', g1, g2⟩ := cWornL hC.1 hI.1 x 5 0 (jm_up σ 305 1 (jI 0)) (.retAddr 0) (.retAddr 0) (Nat.zero_add _) ⟨jc_305, Nat.zero_le _, jm_up_same _ _ _ _, fun k hk => absurd hk (Nat.not_lt_zero _)⟩ (jF_clear _)
  refine jOp_q (v := .int (jor (jkw (S 0)) 5 x)) hC hM hI ⟨τ', by simp (disch := omega) only [jb_K_n, jb_K_v, ↓reduceIte, jT_lt, jF_lt, jT_le, jF_le, jT_eq, jF_eq, jT_z, jF_z, jF_neg, jT_nn, jT_pos, jF_pos, jT_le0, jF_le0, jT_x, jF_m1, jF_m1r, jT_tt, jI_add, jI_mul, jI_sub, jI_cl, jm_up_same, jm_up_o, jm_up_j, jbR_T, jbR_F, jt_D_worn_0, hcl, jt_D_worn_7, g1], g2.cS (by omega) (by omega)⟩ (fun τ hτ => ⟨τ, ?_, jmS.rf⟩)
  have := mWornL hτ.1 hI.1 x 5 0 (.retAddr 0) (.retAddr 0) (.retAddr 0) (.retAddr 0) (Nat.zero_add _)
  rw [if_neg (Nat.not_lt_zero _)] at this
  rw [jt_M_worn_0]
  exact this
end OR
