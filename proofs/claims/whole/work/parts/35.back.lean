/-! ===== the class's count from the end back ===== -/
theorem jn_281 : jm_ln 281 = 63 := by decide +kernel
def jcap (x : Nat) : Nat := if x < 9999 then x else 9999
theorem jcap_le (x : Nat) : jcap x ≤ 9999 := by unfold jcap; split <;> omega
theorem jcap_add (a b : Nat) : (if 9999 < jcap a + jcap b then 9999 else jcap a + jcap b) = jcap (a + b) := by
  unfold jcap
  repeat' split
  all_goals omega
theorem jcap_0 {x : Nat} : jcap x = 0 ↔ x = 0 := by unfold jcap; split <;> omega
theorem jcap_1 {x : Nat} : jcap x = 1 ↔ x = 1 := by unfold jcap; split <;> omega
section BK
variable {σ : jm_S} {w f : Nat → Nat} {n r : Nat}
theorem jR_fillL {r M : Nat} (hc : jm_c r = 6) (hM : M ≤ jm_ln (r + 1)) : ∀ (m k : Nat) (τ : jm_S), k + m = M → jRn τ r k (fun _ => 0) → jF r σ τ → ∃ σ', jb_Ex 48 (7, [.ref r, .int (jI M), .int (jI 0), .int (jI k)], [], jm_hp τ) = some (none, jm_hp σ') ∧ jRn σ' r M (fun _ => 0) ∧ jF r σ σ'
  | 0, k, τ, hm, h1, h2 => by
    have := jm_ln_le (r + 1)
    obtain rfl : k = M := by omega
    refine ⟨τ, ?_, h1, h2⟩
    rw [jt_Row_fill_7 hc, if_pos (by rw [jI_le (by omega) (by omega)]; omega)]
  | m + 1, k, τ, hm, h1, h2 => by
    have := jm_ln_le (r + 1)
    obtain ⟨σ', g1, g2, g3⟩ := jR_fillL hc hM m (k + 1) _ (by omega) ((jRn_add h1 (by omega) 0).congr rfl (fun j hj => by
      by_cases e : j = k
      · rw [jn0_e e]
      · rw [jn0_o e])) (h2.tr (jF_add _ _ _))
    refine ⟨σ', ?_, g2, g3⟩
    rw [← g1, jt_Row_fill_7 hc, if_neg (by rw [jI_le (by omega) (by omega)]; omega), jR_add h1 (by omega), jb_K_n, jt_Row_fill_17 hc, jI_add]
theorem jR_fill {r M : Nat} (hc : jm_c r = 6) (hM : M ≤ jm_ln (r + 1)) : ∃ σ', jb_Ev 48 [.ref r, .int (jI M), .int (jI 0)] (jm_hp σ) = some (none, jm_hp σ') ∧ jRn σ' r M (fun _ => 0) ∧ jF r σ σ' := by
  rw [jt_Row_fill_0 hc]
  exact jR_fillL hc hM M 0 _ (Nat.zero_add _) ⟨hc, Nat.zero_le _, jm_up_same _ _ _ _, fun k hk => absurd hk (Nat.not_lt_zero _)⟩ (jF_clear _)
theorem cRaise {M k : Nat} {F : Nat → Nat} (h : jRn σ 280 M (fun c => jcap (F c))) (hk : k < M) (y : Nat) : jb_Ev 16 [.ref (280 : Nat), .int (jI k), .int (jI (jcap y)), .int (jI 9999)] (jm_hp σ) = some (none, jm_hp (jm_up σ 281 k (jI (jcap (F k + y))))) ∧ jRn (jm_up σ 281 k (jI (jcap (F k + y)))) 280 M (fun c => jcap (jn0 F k (F k + y) c)) := by
  have l1 := jcap_le (F k)
  have l2 := jcap_le y
  have e : (if jI 9999 < jI (jcap (F k)) + jI (jcap y) then jI 9999 else jI (jcap (F k)) + jI (jcap y)) = jI (jcap (F k + y)) := by
    rw [← jcap_add, jI_add]
    by_cases z : 9999 < jcap (F k) + jcap y
    · rw [if_pos z, if_pos ((jI_lt (by omega) (by omega)).mpr z)]
    · rw [if_neg z, if_neg (fun q => z ((jI_lt (by omega) (by omega)).mp q))]
  refine ⟨?_, (jRn_put h k (jcap (F k + y))).congr rfl (fun j hj => ?_)⟩
  · rw [jR_raise h hk, e]
  · by_cases z : j = k
    · rw [jn0_e z, jn0_e z]
    · rw [jn0_o z, jn0_o z]
theorem cStage {k : Nat} (hk : k ≤ 2) : jb_Ev 17 [.int (jI k)] (jm_hp σ) = some (some (.int (jI (jnk k))), jm_hp σ) := by
  unfold jnk
  rcases (show k = 0 ∨ k = 1 ∨ k = 2 by omega) with rfl | rfl | rfl
  · rw [if_pos rfl]
    simp (disch := omega) only [jb_K_n, jb_K_v, ↓reduceIte, jT_lt, jF_lt, jT_le, jF_le, jT_eq, jF_eq, jT_z, jF_z, jF_neg, jT_nn, jT_pos, jF_pos, jT_le0, jF_le0, jT_x, jF_m1, jF_m1r, jT_tt, jI_add, jI_mul, jI_sub, jI_cl, jm_up_same, jm_up_o, jm_up_j, jbR_T, jbR_F, jt_Parser_stageAfter_0]
  · rw [if_neg (by omega)]
    simp (disch := omega) only [jb_K_n, jb_K_v, ↓reduceIte, jT_lt, jF_lt, jT_le, jF_le, jT_eq, jF_eq, jT_z, jF_z, jF_neg, jT_nn, jT_pos, jF_pos, jT_le0, jF_le0, jT_x, jF_m1, jF_m1r, jT_tt, jI_add, jI_mul, jI_sub, jI_cl, jm_up_same, jm_up_o, jm_up_j, jbR_T, jbR_F, jt_Parser_stageAfter_0]
  · rw [if_neg (by omega)]
    simp (disch := omega) only [jb_K_n, jb_K_v, ↓reduceIte, jT_lt, jF_lt, jT_le, jF_le, jT_eq, jF_eq, jT_z, jF_z, jF_neg, jT_nn, jT_pos, jF_pos, jT_le0, jF_le0, jT_x, jF_m1, jF_m1r, jT_tt, jI_add, jI_mul, jI_sub, jI_cl, jm_up_same, jm_up_o, jm_up_j, jbR_T, jbR_F, jt_Parser_stageAfter_0]
theorem jnk_le (k : Nat) : jnk k ≤ 2 := by unfold jnk; split <;> omega
theorem jnk_1 (k : Nat) : 1 ≤ jnk k := by unfold jnk; split <;> omega
theorem cBehind {M i p x : Nat} {F : Nat → Nat} (hV : jV σ 1 w) (hw : jInv w) (h : jRn σ 280 M (fun c => jcap (F c))) (hi : i < w 0) (hp : p < 1000) (hx : (p + w (22 + 6 * i)) * 3 + jnk (w (21 + 6 * i)) = x) (hM : x < M) : jb_Ev 74 [.ref (279 : Nat), .ref (9 : Nat), .int (jI i), .int (jI p)] (jm_hp σ) = some (some (.int (jI (jcap (F x)))), jm_hp σ) := by
  obtain ⟨a1, a2, a3, a4, a5, a6⟩ := hw.2.1.2.1 i hi
  have hat := jRn_at h hM
  have hk := hV.kd hi
  have hs := hV.sz hi
  simp (disch := omega) only [jb_K_n, jb_K_v, ↓reduceIte, jT_lt, jF_lt, jT_le, jF_le, jT_eq, jF_eq, jT_z, jF_z, jF_neg, jT_nn, jT_pos, jF_pos, jT_le0, jF_le0, jT_x, jF_m1, jF_m1r, jT_tt, jI_add, jI_mul, jI_sub, jI_cl, jm_up_same, jm_up_o, jm_up_j, jbR_T, jbR_F, jt_Parser_waysBehind_0, jt_Parser_waysBehind_13, jt_Parser_waysBehind_22, jt_Parser_waysBehind_25, jt_Parser_waysBehind_28, jt_Parser_waysBehind_31, hs, hk, cStage a1, jt_Parser_cell_0, hx, hat]
theorem cEnds (hr : jRn σ r n f) (hf : ∀ k, k < n → f k ≤ 5) : jb_Ev 71 [.ref r] (jm_hp σ) = some (some (.int (if n = 0 ∨ f (n - 1) = 5 then jI 1 else jI 0)), jm_hp σ) := by
  have hb := jR.bd hr
  by_cases e : n = 0
  · rw [if_pos (Or.inl e)]
    simp (disch := omega) only [jb_K_n, jb_K_v, ↓reduceIte, jT_lt, jF_lt, jT_le, jF_le, jT_eq, jF_eq, jT_z, jF_z, jF_neg, jT_nn, jT_pos, jF_pos, jT_le0, jF_le0, jT_x, jF_m1, jF_m1r, jT_tt, jI_add, jI_mul, jI_sub, jI_cl, jm_up_same, jm_up_o, jm_up_j, jbR_T, jbR_F, jt_Parser_endsSilent_0 hr.1, jR_size hr, jt_Parser_endsSilent_4 hr.1]
  · have hat := jRn_at hr (show n - 1 < n by omega)
    have h5 := hf (n - 1) (by omega)
    by_cases e2 : f (n - 1) = 5
    · rw [if_pos (Or.inr e2)]
      simp (disch := omega) only [jb_K_n, jb_K_v, ↓reduceIte, jT_lt, jF_lt, jT_le, jF_le, jT_eq, jF_eq, jT_z, jF_z, jF_neg, jT_nn, jT_pos, jF_pos, jT_le0, jF_le0, jT_x, jF_m1, jF_m1r, jT_tt, jI_add, jI_mul, jI_sub, jI_cl, jm_up_same, jm_up_o, jm_up_j, jbR_T, jbR_F, jt_Parser_endsSilent_0 hr.1, jR_size hr, jt_Parser_endsSilent_4 hr.1, jt_Parser_endsSilent_12 hr.1, hat, jt_Parser_endsSilent_17 hr.1]
    · rw [if_neg (by omega)]
      simp (disch := omega) only [jb_K_n, jb_K_v, ↓reduceIte, jT_lt, jF_lt, jT_le, jF_le, jT_eq, jF_eq, jT_z, jF_z, jF_neg, jT_nn, jT_pos, jF_pos, jT_le0, jF_le0, jT_x, jF_m1, jF_m1r, jT_tt, jI_add, jI_mul, jI_sub, jI_cl, jm_up_same, jm_up_o, jm_up_j, jbR_T, jbR_F, jt_Parser_endsSilent_0 hr.1, jR_size hr, jt_Parser_endsSilent_4 hr.1, jt_Parser_endsSilent_12 hr.1, hat, jt_Parser_endsSilent_17 hr.1]
def jps (F : Nat → Nat) (a b : Nat) : Nat → Nat := jn0 (jn0 F (b * 3 + 1) (F (b * 3 + 1) + F (a * 3 + 1))) (b * 3 + 2) (F (b * 3 + 2) + F (a * 3 + 2))
theorem cPass {M a b : Nat} {F : Nat → Nat} (h : jRn σ 280 M (fun c => jcap (F c))) (ha : a * 3 + 2 < M) (hb : b * 3 + 2 < M) (hne : a ≠ b) : ∃ σ', jb_Ev 72 [.ref (279 : Nat), .int (jI a), .int (jI b)] (jm_hp σ) = some (none, jm_hp σ') ∧ jRn σ' 280 M (fun c => jcap (jps F a b c)) ∧ jA 280 282 σ σ' := by
  have hM := jR.bd h
  obtain ⟨r1, s1⟩ := cRaise h (show b * 3 + 1 < M by omega) (F (a * 3 + 1))
  have g1 := jRn_at h (show a * 3 + 1 < M by omega)
  generalize hτ : jm_up σ 281 (b * 3 + 1) (jI (jcap (F (b * 3 + 1) + F (a * 3 + 1)))) = τ at r1 s1
  obtain ⟨r2, s2⟩ := cRaise s1 (show b * 3 + 2 < M by omega) (F (a * 3 + 2))
  have g2 := jRn_at s1 (show a * 3 + 2 < M by omega)
  rw [jn0_o (by omega)] at g2 r2 s2
  refine ⟨_, ?_, s2, ?_⟩
  · rw [jt_Parser_passSilence_0, jt_Parser_passSilence_2]
    simp (disch := omega) only [jb_K_n, jb_K_v, ↓reduceIte, jT_lt, jF_lt, jT_le, jF_le, jT_eq, jF_eq, jT_z, jF_z, jF_neg, jT_nn, jT_pos, jF_pos, jT_le0, jF_le0, jT_x, jF_m1, jF_m1r, jT_tt, jI_add, jI_mul, jI_sub, jI_cl, jm_up_same, jm_up_o, jm_up_j, jbR_T, jbR_F, jt_Parser_cell_0, jt_Parser_passSilence_16, jt_Parser_passSilence_25, g1, jt_Parser_passSilence_28, r1, jt_Parser_passSilence_34]
    rw [jt_Parser_passSilence_2]
    simp (disch := omega) only [jb_K_n, jb_K_v, ↓reduceIte, jT_lt, jF_lt, jT_le, jF_le, jT_eq, jF_eq, jT_z, jF_z, jF_neg, jT_nn, jT_pos, jF_pos, jT_le0, jF_le0, jT_x, jF_m1, jF_m1r, jT_tt, jI_add, jI_mul, jI_sub, jI_cl, jm_up_same, jm_up_o, jm_up_j, jbR_T, jbR_F, jt_Parser_cell_0, jt_Parser_passSilence_16, jt_Parser_passSilence_25, g2, jt_Parser_passSilence_28, r2, jt_Parser_passSilence_34]
    rw [jt_Parser_passSilence_2]
    simp (disch := omega) only [jb_K_n, jb_K_v, ↓reduceIte, jT_lt, jF_lt, jT_le, jF_le, jT_eq, jF_eq, jT_z, jF_z, jF_neg, jT_nn, jT_pos, jF_pos, jT_le0, jF_le0, jT_x, jF_m1, jF_m1r, jT_tt, jI_add, jI_mul, jI_sub, jI_cl, jm_up_same, jm_up_o, jm_up_j, jbR_T, jbR_F]
  · rw [← hτ]
    exact jA_ups (jA_up (by omega) (by omega)) (by omega) (by omega)
/-- the cells at a place, some words in -/
def jBk (w : Nat → Nat) (n : Nat) (f : Nat → Nat) (t i c : Nat) : Nat := if (t + 1) * 3 ≤ c then jW w n f (c / 3) (c % 3) else if t * 3 ≤ c then jsum (jg w n f t (c - t * 3)) i else 0
def jBo (w : Nat → Nat) (n : Nat) (f : Nat → Nat) (m c : Nat) : Nat := if m * 3 ≤ c then jW w n f (c / 3) (c % 3) else 0
theorem cBackI {t : Nat} (hV : jV σ 1 w) (hw : jInv w) (hr : jRn σ r n f) (hr2 : r + 1 < 280 ∨ 282 ≤ r) (hf : ∀ k, k < n → f k ≤ 5) (hn : n ≤ 20) (ht : t < n) : ∀ (m i : Nat) (τ : jm_S) (u6 : Value), i + m = w 0 → jRn τ 280 ((n + 1) * 3) (fun c => jcap (jBk w n f t i c)) → jA 280 282 σ τ → ∃ τ' v5 v6, jb_Ex 134 (76, [.ref (279 : Nat), .ref (9 : Nat), .ref r, .int (jI n), .int (jI t), .int (jI i), u6], [], jm_hp τ) = jb_Ex 134 (45, [.ref (279 : Nat), .ref (9 : Nat), .ref r, .int (jI n), .int (jI t + -1), v5, v6], [], jm_hp τ') ∧ jRn τ' 280 ((n + 1) * 3) (fun c => jcap (jBk w n f t (w 0) c)) ∧ jA 280 282 σ τ'
  | 0, i, τ, u6, hm, h, hA => by
    have b0 := hw.b0
    obtain rfl : i = w 0 := by omega
    have hkn := (hV.A hA (by omega)).kn
    refine ⟨τ, .int (jI (w 0)), u6, ?_, h, hA⟩
    rw [jt_Parser_countBackward_76 hr.1, hkn, jb_K_v, jt_Parser_countBackward_85 hr.1, if_pos (by rw [jI_le (by omega) (by omega)]; omega)]
  | m + 1, i, τ, u6, hm, h, hA => by
    have b0 := hw.b0
    have hV' := hV.A hA (by omega)
    have hr' := hr.A hA hr2
    have hkn := hV'.kn
    obtain ⟨a1, a2, a3, a4, a5, a6⟩ := hw.2.1.2.1 i (by omega)
    have hst := cBook_stands hV' hw hr' hf (show i < w 0 by omega) (show t < 10000 by omega)
    by_cases e : jst w n f i t = true
    · rw [jB_t e] at hst
      obtain ⟨-, -, -, n4⟩ := jst_ne hw (show i < w 0 by omega) e
      have l1 := jnk_le (w (21 + 6 * i))
      have hbh := cBehind hV' hw h (show i < w 0 by omega) (show t < 1000 by omega) rfl (by omega)
      have eW : jBk w n f t i ((t + w (22 + 6 * i)) * 3 + jnk (w (21 + 6 * i))) = jW w n f (t + w (22 + 6 * i)) (jnk (w (21 + 6 * i))) := by
        unfold jBk
        rw [if_pos (by omega), show ((t + w (22 + 6 * i)) * 3 + jnk (w (21 + 6 * i))) / 3 = t + w (22 + 6 * i) by omega, show ((t + w (22 + 6 * i)) * 3 + jnk (w (21 + 6 * i))) % 3 = jnk (w (21 + 6 * i)) by omega]
      rw [eW] at hbh
      obtain ⟨r1, s1⟩ := cRaise h (show t * 3 + w (21 + 6 * i) < (n + 1) * 3 by omega) (jW w n f (t + w (22 + 6 * i)) (jnk (w (21 + 6 * i))))
      obtain ⟨τ', v5, v6, g1, g2, g3⟩ := cBackI hV hw hr hr2 hf hn ht m (i + 1) _ (.int (jI (t * 3 + w (21 + 6 * i)))) (by omega) (s1.congr rfl (fun c hc => by
        congr 1
        by_cases z : c = t * 3 + w (21 + 6 * i)
        · rw [jn0_e z, z]
          unfold jBk
          rw [if_neg (by omega), if_pos (by omega), if_neg (by omega), if_pos (by omega), Nat.add_sub_cancel_left]
          show _ = jsum _ i + jg _ _ _ _ _ i
          unfold jg
          rw [if_pos ⟨rfl, e⟩]
        · rw [jn0_o z]
          unfold jBk
          by_cases z1 : (t + 1) * 3 ≤ c
          · rw [if_pos z1, if_pos z1]
          · rw [if_neg z1, if_neg z1]
            by_cases z2 : t * 3 ≤ c
            · rw [if_pos z2, if_pos z2]
              show _ = jsum _ i + jg _ _ _ _ _ i
              have : jg w n f t (c - t * 3) i = 0 := if_neg (fun q => z (by omega))
              rw [this, Nat.add_zero]
            · rw [if_neg z2, if_neg z2])) (jA_ups hA (by omega) (by omega))
      refine ⟨τ', v5, v6, ?_, g2, g3⟩
      rw [← g1, jt_Parser_countBackward_76 hr.1]
      simp (disch := omega) only [jb_K_n, jb_K_v, ↓reduceIte, jT_lt, jF_lt, jT_le, jF_le, jT_eq, jF_eq, jT_z, jF_z, jF_neg, jT_nn, jT_pos, jF_pos, jT_le0, jF_le0, jT_x, jF_m1, jF_m1r, jT_tt, jI_add, jI_mul, jI_sub, jI_cl, jm_up_same, jm_up_o, jm_up_j, jbR_T, jbR_F, hkn, jt_Parser_countBackward_85 hr.1, hst, jt_Parser_countBackward_97 hr.1, hV'.kd (show i < w 0 by omega), jt_Parser_countBackward_111 hr.1, jt_Parser_cell_0, jt_Parser_countBackward_114 hr.1, hbh, jt_Parser_countBackward_131 hr.1, r1, jt_Parser_countBackward_137 hr.1]
    · have e' : jst w n f i t = false := Bool.not_eq_true _ |>.mp e
      rw [jB_f e'] at hst
      obtain ⟨τ', v5, v6, g1, g2, g3⟩ := cBackI hV hw hr hr2 hf hn ht m (i + 1) τ u6 (by omega) (h.congr rfl (fun c hc => by
        congr 1
        unfold jBk
        by_cases z1 : (t + 1) * 3 ≤ c
        · rw [if_pos z1, if_pos z1]
        · rw [if_neg z1, if_neg z1]
          by_cases z2 : t * 3 ≤ c
          · rw [if_pos z2, if_pos z2]
            show _ = jsum _ i + jg _ _ _ _ _ i
            have : jg w n f t (c - t * 3) i = 0 := if_neg (fun q => e q.2)
            rw [this, Nat.add_zero]
          · rw [if_neg z2, if_neg z2])) hA
      refine ⟨τ', v5, v6, ?_, g2, g3⟩
      rw [← g1, jt_Parser_countBackward_76 hr.1]
      simp (disch := omega) only [jb_K_n, jb_K_v, ↓reduceIte, jT_lt, jF_lt, jT_le, jF_le, jT_eq, jF_eq, jT_z, jF_z, jF_neg, jT_nn, jT_pos, jF_pos, jT_le0, jF_le0, jT_x, jF_m1, jF_m1r, jT_tt, jI_add, jI_mul, jI_sub, jI_cl, jm_up_same, jm_up_o, jm_up_j, jbR_T, jbR_F, hkn, jt_Parser_countBackward_85 hr.1, hst, jt_Parser_countBackward_97 hr.1, jt_Parser_countBackward_137 hr.1]
theorem cBackO (hV : jV σ 1 w) (hw : jInv w) (hr : jRn σ r n f) (hr2 : r + 1 < 280 ∨ 282 ≤ r) (hf : ∀ k, k < n → f k ≤ 5) (hn : n ≤ 20) : ∀ (m : Nat) (τ : jm_S) (u5 u6 : Value), m ≤ n → jRn τ 280 ((n + 1) * 3) (fun c => jcap (jBo w n f m c)) → jA 280 282 σ τ → ∃ τ', jb_Ex 134 (45, [.ref (279 : Nat), .ref (9 : Nat), .ref r, .int (jI n), .int (jI m + -1), u5, u6], [], jm_hp τ) = some (some (.int (jI (jcap (jW w n f 0 0)))), jm_hp τ') ∧ jRn τ' 280 ((n + 1) * 3) (fun c => jcap (jW w n f (c / 3) (c % 3))) ∧ jA 280 282 σ τ'
  | 0, τ, u5, u6, hm, h, hA => by
    have hat := jRn_at h (show 0 < (n + 1) * 3 by omega)
    have e0 : jBo w n f 0 0 = jW w n f 0 0 := if_pos (by omega)
    rw [e0] at hat
    refine ⟨τ, ?_, h.congr rfl (fun c hc => by unfold jBo; rw [if_pos (by omega)]), hA⟩
    have hneg : (jI 0 + (-1 : Int32)) < 0 := by decide
    simp (disch := omega) only [jb_K_n, jb_K_v, ↓reduceIte, jT_lt, jF_lt, jT_le, jF_le, jT_eq, jF_eq, jT_z, jF_z, jF_neg, jT_nn, jT_pos, jF_pos, jT_le0, jF_le0, jT_x, jF_m1, jF_m1r, jT_tt, jI_add, jI_mul, jI_sub, jI_cl, jm_up_same, jm_up_o, jm_up_j, jbR_T, jbR_F, jt_Parser_countBackward_45 hr.1, hneg, jt_Parser_cell_0, jt_Parser_countBackward_158 hr.1, hat, jt_Parser_countBackward_161 hr.1]
  | m + 1, τ, u5, u6, hm, h, hA => by
    have hV' := hV.A hA (by omega)
    have hr' := hr.A hA hr2
    have hat := jRn_at hr' (show m < n by omega)
    have h5 := hf m (by omega)
    have ed : jI (m + 1) + (-1 : Int32) = jI m := jI_dec (by omega)
    have dv : ∀ c, m * 3 ≤ c → c < (m + 1) * 3 → c / 3 = m ∧ c % 3 = c - m * 3 := fun c z1 z2 => by omega
    by_cases e : f m = 5
    · obtain ⟨υ, p1, p2, p3⟩ := cPass h (show (m + 1) * 3 + 2 < (n + 1) * 3 by omega) (show m * 3 + 2 < (n + 1) * 3 by omega) (by omega)
      obtain ⟨τ', g1, g2, g3⟩ := cBackO hV hw hr hr2 hf hn m υ u5 u6 (by omega) (p2.congr rfl (fun c hc => by
        congr 1
        have o1 : ∀ k, k < 3 → jBo w n f (m + 1) ((m + 1) * 3 + k) = jW w n f (m + 1) k := fun k hk => by
          unfold jBo
          rw [if_pos (by omega), show ((m + 1) * 3 + k) / 3 = m + 1 by omega, show ((m + 1) * 3 + k) % 3 = k by omega]
        have o0 : ∀ k, k < 3 → jBo w n f (m + 1) (m * 3 + k) = 0 := fun k hk => by
          unfold jBo
          rw [if_neg (by omega)]
        unfold jps
        rw [o1 1 (by omega), o1 2 (by omega), o0 1 (by omega), o0 2 (by omega), Nat.zero_add, Nat.zero_add]
        by_cases z2 : c = m * 3 + 2
        · rw [jn0_e z2, z2]
          unfold jBo
          rw [if_pos (by omega), show (m * 3 + 2) / 3 = m by omega, show (m * 3 + 2) % 3 = 2 by omega, jW_sil (by omega) e, if_neg (by omega)]
        · rw [jn0_o z2]
          by_cases z1 : c = m * 3 + 1
          · rw [jn0_e z1, z1]
            unfold jBo
            rw [if_pos (by omega), show (m * 3 + 1) / 3 = m by omega, show (m * 3 + 1) % 3 = 1 by omega, jW_sil (by omega) e, if_neg (by omega)]
          · rw [jn0_o z1]
            unfold jBo
            by_cases z0 : c = m * 3
            · rw [if_neg (by omega), if_pos (by omega), z0, show m * 3 / 3 = m by omega, show m * 3 % 3 = 0 by omega, jW_sil (by omega) e, if_pos rfl]
            · by_cases z3 : (m + 1) * 3 ≤ c
              · rw [if_pos z3, if_pos (by omega)]
              · rw [if_neg z3, if_neg (by omega)])) (hA.tr p3)
      refine ⟨τ', ?_, g2, g3⟩
      rw [e] at hat
      rw [← g1, ed]
      simp (disch := omega) only [jb_K_n, jb_K_v, ↓reduceIte, jT_lt, jF_lt, jT_le, jF_le, jT_eq, jF_eq, jT_z, jF_z, jF_neg, jT_nn, jT_pos, jF_pos, jT_le0, jF_le0, jT_x, jF_m1, jF_m1r, jT_tt, jI_add, jI_mul, jI_sub, jI_cl, jm_up_same, jm_up_o, jm_up_j, jbR_T, jbR_F, jt_Parser_countBackward_45 hr.1, hat, jt_Parser_countBackward_56 hr.1, p1, jt_Parser_countBackward_70 hr.1]
    · obtain ⟨υ, v5, v6, p1, p2, p3⟩ := cBackI hV hw hr hr2 hf hn (show m < n by omega) (w 0) 0 τ u6 (Nat.zero_add _) (h.congr rfl (fun c hc => by
        congr 1
        unfold jBo jBk
        by_cases z3 : (m + 1) * 3 ≤ c
        · rw [if_pos z3, if_pos z3]
        · rw [if_neg z3, if_neg z3]
          split <;> rfl)) hA
      obtain ⟨τ', g1, g2, g3⟩ := cBackO hV hw hr hr2 hf hn m υ v5 v6 (by omega) (p2.congr rfl (fun c hc => by
        congr 1
        unfold jBo jBk
        by_cases z3 : (m + 1) * 3 ≤ c
        · rw [if_pos z3, if_pos (by omega)]
        · rw [if_neg z3]
          by_cases z4 : m * 3 ≤ c
          · obtain ⟨d1, d2⟩ := dv c z4 (by omega)
            rw [if_pos z4, if_pos z4, d1, d2, jW_wd hw (by omega) e]
          · rw [if_neg z4, if_neg z4])) p3
      refine ⟨τ', ?_, g2, g3⟩
      rw [← g1, ← p1, ed]
      simp (disch := omega) only [jb_K_n, jb_K_v, ↓reduceIte, jT_lt, jF_lt, jT_le, jF_le, jT_eq, jF_eq, jT_z, jF_z, jF_neg, jT_nn, jT_pos, jF_pos, jT_le0, jF_le0, jT_x, jF_m1, jF_m1r, jT_tt, jI_add, jI_mul, jI_sub, jI_cl, jm_up_same, jm_up_o, jm_up_j, jbR_T, jbR_F, jt_Parser_countBackward_45 hr.1, hat, jt_Parser_countBackward_56 hr.1]
theorem cBack (hV : jV σ 1 w) (hw : jInv w) (hr : jRn σ r n f) (hr2 : r + 1 < 280 ∨ 282 ≤ r) (hf : ∀ k, k < n → f k ≤ 5) (hn : n ≤ 20) : ∃ σ', jb_Ev 134 [.ref (279 : Nat), .ref (9 : Nat), .ref r] (jm_hp σ) = some (some (.int (jI (jcap (jP w n f)))), jm_hp σ') ∧ jA 280 282 σ σ' ∧ (¬ (n = 0 ∨ f (n - 1) = 5) → jRn σ' 280 ((n + 1) * 3) (fun c => jcap (jW w n f (c / 3) (c % 3)))) := by
  have hen := cEnds hr hf
  by_cases e : n = 0 ∨ f (n - 1) = 5
  · refine ⟨σ, ?_, jA.rf, fun z => absurd e z⟩
    unfold jP
    rw [if_pos e] at hen ⊢
    rw [show jcap 0 = 0 from rfl]
    simp (disch := omega) only [jb_K_n, jb_K_v, ↓reduceIte, jT_lt, jF_lt, jT_le, jF_le, jT_eq, jF_eq, jT_z, jF_z, jF_neg, jT_nn, jT_pos, jF_pos, jT_le0, jF_le0, jT_x, jF_m1, jF_m1r, jT_tt, jI_add, jI_mul, jI_sub, jI_cl, jm_up_same, jm_up_o, jm_up_j, jbR_T, jbR_F, jt_Parser_countBackward_0 hr.1, jR_size hr, jt_Parser_countBackward_4 hr.1, hen, jt_Parser_countBackward_9 hr.1]
  · obtain ⟨τ, p1, p2, p3⟩ := jR_fill (σ := σ) (r := 280) (M := (n + 1) * 3) jc_280 (by rw [show (280 : Nat) + 1 = 281 from rfl, jn_281]; omega)
    have hput := jR_put p2 (show n * 3 + 2 < (n + 1) * 3 by omega) (jI 1)
    have pA : jA 280 282 σ τ := p3.A (by omega) (by omega)
    have s1 := jRn_put p2 (n * 3 + 2) 1
    obtain ⟨υ, g1, g2, g3⟩ := cBackO hV hw hr hr2 hf hn n (jm_up τ 281 (n * 3 + 2) (jI 1)) (.retAddr 0) (.retAddr 0) (Nat.le_refl _) (s1.congr rfl (fun c hc => by
      unfold jBo
      by_cases z : c = n * 3 + 2
      · rw [jn0_e z, if_pos (by omega), z, show (n * 3 + 2) / 3 = n by omega, show (n * 3 + 2) % 3 = 2 by omega, jW_end]
        rfl
      · rw [jn0_o z]
        by_cases z2 : n * 3 ≤ c
        · rw [if_pos z2, show c / 3 = n by omega, jW_end, if_neg (by omega)]
          rfl
        · rw [if_neg z2]
          rfl)) (jA_ups pA (by omega) (by omega))
    refine ⟨υ, ?_, g3, fun _ => g2⟩
    unfold jP
    rw [if_neg e] at hen ⊢
    have ed : jI n + (-1 : Int32) = jI n - jI 1 := by
      rw [jI_dec (by omega), jI_sub (by omega)]
    rw [ed] at g1
    rw [jI_sub (by omega)] at g1
    simp (disch := omega) only [jb_K_n, jb_K_v, ↓reduceIte, jT_lt, jF_lt, jT_le, jF_le, jT_eq, jF_eq, jT_z, jF_z, jF_neg, jT_nn, jT_pos, jF_pos, jT_le0, jF_le0, jT_x, jF_m1, jF_m1r, jT_tt, jI_add, jI_mul, jI_sub, jI_cl, jm_up_same, jm_up_o, jm_up_j, jbR_T, jbR_F, jt_Parser_countBackward_0 hr.1, jR_size hr, jt_Parser_countBackward_4 hr.1, hen, jt_Parser_countBackward_9 hr.1, p1, jt_Parser_countBackward_27 hr.1, jt_Parser_cell_0, jt_Parser_countBackward_36 hr.1, hput, jt_Parser_countBackward_40 hr.1, g1]
end BK
