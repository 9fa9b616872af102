/-! ===== the class's count from the beginning on ===== -/
section FW
variable {σ : jm_S} {w f : Nat → Nat} {n r : Nat}
/-- what is still to be had, from the cells of a place on -/
def jph (w : Nat → Nat) (n : Nat) (f : Nat → Nat) (t : Nat) (F : Nat → Nat) : Nat := jsum (fun c => if t * 3 ≤ c then F c * jW w n f (c / 3) (c % 3) else 0) ((n + 1) * 3)
theorem jph_up {t a y : Nat} {F : Nat → Nat} (h : t * 3 ≤ a) (h2 : a < (n + 1) * 3) : jph w n f t (jn0 F a (F a + y)) = jph w n f t F + y * jW w n f (a / 3) (a % 3) := by
  unfold jph
  rw [← jsum_up h2]
  refine jsum_congr (fun c hc => ?_)
  by_cases z : c = a
  · subst z
    rw [jn0_s, jn0_s, if_pos h, if_pos h, Nat.add_mul]
  · rw [jn0_o z, jn0_o z]
theorem jph_step {t : Nat} {F : Nat → Nat} (h : t ≤ n) : jph w n f t F = jph w n f (t + 1) F + (F (t * 3) * jW w n f t 0 + F (t * 3 + 1) * jW w n f t 1 + F (t * 3 + 2) * jW w n f t 2) := by
  have e0 : t * 3 / 3 = t ∧ t * 3 % 3 = 0 := by omega
  have e1 : (t * 3 + 1) / 3 = t ∧ (t * 3 + 1) % 3 = 1 := by omega
  have e2 : (t * 3 + 2) / 3 = t ∧ (t * 3 + 2) % 3 = 2 := by omega
  have key : jph w n f t F = jsum (jn0 (jn0 (jn0 (fun c => if (t + 1) * 3 ≤ c then F c * jW w n f (c / 3) (c % 3) else 0) (t * 3) (0 + F (t * 3) * jW w n f t 0)) (t * 3 + 1) (0 + F (t * 3 + 1) * jW w n f t 1)) (t * 3 + 2) (0 + F (t * 3 + 2) * jW w n f t 2)) ((n + 1) * 3) := by
    unfold jph
    refine jsum_congr (fun c hc => ?_)
    by_cases z2 : c = t * 3 + 2
    · rw [jn0_e z2, if_pos (by omega), z2, e2.1, e2.2, Nat.zero_add]
    · rw [jn0_o z2]
      by_cases z1 : c = t * 3 + 1
      · rw [jn0_e z1, if_pos (by omega), z1, e1.1, e1.2, Nat.zero_add]
      · rw [jn0_o z1]
        by_cases z0 : c = t * 3
        · rw [jn0_e z0, if_pos (by omega), z0, e0.1, e0.2, Nat.zero_add]
        · rw [jn0_o z0]
          by_cases z3 : (t + 1) * 3 ≤ c
          · rw [if_pos z3, if_pos (by omega)]
          · rw [if_neg z3, if_neg (by omega)]
  rw [key]
  have hj : jph w n f (t + 1) F = jsum (fun c => if (t + 1) * 3 ≤ c then F c * jW w n f (c / 3) (c % 3) else 0) ((n + 1) * 3) := rfl
  rw [hj]
  have g0 : ∀ c, c < (t + 1) * 3 → (fun c => if (t + 1) * 3 ≤ c then F c * jW w n f (c / 3) (c % 3) else 0) c = 0 := fun c hc => if_neg (by omega)
  generalize (fun c => if (t + 1) * 3 ≤ c then F c * jW w n f (c / 3) (c % 3) else 0) = G at g0
  have s0 := jsum_up (f := G) (a := t * 3) (x := F (t * 3) * jW w n f t 0) (n := (n + 1) * 3) (by omega)
  rw [g0 _ (by omega)] at s0
  have s1 := jsum_up (f := jn0 G (t * 3) (0 + F (t * 3) * jW w n f t 0)) (a := t * 3 + 1) (x := F (t * 3 + 1) * jW w n f t 1) (n := (n + 1) * 3) (by omega)
  rw [jn0_o (j := t * 3 + 1) (by omega), g0 _ (by omega)] at s1
  have s2 := jsum_up (f := jn0 (jn0 G (t * 3) (0 + F (t * 3) * jW w n f t 0)) (t * 3 + 1) (0 + F (t * 3 + 1) * jW w n f t 1)) (a := t * 3 + 2) (x := F (t * 3 + 2) * jW w n f t 2) (n := (n + 1) * 3) (by omega)
  rw [jn0_o (j := t * 3 + 2) (by omega), jn0_o (j := t * 3 + 2) (by omega), g0 _ (by omega)] at s2
  rw [s2, s1, s0]
  omega
theorem jph_end {F : Nat → Nat} : jph w n f n F = F (n * 3 + 2) := by
  rw [jph_step (Nat.le_refl _), jW_end, jW_end, jW_end, if_neg (by omega), if_neg (by omega), if_pos rfl, Nat.mul_zero, Nat.mul_zero, Nat.mul_one]
  have : jph w n f (n + 1) F = 0 := jsum_z (fun c hc => if_neg (by omega))
  rw [this]
  omega
theorem jph_words (hw : jInv w) {t : Nat} {G : Nat → Nat} : ∀ {N : Nat}, N ≤ w 0 → jsum (fun i => if jst w n f i t = true then G (t * 3 + w (21 + 6 * i)) * jW w n f (t + w (22 + 6 * i)) (jnk (w (21 + 6 * i))) else 0) N = G (t * 3) * jsum (jg w n f t 0) N + G (t * 3 + 1) * jsum (jg w n f t 1) N + G (t * 3 + 2) * jsum (jg w n f t 2) N
  | 0, _ => rfl
  | N + 1, h => by
    have IH := jph_words hw (t := t) (G := G) (N := N) (by omega)
    obtain ⟨a1, -⟩ := hw.2.1.2.1 N (by omega)
    have e1 : ∀ k, jsum (jg w n f t k) (N + 1) = jsum (jg w n f t k) N + jg w n f t k N := fun _ => rfl
    rw [e1, e1, e1, Nat.mul_add, Nat.mul_add, Nat.mul_add]
    show jsum _ N + (if jst w n f N t = true then G (t * 3 + w (21 + 6 * N)) * jW w n f (t + w (22 + 6 * N)) (jnk (w (21 + 6 * N))) else 0) = _
    rw [IH]
    by_cases e : jst w n f N t = true
    · rw [if_pos e]
      have y : ∀ k, w (21 + 6 * N) = k → jg w n f t k N = jW w n f (t + w (22 + 6 * N)) (jnk k) := fun k h => if_pos ⟨h, e⟩
      have x : ∀ k, w (21 + 6 * N) ≠ k → jg w n f t k N = 0 := fun k h => if_neg (fun z => h z.1)
      rcases (show w (21 + 6 * N) = 0 ∨ w (21 + 6 * N) = 1 ∨ w (21 + 6 * N) = 2 by omega) with z | z | z
      · rw [y 0 z, x 1 (by omega), x 2 (by omega), z, Nat.add_zero (t * 3), Nat.mul_zero, Nat.mul_zero]
        omega
      · rw [x 0 (by omega), y 1 z, x 2 (by omega), z, Nat.mul_zero, Nat.mul_zero]
        omega
      · rw [x 0 (by omega), x 1 (by omega), y 2 z, z, Nat.mul_zero, Nat.mul_zero]
        omega
    · have x : ∀ k, jg w n f t k N = 0 := fun k => if_neg (fun z => e z.2)
      rw [if_neg e, x, x, x, Nat.mul_zero, Nat.mul_zero, Nat.mul_zero]
      omega
theorem cForwI {t : Nat} {F0 : Nat → Nat} (hV : jV σ 1 w) (hw : jInv w) (hr : jRn σ r n f) (hr2 : r + 1 < 280 ∨ 282 ≤ r) (hf : ∀ k, k < n → f k ≤ 5) (hn : n ≤ 20) (ht : t < n) : ∀ (m i : Nat) (τ : jm_S) (u6 u7 : Value) (F : Nat → Nat), i + m = w 0 → jRn τ 280 ((n + 1) * 3) (fun c => jcap (F c)) → jA 280 282 σ τ → (∀ c, c < (t + 1) * 3 → F c = F0 c) → jph w n f (t + 1) F = jph w n f (t + 1) F0 + jsum (fun i => if jst w n f i t = true then F0 (t * 3 + w (21 + 6 * i)) * jW w n f (t + w (22 + 6 * i)) (jnk (w (21 + 6 * i))) else 0) i → ∃ τ' v5 v6 v7 F', jb_Ex 136 (75, [.ref (279 : Nat), .ref (9 : Nat), .ref r, .int (jI n), .int (jI t), .int (jI i), u6, u7], [], jm_hp τ) = jb_Ex 136 (43, [.ref (279 : Nat), .ref (9 : Nat), .ref r, .int (jI n), .int (jI (t + 1)), v5, v6, v7], [], jm_hp τ') ∧ jRn τ' 280 ((n + 1) * 3) (fun c => jcap (F' c)) ∧ jA 280 282 σ τ' ∧ jph w n f (t + 1) F' = jph w n f (t + 1) F0 + jsum (fun i => if jst w n f i t = true then F0 (t * 3 + w (21 + 6 * i)) * jW w n f (t + w (22 + 6 * i)) (jnk (w (21 + 6 * i))) else 0) (w 0)
  | 0, i, τ, u6, u7, F, hm, h, hA, hF, hP => by
    have b0 := hw.b0
    obtain rfl : i = w 0 := by omega
    have hkn := (hV.A hA (by omega)).kn
    refine ⟨τ, .int (jI (w 0)), u6, u7, F, ?_, h, hA, hP⟩
    rw [jt_Parser_countForward_75 hr.1, hkn, jb_K_v, jt_Parser_countForward_84 hr.1, if_pos (by rw [jI_le (by omega) (by omega)]; omega), jI_add]
  | m + 1, i, τ, u6, u7, F, hm, h, hA, hF, hP => by
    have b0 := hw.b0
    have hV' := hV.A hA (by omega)
    have hr' := hr.A hA hr2
    have hkn := hV'.kn
    obtain ⟨a1, a2, a3, a4, a5, a6⟩ := hw.2.1.2.1 i (by omega)
    have hst := cBook_stands hV' hw hr' hf (show i < w 0 by omega) (show t < 10000 by omega)
    by_cases e : jst w n f i t = true
    · rw [jB_t e] at hst
      obtain ⟨-, -, -, n4⟩ := jst_ne hw (show i < w 0 by omega) e
      have l1 := jnk_le (w (21 + 6 * i))
      have hat := jRn_at h (show t * 3 + w (21 + 6 * i) < (n + 1) * 3 by omega)
      obtain ⟨r1, s1⟩ := cRaise h (show (t + w (22 + 6 * i)) * 3 + jnk (w (21 + 6 * i)) < (n + 1) * 3 by omega) (F (t * 3 + w (21 + 6 * i)))
      obtain ⟨τ', v5, v6, v7, F', g1, g2⟩ := cForwI (F0 := F0) hV hw hr hr2 hf hn ht m (i + 1) _ (.int (jI (w (21 + 6 * i)))) (.int (jI ((t + w (22 + 6 * i)) * 3 + jnk (w (21 + 6 * i))))) _ (by omega) s1 (jA_ups hA (by omega) (by omega)) (fun c hc => by rw [jn0_o (by omega)]; exact hF c hc) (by
        rw [jph_up (by omega) (by omega), hP, hF _ (by omega), show ((t + w (22 + 6 * i)) * 3 + jnk (w (21 + 6 * i))) / 3 = t + w (22 + 6 * i) by omega, show ((t + w (22 + 6 * i)) * 3 + jnk (w (21 + 6 * i))) % 3 = jnk (w (21 + 6 * i)) by omega]
        show _ = _ + (jsum _ i + (if jst w n f i t = true then F0 (t * 3 + w (21 + 6 * i)) * jW w n f (t + w (22 + 6 * i)) (jnk (w (21 + 6 * i))) else 0))
        rw [if_pos e]
        omega)
      refine ⟨τ', v5, v6, v7, F', ?_, g2⟩
      rw [← g1, jt_Parser_countForward_75 hr.1]
      simp (disch := omega) only [jb_K_n, jb_K_v, ↓reduceIte, jT_lt, jF_lt, jT_le, jF_le, jT_eq, jF_eq, jT_z, jF_z, jF_neg, jT_nn, jT_pos, jF_pos, jT_le0, jF_le0, jT_x, jF_m1, jF_m1r, jT_tt, jI_add, jI_mul, jI_sub, jI_cl, jm_up_same, jm_up_o, jm_up_j, jbR_T, jbR_F, hkn, jt_Parser_countForward_84 hr.1, hst, jt_Parser_countForward_96 hr.1, hV'.kd (show i < w 0 by omega), jt_Parser_countForward_108 hr.1, hV'.sz (show i < w 0 by omega), jt_Parser_countForward_121 hr.1, cStage a1, jt_Parser_countForward_127 hr.1, jt_Parser_cell_0, jt_Parser_countForward_130 hr.1, jt_Parser_countForward_149 hr.1, hat, jt_Parser_countForward_152 hr.1, r1, jt_Parser_countForward_158 hr.1]
    · have e' : jst w n f i t = false := Bool.not_eq_true _ |>.mp e
      rw [jB_f e'] at hst
      obtain ⟨τ', v5, v6, v7, F', g1, g2⟩ := cForwI (F0 := F0) hV hw hr hr2 hf hn ht m (i + 1) τ u6 u7 F (by omega) h hA hF (by
        rw [hP]
        show _ = _ + (jsum _ i + (if jst w n f i t = true then F0 (t * 3 + w (21 + 6 * i)) * jW w n f (t + w (22 + 6 * i)) (jnk (w (21 + 6 * i))) else 0))
        rw [if_neg e]
        rfl)
      refine ⟨τ', v5, v6, v7, F', ?_, g2⟩
      rw [← g1, jt_Parser_countForward_75 hr.1]
      simp (disch := omega) only [jb_K_n, jb_K_v, ↓reduceIte, jT_lt, jF_lt, jT_le, jF_le, jT_eq, jF_eq, jT_z, jF_z, jF_neg, jT_nn, jT_pos, jF_pos, jT_le0, jF_le0, jT_x, jF_m1, jF_m1r, jT_tt, jI_add, jI_mul, jI_sub, jI_cl, jm_up_same, jm_up_o, jm_up_j, jbR_T, jbR_F, hkn, jt_Parser_countForward_84 hr.1, hst, jt_Parser_countForward_96 hr.1, jt_Parser_countForward_158 hr.1]
theorem cForwO (hV : jV σ 1 w) (hw : jInv w) (hr : jRn σ r n f) (hr2 : r + 1 < 280 ∨ 282 ≤ r) (hf : ∀ k, k < n → f k ≤ 5) (hn : n ≤ 20) {X : Nat} : ∀ (m t : Nat) (τ : jm_S) (u5 u6 u7 : Value) (F : Nat → Nat), t + m = n → jRn τ 280 ((n + 1) * 3) (fun c => jcap (F c)) → jA 280 282 σ τ → jph w n f t F = X → ∃ τ', jb_Ex 136 (43, [.ref (279 : Nat), .ref (9 : Nat), .ref r, .int (jI n), .int (jI t), u5, u6, u7], [], jm_hp τ) = some (some (.int (jI (jcap X))), jm_hp τ') ∧ jA 280 282 σ τ'
  | 0, t, τ, u5, u6, u7, F, hm, h, hA, hP => by
    obtain rfl : t = n := by omega
    have hat := jRn_at h (show t * 3 + 2 < (t + 1) * 3 by omega)
    rw [jph_end] at hP
    rw [hP] at hat
    refine ⟨τ, ?_, hA⟩
    simp (disch := omega) only [jb_K_n, jb_K_v, ↓reduceIte, jT_lt, jF_lt, jT_le, jF_le, jT_eq, jF_eq, jT_z, jF_z, jF_neg, jT_nn, jT_pos, jF_pos, jT_le0, jF_le0, jT_x, jF_m1, jF_m1r, jT_tt, jI_add, jI_mul, jI_sub, jI_cl, jm_up_same, jm_up_o, jm_up_j, jbR_T, jbR_F, jt_Parser_countForward_43 hr.1, jt_Parser_cell_0, jt_Parser_countForward_179 hr.1, hat, jt_Parser_countForward_182 hr.1]
  | m + 1, t, τ, u5, u6, u7, F, hm, h, hA, hP => by
    have hr' := hr.A hA hr2
    have hat := jRn_at hr' (show t < n by omega)
    have h5 := hf t (by omega)
    rw [jph_step (by omega)] at hP
    by_cases e : f t = 5
    · obtain ⟨υ, p1, p2, p3⟩ := cPass h (show t * 3 + 2 < (n + 1) * 3 by omega) (show (t + 1) * 3 + 2 < (n + 1) * 3 by omega) (by omega)
      obtain ⟨τ', g1, g2⟩ := cForwO hV hw hr hr2 hf hn (X := X) m (t + 1) υ u5 u6 u7 _ (by omega) p2 (hA.tr p3) (by
        unfold jps
        have q1 : F ((t + 1) * 3 + 2) + F (t * 3 + 2) = jn0 F ((t + 1) * 3 + 1) (F ((t + 1) * 3 + 1) + F (t * 3 + 1)) ((t + 1) * 3 + 2) + F (t * 3 + 2) := by rw [jn0_o (by omega)]
        rw [q1, jph_up (by omega) (by omega), jph_up (by omega) (by omega), ← hP, jW_sil (show t < n by omega) e, jW_sil (show t < n by omega) e, jW_sil (show t < n by omega) e, if_pos rfl, if_neg (by omega), if_neg (by omega), show ((t + 1) * 3 + 1) / 3 = t + 1 by omega, show ((t + 1) * 3 + 1) % 3 = 1 by omega, show ((t + 1) * 3 + 2) / 3 = t + 1 by omega, show ((t + 1) * 3 + 2) % 3 = 2 by omega, Nat.mul_zero]
        omega)
      refine ⟨τ', ?_, g2⟩
      rw [e] at hat
      rw [← g1]
      simp (disch := omega) only [jb_K_n, jb_K_v, ↓reduceIte, jT_lt, jF_lt, jT_le, jF_le, jT_eq, jF_eq, jT_z, jF_z, jF_neg, jT_nn, jT_pos, jF_pos, jT_le0, jF_le0, jT_x, jF_m1, jF_m1r, jT_tt, jI_add, jI_mul, jI_sub, jI_cl, jm_up_same, jm_up_o, jm_up_j, jbR_T, jbR_F, jt_Parser_countForward_43 hr.1, hat, jt_Parser_countForward_55 hr.1, p1, jt_Parser_countForward_69 hr.1]
    · obtain ⟨υ, v5, v6, v7, F', p1, p2, p3, p4⟩ := cForwI (F0 := F) hV hw hr hr2 hf hn (show t < n by omega) (w 0) 0 τ u6 u7 F (Nat.zero_add _) h hA (fun _ _ => rfl) rfl
      obtain ⟨τ', g1, g2⟩ := cForwO hV hw hr hr2 hf hn (X := X) m (t + 1) υ v5 v6 v7 F' (by omega) p2 p3 (by
        rw [p4, jph_words hw (Nat.le_refl _), ← hP, jW_wd hw (show t < n by omega) e, jW_wd hw (show t < n by omega) e, jW_wd hw (show t < n by omega) e])
      refine ⟨τ', ?_, g2⟩
      rw [← g1, ← p1]
      simp (disch := omega) only [jb_K_n, jb_K_v, ↓reduceIte, jT_lt, jF_lt, jT_le, jF_le, jT_eq, jF_eq, jT_z, jF_z, jF_neg, jT_nn, jT_pos, jF_pos, jT_le0, jF_le0, jT_x, jF_m1, jF_m1r, jT_tt, jI_add, jI_mul, jI_sub, jI_cl, jm_up_same, jm_up_o, jm_up_j, jbR_T, jbR_F, jt_Parser_countForward_43 hr.1, hat, jt_Parser_countForward_55 hr.1]
theorem cForw (hV : jV σ 1 w) (hw : jInv w) (hr : jRn σ r n f) (hr2 : r + 1 < 280 ∨ 282 ≤ r) (hf : ∀ k, k < n → f k ≤ 5) (hn : n ≤ 20) : ∃ σ', jb_Ev 136 [.ref (279 : Nat), .ref (9 : Nat), .ref r] (jm_hp σ) = some (some (.int (jI (jcap (jP w n f)))), jm_hp σ') ∧ jA 280 282 σ σ' := by
  have hen := cEnds hr hf
  by_cases e : n = 0 ∨ f (n - 1) = 5
  · refine ⟨σ, ?_, jA.rf⟩
    unfold jP
    rw [if_pos e] at hen ⊢
    rw [show jcap 0 = 0 from rfl]
    simp (disch := omega) only [jb_K_n, jb_K_v, ↓reduceIte, jT_lt, jF_lt, jT_le, jF_le, jT_eq, jF_eq, jT_z, jF_z, jF_neg, jT_nn, jT_pos, jF_pos, jT_le0, jF_le0, jT_x, jF_m1, jF_m1r, jT_tt, jI_add, jI_mul, jI_sub, jI_cl, jm_up_same, jm_up_o, jm_up_j, jbR_T, jbR_F, jt_Parser_countForward_0 hr.1, jR_size hr, jt_Parser_countForward_4 hr.1, hen, jt_Parser_countForward_9 hr.1]
  · obtain ⟨τ, p1, p2, p3⟩ := jR_fill (σ := σ) (r := 280) (M := (n + 1) * 3) jc_280 (by rw [show (280 : Nat) + 1 = 281 from rfl, jn_281]; omega)
    have hput := jR_put p2 (show 0 < (n + 1) * 3 by omega) (jI 1)
    have pA : jA 280 282 σ τ := p3.A (by omega) (by omega)
    have s1 := jRn_put p2 0 1
    obtain ⟨υ, g1, g2⟩ := cForwO hV hw hr hr2 hf hn (X := jW w n f 0 0) n 0 (jm_up τ 281 0 (jI 1)) (.retAddr 0) (.retAddr 0) (.retAddr 0) (jn0 (fun _ => 0) 0 ((fun _ => 0) 0 + 1)) (Nat.zero_add _) (s1.congr rfl (fun c hc => by
      by_cases z : c = 0
      · rw [jn0_e z]
        rfl
      · rw [jn0_o z]
        rfl)) (jA_ups pA (by omega) (by omega)) (by
      rw [jph_up (by omega) (by omega), Nat.one_mul]
      have : jph w n f 0 (fun _ => 0) = 0 := jsum_z (fun c hc => by split <;> simp)
      rw [this, Nat.zero_add])
    refine ⟨υ, ?_, g2⟩
    unfold jP
    rw [if_neg e] at hen ⊢
    simp (disch := omega) only [jb_K_n, jb_K_v, ↓reduceIte, jT_lt, jF_lt, jT_le, jF_le, jT_eq, jF_eq, jT_z, jF_z, jF_neg, jT_nn, jT_pos, jF_pos, jT_le0, jF_le0, jT_x, jF_m1, jF_m1r, jT_tt, jI_add, jI_mul, jI_sub, jI_cl, jm_up_same, jm_up_o, jm_up_j, jbR_T, jbR_F, jt_Parser_countForward_0 hr.1, jR_size hr, jt_Parser_countForward_4 hr.1, hen, jt_Parser_countForward_9 hr.1, p1, jt_Parser_countForward_27 hr.1, jt_Parser_cell_0, jt_Parser_countForward_36 hr.1, Nat.zero_mul, hput, jt_Parser_countForward_40 hr.1, g1]
end FW
