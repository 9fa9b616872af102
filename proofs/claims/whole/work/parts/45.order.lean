/-! ===== ranked, listed ===== -/
section OR
variable {σ : jm_S} {w : Nat → Nat} {S : jSt}
noncomputable def jkr (w : Nat → Nat) (s : Nat) : Nat := ((5 - jun w s (w 2)) * 10 + w (70 + 2 * s)) * 10 + s
theorem jkr_b (hw : jInv w) : (∀ a, a < w 1 → jkr w a < 1000000) ∧ (∀ a a', a < w 1 → a' < w 1 → jkr w a = jkr w a' → a = a') := by
  have b1 := hw.b1
  refine ⟨fun a ha => ?_, fun a a' ha ha' h => ?_⟩
  · have := hw.2.2.1.2 a ha
    unfold jkr
    omega
  · have := hw.2.2.1.2 a ha
    have := hw.2.2.1.2 a' ha'
    unfold jkr at h
    omega
theorem cRankL (hw : jInv w) (x : Int32) : ∀ (m k : Nat) (τ : jm_S) (u3 : Value), k + m = w 1 → jV τ 1 w → jRn τ 305 k (jkr w) → ∃ τ', jb_Ex 238 (9, [.ref (0 : Nat), .int x, .int (jI k), u3], [], jm_hp τ) = some (some (.int (jor (jkr w) (w 1) x)), jm_hp τ') ∧ jcS τ τ'
  | 0, k, τ, u3, hm, hV, h1 => by
    have b1 := hw.b1
    obtain rfl : k = w 1 := by omega
    have ho := cOrder h1 (by omega) (jkr_b hw).1 x
    refine ⟨τ, ?_, jcS.rf⟩
    rw [jt_D_ranked_9]
    simp (disch := omega) only [jb_K_n, jb_K_v, ↓reduceIte, jT_lt, jF_lt, jT_le, jF_le, jT_eq, jF_eq, jT_z, jF_z, jF_neg, jT_nn, jT_pos, jF_pos, jT_le0, jF_le0, jT_x, jF_m1, jF_m1r, jT_tt, jI_add, jI_mul, jI_sub, jI_cl, jm_up_same, jm_up_o, jm_up_j, jbR_T, jbR_F, hV.wn, jt_D_ranked_23, ho, jt_D_ranked_76]
  | m + 1, k, τ, u3, hm, hV, h1 => by
    have b1 := hw.b1
    have b2 := hw.b2
    have hB := hw.2.2.1.2 k (by omega)
    have hu := jun_le (w := w) (s := k) (n := w 2)
    obtain ⟨τ1, e1, f1⟩ := cUnder hV hw (show k < w 1 by omega)
    have h1' := h1.k (P := fun q => 279 ≤ q ∧ q < 282 ∨ 297 ≤ q ∧ q < 305) f1 (by omega) (by omega)
    have hV' := hV.cS f1.s (by omega)
    have hca : k < jm_ln (305 + 1) := by rw [show (305 : Nat) + 1 = 306 from rfl, jn_306]; omega
    have hadd := jR_add h1' hca (jI (jkr w k))
    have hF := jF_add (r := 305) (σ := τ1) k (jI (jkr w k)) (jI (k + 1))
    have hn := (jRn_add h1' hca (jkr w k)).congr (g := jkr w) rfl (fun j hj => by
      by_cases e : j = k
      · rw [jn0_e e, e]
      · rw [jn0_o e])
    generalize jm_up (jm_up τ1 (305 + 1) k (jI (jkr w k))) 305 1 (jI (k + 1)) = υ at hadd hF hn
    obtain ⟨τ', g1, g2⟩ := cRankL hw x m (k + 1) υ (.int (jI (5 - jun w k (w 2)))) (by omega) (hV'.A (hF.A (a := 305) (b := 307) (by omega) (by omega)) (by omega)) hn
    refine ⟨τ', ?_, (f1.s.tr (hF.cS (by omega) (by omega))).tr g2⟩
    rw [← g1, jt_D_ranked_9]
    unfold jkr at hadd
    simp (disch := omega) only [jb_K_n, jb_K_v, ↓reduceIte, jT_lt, jF_lt, jT_le, jF_le, jT_eq, jF_eq, jT_z, jF_z, jF_neg, jT_nn, jT_pos, jF_pos, jT_le0, jF_le0, jT_x, jF_m1, jF_m1r, jT_tt, jI_add, jI_mul, jI_sub, jI_cl, jm_up_same, jm_up_o, jm_up_j, jbR_T, jbR_F, hV.wn, jt_D_ranked_23, e1, jt_D_ranked_32, hV'.wr (show k < w 1 by omega), jt_D_ranked_56, hadd, jt_D_ranked_65]
theorem mRankI {a : Nat} (hw : jInv w) (ha : a < w 1) (x f : Int32) : ∀ (m k : Nat) (τ : jm_S) (u6 u7 : Value), k + m = w 1 → jAr τ 308 146 w → ∃ τ' v6 v7, jb_Ex 246 (20, [.ref (307 : Nat), .int x, .int f, .int (jI a), .int (jI (jsum (fun b => if jkr w b < jkr w a then 1 else 0) k)), .int (jI k), u6, u7], [], jm_hp τ) = jb_Ex 246 (4, [.ref (307 : Nat), .int x, .int (if jI (jlc (jkr w) (w 1) a) = x then jI a else f), .int (jI (a + 1)), .int (jI (jlc (jkr w) (w 1) a)), .int (jI (w 1)), v6, v7], [], jm_hp τ') ∧ jmS τ τ'
  | 0, k, τ, u6, u7, hm, hA => by
    have b1 := hw.b1
    have h0 := hA 1 (by omega)
    obtain rfl : k = w 1 := by omega
    have e0 : jsum (fun b => if jkr w b < jkr w a then 1 else 0) (w 1) = jlc (jkr w) (w 1) a := rfl
    refine ⟨τ, u6, u7, ?_, jmS.rf⟩
    rw [e0, jt_M_ranked_20]
    by_cases c : jI (jlc (jkr w) (w 1) a) = x
    · rw [if_pos c]
      simp (disch := omega) only [jb_K_n, jb_K_v, ↓reduceIte, jT_lt, jF_lt, jT_le, jF_le, jT_eq, jF_eq, jT_z, jF_z, jF_neg, jT_nn, jT_pos, jF_pos, jT_le0, jF_le0, jT_x, jF_m1, jF_m1r, jT_tt, jI_add, jI_mul, jI_sub, jI_cl, jm_up_same, jm_up_o, jm_up_j, jbR_T, jbR_F, h0, c]
    · rw [if_neg c]
      simp (disch := omega) only [jb_K_n, jb_K_v, ↓reduceIte, jT_lt, jF_lt, jT_le, jF_le, jT_eq, jF_eq, jT_z, jF_z, jF_neg, jT_nn, jT_pos, jF_pos, jT_le0, jF_le0, jT_x, jF_m1, jF_m1r, jT_tt, jI_add, jI_mul, jI_sub, jI_cl, jm_up_same, jm_up_o, jm_up_j, jbR_T, jbR_F, h0, c]
  | m + 1, k, τ, u6, u7, hm, hA => by
    have b1 := hw.b1
    have b2 := hw.b2
    have hB := hw.2.2.1.2 k (by omega)
    have hB' := hw.2.2.1.2 a ha
    have hu := jun_le (w := w) (s := k) (n := w 2)
    have hu' := jun_le (w := w) (s := a) (n := w 2)
    have h0 := hA 1 (by omega)
    obtain ⟨τ1, d1, f1⟩ := mUnder hA hw (show k < w 1 by omega)
    obtain ⟨τ2, d2, f2⟩ := mUnder (hA.mS f1) hw ha
    have hA2 := (hA.mS f1).mS f2
    obtain ⟨τ', v6, v7, g, g2⟩ := mRankI hw ha x f m (k + 1) τ2 (.int (jI (jun w k (w 2)) - jI (jun w a (w 2)))) (.int (jI (w (70 + 2 * a)) - jI (w (70 + 2 * k)))) (by omega) hA2
    refine ⟨τ', v6, v7, ?_, (f1.tr f2).tr g2⟩
    have e1 : jsum (fun b => if jkr w b < jkr w a then 1 else 0) (k + 1) = jsum (fun b => if jkr w b < jkr w a then 1 else 0) k + (if jkr w k < jkr w a then 1 else 0) := rfl
    have a3 := hA2 (70 + 2 * k) (by omega)
    have a4 := hA2 (70 + 2 * a) (by omega)
    have e2 : 69 + 2 * k + 1 = 70 + 2 * k := by omega
    have e3 : 69 + 2 * a + 1 = 70 + 2 * a := by omega
    obtain ⟨p1, p2⟩ := jsp (jun w k (w 2)) (by omega) (jun w a (w 2)) (by omega)
    obtain ⟨p3, p4⟩ := jsp (w (70 + 2 * a)) (by omega) (w (70 + 2 * k)) (by omega)
    rw [← g, e1]
    have key : jb_Ex 246 (20, [.ref (307 : Nat), .int x, .int f, .int (jI a), .int (jI (jsum (fun b => if jkr w b < jkr w a then 1 else 0) k)), .int (jI k), u6, u7], [], jm_hp τ) = jb_Ex 246 (65, [.ref (307 : Nat), .int x, .int f, .int (jI a), .int (jI (jsum (fun b => if jkr w b < jkr w a then 1 else 0) k)), .int (jI k), .int (jI (jun w k (w 2)) - jI (jun w a (w 2))), u7], [.int (jI (69 + 2 * k)), .ref (308 : Nat), .int (jI (w (70 + 2 * a)))], jm_hp τ2) := by
      rw [jt_M_ranked_20, if_pos ((jx_I (by omega)).mpr (by omega))]
      simp only [jI_cl (show 1 < 2147483648 by omega), h0]
      rw [if_neg (by rw [jI_le (by omega) (by omega)]; omega), d1, jb_K_v, jt_M_ranked_37, d2, jb_K_v, jt_M_ranked_42, jt_M_swimmerAt_0, jb_K_v, jt_M_ranked_53, jI_mul, jI_add, jI_add, e3, if_pos ((jx_I (by omega)).mpr (by omega)), jt_M_swimmerAt_0, jb_K_v, jI_mul, jI_add]
      simp only [jI_cl (show 70 + 2 * a < 2147483648 by omega), a4]
    rw [key, jt_M_ranked_65]
    have hcl : jI (69 + 2 * k) + jI 1 = jI (70 + 2 * k) := by rw [jI_add, e2]
    simp only [hcl, jI_cl (show 70 + 2 * k < 2147483648 by omega), a3, p1, p2, p3, p4, jI_le (show a < 2147483648 by omega) (show k < 2147483648 by omega), jI_add]
    rw [if_pos ((jx_I (by omega)).mpr (by omega))]
    by_cases c : jkr w k < jkr w a
    · rw [if_pos c]
      unfold jkr at c
      by_cases c1 : jun w a (w 2) < jun w k (w 2)
      · rw [if_pos c1]
      · rw [if_neg c1, if_pos (by omega)]
        by_cases c2 : w (70 + 2 * k) < w (70 + 2 * a)
        · rw [if_pos c2]
        · rw [if_neg c2, if_pos (by omega), if_neg (by omega)]
    · rw [if_neg c]
      unfold jkr at c
      rw [if_neg (by omega)]
      by_cases c1 : jun w k (w 2) = jun w a (w 2)
      · rw [if_pos c1, if_neg (by omega)]
        by_cases c2 : w (70 + 2 * a) = w (70 + 2 * k)
        · rw [if_pos c2, if_pos (by omega)]
        · rw [if_neg c2]
      · rw [if_neg c1]
theorem mRankL (hw : jInv w) (x : Int32) : ∀ (m a : Nat) (τ : jm_S) (u4 u5 u6 u7 : Value), a + m = w 1 → jAr τ 308 146 w → ∃ τ', jb_Ex 246 (4, [.ref (307 : Nat), .int x, .int (if jof (jkr w) (w 1) x < a then jI (jof (jkr w) (w 1) x) else -1), .int (jI a), u4, u5, u6, u7], [], jm_hp τ) = some (some (.int (jor (jkr w) (w 1) x)), jm_hp τ') ∧ jmS τ τ'
  | 0, a, τ, u4, u5, u6, u7, hm, hA => by
    have b1 := hw.b1
    have h0 := hA 1 (by omega)
    obtain rfl : a = w 1 := by omega
    refine ⟨τ, ?_, jmS.rf⟩
    rw [jt_M_ranked_4]
    simp (disch := omega) only [jb_K_n, jb_K_v, ↓reduceIte, jT_lt, jF_lt, jT_le, jF_le, jT_eq, jF_eq, jT_z, jF_z, jF_neg, jT_nn, jT_pos, jF_pos, jT_le0, jF_le0, jT_x, jF_m1, jF_m1r, jT_tt, jI_add, jI_mul, jI_sub, jI_cl, jm_up_same, jm_up_o, jm_up_j, jbR_T, jbR_F, h0]
    rfl
  | m + 1, a, τ, u4, u5, u6, u7, hm, hA => by
    have b1 := hw.b1
    have h0 := hA 1 (by omega)
    obtain ⟨τ1, v6, v7, g, f1⟩ := mRankI hw (show a < w 1 by omega) x (if jof (jkr w) (w 1) x < a then jI (jof (jkr w) (w 1) x) else -1) (w 1) 0 τ u6 u7 (Nat.zero_add _) hA
    have g' : jb_Ex 246 (20, [.ref (307 : Nat), .int x, .int (if jof (jkr w) (w 1) x < a then jI (jof (jkr w) (w 1) x) else -1), .int (jI a), .int (jI 0), .int (jI 0), u6, u7], [], jm_hp τ) = _ := g
    have hX : (if jI (jlc (jkr w) (w 1) a) = x then jI a else (if jof (jkr w) (w 1) x < a then jI (jof (jkr w) (w 1) x) else -1)) = (if jof (jkr w) (w 1) x < a + 1 then jI (jof (jkr w) (w 1) x) else -1) := by
      by_cases c : jI (jlc (jkr w) (w 1) a) = x
      · have := jof_un (by omega) (jkr_b hw).2 (show a < w 1 by omega) c
        rw [if_pos c, this, if_pos (by omega)]
      · have := jof_no (show a < w 1 by omega) c
        rw [if_neg c]
        by_cases z : jof (jkr w) (w 1) x < a
        · rw [if_pos z, if_pos (by omega)]
        · rw [if_neg z, if_neg (by omega)]
    rw [hX] at g'
    obtain ⟨τ2, k1, k2⟩ := mRankL hw x m (a + 1) τ1 (.int (jI (jlc (jkr w) (w 1) a))) (.int (jI (w 1))) v6 v7 (by omega) (hA.mS f1)
    refine ⟨τ2, ?_, f1.tr k2⟩
    rw [← k1, ← g', jt_M_ranked_4, if_pos ((jx_I (by omega)).mpr (by omega))]
    simp only [jI_cl (show 1 < 2147483648 by omega), h0]
    rw [if_neg (by rw [jI_le (by omega) (by omega)]; omega)]
theorem o_ranked (hC : JC σ S) (hM : JM σ S) (hI : JI S) (x : Int32) : jOp σ 238 246 [.int x] := by
  have hcl : jb_Ev 13 [.ref (305 : Nat)] (jm_hp σ) = some (none, jm_hp (jm_up σ 305 1 (jI 0))) := jt_Row_clear_0 jc_305
  have f0 : jF 305 σ (jm_up σ 305 1 (jI 0)) := jF_clear _
  obtain ⟨τ', g1, g2⟩ := cRankL hI.1 x (S 0 1) 0 (jm_up σ 305 1 (jI 0)) (.retAddr 0) (Nat.zero_add _) (hC.1.A (f0.A (a := 305) (b := 307) (by omega) (by omega)) (by omega)) ⟨jc_305, Nat.zero_le _, jm_up_same _ _ _ _, fun k hk => absurd hk (Nat.not_lt_zero _)⟩
  refine jOp_q (v := .int (jor (jkr (S 0)) (S 0 1) x)) hC hM hI ⟨τ', by simp (disch := omega) only [jb_K_n, jb_K_v, ↓reduceIte, jT_lt, jF_lt, jT_le, jF_le, jT_eq, jF_eq, jT_z, jF_z, jF_neg, jT_nn, jT_pos, jF_pos, jT_le0, jF_le0, jT_x, jF_m1, jF_m1r, jT_tt, jI_add, jI_mul, jI_sub, jI_cl, jm_up_same, jm_up_o, jm_up_j, jbR_T, jbR_F, jt_D_ranked_0, hcl, jt_D_ranked_7, g1], (f0.cS (by omega) (by omega)).tr g2⟩ (fun τ hτ => ?_)
  obtain ⟨τ1, k1, k2⟩ := mRankL hI.1 x (S 0 1) 0 τ (.retAddr 0) (.retAddr 0) (.retAddr 0) (.retAddr 0) (Nat.zero_add _) hτ.1
  rw [if_neg (Nat.not_lt_zero _)] at k1
  exact ⟨τ1, by rw [jt_M_ranked_0]; exact k1, k2⟩
/-! listed -/
def jkl (w : Nat → Nat) (i : Nat) : Nat := jspl w i * 10 + i
def jal (w : Nat → Nat) (i : Nat) : Nat := 7 * (7 * (7 * (7 * 0 + jdg w i 0) + jdg w i 1) + jdg w i 2) + jdg w i 3
theorem jdg_7 (hw : jInv w) {i : Nat} (hi : i < w 0) (k : Nat) : jdg w i k < 7 := by
  obtain ⟨a1, a2, a3, a4, a5, a6⟩ := hw.2.1.2.1 i hi
  unfold jdg
  by_cases e : k < w (22 + 6 * i)
  · have := a4 k e
    rw [if_pos e]
    split <;> omega
  · rw [if_neg e]
    omega
theorem jal_lt (hw : jInv w) {i j : Nat} (hi : i < w 0) (hj : j < w 0) : (jal w i < jal w j) = (jkl w i < jkl w j) := by
  have b0 := hw.b0
  have i0 := jdg_7 hw hi 0
  have i1 := jdg_7 hw hi 1
  have i2 := jdg_7 hw hi 2
  have i3 := jdg_7 hw hi 3
  have j0 := jdg_7 hw hj 0
  have j1 := jdg_7 hw hj 1
  have j2 := jdg_7 hw hj 2
  have j3 := jdg_7 hw hj 3
  have key : jal w i < jal w j ↔ jspl w i < jspl w j := by
    unfold jal jspl
    omega
  have heq : jspl w i = jspl w j → i = j := hw.2.1.2.2 i j hi hj
  apply propext
  rw [key]
  unfold jkl
  constructor
  · intro h
    omega
  · intro h
    by_cases e : jspl w i = jspl w j
    · have := heq e
      subst this
      omega
    · omega
theorem jkl_b (hw : jInv w) : (∀ a, a < w 0 → jkl w a < 1000000) ∧ (∀ a a', a < w 0 → a' < w 0 → jkl w a = jkl w a' → a = a') := by
  have b0 := hw.b0
  refine ⟨fun a ha => ?_, fun a a' ha ha' h => ?_⟩
  · have i0 := jdg_7 hw ha 0
    have i1 := jdg_7 hw ha 1
    have i2 := jdg_7 hw ha 2
    have i3 := jdg_7 hw ha 3
    unfold jkl jspl
    omega
  · unfold jkl at h
    omega
theorem cListL (hw : jInv w) (x : Int32) : ∀ (m k : Nat) (τ : jm_S), k + m = w 0 → jV τ 1 w → jRn τ 305 k (jkl w) → ∃ τ', jb_Ex 140 (9, [.ref (0 : Nat), .int x, .int (jI k)], [], jm_hp τ) = some (some (.int (jor (jkl w) (w 0) x)), jm_hp τ') ∧ jcS τ τ'
  | 0, k, τ, hm, hV, h1 => by
    have b0 := hw.b0
    obtain rfl : k = w 0 := by omega
    have ho := cOrder h1 (by omega) (jkl_b hw).1 x
    refine ⟨τ, ?_, jcS.rf⟩
    rw [jt_D_listed_9]
    simp (disch := omega) only [jb_K_n, jb_K_v, ↓reduceIte, jT_lt, jF_lt, jT_le, jF_le, jT_eq, jF_eq, jT_z, jF_z, jF_neg, jT_nn, jT_pos, jF_pos, jT_le0, jF_le0, jT_x, jF_m1, jF_m1r, jT_tt, jI_add, jI_mul, jI_sub, jI_cl, jm_up_same, jm_up_o, jm_up_j, jbR_T, jbR_F, hV.kn, jt_D_listed_23, ho, jt_D_listed_63]
  | m + 1, k, τ, hm, hV, h1 => by
    have b0 := hw.b0
    have hca : k < jm_ln (305 + 1) := by rw [show (305 : Nat) + 1 = 306 from rfl, jn_306]; omega
    have hadd := jR_add h1 hca (jI (jkl w k))
    have hF := jF_add (r := 305) (σ := τ) k (jI (jkl w k)) (jI (k + 1))
    have hn := (jRn_add h1 hca (jkl w k)).congr (g := jkl w) rfl (fun j hj => by
      by_cases e : j = k
      · rw [jn0_e e, e]
      · rw [jn0_o e])
    generalize jm_up (jm_up τ (305 + 1) k (jI (jkl w k))) 305 1 (jI (k + 1)) = υ at hadd hF hn
    obtain ⟨τ', g1, g2⟩ := cListL hw x m (k + 1) υ (by omega) (hV.A (hF.A (a := 305) (b := 307) (by omega) (by omega)) (by omega)) hn
    refine ⟨τ', ?_, (hF.cS (by omega) (by omega)).tr g2⟩
    rw [← g1, jt_D_listed_9]
    unfold jkl at hadd
    simp (disch := omega) only [jb_K_n, jb_K_v, ↓reduceIte, jT_lt, jF_lt, jT_le, jF_le, jT_eq, jF_eq, jT_z, jF_z, jF_neg, jT_nn, jT_pos, jF_pos, jT_le0, jF_le0, jT_x, jF_m1, jF_m1r, jT_tt, jI_add, jI_mul, jI_sub, jI_cl, jm_up_same, jm_up_o, jm_up_j, jbR_T, jbR_F, hV.kn, jt_D_listed_23, hV.sp (show k < w 0 by omega), jt_D_listed_44, hadd, jt_D_listed_52]
theorem mAlph1 {i n k : Nat} (hA : jAr σ 308 146 w) (hw : jInv w) (hi : i < w 0) (hk : k < 4) (u4 : Value) : ∃ v4, jb_Ex 113 (4, [.ref (307 : Nat), .int (jI i), .int (jI n), .int (jI k), u4], [], jm_hp σ) = jb_Ex 113 (4, [.ref (307 : Nat), .int (jI i), .int (jI (7 * n + jdg w i k)), .int (jI (k + 1)), v4], [], jm_hp σ) := by
  have b0 := hw.b0
  obtain ⟨a1, a2, a3, a4, a5, a6⟩ := hw.2.1.2.1 i hi
  have h1 := hA (22 + 6 * i) (by omega)
  have e1 : 21 + 6 * i + 1 = 22 + 6 * i := by omega
  have e2 : 21 + 6 * i + 2 + k = 23 + 6 * i + k := by omega
  unfold jdg
  by_cases c : k < w (22 + 6 * i)
  · have h5 := a4 k c
    have h2 := hA (23 + 6 * i + k) (by omega)
    rw [if_pos c]
    refine ⟨.int (jI (w (23 + 6 * i + k))), ?_⟩
    rw [jt_M_alphabetOf_4]
    by_cases c2 : w (23 + 6 * i + k) = 5
    · rw [if_pos c2]
      rw [c2] at h2 ⊢
      simp (disch := omega) only [jb_K_n, jb_K_v, ↓reduceIte, jT_lt, jF_lt, jT_le, jF_le, jT_eq, jF_eq, jT_z, jF_z, jF_neg, jT_nn, jT_pos, jF_pos, jT_le0, jF_le0, jT_x, jF_m1, jF_m1r, jT_tt, jI_add, jI_mul, jI_sub, jI_cl, jm_up_same, jm_up_o, jm_up_j, jbR_T, jbR_F, jt_M_wordAt_0, jt_M_alphabetOf_18, e1, h1, jt_M_alphabetOf_32, e2, h2]
    · rw [if_neg c2]
      simp (disch := omega) only [jb_K_n, jb_K_v, ↓reduceIte, jT_lt, jF_lt, jT_le, jF_le, jT_eq, jF_eq, jT_z, jF_z, jF_neg, jT_nn, jT_pos, jF_pos, jT_le0, jF_le0, jT_x, jF_m1, jF_m1r, jT_tt, jI_add, jI_mul, jI_sub, jI_cl, jm_up_same, jm_up_o, jm_up_j, jbR_T, jbR_F, jt_M_wordAt_0, jt_M_alphabetOf_18, e1, h1, jt_M_alphabetOf_32, e2, h2]
  · rw [if_neg c]
    refine ⟨.int (-1), ?_⟩
    rw [jt_M_alphabetOf_4]
    simp (disch := omega) only [jb_K_n, jb_K_v, ↓reduceIte, jT_lt, jF_lt, jT_le, jF_le, jT_eq, jF_eq, jT_z, jF_z, jF_neg, jT_nn, jT_pos, jF_pos, jT_le0, jF_le0, jT_x, jF_m1, jF_m1r, jT_tt, jI_add, jI_mul, jI_sub, jI_cl, jm_up_same, jm_up_o, jm_up_j, jbR_T, jbR_F, jt_M_wordAt_0, jt_M_alphabetOf_18, e1, h1]
theorem mAlph {i : Nat} (hA : jAr σ 308 146 w) (hw : jInv w) (hi : i < w 0) : jb_Ev 113 [.ref (307 : Nat), .int (jI i)] (jm_hp σ) = some (some (.int (jI (jal w i))), jm_hp σ) := by
  obtain ⟨v1, g1⟩ := mAlph1 (n := 0) hA hw hi (show 0 < 4 by omega) (.retAddr 0)
  obtain ⟨v2, g2⟩ := mAlph1 (n := 7 * 0 + jdg w i 0) hA hw hi (show 1 < 4 by omega) v1
  obtain ⟨v3, g3⟩ := mAlph1 (n := 7 * (7 * 0 + jdg w i 0) + jdg w i 1) hA hw hi (show 2 < 4 by omega) v2
  obtain ⟨v4, g4⟩ := mAlph1 (n := 7 * (7 * (7 * 0 + jdg w i 0) + jdg w i 1) + jdg w i 2) hA hw hi (show 3 < 4 by omega) v3
  rw [jt_M_alphabetOf_0, g1, g2, g3, g4, jt_M_alphabetOf_4, if_pos (by rw [jI_le (by omega) (by omega)]; omega)]
  rfl
theorem jal_b (hw : jInv w) {i : Nat} (hi : i < w 0) : jal w i < 1000000 := by
  have i0 := jdg_7 hw hi 0
  have i1 := jdg_7 hw hi 1
  have i2 := jdg_7 hw hi 2
  have i3 := jdg_7 hw hi 3
  unfold jal
  omega
theorem mListI {a : Nat} (hA : jAr σ 308 146 w) (hw : jInv w) (ha : a < w 0) (x f : Int32) : ∀ (m k : Nat), k + m = w 0 → jb_Ex 158 (20, [.ref (307 : Nat), .int x, .int f, .int (jI a), .int (jI (jsum (fun b => if jkl w b < jkl w a then 1 else 0) k)), .int (jI k)], [], jm_hp σ) = jb_Ex 158 (4, [.ref (307 : Nat), .int x, .int (if jI (jlc (jkl w) (w 0) a) = x then jI a else f), .int (jI (a + 1)), .int (jI (jlc (jkl w) (w 0) a)), .int (jI (w 0))], [], jm_hp σ)
  | 0, k, hm => by
    have b0 := hw.b0
    have h0 := hA 0 (by omega)
    obtain rfl : k = w 0 := by omega
    have e0 : jsum (fun b => if jkl w b < jkl w a then 1 else 0) (w 0) = jlc (jkl w) (w 0) a := rfl
    rw [e0, jt_M_listed_20]
    by_cases c : jI (jlc (jkl w) (w 0) a) = x
    · rw [if_pos c]
      simp (disch := omega) only [jb_K_n, jb_K_v, ↓reduceIte, jT_lt, jF_lt, jT_le, jF_le, jT_eq, jF_eq, jT_z, jF_z, jF_neg, jT_nn, jT_pos, jF_pos, jT_le0, jF_le0, jT_x, jF_m1, jF_m1r, jT_tt, jI_add, jI_mul, jI_sub, jI_cl, jm_up_same, jm_up_o, jm_up_j, jbR_T, jbR_F, h0, c]
    · rw [if_neg c]
      simp (disch := omega) only [jb_K_n, jb_K_v, ↓reduceIte, jT_lt, jF_lt, jT_le, jF_le, jT_eq, jF_eq, jT_z, jF_z, jF_neg, jT_nn, jT_pos, jF_pos, jT_le0, jF_le0, jT_x, jF_m1, jF_m1r, jT_tt, jI_add, jI_mul, jI_sub, jI_cl, jm_up_same, jm_up_o, jm_up_j, jbR_T, jbR_F, h0, c]
  | m + 1, k, hm => by
    have b0 := hw.b0
    have h0 := hA 0 (by omega)
    have g := mListI hA hw ha x f m (k + 1) (by omega)
    have e1 : jsum (fun b => if jkl w b < jkl w a then 1 else 0) (k + 1) = jsum (fun b => if jkl w b < jkl w a then 1 else 0) k + (if jkl w k < jkl w a then 1 else 0) := rfl
    have l1 := mAlph hA hw (show k < w 0 by omega)
    have l2 := mAlph hA hw ha
    have l3 := jal_b hw (show k < w 0 by omega)
    have l4 := jal_b hw ha
    have l5 := jal_lt hw (show k < w 0 by omega) ha
    rw [← g, e1, jt_M_listed_20]
    by_cases c : jkl w k < jkl w a
    · have c' : jal w k < jal w a := by rw [l5]; exact c
      rw [if_pos c]
      simp (disch := omega) only [jb_K_n, jb_K_v, ↓reduceIte, jT_lt, jF_lt, jT_le, jF_le, jT_eq, jF_eq, jT_z, jF_z, jF_neg, jT_nn, jT_pos, jF_pos, jT_le0, jF_le0, jT_x, jF_m1, jF_m1r, jT_tt, jI_add, jI_mul, jI_sub, jI_cl, jm_up_same, jm_up_o, jm_up_j, jbR_T, jbR_F, h0, l1, jt_M_listed_39, l2, jt_M_listed_44]
    · have c' : ¬ jal w k < jal w a := by rw [l5]; exact c
      rw [if_neg c]
      simp (disch := omega) only [jb_K_n, jb_K_v, ↓reduceIte, jT_lt, jF_lt, jT_le, jF_le, jT_eq, jF_eq, jT_z, jF_z, jF_neg, jT_nn, jT_pos, jF_pos, jT_le0, jF_le0, jT_x, jF_m1, jF_m1r, jT_tt, jI_add, jI_mul, jI_sub, jI_cl, jm_up_same, jm_up_o, jm_up_j, jbR_T, jbR_F, h0, l1, jt_M_listed_39, l2, jt_M_listed_44]
theorem mListL (hA : jAr σ 308 146 w) (hw : jInv w) (x : Int32) : ∀ (m a : Nat) (u4 u5 : Value), a + m = w 0 → jb_Ex 158 (4, [.ref (307 : Nat), .int x, .int (if jof (jkl w) (w 0) x < a then jI (jof (jkl w) (w 0) x) else -1), .int (jI a), u4, u5], [], jm_hp σ) = some (some (.int (jor (jkl w) (w 0) x)), jm_hp σ)
  | 0, a, u4, u5, hm => by
    have b0 := hw.b0
    have h0 := hA 0 (by omega)
    obtain rfl : a = w 0 := by omega
    rw [jt_M_listed_4]
    simp (disch := omega) only [jb_K_n, jb_K_v, ↓reduceIte, jT_lt, jF_lt, jT_le, jF_le, jT_eq, jF_eq, jT_z, jF_z, jF_neg, jT_nn, jT_pos, jF_pos, jT_le0, jF_le0, jT_x, jF_m1, jF_m1r, jT_tt, jI_add, jI_mul, jI_sub, jI_cl, jm_up_same, jm_up_o, jm_up_j, jbR_T, jbR_F, h0]
    rfl
  | m + 1, a, u4, u5, hm => by
    have b0 := hw.b0
    have h0 := hA 0 (by omega)
    have g := mListI hA hw (show a < w 0 by omega) x (if jof (jkl w) (w 0) x < a then jI (jof (jkl w) (w 0) x) else -1) (w 0) 0 (Nat.zero_add _)
    have g' : jb_Ex 158 (20, [.ref (307 : Nat), .int x, .int (if jof (jkl w) (w 0) x < a then jI (jof (jkl w) (w 0) x) else -1), .int (jI a), .int (jI 0), .int (jI 0)], [], jm_hp σ) = _ := g
    have hX : (if jI (jlc (jkl w) (w 0) a) = x then jI a else (if jof (jkl w) (w 0) x < a then jI (jof (jkl w) (w 0) x) else -1)) = (if jof (jkl w) (w 0) x < a + 1 then jI (jof (jkl w) (w 0) x) else -1) := by
      by_cases c : jI (jlc (jkl w) (w 0) a) = x
      · have := jof_un (by omega) (jkl_b hw).2 (show a < w 0 by omega) c
        rw [if_pos c, this, if_pos (by omega)]
      · have := jof_no (show a < w 0 by omega) c
        rw [if_neg c]
        by_cases z : jof (jkl w) (w 0) x < a
        · rw [if_pos z, if_pos (by omega)]
        · rw [if_neg z, if_neg (by omega)]
    rw [hX] at g'
    rw [← mListL hA hw x m (a + 1) _ _ (by omega), ← g', jt_M_listed_4, if_pos ((jx_I (by omega)).mpr (by omega))]
    simp only [jI_cl (show 0 < 2147483648 by omega), h0]
    rw [if_neg (by rw [jI_le (by omega) (by omega)]; omega)]
theorem o_listed (hC : JC σ S) (hM : JM σ S) (hI : JI S) (x : Int32) : jOp σ 140 158 [.int x] := by
  have hcl : jb_Ev 13 [.ref (305 : Nat)] (jm_hp σ) = some (none, jm_hp (jm_up σ 305 1 (jI 0))) := jt_Row_clear_0 jc_305
  have f0 : jF 305 σ (jm_up σ 305 1 (jI 0)) := jF_clear _
  obtain ⟨τ', g1, g2⟩ := cListL hI.1 x (S 0 0) 0 (jm_up σ 305 1 (jI 0)) (Nat.zero_add _) (hC.1.A (f0.A (a := 305) (b := 307) (by omega) (by omega)) (by omega)) ⟨jc_305, Nat.zero_le _, jm_up_same _ _ _ _, fun k hk => absurd hk (Nat.not_lt_zero _)⟩
  refine jOp_q (v := .int (jor (jkl (S 0)) (S 0 0) x)) hC hM hI ⟨τ', by simp (disch := omega) only [jb_K_n, jb_K_v, ↓reduceIte, jT_lt, jF_lt, jT_le, jF_le, jT_eq, jF_eq, jT_z, jF_z, jF_neg, jT_nn, jT_pos, jF_pos, jT_le0, jF_le0, jT_x, jF_m1, jF_m1r, jT_tt, jI_add, jI_mul, jI_sub, jI_cl, jm_up_same, jm_up_o, jm_up_j, jbR_T, jbR_F, jt_D_listed_0, hcl, jt_D_listed_7, g1], (f0.cS (by omega) (by omega)).tr g2⟩ (fun τ hτ => ⟨τ, ?_, jmS.rf⟩)
  have k1 := mListL hτ.1 hI.1 x (S 0 0) 0 (.retAddr 0) (.retAddr 0) (Nat.zero_add _)
  rw [if_neg (Nat.not_lt_zero _)] at k1
  rw [jt_M_listed_0]
  exact k1
/-! isCounted, meanWear, meantShare -/
theorem cTwinsL (hV : jV σ 1 w) (hw : jInv w) : ∀ (m k : Nat), k + m = w 0 → jb_Ex 141 (2, [.ref (9 : Nat), .int (jI k)], [], jm_hp σ) = some (some (.int (jI 1)), jm_hp σ)
  | 0, k, hm => by
    have b0 := hw.b0
    obtain rfl : k = w 0 := by omega
    rw [jt_Book_isWithoutTwins_2]
    simp (disch := omega) only [jb_K_n, jb_K_v, ↓reduceIte, jT_lt, jF_lt, jT_le, jF_le, jT_eq, jF_eq, jT_z, jF_z, jF_neg, jT_nn, jT_pos, jF_pos, jT_le0, jF_le0, jT_x, jF_m1, jF_m1r, jT_tt, jI_add, jI_mul, jI_sub, jI_cl, jm_up_same, jm_up_o, jm_up_j, jbR_T, jbR_F, hV.sn, jt_Book_isWithoutTwins_10]
  | m + 1, k, hm => by
    have b0 := hw.b0
    obtain ⟨a1, a2, a3, a4, a5, a6⟩ := hw.2.1.2.1 k (by omega)
    have IH := cTwinsL hV hw m (k + 1) (by omega)
    have hs := cBook_spelt hV hw (n := w (22 + 6 * k)) (f := fun j => w (23 + 6 * k + j)) a4
    have hu := jtw_un hw (show k < w 0 by omega) (jspl_jspf (w := w) (i := k))
    rw [hu, if_pos (by omega), ← jspl_jspf] at hs
    rw [jt_Book_isWithoutTwins_2]
    simp (disch := omega) only [jb_K_n, jb_K_v, ↓reduceIte, jT_lt, jF_lt, jT_le, jF_le, jT_eq, jF_eq, jT_z, jF_z, jF_neg, jT_nn, jT_pos, jF_pos, jT_le0, jF_le0, jT_x, jF_m1, jF_m1r, jT_tt, jI_add, jI_mul, jI_sub, jI_cl, jm_up_same, jm_up_o, jm_up_j, jbR_T, jbR_F, hV.sn, jt_Book_isWithoutTwins_10, hV.sp (show k < w 0 by omega), jt_Book_isWithoutTwins_22, hs, jt_Book_isWithoutTwins_25, IH]
theorem cCountedL (hw : jInv w) : ∀ (m k : Nat) (τ : jm_S) (u2 : Value), k + m = w 2 → jV τ 1 w → ∃ τ', jb_Ex 177 (2, [.ref (0 : Nat), .int (jI k), u2], [], jm_hp τ) = some (some (.int (jI 1)), jm_hp τ') ∧ jcS τ τ'
  | 0, k, τ, u2, hm, hV => by
    have b2 := hw.b2
    obtain rfl : k = w 2 := by omega
    refine ⟨τ, ?_, jcS.rf⟩
    have ht := cTwinsL hV hw (w 0) 0 (Nat.zero_add _)
    have hs := jR_sum hV.b.2.2
    have h5 := hV.c.2.1
    have hsum : jsum (fun b => w (8 + 3 * b)) 5 = w 4 := by
      have := hw.1.2
      show 0 + w (8 + 3 * 0) + w (8 + 3 * 1) + w (8 + 3 * 2) + w (8 + 3 * 3) + w (8 + 3 * 4) = w 4
      simp only [Nat.mul_zero, Nat.mul_one, Nat.add_zero, Nat.zero_add]
      exact this
    rw [hsum] at hs
    rw [jt_D_isCounted_2]
    simp (disch := omega) only [jb_K_n, jb_K_v, ↓reduceIte, jT_lt, jF_lt, jT_le, jF_le, jT_eq, jF_eq, jT_z, jF_z, jF_neg, jT_nn, jT_pos, jF_pos, jT_le0, jF_le0, jT_x, jF_m1, jF_m1r, jT_tt, jI_add, jI_mul, jI_sub, jI_cl, jm_up_same, jm_up_o, jm_up_j, jbR_T, jbR_F, hV.pn, jt_D_isCounted_16, jt_Book_isWithoutTwins_0, ht, jt_D_isCounted_93, hs, jt_D_isCounted_109, h5]
  | m + 1, k, τ, u2, hm, hV => by
    have b2 := hw.b2
    have hp : k < w 2 := by omega
    obtain ⟨n1, n12, n5⟩ := jp_n hw hp
    obtain ⟨σ1, e1, r1, f1⟩ := cCopy hV hw hp jc_297 (by rw [show (297 : Nat) + 1 = 298 from rfl, jn_298]; omega) (by omega)
    have V1 := hV.A (f1.A (a := 297) (b := 299) (by omega) (by omega)) (by omega)
    obtain ⟨σ2, e2, f2⟩ := cForw V1 hw r1 (by omega) n5 (by omega)
    have V2 := V1.A f2 (by omega)
    obtain ⟨σ3, e3, f3, -⟩ := cBack V2 hw (r1.A f2 (by omega)) (by omega) n5 (by omega)
    obtain ⟨τ', g1, g2⟩ := cCountedL hw m (k + 1) σ3 (.int (jI (jcap (jP w (jpz w k) (jpf w k))))) (by omega) (V2.A f3 (by omega))
    have hcap := jcap_le (jP w (jpz w k) (jpf w k))
    refine ⟨τ', ?_, (((f1.cS (by omega) (by omega)).tr (f2.cS (by omega))).tr (f3.cS (by omega))).tr g2⟩
    rw [← g1, jt_D_isCounted_2]
    simp (disch := omega) only [jb_K_n, jb_K_v, ↓reduceIte, jT_lt, jF_lt, jT_le, jF_le, jT_eq, jF_eq, jT_z, jF_z, jF_neg, jT_nn, jT_pos, jF_pos, jT_le0, jF_le0, jT_x, jF_m1, jF_m1r, jT_tt, jI_add, jI_mul, jI_sub, jI_cl, jm_up_same, jm_up_o, jm_up_j, jbR_T, jbR_F, hV.pn, jt_D_isCounted_16, e1, jt_D_isCounted_34, e2, jt_D_isCounted_52, e3, jt_D_isCounted_72]
theorem o_isCounted (hC : JC σ S) (hM : JM σ S) (hI : JI S) : jOp σ 177 42 [] := by
  obtain ⟨τ', g1, g2⟩ := cCountedL hI.1 (S 0 2) 0 σ (.retAddr 0) (Nat.zero_add _) hC.1
  exact jOp_q (v := .int (jI 1)) hC hM hI ⟨τ', by rw [jt_D_isCounted_0]; exact g1, g2⟩ (fun τ hτ => ⟨τ, jt_M_isCounted_0, jmS.rf⟩)
theorem jmean : ∀ s, s < 46 → FP.ddiv (FP.i2d (jI s)) (UInt64.ofNat 4617315517961601024) &&& 0x7fffffffffffffff ≤ 0x7ff0000000000000 := by decide +kernel
theorem jshare : ∀ m, m < 6 → ∀ n, n < 6 → n ≠ 0 → FP.fdiv (FP.i2f (jI m)) (FP.i2f (jI n)) &&& 0x7fffffff ≤ 0x7f800000 := by decide +kernel
theorem o_meanWear (hC : JC σ S) (hM : JM σ S) (hI : JI S) : jOp σ 142 159 [] := by
  have hs := jR_sum hC.1.b.2.1
  have hle : jsum (fun b => S 0 (7 + 3 * b)) 5 < 46 := by
    have h0 := hI.1.1.1 0 (by omega)
    have h1 := hI.1.1.1 1 (by omega)
    have h2 := hI.1.1.1 2 (by omega)
    have h3 := hI.1.1.1 3 (by omega)
    have h4 := hI.1.1.1 4 (by omega)
    show 0 + S 0 (7 + 3 * 0) + S 0 (7 + 3 * 1) + S 0 (7 + 3 * 2) + S 0 (7 + 3 * 3) + S 0 (7 + 3 * 4) < 46
    omega
  have hj := jmean _ hle
  refine jOp_q (v := .double (FP.ddiv (FP.i2d (jI (jsum (fun b => S 0 (7 + 3 * b)) 5))) (UInt64.ofNat 4617315517961601024))) hC hM hI ⟨σ, ?_, jcS.rf⟩ (fun τ hτ => ⟨τ, ?_, jmS.rf⟩)
  · rw [jt_D_meanWear_0, hs, jb_K_v, jt_D_meanWear_13, if_pos hj]
  · rw [jt_M_meanWear_0, jM_wear hτ.1, jb_K_v, jt_M_meanWear_4, if_pos hj]
def jms (w : Nat → Nat) : Nat → Nat := jsum (fun p => if jP w (jpz w p) (jpf w p) = 1 then 1 else 0)
theorem cShareL (hw : jInv w) (h0 : w 2 ≠ 0) : ∀ (m k : Nat) (τ : jm_S), k + m = w 2 → jV τ 1 w → ∃ τ', jb_Ex 227 (24, [.ref (0 : Nat), .int (jI (w 2)), .int (jI (jms w k)), .int (jI k)], [], jm_hp τ) = some (some (.float (FP.fdiv (FP.i2f (jI (jms w (w 2)))) (FP.i2f (jI (w 2))))), jm_hp τ') ∧ jcS τ τ'
  | 0, k, τ, hm, hV => by
    have b2 := hw.b2
    obtain rfl : k = w 2 := by omega
    have hle : jms w (w 2) ≤ w 2 := jsum_01 (fun i => by split <;> omega)
    refine ⟨τ, ?_, jcS.rf⟩
    rw [jt_D_meantShare_24, if_pos (by rw [jI_le (by omega) (by omega)]; omega), if_pos (jshare _ (by omega) _ (by omega) h0)]
  | m + 1, k, τ, hm, hV => by
    have b2 := hw.b2
    obtain ⟨σ2, L, e1, f1, -⟩ := cMeans hV hw (show k < w 2 by omega)
    obtain ⟨τ', g1, g2⟩ := cShareL hw h0 m (k + 1) σ2 (by omega) (hV.cS f1 (by omega))
    have e3 : jms w (k + 1) = jms w k + (if jP w (jpz w k) (jpf w k) = 1 then 1 else 0) := rfl
    refine ⟨τ', ?_, f1.tr g2⟩
    rw [jt_D_meantShare_24]
    by_cases c : jP w (jpz w k) (jpf w k) = 1
    · rw [if_pos c] at e1
      rw [e3, if_pos c] at g1
      simp (disch := omega) only [jb_K_n, jb_K_v, ↓reduceIte, jT_lt, jF_lt, jT_le, jF_le, jT_eq, jF_eq, jT_z, jF_z, jF_neg, jT_nn, jT_pos, jF_pos, jT_le0, jF_le0, jT_x, jF_m1, jF_m1r, jT_tt, jI_add, jI_mul, jI_sub, jI_cl, jm_up_same, jm_up_o, jm_up_j, jbR_T, jbR_F, e1, jt_D_meantShare_34, g1]
    · rw [if_neg c] at e1
      rw [e3, if_neg c, Nat.add_zero] at g1
      simp (disch := omega) only [jb_K_n, jb_K_v, ↓reduceIte, jT_lt, jF_lt, jT_le, jF_le, jT_eq, jF_eq, jT_z, jF_z, jF_neg, jT_nn, jT_pos, jF_pos, jT_le0, jF_le0, jT_x, jF_m1, jF_m1r, jT_tt, jI_add, jI_mul, jI_sub, jI_cl, jm_up_same, jm_up_o, jm_up_j, jbR_T, jbR_F, e1, jt_D_meantShare_34, g1]
theorem mShareL (hw : jInv w) (h0 : w 2 ≠ 0) : ∀ (m k : Nat) (τ : jm_S), k + m = w 2 → jAr τ 308 146 w → ∃ τ', jb_Ex 197 (4, [.ref (307 : Nat), .int (jI (jms w k)), .int (jI k)], [], jm_hp τ) = some (some (.float (FP.fdiv (FP.i2f (jI (jms w (w 2)))) (FP.i2f (jI (w 2))))), jm_hp τ') ∧ jmS τ τ'
  | 0, k, τ, hm, hA => by
    have b2 := hw.b2
    have h2 := hA 2 (by omega)
    obtain rfl : k = w 2 := by omega
    have hle : jms w (w 2) ≤ w 2 := jsum_01 (fun i => by split <;> omega)
    have hj := jshare _ (show jms w (w 2) < 6 by omega) _ (show w 2 < 6 by omega) h0
    refine ⟨τ, ?_, jmS.rf⟩
    rw [jt_M_meantShare_4]
    simp (disch := omega) only [jb_K_n, jb_K_v, ↓reduceIte, jT_lt, jF_lt, jT_le, jF_le, jT_eq, jF_eq, jT_z, jF_z, jF_neg, jT_nn, jT_pos, jF_pos, jT_le0, jF_le0, jT_x, jF_m1, jF_m1r, jT_tt, jI_add, jI_mul, jI_sub, jI_cl, jm_up_same, jm_up_o, jm_up_j, jbR_T, jbR_F, h2]
    rw [if_pos hj]
  | m + 1, k, τ, hm, hA => by
    have b2 := hw.b2
    have h2 := hA 2 (by omega)
    have hp : k < w 2 := by omega
    obtain ⟨n1, n12, n5⟩ := jp_n hw hp
    obtain ⟨τ1, g1, g2, g3⟩ := mPeal hA hw hp
    obtain ⟨τ2, g4, g5, -⟩ := mParses hw g2 n5 (by omega)
    obtain ⟨τ', k1, k2⟩ := mShareL hw h0 m (k + 1) τ2 (by omega) (hA.mS (g3.ms.tr g5.ms))
    have e3 : jms w (k + 1) = jms w k + (if jP w (jpz w k) (jpf w k) = 1 then 1 else 0) := rfl
    have hcap := jcap_le (jP w (jpz w k) (jpf w k))
    refine ⟨τ', ?_, (g3.ms.tr g5.ms).tr k2⟩
    rw [jt_M_meantShare_4]
    by_cases c : jP w (jpz w k) (jpf w k) = 1
    · have hc1 : jcap (jP w (jpz w k) (jpf w k)) = 1 := jcap_1.mpr c
      rw [hc1] at g4
      rw [e3, if_pos c] at k1
      simp (disch := omega) only [jb_K_n, jb_K_v, ↓reduceIte, jT_lt, jF_lt, jT_le, jF_le, jT_eq, jF_eq, jT_z, jF_z, jF_neg, jT_nn, jT_pos, jF_pos, jT_le0, jF_le0, jT_x, jF_m1, jF_m1r, jT_tt, jI_add, jI_mul, jI_sub, jI_cl, jm_up_same, jm_up_o, jm_up_j, jbR_T, jbR_F, h2, g1, jt_M_meantShare_19, g4, jt_M_meantShare_24, k1]
    · have hc1 : jcap (jP w (jpz w k) (jpf w k)) ≠ 1 := fun z => c (jcap_1.mp z)
      rw [e3, if_neg c, Nat.add_zero] at k1
      simp (disch := omega) only [jb_K_n, jb_K_v, ↓reduceIte, jT_lt, jF_lt, jT_le, jF_le, jT_eq, jF_eq, jT_z, jF_z, jF_neg, jT_nn, jT_pos, jF_pos, jT_le0, jF_le0, jT_x, jF_m1, jF_m1r, jT_tt, jI_add, jI_mul, jI_sub, jI_cl, jm_up_same, jm_up_o, jm_up_j, jbR_T, jbR_F, h2, g1, jt_M_meantShare_19, g4, jt_M_meantShare_24, Nat.add_zero, k1]
theorem o_meantShare (hC : JC σ S) (hM : JM σ S) (hI : JI S) : jOp σ 227 197 [] := by
  have b2 := hI.1.b2
  by_cases h0 : S 0 2 = 0
  · have hpn := hC.1.pn
    rw [h0] at hpn
    refine jOp_q (v := .float FP.fconst0) hC hM hI ⟨σ, by simp (disch := omega) only [jb_K_n, jb_K_v, ↓reduceIte, jT_lt, jF_lt, jT_le, jF_le, jT_eq, jF_eq, jT_z, jF_z, jF_neg, jT_nn, jT_pos, jF_pos, jT_le0, jF_le0, jT_x, jF_m1, jF_m1r, jT_tt, jI_add, jI_mul, jI_sub, jI_cl, jm_up_same, jm_up_o, jm_up_j, jbR_T, jbR_F, jt_D_meantShare_0, hpn, jt_D_meantShare_13], jcS.rf⟩ (fun τ hτ => ⟨τ, ?_, jmS.rf⟩)
    have h2 := hτ.1 2 (by omega)
    rw [h0] at h2
    simp (disch := omega) only [jb_K_n, jb_K_v, ↓reduceIte, jT_lt, jF_lt, jT_le, jF_le, jT_eq, jF_eq, jT_z, jF_z, jF_neg, jT_nn, jT_pos, jF_pos, jT_le0, jF_le0, jT_x, jF_m1, jF_m1r, jT_tt, jI_add, jI_mul, jI_sub, jI_cl, jm_up_same, jm_up_o, jm_up_j, jbR_T, jbR_F, jt_M_meantShare_0, jt_M_meantShare_4, h2]
  · obtain ⟨τ', g1, g2⟩ := cShareL hI.1 h0 (S 0 2) 0 σ (Nat.zero_add _) hC.1
    have g1' : jb_Ex 227 (24, [.ref (0 : Nat), .int (jI (S 0 2)), .int (jI 0), .int (jI 0)], [], jm_hp σ) = _ := g1
    refine jOp_q (v := .float (FP.fdiv (FP.i2f (jI (jms (S 0) (S 0 2)))) (FP.i2f (jI (S 0 2))))) hC hM hI ⟨τ', by simp (disch := omega) only [jb_K_n, jb_K_v, ↓reduceIte, jT_lt, jF_lt, jT_le, jF_le, jT_eq, jF_eq, jT_z, jF_z, jF_neg, jT_nn, jT_pos, jF_pos, jT_le0, jF_le0, jT_x, jF_m1, jF_m1r, jT_tt, jI_add, jI_mul, jI_sub, jI_cl, jm_up_same, jm_up_o, jm_up_j, jbR_T, jbR_F, jt_D_meantShare_0, hC.1.pn, jt_D_meantShare_13, g1'], g2⟩ (fun τ hτ => ?_)
    obtain ⟨τ1, k1, k2⟩ := mShareL hI.1 h0 (S 0 2) 0 τ (Nat.zero_add _) hτ.1
    exact ⟨τ1, by rw [jt_M_meantShare_0]; exact k1, k2⟩
end OR
