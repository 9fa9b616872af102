/-! ===== writeBook ===== -/
section WB
variable {σ : jm_S} {w : Nat → Nat} {S : jSt}
def jtp (w : Nat → Nat) (i : Nat) : List Nat := jtb w i ++ (if i = 0 then [] else [32])
def jtq (w : Nat → Nat) (i k : Nat) : List Nat := ((jtp w i ++ [jck (w (21 + 6 * i))]) ++ [58]) ++ jts (fun k => w (23 + 6 * i + k)) k
theorem jtp_len (hw : jInv w) {i : Nat} (hi : i ≤ w 0) : (jtp w i).length ≤ 7 * i + 1 := by
  have := jtb_len hw hi
  unfold jtp
  rw [List.length_append]
  have : (if i = 0 then ([] : List Nat) else [32]).length ≤ 1 := by split <;> simp
  omega
theorem jtq_len (hw : jInv w) {i k : Nat} (hi : i ≤ w 0) : (jtq w i k).length ≤ 7 * i + 3 + k := by
  have := jtp_len hw hi
  unfold jtq
  rw [List.length_append, List.length_append, List.length_append, jts_len]
  show _ + 1 + 1 + k ≤ _
  omega
theorem cWBs {i : Nat} (hV : jV σ 1 w) (hw : jInv w) (hi : i < w 0) : ∀ (m k : Nat) (τ : jm_S), k + m = w (22 + 6 * i) → jLc τ (jtq w i k) → jA 293 295 σ τ → ∃ τ', jb_Ex 144 (74, [.ref (0 : Nat), .int (jI i), .int (jI k)], [], jm_hp τ) = jb_Ex 144 (9, [.ref (0 : Nat), .int (jI (i + 1)), .int (jI (w (22 + 6 * i)))], [], jm_hp τ') ∧ jLc τ' (jtb w (i + 1)) ∧ jA 293 295 σ τ'
  | 0, k, τ, hm, h1, h2 => by
    have b0 := hw.b0
    obtain ⟨a1, a2, a3, a4, a5, a6⟩ := hw.2.1.2.1 i hi
    obtain rfl : k = w (22 + 6 * i) := by omega
    have hs := (hV.A h2 (by omega)).sz hi
    refine ⟨τ, ?_, h1, h2⟩
    rw [jt_D_writeBook_74]
    simp (disch := omega) only [jb_K_n, jb_K_v, ↓reduceIte, jT_lt, jF_lt, jT_le, jF_le, jT_eq, jF_eq, jT_z, jF_z, jF_neg, jT_nn, jT_pos, jF_pos, jT_le0, jF_le0, jT_x, jF_m1, jF_m1r, jT_tt, jI_add, jI_mul, jI_sub, jI_cl, jm_up_same, jm_up_o, jm_up_j, jbR_T, jbR_F, hs, jt_D_writeBook_89]
  | m + 1, k, τ, hm, h1, h2 => by
    have b0 := hw.b0
    obtain ⟨a1, a2, a3, a4, a5, a6⟩ := hw.2.1.2.1 i hi
    have h4 := a4 k (by omega)
    have hV' := hV.A h2 (by omega)
    have hs := hV'.sz hi
    have hg := cBook_sign hV' hw hi (show k < w (22 + 6 * i) by omega)
    have hc := cCharS (σ := τ) h4
    have hl := jtq_len (k := k) hw (Nat.le_of_lt hi)
    obtain ⟨τ1, e1, l1, f1⟩ := jLc_add h1 (by omega) (jcs (w (23 + 6 * i + k)))
    have l1' : jLc τ1 (jtq w i (k + 1)) := by
      unfold jtq at l1 ⊢
      show jLc τ1 (_ ++ (jts _ k ++ [_]))
      rw [← List.append_assoc]
      exact l1
    obtain ⟨τ', g1, g2⟩ := cWBs hV hw hi m (k + 1) τ1 (by omega) l1' (h2.tr f1)
    refine ⟨τ', ?_, g2⟩
    rw [← g1, jt_D_writeBook_74]
    simp (disch := omega) only [jb_K_n, jb_K_v, ↓reduceIte, jT_lt, jF_lt, jT_le, jF_le, jT_eq, jF_eq, jT_z, jF_z, jF_neg, jT_nn, jT_pos, jF_pos, jT_le0, jF_le0, jT_x, jF_m1, jF_m1r, jT_tt, jI_add, jI_mul, jI_sub, jI_cl, jm_up_same, jm_up_o, jm_up_j, jbR_T, jbR_F, hs, jt_D_writeBook_89, hg, jt_D_writeBook_108, hc, jt_D_writeBook_111, e1, jt_D_writeBook_114]
theorem cWBL (hV : jV σ 1 w) (hw : jInv w) : ∀ (m i : Nat) (τ : jm_S) (u2 : Value), i + m = w 0 → jLc τ (jtb w i) → jA 293 295 σ τ → ∃ τ', jb_Ex 144 (9, [.ref (0 : Nat), .int (jI i), u2], [], jm_hp τ) = some (some (.int (jI (jtb w (w 0)).length)), jm_hp τ') ∧ jLc τ' (jtb w (w 0)) ∧ jA 293 295 σ τ'
  | 0, i, τ, u2, hm, h1, h2 => by
    have b0 := hw.b0
    obtain rfl : i = w 0 := by omega
    have hkn := (hV.A h2 (by omega)).kn
    refine ⟨τ, ?_, h1, h2⟩
    rw [jt_D_writeBook_9]
    simp (disch := omega) only [jb_K_n, jb_K_v, ↓reduceIte, jT_lt, jF_lt, jT_le, jF_le, jT_eq, jF_eq, jT_z, jF_z, jF_neg, jT_nn, jT_pos, jF_pos, jT_le0, jF_le0, jT_x, jF_m1, jF_m1r, jT_tt, jI_add, jI_mul, jI_sub, jI_cl, jm_up_same, jm_up_o, jm_up_j, jbR_T, jbR_F, hkn, jt_D_writeBook_23, jR_size h1, jt_D_writeBook_133]
  | m + 1, i, τ, u2, hm, h1, h2 => by
    have b0 := hw.b0
    have hi : i < w 0 := by omega
    obtain ⟨a1, a2, a3, a4, a5, a6⟩ := hw.2.1.2.1 i hi
    have hkn := (hV.A h2 (by omega)).kn
    have hbl := jtb_len hw (Nat.le_of_lt hi)
    have hpl := jtp_len hw (Nat.le_of_lt hi)
    obtain ⟨τ0, s0, l0, f0⟩ : ∃ τ0, jb_Ex 144 (9, [.ref (0 : Nat), .int (jI i), u2], [], jm_hp τ) = jb_Ex 144 (39, [.ref (0 : Nat), .int (jI i), u2], [], jm_hp τ0) ∧ jLc τ0 (jtp w i) ∧ jA 293 295 τ τ0 := by
      by_cases e : i = 0
      · refine ⟨τ, ?_, ?_, jA.rf⟩
        · rw [jt_D_writeBook_9]
          simp (disch := omega) only [jb_K_n, jb_K_v, ↓reduceIte, jT_lt, jF_lt, jT_le, jF_le, jT_eq, jF_eq, jT_z, jF_z, jF_neg, jT_nn, jT_pos, jF_pos, jT_le0, jF_le0, jT_x, jF_m1, jF_m1r, jT_tt, jI_add, jI_mul, jI_sub, jI_cl, jm_up_same, jm_up_o, jm_up_j, jbR_T, jbR_F, hkn, jt_D_writeBook_23]
        · unfold jtp
          rw [if_pos e, List.append_nil]
          exact h1
      · obtain ⟨τ0, e0, l0, f0⟩ := jLc_add h1 (by omega) 32
        refine ⟨τ0, ?_, ?_, f0⟩
        · rw [jt_D_writeBook_9]
          simp (disch := omega) only [jb_K_n, jb_K_v, ↓reduceIte, jT_lt, jF_lt, jT_le, jF_le, jT_eq, jF_eq, jT_z, jF_z, jF_neg, jT_nn, jT_pos, jF_pos, jT_le0, jF_le0, jT_x, jF_m1, jF_m1r, jT_tt, jI_add, jI_mul, jI_sub, jI_cl, jm_up_same, jm_up_o, jm_up_j, jbR_T, jbR_F, hkn, jt_D_writeBook_23, e0]
        · unfold jtp
          rw [if_neg e]
          exact l0
    have hA0 := h2.tr f0
    have kd := (hV.A hA0 (by omega)).kd hi
    have hc := cCharK (σ := τ0) a1
    obtain ⟨τ1, e1, l1, f1⟩ := jLc_add l0 (by omega) (jck (w (21 + 6 * i)))
    obtain ⟨τ2, e2, l2, f2⟩ := jLc_add l1 (by rw [List.length_append]; show _ + 1 < _; omega) 58
    have l2' : jLc τ2 (jtq w i 0) := by
      unfold jtq
      show jLc τ2 (_ ++ [])
      rw [List.append_nil]
      exact l2
    obtain ⟨τ3, e3, l3, f3⟩ := cWBs hV hw hi (w (22 + 6 * i)) 0 τ2 (Nat.zero_add _) l2' ((hA0.tr f1).tr f2)
    obtain ⟨τ', g1, g2⟩ := cWBL hV hw m (i + 1) τ3 (.int (jI (w (22 + 6 * i)))) (by omega) l3 f3
    refine ⟨τ', ?_, g2⟩
    rw [← g1, ← e3, s0]
    simp (disch := omega) only [jb_K_n, jb_K_v, ↓reduceIte, jT_lt, jF_lt, jT_le, jF_le, jT_eq, jF_eq, jT_z, jF_z, jF_neg, jT_nn, jT_pos, jF_pos, jT_le0, jF_le0, jT_x, jF_m1, jF_m1r, jT_tt, jI_add, jI_mul, jI_sub, jI_cl, jm_up_same, jm_up_o, jm_up_j, jbR_T, jbR_F, jt_D_writeBook_39, kd, jt_D_writeBook_57, hc, jt_D_writeBook_60, e1, jt_D_writeBook_63, e2, jt_D_writeBook_72]
theorem mWBs {i : Nat} (hA : jAr σ 308 146 w) (hw : jInv w) (hi : i < w 0) : ∀ (m k : Nat) (τ : jm_S), k + m = w (22 + 6 * i) → jLm τ (jtq w i k) → (∀ q j, q ≠ 314 → τ q j = σ q j) → ∃ τ', jb_Ex 161 (45, [.ref (307 : Nat), .int (jI (jtq w i k).length), .int (jI i), .int (jI k)], [], jm_hp τ) = jb_Ex 161 (4, [.ref (307 : Nat), .int (jI (jtb w (i + 1)).length), .int (jI (i + 1)), .int (jI (w (22 + 6 * i)))], [], jm_hp τ') ∧ jLm τ' (jtb w (i + 1)) ∧ (∀ q j, q ≠ 314 → τ' q j = σ q j)
  | 0, k, τ, hm, h1, h2 => by
    have b0 := hw.b0
    obtain ⟨a1, a2, a3, a4, a5, a6⟩ := hw.2.1.2.1 i hi
    obtain rfl : k = w (22 + 6 * i) := by omega
    have h3 := (h2 308 (22 + 6 * i) (by omega)).trans (hA _ (by omega))
    have e0 : 21 + 6 * i + 1 = 22 + 6 * i := by omega
    refine ⟨τ, ?_, h1, h2⟩
    rw [jt_M_writeBook_45]
    simp (disch := omega) only [jb_K_n, jb_K_v, ↓reduceIte, jT_lt, jF_lt, jT_le, jF_le, jT_eq, jF_eq, jT_z, jF_z, jF_neg, jT_nn, jT_pos, jF_pos, jT_le0, jF_le0, jT_x, jF_m1, jF_m1r, jT_tt, jI_add, jI_mul, jI_sub, jI_cl, jm_up_same, jm_up_o, jm_up_j, jbR_T, jbR_F, jt_M_wordAt_0, jt_M_writeBook_54, e0, h3]
    rfl
  | m + 1, k, τ, hm, h1, h2 => by
    have b0 := hw.b0
    obtain ⟨a1, a2, a3, a4, a5, a6⟩ := hw.2.1.2.1 i hi
    have h4 := a4 k (by omega)
    have h3 := (h2 308 (22 + 6 * i) (by omega)).trans (hA _ (by omega))
    have h5 := (h2 308 (23 + 6 * i + k) (by omega)).trans (hA _ (by omega))
    have e0 : 21 + 6 * i + 1 = 22 + 6 * i := by omega
    have e2 : 21 + 6 * i + 2 + k = 23 + 6 * i + k := by omega
    have hl := jtq_len (k := k) hw (Nat.le_of_lt hi)
    obtain ⟨τ1, e1, l1, f1⟩ := mPutS h1 (by omega) h4
    have hq : jtq w i k ++ [jcs (w (23 + 6 * i + k))] = jtq w i (k + 1) := by
      unfold jtq
      show _ = _ ++ (jts _ k ++ [_])
      rw [← List.append_assoc]
    rw [hq] at e1 l1
    obtain ⟨τ', g1, g2⟩ := mWBs hA hw hi m (k + 1) τ1 (by omega) l1 (fun q j z => (f1 q j z).trans (h2 q j z))
    refine ⟨τ', ?_, g2⟩
    rw [← g1, jt_M_writeBook_45]
    simp (disch := omega) only [jb_K_n, jb_K_v, ↓reduceIte, jT_lt, jF_lt, jT_le, jF_le, jT_eq, jF_eq, jT_z, jF_z, jF_neg, jT_nn, jT_pos, jF_pos, jT_le0, jF_le0, jT_x, jF_m1, jF_m1r, jT_tt, jI_add, jI_mul, jI_sub, jI_cl, jm_up_same, jm_up_o, jm_up_j, jbR_T, jbR_F, jt_M_wordAt_0, jt_M_writeBook_54, e0, h3, jt_M_writeBook_70, e2, h5, e1, jt_M_writeBook_78]
theorem mWBL (hA : jAr σ 308 146 w) (hw : jInv w) : ∀ (m i : Nat) (τ : jm_S) (u3 : Value), i + m = w 0 → jLm τ (jtb w i) → (∀ q j, q ≠ 314 → τ q j = σ q j) → ∃ τ', jb_Ex 161 (4, [.ref (307 : Nat), .int (jI (jtb w i).length), .int (jI i), u3], [], jm_hp τ) = some (some (.int (jI (jtb w (w 0)).length)), jm_hp (jm_up τ' 307 16 (jI (jtb w (w 0)).length))) ∧ jLm τ' (jtb w (w 0)) ∧ (∀ q j, q ≠ 314 → τ' q j = σ q j)
  | 0, i, τ, u3, hm, h1, h2 => by
    have b0 := hw.b0
    obtain rfl : i = w 0 := by omega
    have h3 := (h2 308 0 (by omega)).trans (hA 0 (by omega))
    refine ⟨τ, ?_, h1, h2⟩
    rw [jt_M_writeBook_4]
    simp (disch := omega) only [jb_K_n, jb_K_v, ↓reduceIte, jT_lt, jF_lt, jT_le, jF_le, jT_eq, jF_eq, jT_z, jF_z, jF_neg, jT_nn, jT_pos, jF_pos, jT_le0, jF_le0, jT_x, jF_m1, jF_m1r, jT_tt, jI_add, jI_mul, jI_sub, jI_cl, jm_up_same, jm_up_o, jm_up_j, jbR_T, jbR_F, h3]
  | m + 1, i, τ, u3, hm, h1, h2 => by
    have b0 := hw.b0
    have hi : i < w 0 := by omega
    obtain ⟨a1, a2, a3, a4, a5, a6⟩ := hw.2.1.2.1 i hi
    have h3 := (h2 308 0 (by omega)).trans (hA 0 (by omega))
    have hbl := jtb_len hw (Nat.le_of_lt hi)
    have hpl := jtp_len hw (Nat.le_of_lt hi)
    obtain ⟨τ0, s0, l0, f0⟩ : ∃ τ0, jb_Ex 161 (4, [.ref (307 : Nat), .int (jI (jtb w i).length), .int (jI i), u3], [], jm_hp τ) = jb_Ex 161 (30, [.ref (307 : Nat), .int (jI (jtb w i).length), .int (jI i), u3], [.int (jI (jtp w i).length), .ref (307 : Nat)], jm_hp τ0) ∧ jLm τ0 (jtp w i) ∧ (∀ q j, q ≠ 314 → τ0 q j = τ q j) := by
      by_cases e : i = 0
      · have hp : jtp w i = jtb w i := by
          unfold jtp
          rw [if_pos e, List.append_nil]
        rw [hp]
        refine ⟨τ, ?_, h1, fun _ _ _ => rfl⟩
        rw [jt_M_writeBook_4]
        simp (disch := omega) only [jb_K_n, jb_K_v, ↓reduceIte, jT_lt, jF_lt, jT_le, jF_le, jT_eq, jF_eq, jT_z, jF_z, jF_neg, jT_nn, jT_pos, jF_pos, jT_le0, jF_le0, jT_x, jF_m1, jF_m1r, jT_tt, jI_add, jI_mul, jI_sub, jI_cl, jm_up_same, jm_up_o, jm_up_j, jbR_T, jbR_F, h3]
      · have hp : jtb w i ++ [32] = jtp w i := by
          unfold jtp
          rw [if_neg e]
        obtain ⟨τ0, e0, l0, f0⟩ := jLm_add h1 (by omega) 32
        rw [hp] at e0 l0
        refine ⟨τ0, ?_, l0, f0⟩
        rw [jt_M_writeBook_4]
        simp (disch := omega) only [jb_K_n, jb_K_v, ↓reduceIte, jT_lt, jF_lt, jT_le, jF_le, jT_eq, jF_eq, jT_z, jF_z, jF_neg, jT_nn, jT_pos, jF_pos, jT_le0, jF_le0, jT_x, jF_m1, jF_m1r, jT_tt, jI_add, jI_mul, jI_sub, jI_cl, jm_up_same, jm_up_o, jm_up_j, jbR_T, jbR_F, h3, e0]
    have hA0 : jAr τ0 308 146 w := fun j hj => (f0 _ _ (by omega)).trans ((h2 _ _ (by omega)).trans (hA j hj))
    obtain ⟨τ1, e1, l1, f1⟩ := mPutK hA0 hw l0 (by omega) hi
    obtain ⟨τ2, e2, l2, f2⟩ := jLm_add l1 (by rw [List.length_append]; show _ + 1 < _; omega) 58
    have hq : (jtp w i ++ [jck (w (21 + 6 * i))]) ++ [58] = jtq w i 0 := by
      unfold jtq
      show _ = _ ++ []
      rw [List.append_nil]
    rw [hq] at e2 l2
    obtain ⟨τ3, e3, l3, f3⟩ := mWBs hA hw hi (w (22 + 6 * i)) 0 τ2 (Nat.zero_add _) l2 (fun q j z => (f2 q j z).trans ((f1 q j z).trans ((f0 q j z).trans (h2 q j z))))
    obtain ⟨τ', g1, g2⟩ := mWBL hA hw m (i + 1) τ3 (.int (jI (w (22 + 6 * i)))) (by omega) l3 f3
    refine ⟨τ', ?_, g2⟩
    rw [← g1, ← e3, s0]
    simp (disch := omega) only [jb_K_n, jb_K_v, ↓reduceIte, jT_lt, jF_lt, jT_le, jF_le, jT_eq, jF_eq, jT_z, jF_z, jF_neg, jT_nn, jT_pos, jF_pos, jT_le0, jF_le0, jT_x, jF_m1, jF_m1r, jT_tt, jI_add, jI_mul, jI_sub, jI_cl, jm_up_same, jm_up_o, jm_up_j, jbR_T, jbR_F, jt_M_writeBook_30, e1, jt_M_writeBook_34, e2, jt_M_writeBook_42]
theorem o_writeBook (hC : JC σ S) (hM : JM σ S) (hI : JI S) : jOp σ 144 161 [] := by
  have b0 := hI.1.b0
  have hcl : jb_Ev 13 [.ref (293 : Nat)] (jm_hp σ) = some (none, jm_hp (jm_up σ 293 1 (jI 0))) := jt_Row_clear_0 jc_293
  have hA0 : jA 293 295 σ (jm_up σ 293 1 (jI 0)) := jA_up (by omega) (by omega)
  have hl0 : jLc (jm_up σ 293 1 (jI 0)) (jtb (S 0) 0) := ⟨jc_293, Nat.zero_le _, jm_up_same _ _ _ _, fun k hk => absurd hk (Nat.not_lt_zero _)⟩
  obtain ⟨σ1, e1, l1, f1⟩ := cWBL hC.1 hI.1 (S 0 0) 0 _ (.retAddr 0) (Nat.zero_add _) hl0 hA0
  have hlen := jtb_len hI.1 (Nat.le_refl (S 0 0))
  refine jOp_of (S' := jline S (jtb (S 0) (S 0 0))) (v := .int (jI (jtb (S 0) (S 0 0)).length)) hM ⟨σ1, ?_, jJC_line hC f1 l1, f1.Hi (by omega)⟩ (fun τ hτ => ?_) (jJI_line hI (by omega))
  · simp (disch := omega) only [jb_K_n, jb_K_v, ↓reduceIte, jT_lt, jF_lt, jT_le, jF_le, jT_eq, jF_eq, jT_z, jF_z, jF_neg, jT_nn, jT_pos, jF_pos, jT_le0, jF_le0, jT_x, jF_m1, jF_m1r, jT_tt, jI_add, jI_mul, jI_sub, jI_cl, jm_up_same, jm_up_o, jm_up_j, jbR_T, jbR_F, jt_D_writeBook_0, hcl, jt_D_writeBook_7, e1]
  · obtain ⟨τ1, g1, l2, f2⟩ := mWBL hτ.1 hI.1 (S 0 0) 0 τ (.retAddr 0) (Nat.zero_add _) (fun j hj => absurd hj (Nat.not_lt_zero _)) (fun _ _ _ => rfl)
    have g1' : jb_Ex 161 (4, [.ref (307 : Nat), .int (jI 0), .int (jI 0), .retAddr 0], [], jm_hp τ) = _ := g1
    refine ⟨_, ?_, jJM_line hτ (fun q j z => ?_) (fun j hj => ?_) (jm_up_same _ _ _ _), fun q j hq => (jm_up_o _ _ (by omega)).trans (f2 q j (by omega))⟩
    · rw [jt_M_writeBook_0, g1']
    · by_cases e : q = 307
      · subst e
        rw [jm_up_j _ _ (by omega)]
        exact f2 _ _ (by omega)
      · rw [jm_up_o _ _ e]
        exact f2 _ _ (by omega)
    · rw [jm_up_o _ _ (by omega)]
      exact l2 j hj
end WB
