/-! ===== undo, save, restore, account ===== -/
theorem jc_310 : jm_c 310 = 12 := by decide +kernel
theorem jn_310 : jm_ln 310 = 146 := by decide +kernel
def js2 (S : jSt) (a : Nat) (f : Nat → Nat) (k x : Nat) : jSt := js0 (js0 S a f) 9 (jn0 (S 9) k x)
theorem js2_H (S : jSt) {a : Nat} (f : Nat → Nat) (k x : Nat) (ha : a < 10) : (fun i => js2 S a f k x (10 + i)) = (fun i => S (10 + i)) := by
  unfold js2
  rw [js0_K (by omega), js0_K ha]
def jsum (f : Nat → Nat) : Nat → Nat
  | 0 => 0
  | n + 1 => jsum f n + f n
section OPS
variable {σ : jm_S} {S : jSt}
theorem jR_sumL {r n : Nat} {f : Nat → Nat} (h : jRn σ r n f) : ∀ (m k : Nat), k + m = n → jb_Ex 79 (4, [.ref r, .int (jI (jsum f k)), .int (jI k)], [], jm_hp σ) = some (some (.int (jI (jsum f n))), jm_hp σ)
  | 0, k, hk => by
    have := jR.bd h
    obtain rfl : k = n := by omega
    rw [jt_Row_sum_4 h.1, h.2.2.1]
    simp (disch := omega) only [jb_K_n, jb_K_v, ↓reduceIte, jT_lt, jF_lt, jT_le, jF_le, jT_eq, jF_eq, jT_z, jF_z, jF_neg, jT_nn, jT_pos, jF_pos, jT_le0, jF_le0, jT_x, jF_m1, jF_m1r, jT_tt, jI_add, jI_mul, jI_sub, jI_cl, jm_up_same, jm_up_o, jm_up_j, jbR_T, jbR_F]
  | m + 1, k, hk => by
    have := jR.bd h
    rw [jt_Row_sum_4 h.1, h.2.2.1, if_neg (by rw [jI_le (by omega) (by omega)]; omega), jR_at h (show k < n by omega), jb_K_v, jt_Row_sum_18 h.1, jI_add, jI_add]
    exact jR_sumL h m (k + 1) (by omega)
theorem jR_sum {r n : Nat} {f : Nat → Nat} (h : jRn σ r n f) : jb_Ev 79 [.ref r] (jm_hp σ) = some (some (.int (jI (jsum f n))), jm_hp σ) := by
  rw [jt_Row_sum_0 h.1]
  exact jR_sumL h n 0 (by omega)
theorem jM_wearL {w : Nat → Nat} (h : jAr σ 308 146 w) : ∀ (m k : Nat), k + m = 5 → jb_Ex 114 (4, [.ref (307 : Nat), .int (jI (jsum (fun b => w (7 + 3 * b)) k)), .int (jI k)], [], jm_hp σ) = some (some (.int (jI (jsum (fun b => w (7 + 3 * b)) 5))), jm_hp σ)
  | 0, k, hk => by
    obtain rfl : k = 5 := by omega
    rw [jt_M_wearNow_4]
    simp (disch := omega) only [jb_K_n, jb_K_v, ↓reduceIte, jT_lt, jF_lt, jT_le, jF_le, jT_eq, jF_eq, jT_z, jF_z, jF_neg, jT_nn, jT_pos, jF_pos, jT_le0, jF_le0, jT_x, jF_m1, jF_m1r, jT_tt, jI_add, jI_mul, jI_sub, jI_cl, jm_up_same, jm_up_o, jm_up_j, jbR_T, jbR_F]
  | m + 1, k, hk => by
    have h1 := h (6 + 3 * k + 1) (by omega)
    rw [show 6 + 3 * k + 1 = 7 + 3 * k by omega] at h1
    rw [jt_M_wearNow_4, if_neg (by rw [jI_le (by omega) (by omega)]; omega), jt_M_bellAt_0, jb_K_v, jt_M_wearNow_18, jI_mul, jI_add, jI_add, show 6 + 3 * k + 1 = 7 + 3 * k by omega]
    simp (disch := omega) only [jb_K_n, jb_K_v, ↓reduceIte, jT_lt, jF_lt, jT_le, jF_le, jT_eq, jF_eq, jT_z, jF_z, jF_neg, jT_nn, jT_pos, jF_pos, jT_le0, jF_le0, jT_x, jF_m1, jF_m1r, jT_tt, jI_add, jI_mul, jI_sub, jI_cl, jm_up_same, jm_up_o, jm_up_j, jbR_T, jbR_F, h1]
    exact jM_wearL h m (k + 1) (by omega)
theorem jM_wear {w : Nat → Nat} (h : jAr σ 308 146 w) : jb_Ev 114 [.ref (307 : Nat)] (jm_hp σ) = some (some (.int (jI (jsum (fun b => w (7 + 3 * b)) 5))), jm_hp σ) := by
  rw [jt_M_wearNow_0]
  exact jM_wearL h 5 0 (by omega)
theorem jV.book {w : Nat → Nat} (h : jV σ 1 w) : jRn σ 10 (w 0) (fun i => w (21 + 6 * i)) := by
  obtain ⟨g, h, -⟩ := h
  exact h.2.2.2.1
theorem o_undo (hC : JC σ S) (hM : JM σ S) (hI : JI S) : jOp σ 206 88 [] := by
  have hn : S 9 1 ≤ 8 := hI.2.1.1
  by_cases h : S 9 1 = 0
  · refine jOp_q (v := .int (-3)) hC hM hI ⟨σ, ?_, jcS.rf⟩ (fun τ hτ => ⟨τ, ?_, jmS.rf⟩)
    · rw [jt_D_undo_0, hC.2.1.1, if_pos (by rw [h]; rfl)]
    · rw [jt_M_undo_0, hτ.2.1.1, if_pos (by rw [h]; rfl)]
  · obtain ⟨hc1, o, ho, hc2, hc3⟩ := hC.2.1
    have hv := hc3 (S 9 1 - 1) (by omega)
    obtain ⟨σ1, e1, v1, A1⟩ := jV_take (v := 1) (by exact jc_1) (jc_slot ((o + (S 9 1 - 1)) % 8) (by omega)) (by omega) hv
    refine jOp_of (S' := js2 S 0 (S (10 + (S 9 1 - 1))) 1 (S 9 1 - 1)) (v := .int (jI (S 9 1 - 1))) hM ⟨jm_up σ1 76 2 (jI (S 9 1 - 1)), ?_, ?_, ?_⟩ (fun τ hτ => ?_) ?_
    · rw [jt_D_undo_0, hc1, if_neg (by rw [jI_eq0 (by omega)]; exact h), jt_History_giveBack_0 jc_1, hc1, jI_sub (by omega), jslot ho (by omega) hc2, jb_K_v, jt_History_giveBack_10 jc_1 (jc_slot ((o + (S 9 1 - 1)) % 8) (by omega)), e1, jb_K_n, jt_History_giveBack_21 jc_1 (jc_slot ((o + (S 9 1 - 1)) % 8) (by omega)), A1 76 2 (by omega), hc1, jI_sub (by omega), jb_K_n, jt_D_undo_24, jm_up_same]
    · have A2 : jA 76 77 σ1 (jm_up σ1 76 2 (jI (S 9 1 - 1))) := jA_up (by omega) (by omega)
      obtain ⟨k1, k2, k3, k4, k5, k6, k7, k8, k9⟩ := hC.keep (show jA 1 278 σ (jm_up σ1 76 2 (jI (S 9 1 - 1))) from (A1.mono (by omega) (by omega)).tr (A2.mono (by omega) (by omega)))
      refine ⟨v1.A A2 (by omega), ?_, ⟨k3 (by omega), fun z => ((hC.2.2.1.2 z).A A1 (by omega)).A A2 (by omega)⟩, ⟨k5 (by omega), k6 (by omega), k7 (by omega)⟩, k8 (by omega), k9 (by omega)⟩
      rw [js2_H _ _ _ _ (by omega)]
      refine ⟨jm_up_same _ _ _ _, o, ho, ?_, fun k hk => ?_⟩
      · rw [jm_up_j _ _ (by omega), A1 _ _ (by omega)]
        exact hc2
      · have hk : k < S 9 1 - 1 := hk
        exact ((hc3 k (by omega)).A A1 (by omega)).A A2 (by omega)
    · exact (show jA 1 278 σ (jm_up σ1 76 2 (jI (S 9 1 - 1))) from (A1.mono (by omega) (by omega)).tr ((jA_up (a := 76) (b := 77) (by omega) (by omega)).mono (by omega) (by omega))).Hi (by omega)
    · obtain ⟨m1, m2⟩ := hτ.2.1
      obtain ⟨σ2, e2, f1, f2, f3⟩ := jM_copies (σ := jm_up τ 307 5 (jI (S 9 1 - 1))) (a0 := 311) (a2 := 308) (a := (S 9 1 - 1) * 146) (b := 0) jc_311 jc_308 (by omega) (by rw [jn_311]; omega) (by rw [jn_308]; omega)
      refine ⟨σ2, ?_, ?_, ?_⟩
      · rw [jt_M_undo_0, m1, if_neg (by rw [jI_eq0 (by omega)]; exact h), jI_sub (by omega), jm_up_same, jI_mul]
        rw [show jI 0 = jI 0 from rfl] at e2
        rw [e2, jb_K_n, jt_M_undo_40, f1 307 5 (by omega), jm_up_same]
      · obtain ⟨k1, k2, k3, k4, k5, k6, k7, k8, k9⟩ := hτ.keep (P := fun q j => q = 308 ∨ q = 307 ∧ j = 5) (σ' := σ2) (fun q j z => by
          rw [f1 _ _ (by omega)]
          by_cases e : q = 307
          · subst e
            rw [jm_up_j _ _ (by omega)]
          · rw [jm_up_o _ _ e])
        refine ⟨fun j hj => ?_, ?_, ⟨k3 (by omega), k4 (fun j => by omega)⟩, k5 (fun j => by omega), k6 (fun j => by omega), k7 (fun j => by omega), k8 (fun j => by omega), k9 (by omega)⟩
        · have := f2 j hj
          rw [Nat.zero_add] at this
          rw [this, jm_up_o _ _ (by omega), show (S 9 1 - 1) * 146 + j = 146 * (S 9 1 - 1) + j by omega]
          exact m2 _ j (by omega) hj
        · rw [js2_H _ _ _ _ (by omega)]
          refine ⟨?_, fun k j hk hj => ?_⟩
          · rw [f1 _ _ (by omega), jm_up_same]
            rfl
          · have hk : k < S 9 1 - 1 := hk
            rw [f1 _ _ (by omega), jm_up_o _ _ (by omega)]
            exact m2 k j (by omega) hj
      · intro q j hq
        rw [f1 _ _ (by omega), jm_up_o _ _ (by omega)]
    · obtain ⟨i1, ⟨i2, i3⟩, i4⟩ := hI
      refine ⟨i3 (S 9 1 - 1) (by omega), ⟨?_, fun k hk => ?_⟩, i4⟩
      · show S 9 1 - 1 ≤ 8
        omega
      · have hk : k < S 9 1 - 1 := hk
        have := congrFun (js2_H S (S (10 + (S 9 1 - 1))) 1 (S 9 1 - 1) (a := 0) (by omega)) k
        rw [this]
        exact i3 k (by omega)
theorem o_save (hC : JC σ S) (hM : JM σ S) (hI : JI S) : jOp σ 181 89 [] := by
  obtain ⟨σ1, e1, v1, A1⟩ := jV_take (v := 51) (u := 1) jc_51 jc_1 (by omega) hC.1
  have A2 : jA 0 1 σ1 (jm_up σ1 0 15 (jI 1)) := jA_up (by omega) (by omega)
  refine jOp_of (S' := js2 S 1 (S 0) 0 1) (v := .int (jI (S 0 0))) hM ⟨jm_up σ1 0 15 (jI 1), ?_, ?_, ?_⟩ (fun τ hτ => ?_) ?_
  · rw [jt_D_save_0, e1, jb_K_n, jt_D_save_11, jR_size ((hC.1.A A1 (by omega)).A A2 (by omega)).book, jb_K_v, jt_D_save_29]
  · obtain ⟨k1, k2, k3, k4, k5, k6, k7, k8, k9⟩ := hC.keep A1
    refine ⟨(k1 (by omega)).A A2 (by omega), ?_, ⟨jm_up_same _ _ _ _, fun _ => v1.A A2 (by omega)⟩, ⟨(k5 (by omega)).A A2 (by omega), (k6 (by omega)).A A2 (by omega), (k7 (by omega)).A A2 (by omega)⟩, (k8 (by omega)).A A2 (by omega), ?_⟩
    · rw [js2_H _ _ _ _ (by omega)]
      exact (k2 (by omega)).A A2 (by omega)
    · rw [jm_up_j _ _ (by omega)]
      exact k9 (by omega)
  · exact (A1.Hi (by omega)).tr (A2.Hi (by omega))
  · obtain ⟨σ2, e2, f1, f2, f3⟩ := jM_copies (σ := τ) (a0 := 308) (a2 := 310) (a := 0) (b := 0) jc_308 jc_310 (by omega) (by rw [jn_308]; omega) (by rw [jn_310]; omega)
    refine ⟨jm_up σ2 307 4 (jI 1), ?_, ?_, ?_⟩
    · rw [jt_M_save_0, e2, jb_K_n, jt_M_save_13]
      simp (disch := omega) only [jb_K_n, jb_K_v, ↓reduceIte, jT_lt, jF_lt, jT_le, jF_le, jT_eq, jF_eq, jT_z, jF_z, jF_neg, jT_nn, jT_pos, jF_pos, jT_le0, jF_le0, jT_x, jF_m1, jF_m1r, jT_tt, jI_add, jI_mul, jI_sub, jI_cl, jm_up_same, jm_up_o, jm_up_j, jbR_T, jbR_F, f1 308 0, hτ.1 0 (by omega)]
    · obtain ⟨k1, k2, k3, k4, k5, k6, k7, k8, k9⟩ := hτ.keep (P := fun q j => q = 310 ∨ q = 307 ∧ j = 4) (σ' := jm_up σ2 307 4 (jI 1)) (fun q j z => by
        by_cases e : q = 307
        · subst e
          rw [jm_up_j _ _ (by omega), f1 _ _ (by omega)]
        · rw [jm_up_o _ _ e, f1 _ _ (by omega)])
      refine ⟨k1 (fun j => by omega), ?_, ⟨jm_up_same _ _ _ _, fun _ j hj => ?_⟩, k5 (fun j => by omega), k6 (fun j => by omega), k7 (fun j => by omega), k8 (fun j => by omega), k9 (by omega)⟩
      · rw [js2_H _ _ _ _ (by omega)]
        exact k2 (fun j => by omega)
      · have := f2 j hj
        rw [Nat.zero_add] at this
        rw [jm_up_o _ _ (by omega), this]
        exact hτ.1 j hj
    · intro q j hq
      rw [jm_up_o _ _ (by omega), f1 _ _ (by omega)]
  · obtain ⟨i1, ⟨i2, i3⟩, i4, i5⟩ := hI
    refine ⟨i1, ⟨i2, fun k hk => ?_⟩, ⟨Nat.le_refl _, fun _ => i1⟩, i5⟩
    have := congrFun (js2_H S (S 0) 0 1 (a := 1) (by omega)) k
    rw [this]
    exact i3 k hk
theorem o_restore (hC : JC σ S) (hM : JM σ S) (hI : JI S) : jOp σ 182 90 [] := by
  have h01 : S 9 0 ≤ 1 := hI.2.2.1.1
  by_cases h : S 9 0 = 0
  · refine jOp_q (v := .int (-3)) hC hM hI ⟨σ, ?_, jcS.rf⟩ (fun τ hτ => ⟨τ, ?_, jmS.rf⟩)
    · rw [jt_D_restore_0, hC.2.2.1.1, if_pos (by rw [h]; rfl)]
    · rw [jt_M_restore_0, hτ.2.2.1.1, if_pos (by rw [h]; rfl)]
  · obtain ⟨σ1, e1, v1, A1⟩ := jV_take (v := 1) (u := 51) jc_1 jc_51 (by omega) (hC.2.2.1.2 h)
    have A2 : jA 76 77 σ1 (jm_up σ1 76 2 (jI 0)) := jA_up (by omega) (by omega)
    refine jOp_of (S' := js2 S 0 (S 1) 1 0) (v := .int (jI (S 1 0))) hM ⟨jm_up σ1 76 2 (jI 0), ?_, ?_, ?_⟩ (fun τ hτ => ?_) ?_
    · rw [jt_D_restore_0, hC.2.2.1.1, if_neg (by rw [jI_eq0 (by omega)]; exact h), e1, jb_K_n, jt_D_restore_21, jt_History_clear_0, jb_K_n, jt_D_restore_28, jR_size (v1.A A2 (by omega)).book, jb_K_v, jt_D_restore_41]
    · obtain ⟨k1, k2, k3, k4, k5, k6, k7, k8, k9⟩ := hC.keep A1
      refine ⟨v1.A A2 (by omega), ?_, ⟨?_, fun z => (k4 (by omega) z).A A2 (by omega)⟩, ⟨(k5 (by omega)).A A2 (by omega), (k6 (by omega)).A A2 (by omega), (k7 (by omega)).A A2 (by omega)⟩, (k8 (by omega)).A A2 (by omega), ?_⟩
      · rw [js2_H _ _ _ _ (by omega)]
        obtain ⟨a1, o, a2, a3, a4⟩ := k2 (by omega)
        exact ⟨jm_up_same _ _ _ _, o, a2, by rw [jm_up_j _ _ (by omega)]; exact a3, fun k hk => absurd hk (Nat.not_lt_zero _)⟩
      · rw [jm_up_o _ _ (by omega)]
        exact k3 (by omega)
      · rw [jm_up_o _ _ (by omega)]
        exact k9 (by omega)
    · exact (A1.Hi (by omega)).tr (A2.Hi (by omega))
    · obtain ⟨σ2, e2, f1, f2, f3⟩ := jM_copies (σ := τ) (a0 := 310) (a2 := 308) (a := 0) (b := 0) jc_310 jc_308 (by omega) (by rw [jn_310]; omega) (by rw [jn_308]; omega)
      have hs := hτ.2.2.1.2 h
      refine ⟨jm_up σ2 307 5 (jI 0), ?_, ?_, ?_⟩
      · have f20 : σ2 308 0 = τ 310 0 := f2 0 (by omega)
        rw [jt_M_restore_0, hτ.2.2.1.1, if_neg (by rw [jI_eq0 (by omega)]; exact h), e2, jb_K_n, jt_M_restore_23]
        simp (disch := omega) only [jb_K_n, jb_K_v, ↓reduceIte, jT_lt, jF_lt, jT_le, jF_le, jT_eq, jF_eq, jT_z, jF_z, jF_neg, jT_nn, jT_pos, jF_pos, jT_le0, jF_le0, jT_x, jF_m1, jF_m1r, jT_tt, jI_add, jI_mul, jI_sub, jI_cl, jm_up_same, jm_up_o, jm_up_j, jbR_T, jbR_F, f20, hs 0 (by omega)]
      · obtain ⟨k1, k2, k3, k4, k5, k6, k7, k8, k9⟩ := hτ.keep (P := fun q j => q = 308 ∨ q = 307 ∧ j = 5) (σ' := jm_up σ2 307 5 (jI 0)) (fun q j z => by
          by_cases e : q = 307
          · subst e
            rw [jm_up_j _ _ (by omega), f1 _ _ (by omega)]
          · rw [jm_up_o _ _ e, f1 _ _ (by omega)])
        refine ⟨fun j hj => ?_, ⟨jm_up_same _ _ _ _, fun k j hk _ => absurd hk (Nat.not_lt_zero _)⟩, ⟨k3 (by omega), k4 (fun j => by omega)⟩, k5 (fun j => by omega), k6 (fun j => by omega), k7 (fun j => by omega), k8 (fun j => by omega), k9 (by omega)⟩
        have := f2 j hj
        rw [Nat.zero_add] at this
        rw [jm_up_o _ _ (by omega), this]
        exact hs j hj
      · intro q j hq
        rw [jm_up_o _ _ (by omega), f1 _ _ (by omega)]
    · obtain ⟨i1, ⟨i2, i3⟩, i4, i5⟩ := hI
      exact ⟨i4.2 h, ⟨Nat.zero_le _, fun k hk => absurd hk (Nat.not_lt_zero _)⟩, i4, i5⟩
theorem o_account (hC : JC σ S) (hM : JM σ S) (hI : JI S) (x : Int32) : jOp σ 143 160 [.int x] := by
  obtain ⟨g, ⟨h1, h2, h3, h4, h5, h6, h7, h8, h9, h10, h11, h12, h13⟩, hg⟩ := hC.1
  have e : ∀ n, n < 10 → jI n = jI n := fun _ _ => rfl
  by_cases hx : jlt x 10
  · obtain ⟨k, hk, rfl⟩ := hx
    have hv : ∀ j, ∀ τ, JM τ S → j < 146 → τ 308 j = jI (S 0 j) := fun j τ h hj => h.1 j hj
    rcases (show k = 0 ∨ k = 1 ∨ k = 2 ∨ k = 3 ∨ k = 4 ∨ k = 5 ∨ k = 6 ∨ k = 7 ∨ k = 8 ∨ k = 9 by omega) with rfl | rfl | rfl | rfl | rfl | rfl | rfl | rfl | rfl | rfl
    · exact jOp_q (v := .int (jI (S 0 0))) hC hM hI ⟨σ, by simp (disch := omega) only [jb_K_n, jb_K_v, ↓reduceIte, jT_lt, jF_lt, jT_le, jF_le, jT_eq, jF_eq, jT_z, jF_z, jF_neg, jT_nn, jT_pos, jF_pos, jT_le0, jF_le0, jT_x, jF_m1, jF_m1r, jT_tt, jI_add, jI_mul, jI_sub, jI_cl, jm_up_same, jm_up_o, jm_up_j, jbR_T, jbR_F, jt_D_account_0, jt_D_account_69, jt_D_account_83, jt_D_account_97, jt_D_account_135, jt_D_account_143, jt_D_account_154, jR_size h4], jcS.rf⟩ (fun τ hτ => ⟨τ, by have := hv 0 τ hτ (by omega); simp (disch := omega) only [jb_K_n, jb_K_v, ↓reduceIte, jT_lt, jF_lt, jT_le, jF_le, jT_eq, jF_eq, jT_z, jF_z, jF_neg, jT_nn, jT_pos, jF_pos, jT_le0, jF_le0, jT_x, jF_m1, jF_m1r, jT_tt, jI_add, jI_mul, jI_sub, jI_cl, jm_up_same, jm_up_o, jm_up_j, jbR_T, jbR_F, jt_M_account_0, jt_M_account_67, this], jmS.rf⟩)
    · exact jOp_q (v := .int (jI (S 0 1))) hC hM hI ⟨σ, by simp (disch := omega) only [jb_K_n, jb_K_v, ↓reduceIte, jT_lt, jF_lt, jT_le, jF_le, jT_eq, jF_eq, jT_z, jF_z, jF_neg, jT_nn, jT_pos, jF_pos, jT_le0, jF_le0, jT_x, jF_m1, jF_m1r, jT_tt, jI_add, jI_mul, jI_sub, jI_cl, jm_up_same, jm_up_o, jm_up_j, jbR_T, jbR_F, jt_D_account_0, jt_D_account_69, jt_D_account_83, jt_D_account_97, jt_D_account_135, jt_D_account_143, jt_D_account_154, jR_size h7], jcS.rf⟩ (fun τ hτ => ⟨τ, by have := hv 1 τ hτ (by omega); simp (disch := omega) only [jb_K_n, jb_K_v, ↓reduceIte, jT_lt, jF_lt, jT_le, jF_le, jT_eq, jF_eq, jT_z, jF_z, jF_neg, jT_nn, jT_pos, jF_pos, jT_le0, jF_le0, jT_x, jF_m1, jF_m1r, jT_tt, jI_add, jI_mul, jI_sub, jI_cl, jm_up_same, jm_up_o, jm_up_j, jbR_T, jbR_F, jt_M_account_0, jt_M_account_67, this], jmS.rf⟩)
    · exact jOp_q (v := .int (jI (S 0 2))) hC hM hI ⟨σ, by simp (disch := omega) only [jb_K_n, jb_K_v, ↓reduceIte, jT_lt, jF_lt, jT_le, jF_le, jT_eq, jF_eq, jT_z, jF_z, jF_neg, jT_nn, jT_pos, jF_pos, jT_le0, jF_le0, jT_x, jF_m1, jF_m1r, jT_tt, jI_add, jI_mul, jI_sub, jI_cl, jm_up_same, jm_up_o, jm_up_j, jbR_T, jbR_F, jt_D_account_0, jt_D_account_69, jt_D_account_83, jt_D_account_97, jt_D_account_135, jt_D_account_143, jt_D_account_154, jR_size h9], jcS.rf⟩ (fun τ hτ => ⟨τ, by have := hv 2 τ hτ (by omega); simp (disch := omega) only [jb_K_n, jb_K_v, ↓reduceIte, jT_lt, jF_lt, jT_le, jF_le, jT_eq, jF_eq, jT_z, jF_z, jF_neg, jT_nn, jT_pos, jF_pos, jT_le0, jF_le0, jT_x, jF_m1, jF_m1r, jT_tt, jI_add, jI_mul, jI_sub, jI_cl, jm_up_same, jm_up_o, jm_up_j, jbR_T, jbR_F, jt_M_account_0, jt_M_account_67, this], jmS.rf⟩)
    · exact jOp_q (v := .int (jI (S 0 3))) hC hM hI ⟨σ, by simp (disch := omega) only [jb_K_n, jb_K_v, ↓reduceIte, jT_lt, jF_lt, jT_le, jF_le, jT_eq, jF_eq, jT_z, jF_z, jF_neg, jT_nn, jT_pos, jF_pos, jT_le0, jF_le0, jT_x, jF_m1, jF_m1r, jT_tt, jI_add, jI_mul, jI_sub, jI_cl, jm_up_same, jm_up_o, jm_up_j, jbR_T, jbR_F, jt_D_account_0, jt_D_account_69, jt_D_account_83, jt_D_account_97, jt_D_account_135, jt_D_account_143, jt_D_account_154, h11], jcS.rf⟩ (fun τ hτ => ⟨τ, by have := hv 3 τ hτ (by omega); simp (disch := omega) only [jb_K_n, jb_K_v, ↓reduceIte, jT_lt, jF_lt, jT_le, jF_le, jT_eq, jF_eq, jT_z, jF_z, jF_neg, jT_nn, jT_pos, jF_pos, jT_le0, jF_le0, jT_x, jF_m1, jF_m1r, jT_tt, jI_add, jI_mul, jI_sub, jI_cl, jm_up_same, jm_up_o, jm_up_j, jbR_T, jbR_F, jt_M_account_0, jt_M_account_67, this], jmS.rf⟩)
    · exact jOp_q (v := .int (jI (S 0 4))) hC hM hI ⟨σ, by simp (disch := omega) only [jb_K_n, jb_K_v, ↓reduceIte, jT_lt, jF_lt, jT_le, jF_le, jT_eq, jF_eq, jT_z, jF_z, jF_neg, jT_nn, jT_pos, jF_pos, jT_le0, jF_le0, jT_x, jF_m1, jF_m1r, jT_tt, jI_add, jI_mul, jI_sub, jI_cl, jm_up_same, jm_up_o, jm_up_j, jbR_T, jbR_F, jt_D_account_0, jt_D_account_69, jt_D_account_83, jt_D_account_97, jt_D_account_135, jt_D_account_143, jt_D_account_154, h12], jcS.rf⟩ (fun τ hτ => ⟨τ, by have := hv 4 τ hτ (by omega); simp (disch := omega) only [jb_K_n, jb_K_v, ↓reduceIte, jT_lt, jF_lt, jT_le, jF_le, jT_eq, jF_eq, jT_z, jF_z, jF_neg, jT_nn, jT_pos, jF_pos, jT_le0, jF_le0, jT_x, jF_m1, jF_m1r, jT_tt, jI_add, jI_mul, jI_sub, jI_cl, jm_up_same, jm_up_o, jm_up_j, jbR_T, jbR_F, jt_M_account_0, jt_M_account_67, this], jmS.rf⟩)
    · exact jOp_q (v := .int (jI (S 0 5))) hC hM hI ⟨σ, by simp (disch := omega) only [jb_K_n, jb_K_v, ↓reduceIte, jT_lt, jF_lt, jT_le, jF_le, jT_eq, jF_eq, jT_z, jF_z, jF_neg, jT_nn, jT_pos, jF_pos, jT_le0, jF_le0, jT_x, jF_m1, jF_m1r, jT_tt, jI_add, jI_mul, jI_sub, jI_cl, jm_up_same, jm_up_o, jm_up_j, jbR_T, jbR_F, jt_D_account_0, jt_D_account_69, jt_D_account_83, jt_D_account_97, jt_D_account_135, jt_D_account_143, jt_D_account_154, h13], jcS.rf⟩ (fun τ hτ => ⟨τ, by have := hv 5 τ hτ (by omega); simp (disch := omega) only [jb_K_n, jb_K_v, ↓reduceIte, jT_lt, jF_lt, jT_le, jF_le, jT_eq, jF_eq, jT_z, jF_z, jF_neg, jT_nn, jT_pos, jF_pos, jT_le0, jF_le0, jT_x, jF_m1, jF_m1r, jT_tt, jI_add, jI_mul, jI_sub, jI_cl, jm_up_same, jm_up_o, jm_up_j, jbR_T, jbR_F, jt_M_account_0, jt_M_account_67, this], jmS.rf⟩)
    · exact jOp_q (v := .int (jI (jsum (fun b => S 0 (7 + 3 * b)) 5))) hC hM hI ⟨σ, by simp (disch := omega) only [jb_K_n, jb_K_v, ↓reduceIte, jT_lt, jF_lt, jT_le, jF_le, jT_eq, jF_eq, jT_z, jF_z, jF_neg, jT_nn, jT_pos, jF_pos, jT_le0, jF_le0, jT_x, jF_m1, jF_m1r, jT_tt, jI_add, jI_mul, jI_sub, jI_cl, jm_up_same, jm_up_o, jm_up_j, jbR_T, jbR_F, jt_D_account_0, jt_D_account_69, jt_D_account_83, jt_D_account_97, jt_D_account_135, jt_D_account_143, jt_D_account_154, jR_sum h2], jcS.rf⟩ (fun τ hτ => ⟨τ, by simp (disch := omega) only [jb_K_n, jb_K_v, ↓reduceIte, jT_lt, jF_lt, jT_le, jF_le, jT_eq, jF_eq, jT_z, jF_z, jF_neg, jT_nn, jT_pos, jF_pos, jT_le0, jF_le0, jT_x, jF_m1, jF_m1r, jT_tt, jI_add, jI_mul, jI_sub, jI_cl, jm_up_same, jm_up_o, jm_up_j, jbR_T, jbR_F, jt_M_account_0, jt_M_account_67, jM_wear hτ.1], jmS.rf⟩)
    · exact jOp_q (v := .int (jI (S 9 2))) hC hM hI ⟨σ, by simp (disch := omega) only [jb_K_n, jb_K_v, ↓reduceIte, jT_lt, jF_lt, jT_le, jF_le, jT_eq, jF_eq, jT_z, jF_z, jF_neg, jT_nn, jT_pos, jF_pos, jT_le0, jF_le0, jT_x, jF_m1, jF_m1r, jT_tt, jI_add, jI_mul, jI_sub, jI_cl, jm_up_same, jm_up_o, jm_up_j, jbR_T, jbR_F, jt_D_account_0, jt_D_account_69, jt_D_account_83, jt_D_account_97, jt_D_account_135, jt_D_account_143, jt_D_account_154, jR_size hC.2.2.2.1.1], jcS.rf⟩ (fun τ hτ => ⟨τ, by simp (disch := omega) only [jb_K_n, jb_K_v, ↓reduceIte, jT_lt, jF_lt, jT_le, jF_le, jT_eq, jF_eq, jT_z, jF_z, jF_neg, jT_nn, jT_pos, jF_pos, jT_le0, jF_le0, jT_x, jF_m1, jF_m1r, jT_tt, jI_add, jI_mul, jI_sub, jI_cl, jm_up_same, jm_up_o, jm_up_j, jbR_T, jbR_F, jt_M_account_0, jt_M_account_67, hτ.2.2.2.1.1], jmS.rf⟩)
    · exact jOp_q (v := .int (jI (S 9 3))) hC hM hI ⟨σ, by simp (disch := omega) only [jb_K_n, jb_K_v, ↓reduceIte, jT_lt, jF_lt, jT_le, jF_le, jT_eq, jF_eq, jT_z, jF_z, jF_neg, jT_nn, jT_pos, jF_pos, jT_le0, jF_le0, jT_x, jF_m1, jF_m1r, jT_tt, jI_add, jI_mul, jI_sub, jI_cl, jm_up_same, jm_up_o, jm_up_j, jbR_T, jbR_F, jt_D_account_0, jt_D_account_69, jt_D_account_83, jt_D_account_97, jt_D_account_135, jt_D_account_143, jt_D_account_154, jR_size hC.2.2.2.1.2.1], jcS.rf⟩ (fun τ hτ => ⟨τ, by simp (disch := omega) only [jb_K_n, jb_K_v, ↓reduceIte, jT_lt, jF_lt, jT_le, jF_le, jT_eq, jF_eq, jT_z, jF_z, jF_neg, jT_nn, jT_pos, jF_pos, jT_le0, jF_le0, jT_x, jF_m1, jF_m1r, jT_tt, jI_add, jI_mul, jI_sub, jI_cl, jm_up_same, jm_up_o, jm_up_j, jbR_T, jbR_F, jt_M_account_0, jt_M_account_67, hτ.2.2.2.2.1.1], jmS.rf⟩)
    · exact jOp_q (v := .int (jI (S 9 1))) hC hM hI ⟨σ, by simp (disch := omega) only [jb_K_n, jb_K_v, ↓reduceIte, jT_lt, jF_lt, jT_le, jF_le, jT_eq, jF_eq, jT_z, jF_z, jF_neg, jT_nn, jT_pos, jF_pos, jT_le0, jF_le0, jT_x, jF_m1, jF_m1r, jT_tt, jI_add, jI_mul, jI_sub, jI_cl, jm_up_same, jm_up_o, jm_up_j, jbR_T, jbR_F, jt_D_account_0, jt_D_account_69, jt_D_account_83, jt_D_account_97, jt_D_account_135, jt_D_account_143, jt_D_account_154, hC.2.1.1], jcS.rf⟩ (fun τ hτ => ⟨τ, by simp (disch := omega) only [jb_K_n, jb_K_v, ↓reduceIte, jT_lt, jF_lt, jT_le, jF_le, jT_eq, jF_eq, jT_z, jF_z, jF_neg, jT_nn, jT_pos, jF_pos, jT_le0, jF_le0, jT_x, jF_m1, jF_m1r, jT_tt, jI_add, jI_mul, jI_sub, jI_cl, jm_up_same, jm_up_o, jm_up_j, jbR_T, jbR_F, jt_M_account_0, jt_M_account_67, hτ.2.1.1], jmS.rf⟩)
  · have ne : ∀ k, k < 10 → ¬ x = jI k := fun k hk z => hx ⟨k, hk, z⟩
    refine jOp_q (v := .int (-2)) hC hM hI ⟨σ, ?_, jcS.rf⟩ (fun τ hτ => ⟨τ, ?_, jmS.rf⟩)
    · simp (disch := omega) only [jb_K_n, jb_K_v, ↓reduceIte, jT_lt, jF_lt, jT_le, jF_le, jT_eq, jF_eq, jT_z, jF_z, jF_neg, jT_nn, jT_pos, jF_pos, jT_le0, jF_le0, jT_x, jF_m1, jF_m1r, jT_tt, jI_add, jI_mul, jI_sub, jI_cl, jm_up_same, jm_up_o, jm_up_j, jbR_T, jbR_F, jt_D_account_0, ne 0, ne 1, ne 2, ne 3, ne 4, ne 5, ne 6, ne 7, ne 8, ne 9]
    · simp (disch := omega) only [jb_K_n, jb_K_v, ↓reduceIte, jT_lt, jF_lt, jT_le, jF_le, jT_eq, jF_eq, jT_z, jF_z, jF_neg, jT_nn, jT_pos, jF_pos, jT_le0, jF_le0, jT_x, jF_m1, jF_m1r, jT_tt, jI_add, jI_mul, jI_sub, jI_cl, jm_up_same, jm_up_o, jm_up_j, jbR_T, jbR_F, jt_M_account_0, ne 0, ne 1, ne 2, ne 3, ne 4, ne 5, ne 6, ne 7, ne 8, ne 9]
end OPS
