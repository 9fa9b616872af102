/-! ===== word ===== -/
section AD
variable {σ : jm_S} {w : Nat → Nat} {S : jSt}
theorem jMw.u7 {n : Nat} {f : Nat → Nat} (h : jMw σ w n f) (x y : Int32) : jMw (jm_up (jm_up σ 307 17 x) 307 18 y) w n f := ⟨fun j hj => by rw [jm_up_o _ _ (by omega), jm_up_o _ _ (by omega)]; exact h.1 j hj, by rw [jm_up_j _ _ (by omega), jm_up_j _ _ (by omega)]; exact h.2.1, fun j hj => by rw [jm_up_o _ _ (by omega), jm_up_o _ _ (by omega)]; exact h.2.2 j hj⟩
theorem mM_hind1 (h : σ 307 17 = jI 0) (y z : Int32) : jb_Ev 34 [.ref (307 : Nat), .int (jI 1), .int y, .int z] (jm_hp σ) = some (none, jm_hp (jm_up (jm_up σ 307 17 y) 307 18 z)) := by
  simp (disch := omega) only [jb_K_n, jb_K_v, ↓reduceIte, jT_lt, jF_lt, jT_le, jF_le, jT_eq, jF_eq, jT_z, jF_z, jF_neg, jT_nn, jT_pos, jF_pos, jT_le0, jF_le0, jT_x, jF_m1, jF_m1r, jT_tt, jI_add, jI_mul, jI_sub, jI_cl, jm_up_same, jm_up_o, jm_up_j, jbR_T, jbR_F, jt_M_hinders_0, h]
theorem mM_hind0 (y z : Int32) : jb_Ev 34 [.ref (307 : Nat), .int (jI 0), .int y, .int z] (jm_hp σ) = some (none, jm_hp σ) := by
  simp (disch := omega) only [jb_K_n, jb_K_v, ↓reduceIte, jT_lt, jF_lt, jT_le, jF_le, jT_eq, jF_eq, jT_z, jF_z, jF_neg, jT_nn, jT_pos, jF_pos, jT_le0, jF_le0, jT_x, jF_m1, jF_m1r, jT_tt, jI_add, jI_mul, jI_sub, jI_cl, jm_up_same, jm_up_o, jm_up_j, jbR_T, jbR_F, jt_M_hinders_0]
theorem mM_hind2 (x : Int32) {k : Nat} (h : σ 307 17 = jI k) (hk : 0 < k) (hk2 : k < 10) (y z : Int32) : jb_Ev 34 [.ref (307 : Nat), .int x, .int y, .int z] (jm_hp σ) = some (none, jm_hp σ) := by
  rw [jt_M_hinders_0]
  by_cases e : x = 0
  · rw [if_pos e]
  · rw [if_neg e]
    simp (disch := omega) only [jb_K_n, jb_K_v, ↓reduceIte, jT_lt, jF_lt, jT_le, jF_le, jT_eq, jF_eq, jT_z, jF_z, jF_neg, jT_nn, jT_pos, jF_pos, jT_le0, jF_le0, jT_x, jF_m1, jF_m1r, jT_tt, jI_add, jI_mul, jI_sub, jI_cl, jm_up_same, jm_up_o, jm_up_j, jbR_T, jbR_F, h]
theorem mM_sameL (hw : jInv w) {n : Nat} {f : Nat → Nat} (hM : jMw σ w n f) (hf : ∀ k, k < n → f k ≤ 5) (hn : n ≤ 4) : ∀ (m k : Nat), k + m = w 0 → jb_Ex 150 (4, [.ref (307 : Nat), .int (if jtw w n f < k then jI (jtw w n f) else -1), .int (jI k)], [], jm_hp σ) = some (some (.int (if jtw w n f < w 0 then jI (jtw w n f) else -1)), jm_hp σ)
  | 0, k, hm => by
    have b0 := hw.b0
    obtain rfl : k = w 0 := by omega
    have h0 := hM.1 0 (by omega)
    rw [jt_M_same_4]
    simp (disch := omega) only [jb_K_n, jb_K_v, ↓reduceIte, jT_lt, jF_lt, jT_le, jF_le, jT_eq, jF_eq, jT_z, jF_z, jF_neg, jT_nn, jT_pos, jF_pos, jT_le0, jF_le0, jT_x, jF_m1, jF_m1r, jT_tt, jI_add, jI_mul, jI_sub, jI_cl, jm_up_same, jm_up_o, jm_up_j, jbR_T, jbR_F, h0]
  | m + 1, k, hm => by
    have b0 := hw.b0
    obtain ⟨a1, a2, a3, a4, a5, a6⟩ := hw.2.1.2.1 k (by omega)
    have h0 := hM.1 0 (by omega)
    have h1 := hM.1 (22 + 6 * k) (by omega)
    have e0 : 21 + 6 * k + 1 = 22 + 6 * k := by omega
    have IH := mM_sameL hw hM hf hn m (k + 1) (by omega)
    have hkey : jspl w k = jspf n f ↔ w (22 + 6 * k) = n ∧ ∀ j, j < n → f j = w (23 + 6 * k + j) := by
      rw [jspl_jspf, jspf_inj a4 hf a3 hn]
      constructor
      · rintro ⟨rfl, h⟩
        exact ⟨rfl, fun j hj => (h j hj).symm⟩
      · rintro ⟨rfl, h⟩
        exact ⟨rfl, fun j hj => (h j hj).symm⟩
    by_cases e : jspl w k = jspf n f
    · have ht := jtw_un hw (show k < w 0 by omega) e
      rw [ht, if_pos (show k < k + 1 by omega)] at IH
      rw [ht, if_neg (show ¬ k < k by omega), jt_M_same_4]
      obtain ⟨c1, c2⟩ := hkey.mp e
      have hst : jst w n f k 0 = true := jst_t.mpr ⟨by omega, fun j hj => by rw [Nat.zero_add]; exact c2 j (by omega)⟩
      have hh := mM_here hw hM hf (by omega) (show k < w 0 by omega) (show 0 ≤ 60 by omega)
      rw [jB_t hst] at hh
      simp (disch := omega) only [jb_K_n, jb_K_v, ↓reduceIte, jT_lt, jF_lt, jT_le, jF_le, jT_eq, jF_eq, jT_z, jF_z, jF_neg, jT_nn, jT_pos, jF_pos, jT_le0, jF_le0, jT_x, jF_m1, jF_m1r, jT_tt, jI_add, jI_mul, jI_sub, jI_cl, jm_up_same, jm_up_o, jm_up_j, jbR_T, jbR_F, h0, jt_M_wordAt_0, jt_M_same_22, e0, h1, hM.2.1, hh, jt_M_same_38, IH]
    · have ht : (jtw w n f < k + 1) = (jtw w n f < k) := by
        apply propext
        constructor
        · intro z
          by_cases e2 : jtw w n f = k
          · exact absurd (e2 ▸ jtw_is (by omega)) e
          · omega
        · intro z; omega
      rw [show (if jtw w n f < k + 1 then jI (jtw w n f) else (-1 : Int32)) = (if jtw w n f < k then jI (jtw w n f) else -1) by simp only [ht]] at IH
      rw [jt_M_same_4]
      by_cases c1 : w (22 + 6 * k) = n
      · have hst : jst w n f k 0 = false := jst_f.mpr (fun z => e (hkey.mpr ⟨c1, fun j hj => by have := z.2 j (by omega); rw [Nat.zero_add] at this; exact this⟩))
        have hh := mM_here hw hM hf (by omega) (show k < w 0 by omega) (show 0 ≤ 60 by omega)
        rw [jB_f hst] at hh
        simp (disch := omega) only [jb_K_n, jb_K_v, ↓reduceIte, jT_lt, jF_lt, jT_le, jF_le, jT_eq, jF_eq, jT_z, jF_z, jF_neg, jT_nn, jT_pos, jF_pos, jT_le0, jF_le0, jT_x, jF_m1, jF_m1r, jT_tt, jI_add, jI_mul, jI_sub, jI_cl, jm_up_same, jm_up_o, jm_up_j, jbR_T, jbR_F, h0, jt_M_wordAt_0, jt_M_same_22, e0, h1, hM.2.1, hh, jt_M_same_38]
        exact IH
      · simp (disch := omega) only [jb_K_n, jb_K_v, ↓reduceIte, jT_lt, jF_lt, jT_le, jF_le, jT_eq, jF_eq, jT_z, jF_z, jF_neg, jT_nn, jT_pos, jF_pos, jT_le0, jF_le0, jT_x, jF_m1, jF_m1r, jT_tt, jI_add, jI_mul, jI_sub, jI_cl, jm_up_same, jm_up_o, jm_up_j, jbR_T, jbR_F, h0, jt_M_wordAt_0, jt_M_same_22, e0, h1, hM.2.1]
        exact IH
theorem mM_same (hw : jInv w) {n : Nat} {f : Nat → Nat} (hM : jMw σ w n f) (hf : ∀ k, k < n → f k ≤ 5) (hn : n ≤ 4) : jb_Ev 150 [.ref (307 : Nat)] (jm_hp σ) = some (some (.int (if jtw w n f < w 0 then jI (jtw w n f) else -1)), jm_hp σ) := by
  have := mM_sameL hw hM hf hn (w 0) 0 (Nat.zero_add _)
  rw [if_neg (Nat.not_lt_zero _)] at this
  rw [jt_M_same_0]
  exact this
theorem mM_addsL {n a : Nat} {f v : Nat → Nat} (hn : n ≤ 4) (ha : a + 6 ≤ 146) (ha1 : 1 ≤ a) (x : Int32) : ∀ (m k : Nat) (τ : jm_S), k + m = 4 → jAr τ 308 146 (fun j => if a + 2 ≤ j ∧ j < a + 2 + k then (if j - (a + 2) < n then f (j - (a + 2)) else 0) else v j) → τ 307 20 = jI n → jAr τ 315 n f → v 0 ≤ 8 → ∃ τ', jb_Ex 185 (172, [.ref (307 : Nat), .int x, .int (jI a), .int (jI k)], [], jm_hp τ) = some (some (.int (jI (v 0))), jm_hp τ') ∧ jAr τ' 308 146 (jn0 (fun j => if a + 2 ≤ j ∧ j < a + 2 + 4 then (if j - (a + 2) < n then f (j - (a + 2)) else 0) else v j) 0 (v 0 + 1)) ∧ jm8 τ τ'
  | 0, k, τ, hm, h1, h2, h3, h4 => by
    obtain rfl : k = 4 := by omega
    have h0 := h1 0 (by omega)
    dsimp only at h0
    rw [if_neg (by omega)] at h0
    refine ⟨jm_up τ 308 0 (jI (v 0 + 1)), ?_, h1.up 0 _, fun q j hq => jm_up_o _ _ hq⟩
    rw [jt_M_adds_172]
    simp (disch := omega) only [jb_K_n, jb_K_v, ↓reduceIte, jT_lt, jF_lt, jT_le, jF_le, jT_eq, jF_eq, jT_z, jF_z, jF_neg, jT_nn, jT_pos, jF_pos, jT_le0, jF_le0, jT_x, jF_m1, jF_m1r, jT_tt, jI_add, jI_mul, jI_sub, jI_cl, jm_up_same, jm_up_o, jm_up_j, jbR_T, jbR_F, h0, Nat.add_sub_cancel]
  | m + 1, k, τ, hm, h1, h2, h3, h4 => by
    have e0 : a + 2 + k = a + (2 + k) := by omega
    have hx : jAr (jm_up τ 308 (a + 2 + k) (jI (if k < n then f k else 0))) 308 146 (fun j => if a + 2 ≤ j ∧ j < a + 2 + (k + 1) then (if j - (a + 2) < n then f (j - (a + 2)) else 0) else v j) := (h1.up (a + 2 + k) _).congr (fun j hj => by
      by_cases e : j = a + 2 + k
      · rw [jn0_e e, e]
        refine Eq.symm ?_
        rw [if_pos (by omega), Nat.add_sub_cancel_left]
      · rw [jn0_o e]
        refine Eq.symm ?_
        by_cases e2 : a + 2 ≤ j ∧ j < a + 2 + k
        · rw [if_pos e2, if_pos (by omega)]
        · rw [if_neg e2, if_neg (by omega)])
    obtain ⟨τ', g1, g2, g3⟩ := mM_addsL hn ha ha1 x m (k + 1) _ (by omega) hx (by rw [jm_up_o _ _ (by omega)]; exact h2) (fun j hj => by rw [jm_up_o _ _ (by omega)]; exact h3 j hj) h4
    refine ⟨τ', ?_, g2, fun q j hq => (g3 q j hq).trans (jm_up_o _ _ hq)⟩
    rw [← g1, jt_M_adds_172]
    by_cases e : k < n
    · rw [if_pos e]
      have h5 := h3 k e
      simp (disch := omega) only [jb_K_n, jb_K_v, ↓reduceIte, jT_lt, jF_lt, jT_le, jF_le, jT_eq, jF_eq, jT_z, jF_z, jF_neg, jT_nn, jT_pos, jF_pos, jT_le0, jF_le0, jT_x, jF_m1, jF_m1r, jT_tt, jI_add, jI_mul, jI_sub, jI_cl, jm_up_same, jm_up_o, jm_up_j, jbR_T, jbR_F, h2, h5]
    · rw [if_neg e]
      simp (disch := omega) only [jb_K_n, jb_K_v, ↓reduceIte, jT_lt, jF_lt, jT_le, jF_le, jT_eq, jF_eq, jT_z, jF_z, jF_neg, jT_nn, jT_pos, jF_pos, jT_le0, jF_le0, jT_x, jF_m1, jF_m1r, jT_tt, jI_add, jI_mul, jI_sub, jI_cl, jm_up_same, jm_up_o, jm_up_j, jbR_T, jbR_F, h2]
theorem mM_adds (hw : jInv w) {n kd : Nat} {f : Nat → Nat} (hM : jMw σ w n f) (h17 : σ 307 17 = jI 0) (hf : ∀ k, k < n → f k ≤ 5) (hn : n ≤ 60) : jMO σ (qent w kd n f) (jb_Ev 185 [.ref (307 : Nat), .int (jI kd)] (jm_hp σ)) := by
  unfold qent
  have b0 := hw.b0
  have m0 := hM.1 0 (by omega)
  have m1 := hM.2.1
  by_cases c1 : n < 1 ∨ 4 < n
  · rw [if_pos c1]
    refine ⟨jI 0, jm_up (jm_up σ 307 17 (jI 4)) 307 18 (jI n), ?_, by simp (disch := omega) only [jb_K_n, jb_K_v, ↓reduceIte, jT_lt, jF_lt, jT_le, jF_le, jT_eq, jF_eq, jT_z, jF_z, jF_neg, jT_nn, jT_pos, jF_pos, jT_le0, jF_le0, jT_x, jF_m1, jF_m1r, jT_tt, jI_add, jI_mul, jI_sub, jI_cl, jm_up_same, jm_up_o, jm_up_j, jbR_T, jbR_F], by simp (disch := omega) only [jb_K_n, jb_K_v, ↓reduceIte, jT_lt, jF_lt, jT_le, jF_le, jT_eq, jF_eq, jT_z, jF_z, jF_neg, jT_nn, jT_pos, jF_pos, jT_le0, jF_le0, jT_x, jF_m1, jF_m1r, jT_tt, jI_add, jI_mul, jI_sub, jI_cl, jm_up_same, jm_up_o, jm_up_j, jbR_T, jbR_F], (jmf.rf.u7 _).u7' _⟩
    have hN := jM_inN (σ := σ) (x := jI n) (l := 1) (n := 4) (fun ⟨j, z1, z2, z3⟩ => by have := (jI_eq (by omega) (by omega)).mp z3; omega) (by omega) (by omega)
    have hh := mM_hind2 (σ := jm_up (jm_up σ 307 17 (jI 4)) 307 18 (jI n)) (k := 4) (jI 1) (by simp (disch := omega) only [jb_K_n, jb_K_v, ↓reduceIte, jT_lt, jF_lt, jT_le, jF_le, jT_eq, jF_eq, jT_z, jF_z, jF_neg, jT_nn, jT_pos, jF_pos, jT_le0, jF_le0, jT_x, jF_m1, jF_m1r, jT_tt, jI_add, jI_mul, jI_sub, jI_cl, jm_up_same, jm_up_o, jm_up_j, jbR_T, jbR_F]) (by omega) (by omega) (jI 1) (jI 8)
    have hh0 := mM_hind2 (σ := jm_up (jm_up σ 307 17 (jI 4)) 307 18 (jI n)) (k := 4) (jI 0) (by simp (disch := omega) only [jb_K_n, jb_K_v, ↓reduceIte, jT_lt, jF_lt, jT_le, jF_le, jT_eq, jF_eq, jT_z, jF_z, jF_neg, jT_nn, jT_pos, jF_pos, jT_le0, jF_le0, jT_x, jF_m1, jF_m1r, jT_tt, jI_add, jI_mul, jI_sub, jI_cl, jm_up_same, jm_up_o, jm_up_j, jbR_T, jbR_F]) (by omega) (by omega) (jI 1) (jI 8)
    rw [jt_M_adds_0, m1]
    by_cases e : w 0 = 8
    · simp (disch := omega) only [jb_K_n, jb_K_v, ↓reduceIte, jT_lt, jF_lt, jT_le, jF_le, jT_eq, jF_eq, jT_z, jF_z, jF_neg, jT_nn, jT_pos, jF_pos, jT_le0, jF_le0, jT_x, jF_m1, jF_m1r, jT_tt, jI_add, jI_mul, jI_sub, jI_cl, jm_up_same, jm_up_o, jm_up_j, jbR_T, jbR_F, hN, jt_M_adds_10, m1, mM_hind1 h17, jt_M_adds_26, jt_M_adds_107, m0, e, hh, jt_M_adds_130]
    · simp (disch := omega) only [jb_K_n, jb_K_v, ↓reduceIte, jT_lt, jF_lt, jT_le, jF_le, jT_eq, jF_eq, jT_z, jF_z, jF_neg, jT_nn, jT_pos, jF_pos, jT_le0, jF_le0, jT_x, jF_m1, jF_m1r, jT_tt, jI_add, jI_mul, jI_sub, jI_cl, jm_up_same, jm_up_o, jm_up_j, jbR_T, jbR_F, hN, jt_M_adds_10, m1, mM_hind1 h17, jt_M_adds_26, jt_M_adds_107, m0, hh0, jt_M_adds_130]
  rw [if_neg c1]
  have hY := jM_inY (σ := σ) (k := n) (l := 1) (n := 4) (by omega) (by omega) (by omega)
  have f0 := hf 0 (by omega)
  have f1 := hf (n - 1) (by omega)
  have r0 := hM.2.2 0 (by omega)
  have r1 := hM.2.2 (n - 1) (by omega)
  by_cases c2 : f 0 = 5
  · rw [if_pos c2]
    refine ⟨jI 0, jm_up (jm_up σ 307 17 (jI 5)) 307 18 (jI 0), ?_, by simp (disch := omega) only [jb_K_n, jb_K_v, ↓reduceIte, jT_lt, jF_lt, jT_le, jF_le, jT_eq, jF_eq, jT_z, jF_z, jF_neg, jT_nn, jT_pos, jF_pos, jT_le0, jF_le0, jT_x, jF_m1, jF_m1r, jT_tt, jI_add, jI_mul, jI_sub, jI_cl, jm_up_same, jm_up_o, jm_up_j, jbR_T, jbR_F], by simp (disch := omega) only [jb_K_n, jb_K_v, ↓reduceIte, jT_lt, jF_lt, jT_le, jF_le, jT_eq, jF_eq, jT_z, jF_z, jF_neg, jT_nn, jT_pos, jF_pos, jT_le0, jF_le0, jT_x, jF_m1, jF_m1r, jT_tt, jI_add, jI_mul, jI_sub, jI_cl, jm_up_same, jm_up_o, jm_up_j, jbR_T, jbR_F], (jmf.rf.u7 _).u7' _⟩
    have hh : ∀ x y z, jb_Ev 34 [.ref (307 : Nat), .int x, .int y, .int z] (jm_hp (jm_up (jm_up σ 307 17 (jI 5)) 307 18 (jI 0))) = some (none, jm_hp (jm_up (jm_up σ 307 17 (jI 5)) 307 18 (jI 0))) := fun x y z => mM_hind2 (k := 5) x (by simp (disch := omega) only [jb_K_n, jb_K_v, ↓reduceIte, jT_lt, jF_lt, jT_le, jF_le, jT_eq, jF_eq, jT_z, jF_z, jF_neg, jT_nn, jT_pos, jF_pos, jT_le0, jF_le0, jT_x, jF_m1, jF_m1r, jT_tt, jI_add, jI_mul, jI_sub, jI_cl, jm_up_same, jm_up_o, jm_up_j, jbR_T, jbR_F]) (by omega) (by omega) y z
    have hs := mM_same hw (hM.u7 (jI 5) (jI 0)) hf (by omega)
    rw [jt_M_adds_0, m1]
    simp (disch := omega) only [jb_K_n, jb_K_v, ↓reduceIte, jT_lt, jF_lt, jT_le, jF_le, jT_eq, jF_eq, jT_z, jF_z, jF_neg, jT_nn, jT_pos, jF_pos, jT_le0, jF_le0, jT_x, jF_m1, jF_m1r, jT_tt, jI_add, jI_mul, jI_sub, jI_cl, jm_up_same, jm_up_o, jm_up_j, jbR_T, jbR_F, hY, jt_M_adds_10, m1, mM_hind0, jt_M_adds_26, h17, r0, c2, mM_hind1 h17, jt_M_adds_54]
    by_cases c3 : f (n - 1) = 5
    · simp (disch := omega) only [jb_K_n, jb_K_v, ↓reduceIte, jT_lt, jF_lt, jT_le, jF_le, jT_eq, jF_eq, jT_z, jF_z, jF_neg, jT_nn, jT_pos, jF_pos, jT_le0, jF_le0, jT_x, jF_m1, jF_m1r, jT_tt, jI_add, jI_mul, jI_sub, jI_cl, jm_up_same, jm_up_o, jm_up_j, jbR_T, jbR_F, r1, c3, hh, jt_M_adds_85, hs, jt_M_adds_90]
      split <;> (by_cases e : w 0 = 8 <;> simp (disch := omega) only [jb_K_n, jb_K_v, ↓reduceIte, jT_lt, jF_lt, jT_le, jF_le, jT_eq, jF_eq, jT_z, jF_z, jF_neg, jT_nn, jT_pos, jF_pos, jT_le0, jF_le0, jT_x, jF_m1, jF_m1r, jT_tt, jI_add, jI_mul, jI_sub, jI_cl, jm_up_same, jm_up_o, jm_up_j, jbR_T, jbR_F, jt_M_adds_104, hh, jt_M_adds_107, m0, e, jt_M_adds_130])
    · simp (disch := omega) only [jb_K_n, jb_K_v, ↓reduceIte, jT_lt, jF_lt, jT_le, jF_le, jT_eq, jF_eq, jT_z, jF_z, jF_neg, jT_nn, jT_pos, jF_pos, jT_le0, jF_le0, jT_x, jF_m1, jF_m1r, jT_tt, jI_add, jI_mul, jI_sub, jI_cl, jm_up_same, jm_up_o, jm_up_j, jbR_T, jbR_F, r1, hh, jt_M_adds_85, hs, jt_M_adds_90]
      split <;> (by_cases e : w 0 = 8 <;> simp (disch := omega) only [jb_K_n, jb_K_v, ↓reduceIte, jT_lt, jF_lt, jT_le, jF_le, jT_eq, jF_eq, jT_z, jF_z, jF_neg, jT_nn, jT_pos, jF_pos, jT_le0, jF_le0, jT_x, jF_m1, jF_m1r, jT_tt, jI_add, jI_mul, jI_sub, jI_cl, jm_up_same, jm_up_o, jm_up_j, jbR_T, jbR_F, jt_M_adds_104, hh, jt_M_adds_107, m0, e, jt_M_adds_130])
  rw [if_neg c2]
  by_cases c3 : f (n - 1) = 5
  · rw [if_pos c3]
    refine ⟨jI 0, jm_up (jm_up σ 307 17 (jI 5)) 307 18 (jI (n - 1)), ?_, by simp (disch := omega) only [jb_K_n, jb_K_v, ↓reduceIte, jT_lt, jF_lt, jT_le, jF_le, jT_eq, jF_eq, jT_z, jF_z, jF_neg, jT_nn, jT_pos, jF_pos, jT_le0, jF_le0, jT_x, jF_m1, jF_m1r, jT_tt, jI_add, jI_mul, jI_sub, jI_cl, jm_up_same, jm_up_o, jm_up_j, jbR_T, jbR_F], by simp (disch := omega) only [jb_K_n, jb_K_v, ↓reduceIte, jT_lt, jF_lt, jT_le, jF_le, jT_eq, jF_eq, jT_z, jF_z, jF_neg, jT_nn, jT_pos, jF_pos, jT_le0, jF_le0, jT_x, jF_m1, jF_m1r, jT_tt, jI_add, jI_mul, jI_sub, jI_cl, jm_up_same, jm_up_o, jm_up_j, jbR_T, jbR_F], (jmf.rf.u7 _).u7' _⟩
    have hh : ∀ x y z, jb_Ev 34 [.ref (307 : Nat), .int x, .int y, .int z] (jm_hp (jm_up (jm_up σ 307 17 (jI 5)) 307 18 (jI (n - 1)))) = some (none, jm_hp (jm_up (jm_up σ 307 17 (jI 5)) 307 18 (jI (n - 1)))) := fun x y z => mM_hind2 (k := 5) x (by simp (disch := omega) only [jb_K_n, jb_K_v, ↓reduceIte, jT_lt, jF_lt, jT_le, jF_le, jT_eq, jF_eq, jT_z, jF_z, jF_neg, jT_nn, jT_pos, jF_pos, jT_le0, jF_le0, jT_x, jF_m1, jF_m1r, jT_tt, jI_add, jI_mul, jI_sub, jI_cl, jm_up_same, jm_up_o, jm_up_j, jbR_T, jbR_F]) (by omega) (by omega) y z
    have hs := mM_same hw (hM.u7 (jI 5) (jI (n - 1))) hf (by omega)
    rw [jt_M_adds_0, m1]
    simp (disch := omega) only [jb_K_n, jb_K_v, ↓reduceIte, jT_lt, jF_lt, jT_le, jF_le, jT_eq, jF_eq, jT_z, jF_z, jF_neg, jT_nn, jT_pos, jF_pos, jT_le0, jF_le0, jT_x, jF_m1, jF_m1r, jT_tt, jI_add, jI_mul, jI_sub, jI_cl, jm_up_same, jm_up_o, jm_up_j, jbR_T, jbR_F, hY, jt_M_adds_10, m1, mM_hind0, jt_M_adds_26, h17, r0, jt_M_adds_54, r1, c3, mM_hind1 h17, jt_M_adds_85, hs, jt_M_adds_90]
    split <;> (by_cases e : w 0 = 8 <;> simp (disch := omega) only [jb_K_n, jb_K_v, ↓reduceIte, jT_lt, jF_lt, jT_le, jF_le, jT_eq, jF_eq, jT_z, jF_z, jF_neg, jT_nn, jT_pos, jF_pos, jT_le0, jF_le0, jT_x, jF_m1, jF_m1r, jT_tt, jI_add, jI_mul, jI_sub, jI_cl, jm_up_same, jm_up_o, jm_up_j, jbR_T, jbR_F, jt_M_adds_104, hh, jt_M_adds_107, m0, e, jt_M_adds_130])
  rw [if_neg c3]
  have hs := mM_same hw hM hf (by omega)
  by_cases c4 : jtw w n f < w 0
  · rw [if_pos c4] at hs ⊢
    refine ⟨jI 0, jm_up (jm_up σ 307 17 (jI 2)) 307 18 (jI (jtw w n f)), ?_, by simp (disch := omega) only [jb_K_n, jb_K_v, ↓reduceIte, jT_lt, jF_lt, jT_le, jF_le, jT_eq, jF_eq, jT_z, jF_z, jF_neg, jT_nn, jT_pos, jF_pos, jT_le0, jF_le0, jT_x, jF_m1, jF_m1r, jT_tt, jI_add, jI_mul, jI_sub, jI_cl, jm_up_same, jm_up_o, jm_up_j, jbR_T, jbR_F], by simp (disch := omega) only [jb_K_n, jb_K_v, ↓reduceIte, jT_lt, jF_lt, jT_le, jF_le, jT_eq, jF_eq, jT_z, jF_z, jF_neg, jT_nn, jT_pos, jF_pos, jT_le0, jF_le0, jT_x, jF_m1, jF_m1r, jT_tt, jI_add, jI_mul, jI_sub, jI_cl, jm_up_same, jm_up_o, jm_up_j, jbR_T, jbR_F], (jmf.rf.u7 _).u7' _⟩
    have hh : ∀ x y z, jb_Ev 34 [.ref (307 : Nat), .int x, .int y, .int z] (jm_hp (jm_up (jm_up σ 307 17 (jI 2)) 307 18 (jI (jtw w n f)))) = some (none, jm_hp (jm_up (jm_up σ 307 17 (jI 2)) 307 18 (jI (jtw w n f)))) := fun x y z => mM_hind2 (k := 2) x (by simp (disch := omega) only [jb_K_n, jb_K_v, ↓reduceIte, jT_lt, jF_lt, jT_le, jF_le, jT_eq, jF_eq, jT_z, jF_z, jF_neg, jT_nn, jT_pos, jF_pos, jT_le0, jF_le0, jT_x, jF_m1, jF_m1r, jT_tt, jI_add, jI_mul, jI_sub, jI_cl, jm_up_same, jm_up_o, jm_up_j, jbR_T, jbR_F]) (by omega) (by omega) y z
    rw [jt_M_adds_0, m1]
    simp (disch := omega) only [jb_K_n, jb_K_v, ↓reduceIte, jT_lt, jF_lt, jT_le, jF_le, jT_eq, jF_eq, jT_z, jF_z, jF_neg, jT_nn, jT_pos, jF_pos, jT_le0, jF_le0, jT_x, jF_m1, jF_m1r, jT_tt, jI_add, jI_mul, jI_sub, jI_cl, jm_up_same, jm_up_o, jm_up_j, jbR_T, jbR_F, hY, jt_M_adds_10, m1, mM_hind0, jt_M_adds_26, h17, r0, jt_M_adds_54, r1, jt_M_adds_85, hs, jt_M_adds_90, jt_M_adds_104, mM_hind1 h17]
    by_cases e : w 0 = 8 <;> simp (disch := omega) only [jb_K_n, jb_K_v, ↓reduceIte, jT_lt, jF_lt, jT_le, jF_le, jT_eq, jF_eq, jT_z, jF_z, jF_neg, jT_nn, jT_pos, jF_pos, jT_le0, jF_le0, jT_x, jF_m1, jF_m1r, jT_tt, jI_add, jI_mul, jI_sub, jI_cl, jm_up_same, jm_up_o, jm_up_j, jbR_T, jbR_F, hh, jt_M_adds_107, m0, e, jt_M_adds_130]
  rw [if_neg c4] at hs ⊢
  by_cases c5 : w 0 = 8
  · rw [if_pos c5]
    refine ⟨jI 0, jm_up (jm_up σ 307 17 (jI 1)) 307 18 (jI 8), ?_, by simp (disch := omega) only [jb_K_n, jb_K_v, ↓reduceIte, jT_lt, jF_lt, jT_le, jF_le, jT_eq, jF_eq, jT_z, jF_z, jF_neg, jT_nn, jT_pos, jF_pos, jT_le0, jF_le0, jT_x, jF_m1, jF_m1r, jT_tt, jI_add, jI_mul, jI_sub, jI_cl, jm_up_same, jm_up_o, jm_up_j, jbR_T, jbR_F], by simp (disch := omega) only [jb_K_n, jb_K_v, ↓reduceIte, jT_lt, jF_lt, jT_le, jF_le, jT_eq, jF_eq, jT_z, jF_z, jF_neg, jT_nn, jT_pos, jF_pos, jT_le0, jF_le0, jT_x, jF_m1, jF_m1r, jT_tt, jI_add, jI_mul, jI_sub, jI_cl, jm_up_same, jm_up_o, jm_up_j, jbR_T, jbR_F], (jmf.rf.u7 _).u7' _⟩
    rw [jt_M_adds_0, m1]
    simp (disch := omega) only [jb_K_n, jb_K_v, ↓reduceIte, jT_lt, jF_lt, jT_le, jF_le, jT_eq, jF_eq, jT_z, jF_z, jF_neg, jT_nn, jT_pos, jF_pos, jT_le0, jF_le0, jT_x, jF_m1, jF_m1r, jT_tt, jI_add, jI_mul, jI_sub, jI_cl, jm_up_same, jm_up_o, jm_up_j, jbR_T, jbR_F, hY, jt_M_adds_10, m1, mM_hind0, jt_M_adds_26, h17, r0, jt_M_adds_54, r1, jt_M_adds_85, hs, jt_M_adds_90, jt_M_adds_104, jt_M_adds_107, m0, c5, mM_hind1 h17, jt_M_adds_130]
  rw [if_neg c5]
  have e1 : 21 + 6 * w 0 + 0 = 21 + 6 * w 0 := rfl
  have e2 : 21 + 6 * w 0 + 1 = 22 + 6 * w 0 := by omega
  obtain ⟨τ', g1, g2, g3⟩ := mM_addsL (n := n) (a := 21 + 6 * w 0) (f := f) (v := jn0 (jn0 w (21 + 6 * w 0) kd) (22 + 6 * w 0) n) (by omega) (by omega) (by omega) (jI kd) 4 0 (jm_up (jm_up σ 308 (21 + 6 * w 0) (jI kd)) 308 (22 + 6 * w 0) (jI n)) (by omega) (((hM.1.up _ kd).up _ n).congr (fun j hj => by rw [if_neg (by omega)])) (by simp (disch := omega) only [jb_K_n, jb_K_v, ↓reduceIte, jT_lt, jF_lt, jT_le, jF_le, jT_eq, jF_eq, jT_z, jF_z, jF_neg, jT_nn, jT_pos, jF_pos, jT_le0, jF_le0, jT_x, jF_m1, jF_m1r, jT_tt, jI_add, jI_mul, jI_sub, jI_cl, jm_up_same, jm_up_o, jm_up_j, jbR_T, jbR_F, m1]) (fun j hj => by rw [jm_up_o _ _ (by omega), jm_up_o _ _ (by omega)]; exact hM.2.2 j hj) (by rw [jn0_o (by omega), jn0_o (by omega)]; exact b0)
  rw [jn0_o (by omega), jn0_o (by omega)] at g1 g2
  have g4 : jm8 σ τ' := fun q j hq => (g3 q j hq).trans ((jm_up_o _ _ hq).trans (jm_up_o _ _ hq))
  refine ⟨τ', ?_, g2.congr (fun j hj => ?_), (g4 _ _ (by omega)).trans h17, g4.f⟩
  · rw [jt_M_adds_0, m1]
    simp (disch := omega) only [jb_K_n, jb_K_v, ↓reduceIte, jT_lt, jF_lt, jT_le, jF_le, jT_eq, jF_eq, jT_z, jF_z, jF_neg, jT_nn, jT_pos, jF_pos, jT_le0, jF_le0, jT_x, jF_m1, jF_m1r, jT_tt, jI_add, jI_mul, jI_sub, jI_cl, jm_up_same, jm_up_o, jm_up_j, jbR_T, jbR_F, hY, jt_M_adds_10, m1, mM_hind0, jt_M_adds_26, h17, r0, jt_M_adds_54, r1, jt_M_adds_85, hs, jt_M_adds_90, jt_M_adds_104, jt_M_adds_107, m0, jt_M_adds_130, jt_M_wordAt_0, jt_M_adds_148, e1, e2]
    exact g1
  · unfold jent
    by_cases z0 : j = 0
    · rw [jn0_e z0, jn0_e z0]
    · rw [jn0_o z0, jn0_o z0]
      by_cases z1 : j = 21 + 6 * w 0
      · rw [if_neg (by omega), if_pos z1, jn0_o (by omega), jn0_e z1]
      · rw [if_neg z1]
        by_cases z2 : j = 22 + 6 * w 0
        · rw [if_neg (by omega), if_pos z2, jn0_e z2]
        · rw [if_neg z2, jn0_o z2, jn0_o z1]
          by_cases z3 : 23 + 6 * w 0 ≤ j ∧ j < 27 + 6 * w 0
          · rw [if_pos (by omega), if_pos z3, show 21 + 6 * w 0 + 2 = 23 + 6 * w 0 by omega]
          · rw [if_neg (by omega), if_neg z3]
end AD
