/-! ===== a peal is rung ===== -/
def jrw (w f : Nat → Nat) : Nat → Nat → Nat
  | 0 => w
  | k + 1 => if f k = 5 then jrw w f k else if jrw w f k (7 + 3 * f k) < 9 then jn0 (jn0 (jn0 (jrw w f k) (7 + 3 * f k) (jrw w f k (7 + 3 * f k) + 1)) (8 + 3 * f k) (jrw w f k (8 + 3 * f k) + 1)) 4 (jrw w f k 4 + 1) else jn0 (jrw w f k) 5 (jrw w f k 5 + 1)
def jrs5 (w f : Nat → Nat) (k : Nat) : Nat := if f k ≠ 5 ∧ jrw w f k (7 + 3 * f k) < 9 then f k else 5
def jrc (w f : Nat → Nat) : Nat → Nat
  | 0 => 0
  | k + 1 => jrc w f k + (if f k ≠ 5 ∧ jrw w f k (7 + 3 * f k) < 9 then 1 else 0)
def jkp (u : Nat → Nat) (n : Nat) (s : Nat → Nat) : Nat → Nat := jn0 (jn0 (fun j => if 94 ≤ j then u (j - 13) else if j = 81 then n else if 82 ≤ j then (if j - 82 < n then s (j - 82) else 0) else u j) 2 (if u 2 + 1 < 5 then u 2 + 1 else 5)) 3 (u 3 + 1)
def qrin (w : Nat → Nat) (n : Nat) (f : Nat → Nat) : jRes := if n < 1 ∨ 12 < n then .inr (4, n) else if jrc w f n = 0 then .inr (6, n) else .inl (jrc w f n, jkp (jrw w f n) n (jrs5 w f))
theorem jqrin_y {w : Nat → Nat} {n y z : Nat} {f : Nat → Nat} (h : qrin w n f = .inr (y, z)) : y ≠ 0 ∧ y ≤ 7 := by
  unfold qrin at h
  repeat' split at h
  all_goals first | (cases h; omega) | cases h
section RG
variable {σ : jm_S} {w f : Nat → Nat}
theorem jrw_5 {k : Nat} (h : f k = 5) : jrw w f (k + 1) = jrw w f k := if_pos h
theorem jrw_y {k : Nat} (h : f k ≠ 5) (h2 : jrw w f k (7 + 3 * f k) < 9) : jrw w f (k + 1) = jn0 (jn0 (jn0 (jrw w f k) (7 + 3 * f k) (jrw w f k (7 + 3 * f k) + 1)) (8 + 3 * f k) (jrw w f k (8 + 3 * f k) + 1)) 4 (jrw w f k 4 + 1) := by
  show (if _ then _ else _) = _
  rw [if_neg h, if_pos h2]
theorem jrw_n {k : Nat} (h : f k ≠ 5) (h2 : ¬ jrw w f k (7 + 3 * f k) < 9) : jrw w f (k + 1) = jn0 (jrw w f k) 5 (jrw w f k 5 + 1) := by
  show (if _ then _ else _) = _
  rw [if_neg h, if_neg h2]
theorem jrw_o : ∀ {k : Nat}, (∀ i, i < k → f i ≤ 5) → ∀ {j : Nat}, j < 4 ∨ 21 ≤ j ∨ (∃ b, b < 5 ∧ j = 6 + 3 * b) → jrw w f k j = w j
  | 0, _, _, _ => rfl
  | k + 1, h, j, hj => by
    have IH := jrw_o (k := k) (fun i hi => h i (by omega)) hj
    have h5 := h k (by omega)
    have hj' : j ≠ 4 ∧ j ≠ 5 ∧ (f k ≠ 5 → j ≠ 7 + 3 * f k ∧ j ≠ 8 + 3 * f k) := by
      rcases hj with z | z | ⟨b, z1, z2⟩ <;> omega
    by_cases e : f k = 5
    · rw [jrw_5 e]; exact IH
    · by_cases e2 : jrw w f k (7 + 3 * f k) < 9
      · rw [jrw_y e e2, jn0_o hj'.1, jn0_o (hj'.2.2 e).2, jn0_o (hj'.2.2 e).1]
        exact IH
      · rw [jrw_n e e2, jn0_o hj'.2.1]
        exact IH
theorem jrw_b (hw : jIb w) : ∀ {k : Nat}, (∀ i, i < k → f i ≤ 5) → jIb (jrw w f k)
  | 0, _ => hw
  | k + 1, h => by
    obtain ⟨h1, h2⟩ := jrw_b hw (k := k) (fun i hi => h i (by omega))
    have h5 := h k (by omega)
    by_cases e : f k = 5
    · rw [jrw_5 e]; exact ⟨h1, h2⟩
    · by_cases e2 : jrw w f k (7 + 3 * f k) < 9
      · rw [jrw_y e e2]
        generalize jrw w f k = u at *
        refine ⟨fun b hb => ?_, ?_⟩
        · have := h1 b hb
          rw [jn0_o (by omega), jn0_o (by omega), jn0_o (by omega), jn0_o (by omega), jn0_o (by omega)]
          by_cases e3 : b = f k
          · rw [jn0_e (by omega)]
            omega
          · rw [jn0_o (by omega)]
            exact this
        · rw [jn0_s]
          rcases (show f k = 0 ∨ f k = 1 ∨ f k = 2 ∨ f k = 3 ∨ f k = 4 by omega) with z | z | z | z | z <;> rw [z] <;> unfold jn0 <;> simp <;> omega
      · rw [jrw_n e e2]
        generalize jrw w f k = u at *
        refine ⟨fun b hb => ?_, ?_⟩
        · have := h1 b hb
          rw [jn0_o (by omega), jn0_o (by omega)]
          exact this
        · rw [jn0_o (by omega), jn0_o (by omega), jn0_o (by omega), jn0_o (by omega), jn0_o (by omega), jn0_o (by omega)]
          exact h2
theorem jrw_4 : ∀ {k : Nat}, (∀ i, i < k → f i ≤ 5) → jrw w f k 4 = w 4 + jrc w f k
  | 0, _ => rfl
  | k + 1, h => by
    have IH := jrw_4 (k := k) (fun i hi => h i (by omega))
    have h5 := h k (by omega)
    unfold jrc
    by_cases e : f k = 5
    · rw [jrw_5 e, if_neg (fun z => z.1 e)]; omega
    · by_cases e2 : jrw w f k (7 + 3 * f k) < 9
      · rw [jrw_y e e2, jn0_s, if_pos ⟨e, e2⟩]; omega
      · rw [jrw_n e e2, jn0_o (by omega), if_neg (fun z => e2 z.2)]; omega
theorem jrc_le : ∀ {k : Nat}, jrc w f k ≤ k
  | 0 => Nat.le_refl _
  | k + 1 => by
    have := jrc_le (k := k)
    unfold jrc
    split <;> omega
theorem jrc_0 : ∀ {k : Nat}, (∀ i, i < k → f i ≤ 5) → (jrc w f k = 0 ↔ ∀ i, i < k → ¬ (f i ≠ 5 ∧ w (7 + 3 * f i) < 9)) ∧ (jrc w f k = 0 → ∀ b, b < 5 → jrw w f k (7 + 3 * b) = w (7 + 3 * b))
  | 0, _ => ⟨⟨fun _ i hi => absurd hi (Nat.not_lt_zero _), fun _ => rfl⟩, fun _ _ _ => rfl⟩
  | k + 1, h => by
    obtain ⟨I1, I2⟩ := jrc_0 (k := k) (fun i hi => h i (by omega))
    have h5 := h k (by omega)
    have key : jrc w f k = 0 → f k ≠ 5 → jrw w f k (7 + 3 * f k) = w (7 + 3 * f k) := fun z z2 => I2 z _ (by omega)
    refine ⟨⟨fun z i hi => ?_, fun z => ?_⟩, fun z b hb => ?_⟩
    · unfold jrc at z
      have z0 : jrc w f k = 0 := by omega
      by_cases e : i = k
      · subst e
        intro z1
        rw [if_pos ⟨z1.1, by rw [key z0 z1.1]; exact z1.2⟩] at z
        omega
      · exact I1.mp z0 i (by omega)
    · have z0 := I1.mpr (fun i hi => z i (by omega))
      unfold jrc
      rw [z0, if_neg (fun z1 => z k (by omega) ⟨z1.1, by rw [← key z0 z1.1]; exact z1.2⟩)]
    · unfold jrc at z
      have z0 : jrc w f k = 0 := by omega
      by_cases e : f k = 5
      · rw [jrw_5 e]
        exact I2 z0 b hb
      · by_cases e2 : jrw w f k (7 + 3 * f k) < 9
        · rw [if_pos ⟨e, e2⟩] at z
          omega
        · rw [jrw_n e e2, jn0_o (by omega)]
          exact I2 z0 b hb
theorem jrs5_le {k : Nat} (h : f k ≤ 5) : jrs5 w f k ≤ 5 := by
  unfold jrs5
  split <;> omega
theorem jkp_lo {u s : Nat → Nat} {n j : Nat} (h : j < 81) (h2 : j ≠ 2) (h3 : j ≠ 3) : jkp u n s j = u j := by
  unfold jkp
  rw [jn0_o h3, jn0_o h2, if_neg (by omega), if_neg (by omega), if_neg (by omega)]
theorem jkp_2 {u s : Nat → Nat} {n : Nat} : jkp u n s 2 = if u 2 + 1 < 5 then u 2 + 1 else 5 := by
  unfold jkp
  rw [jn0_o (by omega), jn0_s]
theorem jkp_3 {u s : Nat → Nat} {n : Nat} : jkp u n s 3 = u 3 + 1 := jn0_s _ _ _
theorem jkp_81 {u s : Nat → Nat} {n : Nat} : jkp u n s 81 = n := by
  unfold jkp
  rw [jn0_o (by omega), jn0_o (by omega), if_neg (by omega), if_pos rfl]
theorem jkp_s {u s : Nat → Nat} {n k : Nat} (hk : k < n) (hn : n ≤ 12) : jkp u n s (82 + k) = s k := by
  unfold jkp
  rw [jn0_o (by omega), jn0_o (by omega), if_neg (by omega), if_neg (by omega), if_pos (by omega), Nat.add_sub_cancel_left, if_pos hk]
theorem jkp_hi {u s : Nat → Nat} {n j : Nat} (h : 94 ≤ j) : jkp u n s j = u (j - 13) := by
  unfold jkp
  rw [jn0_o (by omega), jn0_o (by omega), if_pos h]
theorem jInv_rin (hw : jInv w) {n : Nat} (hf : ∀ k, k < n → f k ≤ 5) (h1 : 1 ≤ n) (h12 : n ≤ 12) : jInv (jkp (jrw w f n) n (jrs5 w f)) := by
  have b2 := hw.b2
  refine ⟨(jrw_b hw.1 hf).fr (fun j hj => jkp_lo (by omega) (by omega) (by omega)), hw.2.1.fr (fun j hj => by rw [jkp_lo (by omega) (by omega) (by omega)]; exact jrw_o hf (by omega)), hw.2.2.1.fr (fun j hj => by rw [jkp_lo (by omega) (by omega) (by omega)]; exact jrw_o hf (by omega)), ⟨by rw [jkp_2]; split <;> omega, fun p hp => ?_⟩⟩
  rw [jkp_2, jrw_o hf (by omega)] at hp
  cases p with
  | zero =>
    show 1 ≤ jkp _ _ _ 81 ∧ jkp _ _ _ 81 ≤ 12 ∧ ∀ j, j < jkp _ _ _ 81 → jkp _ _ _ (82 + j) ≤ 5
    rw [jkp_81]
    refine ⟨h1, h12, fun j hj => ?_⟩
    rw [jkp_s hj h12]
    exact jrs5_le (hf j hj)
  | succ p =>
    have hp' : p < w 2 := by split at hp <;> omega
    obtain ⟨a1, a2, a3⟩ := hw.2.2.2.2 p hp'
    have e1 : jkp (jrw w f n) n (jrs5 w f) (81 + 13 * (p + 1)) = w (81 + 13 * p) := by
      rw [jkp_hi (by omega), show 81 + 13 * (p + 1) - 13 = 81 + 13 * p by omega]
      exact jrw_o hf (by omega)
    rw [e1]
    refine ⟨a1, a2, fun j hj => ?_⟩
    rw [jkp_hi (by omega), show 82 + 13 * (p + 1) + j - 13 = 82 + 13 * p + j by omega, jrw_o hf (by omega)]
    exact a3 j hj
/-! the plain form -/
theorem mM_ringL {n : Nat} (hw : jInv w) (hf : ∀ k, k < n → f k ≤ 5) (hn : n ≤ 12) : ∀ (m k : Nat) (τ : jm_S) (u3 u4 : Value), k + m = n → jAr τ 308 146 (jrw w f k) → τ 307 20 = jI n → τ 307 17 = jI 0 → jAr τ 315 n (fun j => if j < k then jrs5 w f j else f j) → jmf σ τ → ∃ τ' v3 v4, jb_Ex 107 (31, [.ref (307 : Nat), .int (jI (jrc w f k)), .int (jI k), u3, u4], [], jm_hp τ) = jb_Ex 107 (31, [.ref (307 : Nat), .int (jI (jrc w f n)), .int (jI n), v3, v4], [], jm_hp τ') ∧ jAr τ' 308 146 (jrw w f n) ∧ τ' 307 20 = jI n ∧ τ' 307 17 = jI 0 ∧ jAr τ' 315 n (jrs5 w f) ∧ jmf σ τ'
  | 0, k, τ, u3, u4, hm, h1, h2, h3, h4, h5 => by
    obtain rfl : k = n := by omega
    exact ⟨τ, u3, u4, rfl, h1, h2, h3, h4.congr (fun j hj => if_pos hj), h5⟩
  | m + 1, k, τ, u3, u4, hm, h1, h2, h3, h4, h5 => by
    have hf5 := hf k (by omega)
    have hr := h4 k (by omega)
    dsimp only at hr
    rw [if_neg (Nat.lt_irrefl k)] at hr
    by_cases e : f k = 5
    · have hc : jrc w f (k + 1) = jrc w f k := by
        show jrc w f k + _ = _
        rw [if_neg (fun z => z.1 e)]
        rfl
      obtain ⟨τ', v3, v4, g0, g⟩ := mM_ringL hw hf hn m (k + 1) τ u3 u4 (by omega) (by rw [jrw_5 e]; exact h1) h2 h3 (h4.congr (fun j hj => by
        by_cases e2 : j = k
        · rw [e2, if_neg (Nat.lt_irrefl k), if_pos (Nat.lt_succ_self k)]
          unfold jrs5
          rw [if_neg (fun z => z.1 e), e]
        · by_cases e3 : j < k
          · rw [if_pos e3, if_pos (by omega)]
          · rw [if_neg e3, if_neg (by omega)])) h5
      refine ⟨τ', v3, v4, ?_, g⟩
      rw [← g0, hc, jt_M_rings_31]
      rw [e] at hr
      simp (disch := omega) only [jb_K_n, jb_K_v, ↓reduceIte, jT_lt, jF_lt, jT_le, jF_le, jT_eq, jF_eq, jT_z, jF_z, jF_neg, jT_nn, jT_pos, jF_pos, jT_le0, jF_le0, jT_x, jF_m1, jF_m1r, jT_tt, jI_add, jI_mul, jI_sub, jI_cl, jm_up_same, jm_up_o, jm_up_j, jbR_T, jbR_F, h2, h3, hr]
    · have hb := (jrw_b hw.1 (f := f) (k := k) (fun i hi => hf i (by omega))).1 (f k) (by omega)
      have a1 := h1 (7 + 3 * f k) (by omega)
      have a2 := h1 (8 + 3 * f k) (by omega)
      have a3 := h1 4 (by omega)
      have a4 := h1 5 (by omega)
      have e1 : 6 + 3 * f k + 1 = 7 + 3 * f k := by omega
      have e2' : 6 + 3 * f k + 2 = 8 + 3 * f k := by omega
      by_cases e2 : jrw w f k (7 + 3 * f k) < 9
      · have hc : jrc w f (k + 1) = jrc w f k + 1 := by
          show jrc w f k + _ = _
          rw [if_pos ⟨e, e2⟩]
        have hA := ((((h1.up (7 + 3 * f k) (jrw w f k (7 + 3 * f k) + 1)).up (8 + 3 * f k) (jrw w f k (8 + 3 * f k) + 1)).up 4 (jrw w f k 4 + 1)).up 5 (jrw w f k 5)).congr (g := jrw w f (k + 1)) (fun j hj => by
          rw [jrw_y e e2]
          by_cases q : j = 5
          · rw [jn0_e q, jn0_o (by omega), jn0_o (by omega), jn0_o (by omega), q]
          · rw [jn0_o q])
        have hF : jmf σ (jm_up (jm_up (jm_up (jm_up (jm_up τ 308 (7 + 3 * f k) (jI (jrw w f k (7 + 3 * f k) + 1))) 308 (8 + 3 * f k) (jI (jrw w f k (8 + 3 * f k) + 1))) 308 4 (jI (jrw w f k 4 + 1))) 308 5 (jI (jrw w f k 5))) 315 k (jI (f k))) := ((((h5.u8 _ _).u8 _ _).u8 _ _).u8 _ _).u5 _ _
        obtain ⟨τ', v3, v4, g0, g⟩ := mM_ringL hw hf hn m (k + 1) (jm_up (jm_up (jm_up (jm_up (jm_up τ 308 (7 + 3 * f k) (jI (jrw w f k (7 + 3 * f k) + 1))) 308 (8 + 3 * f k) (jI (jrw w f k (8 + 3 * f k) + 1))) 308 4 (jI (jrw w f k 4 + 1))) 308 5 (jI (jrw w f k 5))) 315 k (jI (f k))) (.int (jI (6 + 3 * f k))) (.int (jI 1)) (by omega) (fun j hj => by rw [jm_up_o _ _ (by omega)]; exact hA j hj) (by simp (disch := omega) only [jb_K_n, jb_K_v, ↓reduceIte, jT_lt, jF_lt, jT_le, jF_le, jT_eq, jF_eq, jT_z, jF_z, jF_neg, jT_nn, jT_pos, jF_pos, jT_le0, jF_le0, jT_x, jF_m1, jF_m1r, jT_tt, jI_add, jI_mul, jI_sub, jI_cl, jm_up_same, jm_up_o, jm_up_j, jbR_T, jbR_F, h2]) (by simp (disch := omega) only [jb_K_n, jb_K_v, ↓reduceIte, jT_lt, jF_lt, jT_le, jF_le, jT_eq, jF_eq, jT_z, jF_z, jF_neg, jT_nn, jT_pos, jF_pos, jT_le0, jF_le0, jT_x, jF_m1, jF_m1r, jT_tt, jI_add, jI_mul, jI_sub, jI_cl, jm_up_same, jm_up_o, jm_up_j, jbR_T, jbR_F, h3]) (fun j hj => by
          by_cases q : j = k
          · rw [q, jm_up_same]
            dsimp only
            rw [if_pos (show k < k + 1 by omega)]
            unfold jrs5
            rw [if_pos ⟨e, e2⟩]
          · rw [jm_up_j _ _ q, jm_up_o _ _ (by omega), jm_up_o _ _ (by omega), jm_up_o _ _ (by omega), jm_up_o _ _ (by omega), h4 j hj]
            dsimp only
            by_cases e3 : j < k
            · rw [if_pos e3, if_pos (by omega)]
            · rw [if_neg e3, if_neg (by omega)]) hF
        refine ⟨τ', v3, v4, ?_, g⟩
        rw [← g0, hc, jt_M_rings_31]
        simp (disch := omega) only [jb_K_n, jb_K_v, ↓reduceIte, jT_lt, jF_lt, jT_le, jF_le, jT_eq, jF_eq, jT_z, jF_z, jF_neg, jT_nn, jT_pos, jF_pos, jT_le0, jF_le0, jT_x, jF_m1, jF_m1r, jT_tt, jI_add, jI_mul, jI_sub, jI_cl, jm_up_same, jm_up_o, jm_up_j, jbR_T, jbR_F, h2, h3, hr, jt_M_bellAt_0, jt_M_rings_65, e1, e2', a1, a2, a3, a4, Nat.add_zero]
      · have hc : jrc w f (k + 1) = jrc w f k := by
          show jrc w f k + _ = _
          rw [if_neg (fun z => e2 z.2)]
          rfl
        have hA := ((((h1.up (7 + 3 * f k) (jrw w f k (7 + 3 * f k))).up (8 + 3 * f k) (jrw w f k (8 + 3 * f k))).up 4 (jrw w f k 4)).up 5 (jrw w f k 5 + 1)).congr (g := jrw w f (k + 1)) (fun j hj => by
          rw [jrw_n e e2]
          by_cases q : j = 5
          · rw [jn0_e q, jn0_e q]
          · rw [jn0_o q, jn0_o q]
            by_cases q1 : j = 4
            · rw [jn0_e q1, q1]
            · rw [jn0_o q1]
              by_cases q2 : j = 8 + 3 * f k
              · rw [jn0_e q2, q2]
              · rw [jn0_o q2]
                by_cases q3 : j = 7 + 3 * f k
                · rw [jn0_e q3, q3]
                · rw [jn0_o q3])
        have hF : jmf σ (jm_up (jm_up (jm_up (jm_up (jm_up τ 308 (7 + 3 * f k) (jI (jrw w f k (7 + 3 * f k)))) 308 (8 + 3 * f k) (jI (jrw w f k (8 + 3 * f k)))) 308 4 (jI (jrw w f k 4))) 308 5 (jI (jrw w f k 5 + 1))) 315 k (jI 5)) := ((((h5.u8 _ _).u8 _ _).u8 _ _).u8 _ _).u5 _ _
        obtain ⟨τ', v3, v4, g0, g⟩ := mM_ringL hw hf hn m (k + 1) (jm_up (jm_up (jm_up (jm_up (jm_up τ 308 (7 + 3 * f k) (jI (jrw w f k (7 + 3 * f k)))) 308 (8 + 3 * f k) (jI (jrw w f k (8 + 3 * f k)))) 308 4 (jI (jrw w f k 4))) 308 5 (jI (jrw w f k 5 + 1))) 315 k (jI 5)) (.int (jI (6 + 3 * f k))) (.int (jI 0)) (by omega) (fun j hj => by rw [jm_up_o _ _ (by omega)]; exact hA j hj) (by simp (disch := omega) only [jb_K_n, jb_K_v, ↓reduceIte, jT_lt, jF_lt, jT_le, jF_le, jT_eq, jF_eq, jT_z, jF_z, jF_neg, jT_nn, jT_pos, jF_pos, jT_le0, jF_le0, jT_x, jF_m1, jF_m1r, jT_tt, jI_add, jI_mul, jI_sub, jI_cl, jm_up_same, jm_up_o, jm_up_j, jbR_T, jbR_F, h2]) (by simp (disch := omega) only [jb_K_n, jb_K_v, ↓reduceIte, jT_lt, jF_lt, jT_le, jF_le, jT_eq, jF_eq, jT_z, jF_z, jF_neg, jT_nn, jT_pos, jF_pos, jT_le0, jF_le0, jT_x, jF_m1, jF_m1r, jT_tt, jI_add, jI_mul, jI_sub, jI_cl, jm_up_same, jm_up_o, jm_up_j, jbR_T, jbR_F, h3]) (fun j hj => by
          by_cases q : j = k
          · rw [q, jm_up_same]
            dsimp only
            rw [if_pos (show k < k + 1 by omega)]
            unfold jrs5
            rw [if_neg (fun z => e2 z.2)]
          · rw [jm_up_j _ _ q, jm_up_o _ _ (by omega), jm_up_o _ _ (by omega), jm_up_o _ _ (by omega), jm_up_o _ _ (by omega), h4 j hj]
            dsimp only
            by_cases e3 : j < k
            · rw [if_pos e3, if_pos (by omega)]
            · rw [if_neg e3, if_neg (by omega)]) hF
        refine ⟨τ', v3, v4, ?_, g⟩
        rw [← g0, hc, jt_M_rings_31]
        simp (disch := omega) only [jb_K_n, jb_K_v, ↓reduceIte, jT_lt, jF_lt, jT_le, jF_le, jT_eq, jF_eq, jT_z, jF_z, jF_neg, jT_nn, jT_pos, jF_pos, jT_le0, jF_le0, jT_x, jF_m1, jF_m1r, jT_tt, jI_add, jI_mul, jI_sub, jI_cl, jm_up_same, jm_up_o, jm_up_j, jbR_T, jbR_F, h2, h3, hr, jt_M_bellAt_0, jt_M_rings_65, e1, e2', a1, a2, a3, a4, Nat.add_zero]
theorem mM_keepA {u : Nat → Nat} : ∀ (m : Nat) (τ : jm_S), m ≤ 52 → jAr τ 308 146 (fun j => if 94 + m ≤ j then u (j - 13) else u j) → ∃ τ', jb_Ex 38 (4, [.ref (307 : Nat), .int (jI (93 + m))], [], jm_hp τ) = jb_Ex 38 (4, [.ref (307 : Nat), .int (jI 93)], [], jm_hp τ') ∧ jAr τ' 308 146 (fun j => if 94 ≤ j then u (j - 13) else u j) ∧ jm8 τ τ'
  | 0, τ, hm, h1 => ⟨τ, rfl, h1, fun _ _ _ => rfl⟩
  | m + 1, τ, hm, h1 => by
    have h2 := h1 (81 + m) (by omega)
    dsimp only at h2
    rw [if_neg (by omega)] at h2
    obtain ⟨τ', g1, g2, g3⟩ := mM_keepA (u := u) m (jm_up τ 308 (94 + m) (jI (u (81 + m)))) (by omega) ((h1.up (94 + m) _).congr (fun j hj => by
      by_cases e : j = 94 + m
      · rw [jn0_e e, if_pos (by omega), e, show 94 + m - 13 = 81 + m by omega]
      · rw [jn0_o e]
        by_cases e2 : 94 + (m + 1) ≤ j
        · rw [if_pos e2, if_pos (by omega)]
        · rw [if_neg e2, if_neg (by omega)]))
    refine ⟨τ', ?_, g2, fun q j hq => (g3 q j hq).trans (jm_up_o _ _ hq)⟩
    have e1 : 94 + m - 13 = 81 + m := by omega
    have e3 : jI (93 + (m + 1)) + (-1 : Int32) = jI (93 + m) := jI_dec (by omega)
    have e4 : 93 + (m + 1) = 94 + m := by omega
    rw [← g1, jt_M_keepsOne_4, e3]
    simp (disch := omega) only [jb_K_n, jb_K_v, ↓reduceIte, jT_lt, jF_lt, jT_le, jF_le, jT_eq, jF_eq, jT_z, jF_z, jF_neg, jT_nn, jT_pos, jF_pos, jT_le0, jF_le0, jT_x, jF_m1, jF_m1r, jT_tt, jI_add, jI_mul, jI_sub, jI_cl, jm_up_same, jm_up_o, jm_up_j, jbR_T, jbR_F, e1, h2, e4]
theorem mM_keepB {u : Nat → Nat} {n : Nat} {s : Nat → Nat} (hn : n ≤ 12) (h2 : u 2 ≤ 5) : ∀ (m k : Nat) (τ : jm_S), k + m = 12 → jAr τ 308 146 (fun j => if 82 ≤ j ∧ j < 82 + k then (if j - 82 < n then s (j - 82) else 0) else u j) → τ 307 20 = jI n → jAr τ 315 n s → ∃ τ', jb_Ex 38 (44, [.ref (307 : Nat), .int (jI k)], [], jm_hp τ) = some (none, jm_hp τ') ∧ jAr τ' 308 146 (jn0 (jn0 (fun j => if 82 ≤ j ∧ j < 94 then (if j - 82 < n then s (j - 82) else 0) else u j) 2 (if u 2 + 1 < 5 then u 2 + 1 else 5)) 3 (u 3 + 1)) ∧ jm8 τ τ'
  | 0, k, τ, hm, h1, h3, h4 => by
    obtain rfl : k = 12 := by omega
    have a2 := h1 2 (by omega)
    have a3 := h1 3 (by omega)
    dsimp only at a2 a3
    rw [if_neg (by omega)] at a2 a3
    refine ⟨jm_up (jm_up τ 308 2 (jI (if u 2 + 1 < 5 then u 2 + 1 else 5))) 308 3 (jI (u 3 + 1)), ?_, (h1.up 2 _).up 3 _, fun q j hq => (jm_up_o _ _ hq).trans (jm_up_o _ _ hq)⟩
    rw [jt_M_keepsOne_44]
    by_cases e : u 2 + 1 < 5
    · rw [if_pos e]
      simp (disch := omega) only [jb_K_n, jb_K_v, ↓reduceIte, jT_lt, jF_lt, jT_le, jF_le, jT_eq, jF_eq, jT_z, jF_z, jF_neg, jT_nn, jT_pos, jF_pos, jT_le0, jF_le0, jT_x, jF_m1, jF_m1r, jT_tt, jI_add, jI_mul, jI_sub, jI_cl, jm_up_same, jm_up_o, jm_up_j, jbR_T, jbR_F, a2, a3]
    · rw [if_neg e]
      simp (disch := omega) only [jb_K_n, jb_K_v, ↓reduceIte, jT_lt, jF_lt, jT_le, jF_le, jT_eq, jF_eq, jT_z, jF_z, jF_neg, jT_nn, jT_pos, jF_pos, jT_le0, jF_le0, jT_x, jF_m1, jF_m1r, jT_tt, jI_add, jI_mul, jI_sub, jI_cl, jm_up_same, jm_up_o, jm_up_j, jbR_T, jbR_F, a2, a3]
  | m + 1, k, τ, hm, h1, h3, h4 => by
    have hx : jAr (jm_up τ 308 (82 + k) (jI (if k < n then s k else 0))) 308 146 (fun j => if 82 ≤ j ∧ j < 82 + (k + 1) then (if j - 82 < n then s (j - 82) else 0) else u j) := (h1.up (82 + k) _).congr (fun j hj => by
      by_cases e : j = 82 + k
      · rw [jn0_e e, e]
        refine Eq.symm ?_
        rw [if_pos (by omega), Nat.add_sub_cancel_left]
      · rw [jn0_o e]
        refine Eq.symm ?_
        by_cases e2 : 82 ≤ j ∧ j < 82 + k
        · rw [if_pos (by omega), if_pos e2]
        · rw [if_neg (by omega), if_neg e2])
    obtain ⟨τ', g1, g2, g3⟩ := mM_keepB hn h2 m (k + 1) _ (by omega) hx (by rw [jm_up_o _ _ (by omega)]; exact h3) (fun j hj => by rw [jm_up_o _ _ (by omega)]; exact h4 j hj)
    refine ⟨τ', ?_, g2, fun q j hq => (g3 q j hq).trans (jm_up_o _ _ hq)⟩
    rw [← g1, jt_M_keepsOne_44]
    by_cases e : k < n
    · rw [if_pos e]
      have h5 := h4 k e
      simp (disch := omega) only [jb_K_n, jb_K_v, ↓reduceIte, jT_lt, jF_lt, jT_le, jF_le, jT_eq, jF_eq, jT_z, jF_z, jF_neg, jT_nn, jT_pos, jF_pos, jT_le0, jF_le0, jT_x, jF_m1, jF_m1r, jT_tt, jI_add, jI_mul, jI_sub, jI_cl, jm_up_same, jm_up_o, jm_up_j, jbR_T, jbR_F, h3, h5]
    · rw [if_neg e]
      simp (disch := omega) only [jb_K_n, jb_K_v, ↓reduceIte, jT_lt, jF_lt, jT_le, jF_le, jT_eq, jF_eq, jT_z, jF_z, jF_neg, jT_nn, jT_pos, jF_pos, jT_le0, jF_le0, jT_x, jF_m1, jF_m1r, jT_tt, jI_add, jI_mul, jI_sub, jI_cl, jm_up_same, jm_up_o, jm_up_j, jbR_T, jbR_F, h3]
theorem mM_keeps {u : Nat → Nat} {n : Nat} {s : Nat → Nat} (hn : n ≤ 12) (h2 : u 2 ≤ 5) (h1 : jAr σ 308 146 u) (h3 : σ 307 20 = jI n) (h4 : jAr σ 315 n s) : ∃ τ', jb_Ev 38 [.ref (307 : Nat)] (jm_hp σ) = some (none, jm_hp τ') ∧ jAr τ' 308 146 (jkp u n s) ∧ jm8 σ τ' := by
  obtain ⟨τ, g1, g2, g3⟩ := mM_keepA (u := u) 52 σ (Nat.le_refl _) (h1.congr (fun j hj => by rw [if_neg (by omega)]))
  have g4 := g2.up 81 n
  obtain ⟨τ', k1, k2, k3⟩ := mM_keepB (u := jn0 (fun j => if 94 ≤ j then u (j - 13) else u j) 81 n) (n := n) (s := s) hn (by rw [jn0_o (by omega), if_neg (by omega)]; exact h2) 12 0 (jm_up τ 308 81 (jI n)) (by omega) (g4.congr (fun j hj => by rw [if_neg (by omega)])) (by rw [jm_up_o _ _ (by omega), g3 _ _ (by omega)]; exact h3) (fun j hj => by rw [jm_up_o _ _ (by omega), g3 _ _ (by omega)]; exact h4 j hj)
  have hv2 : jn0 (fun j => if 94 ≤ j then u (j - 13) else u j) 81 n 2 = u 2 := by rw [jn0_o (by omega), if_neg (by omega)]
  have hv3 : jn0 (fun j => if 94 ≤ j then u (j - 13) else u j) 81 n 3 = u 3 := by rw [jn0_o (by omega), if_neg (by omega)]
  rw [hv2, hv3] at k2
  refine ⟨τ', ?_, k2.congr (fun j hj => ?_), fun q j hq => (k3 q j hq).trans ((jm_up_o _ _ hq).trans (g3 q j hq))⟩
  · have h3' := (g3 307 20 (by omega)).trans h3
    rw [jt_M_keepsOne_0, g1, jt_M_keepsOne_4]
    simp (disch := omega) only [jb_K_n, jb_K_v, ↓reduceIte, jT_lt, jF_lt, jT_le, jF_le, jT_eq, jF_eq, jT_z, jF_z, jF_neg, jT_nn, jT_pos, jF_pos, jT_le0, jF_le0, jT_x, jF_m1, jF_m1r, jT_tt, jI_add, jI_mul, jI_sub, jI_cl, jm_up_same, jm_up_o, jm_up_j, jbR_T, jbR_F, h3', k1]
  · unfold jkp
    by_cases z3 : j = 3
    · rw [jn0_e z3, jn0_e z3]
    · rw [jn0_o z3, jn0_o z3]
      by_cases z2 : j = 2
      · rw [jn0_e z2, jn0_e z2]
      · rw [jn0_o z2, jn0_o z2]
        by_cases z4 : 94 ≤ j
        · rw [if_neg (by omega), if_pos z4, jn0_o (by omega), if_pos z4]
        · rw [if_neg z4]
          by_cases z5 : j = 81
          · rw [if_neg (by omega), if_pos z5, jn0_e z5]
          · rw [if_neg z5]
            by_cases z6 : 82 ≤ j
            · rw [if_pos (by omega), if_pos z6]
            · rw [if_neg (by omega), if_neg z6, jn0_o z5, if_neg z4]
theorem mM_rings {n : Nat} (hw : jInv w) (hM : jMw σ w n f) (h17 : σ 307 17 = jI 0) (hf : ∀ k, k < n → f k ≤ 5) (hn : n ≤ 60) : jMO σ (qrin w n f) (jb_Ev 107 [.ref (307 : Nat)] (jm_hp σ)) := by
  unfold qrin
  have b2 := hw.b2
  have m1 := hM.2.1
  by_cases c1 : n < 1 ∨ 12 < n
  · rw [if_pos c1]
    refine ⟨jI 0, jm_up (jm_up σ 307 17 (jI 4)) 307 18 (jI n), ?_, by simp (disch := omega) only [jb_K_n, jb_K_v, ↓reduceIte, jT_lt, jF_lt, jT_le, jF_le, jT_eq, jF_eq, jT_z, jF_z, jF_neg, jT_nn, jT_pos, jF_pos, jT_le0, jF_le0, jT_x, jF_m1, jF_m1r, jT_tt, jI_add, jI_mul, jI_sub, jI_cl, jm_up_same, jm_up_o, jm_up_j, jbR_T, jbR_F], by simp (disch := omega) only [jb_K_n, jb_K_v, ↓reduceIte, jT_lt, jF_lt, jT_le, jF_le, jT_eq, jF_eq, jT_z, jF_z, jF_neg, jT_nn, jT_pos, jF_pos, jT_le0, jF_le0, jT_x, jF_m1, jF_m1r, jT_tt, jI_add, jI_mul, jI_sub, jI_cl, jm_up_same, jm_up_o, jm_up_j, jbR_T, jbR_F], (jmf.rf.u7 _).u7' _⟩
    have hN := jM_inN (σ := σ) (x := jI n) (l := 1) (n := 12) (fun ⟨j, z1, z2, z3⟩ => by have := (jI_eq (by omega) (by omega)).mp z3; omega) (by omega) (by omega)
    have hh := mM_hind2 (σ := jm_up (jm_up σ 307 17 (jI 4)) 307 18 (jI n)) (k := 4) (jI 1) (by simp (disch := omega) only [jb_K_n, jb_K_v, ↓reduceIte, jT_lt, jF_lt, jT_le, jF_le, jT_eq, jF_eq, jT_z, jF_z, jF_neg, jT_nn, jT_pos, jF_pos, jT_le0, jF_le0, jT_x, jF_m1, jF_m1r, jT_tt, jI_add, jI_mul, jI_sub, jI_cl, jm_up_same, jm_up_o, jm_up_j, jbR_T, jbR_F]) (by omega) (by omega) (jI 6) (jI n)
    rw [jt_M_rings_0, m1]
    rcases c1 with c1 | c1
    · simp (disch := omega) only [jb_K_n, jb_K_v, ↓reduceIte, jT_lt, jF_lt, jT_le, jF_le, jT_eq, jF_eq, jT_z, jF_z, jF_neg, jT_nn, jT_pos, jF_pos, jT_le0, jF_le0, jT_x, jF_m1, jF_m1r, jT_tt, jI_add, jI_mul, jI_sub, jI_cl, jm_up_same, jm_up_o, jm_up_j, jbR_T, jbR_F, hN, jt_M_rings_11, m1, mM_hind1 h17, jt_M_rings_27]
      rw [jt_M_rings_31]
      simp (disch := omega) only [jb_K_n, jb_K_v, ↓reduceIte, jT_lt, jF_lt, jT_le, jF_le, jT_eq, jF_eq, jT_z, jF_z, jF_neg, jT_nn, jT_pos, jF_pos, jT_le0, jF_le0, jT_x, jF_m1, jF_m1r, jT_tt, jI_add, jI_mul, jI_sub, jI_cl, jm_up_same, jm_up_o, jm_up_j, jbR_T, jbR_F, m1, hh, jt_M_rings_225]
    · simp (disch := omega) only [jb_K_n, jb_K_v, ↓reduceIte, jT_lt, jF_lt, jT_le, jF_le, jT_eq, jF_eq, jT_z, jF_z, jF_neg, jT_nn, jT_pos, jF_pos, jT_le0, jF_le0, jT_x, jF_m1, jF_m1r, jT_tt, jI_add, jI_mul, jI_sub, jI_cl, jm_up_same, jm_up_o, jm_up_j, jbR_T, jbR_F, hN, jt_M_rings_11, m1, mM_hind1 h17, jt_M_rings_27]
      rw [jt_M_rings_31]
      simp (disch := omega) only [jb_K_n, jb_K_v, ↓reduceIte, jT_lt, jF_lt, jT_le, jF_le, jT_eq, jF_eq, jT_z, jF_z, jF_neg, jT_nn, jT_pos, jF_pos, jT_le0, jF_le0, jT_x, jF_m1, jF_m1r, jT_tt, jI_add, jI_mul, jI_sub, jI_cl, jm_up_same, jm_up_o, jm_up_j, jbR_T, jbR_F, m1, hh, jt_M_rings_225]
  rw [if_neg c1]
  have hY := jM_inY (σ := σ) (k := n) (l := 1) (n := 12) (by omega) (by omega) (by omega)
  obtain ⟨τ', v3, v4, g0, g1, g2, g3, g4, g5⟩ := mM_ringL (σ := σ) hw hf (by omega) n 0 σ (.retAddr 0) (.retAddr 0) (Nat.zero_add _) hM.1 m1 h17 (hM.2.2.congr (fun j hj => by rw [if_neg (Nat.not_lt_zero _)])) jmf.rf
  have g0' : jb_Ex 107 (31, [.ref (307 : Nat), .int (jI 0), .int (jI 0), .retAddr 0, .retAddr 0], [], jm_hp σ) = _ := g0
  have hcn : jrc w f n ≤ n := jrc_le
  by_cases c2 : jrc w f n = 0
  · rw [if_pos c2]
    refine ⟨jI 0, jm_up (jm_up τ' 307 17 (jI 6)) 307 18 (jI n), ?_, by simp (disch := omega) only [jb_K_n, jb_K_v, ↓reduceIte, jT_lt, jF_lt, jT_le, jF_le, jT_eq, jF_eq, jT_z, jF_z, jF_neg, jT_nn, jT_pos, jF_pos, jT_le0, jF_le0, jT_x, jF_m1, jF_m1r, jT_tt, jI_add, jI_mul, jI_sub, jI_cl, jm_up_same, jm_up_o, jm_up_j, jbR_T, jbR_F], by simp (disch := omega) only [jb_K_n, jb_K_v, ↓reduceIte, jT_lt, jF_lt, jT_le, jF_le, jT_eq, jF_eq, jT_z, jF_z, jF_neg, jT_nn, jT_pos, jF_pos, jT_le0, jF_le0, jT_x, jF_m1, jF_m1r, jT_tt, jI_add, jI_mul, jI_sub, jI_cl, jm_up_same, jm_up_o, jm_up_j, jbR_T, jbR_F], (g5.u7 _).u7' _⟩
    rw [jt_M_rings_0, m1]
    simp (disch := omega) only [jb_K_n, jb_K_v, ↓reduceIte, jT_lt, jF_lt, jT_le, jF_le, jT_eq, jF_eq, jT_z, jF_z, jF_neg, jT_nn, jT_pos, jF_pos, jT_le0, jF_le0, jT_x, jF_m1, jF_m1r, jT_tt, jI_add, jI_mul, jI_sub, jI_cl, jm_up_same, jm_up_o, jm_up_j, jbR_T, jbR_F, hY, jt_M_rings_11, m1, mM_hind0, jt_M_rings_27]
    rw [g0', jt_M_rings_31]
    simp (disch := omega) only [jb_K_n, jb_K_v, ↓reduceIte, jT_lt, jF_lt, jT_le, jF_le, jT_eq, jF_eq, jT_z, jF_z, jF_neg, jT_nn, jT_pos, jF_pos, jT_le0, jF_le0, jT_x, jF_m1, jF_m1r, jT_tt, jI_add, jI_mul, jI_sub, jI_cl, jm_up_same, jm_up_o, jm_up_j, jbR_T, jbR_F, g2, c2, mM_hind1 g3, jt_M_rings_225]
  · rw [if_neg c2]
    obtain ⟨τ'', k1, k2, k3⟩ := mM_keeps (by omega) (by rw [jrw_o hf (by omega)]; exact b2) g1 g2 g4
    refine ⟨τ'', ?_, k2, (k3 _ _ (by omega)).trans g3, g5.tr k3.f⟩
    rw [jt_M_rings_0, m1]
    simp (disch := omega) only [jb_K_n, jb_K_v, ↓reduceIte, jT_lt, jF_lt, jT_le, jF_le, jT_eq, jF_eq, jT_z, jF_z, jF_neg, jT_nn, jT_pos, jF_pos, jT_le0, jF_le0, jT_x, jF_m1, jF_m1r, jT_tt, jI_add, jI_mul, jI_sub, jI_cl, jm_up_same, jm_up_o, jm_up_j, jbR_T, jbR_F, hY, jt_M_rings_11, m1, mM_hind0, jt_M_rings_27]
    rw [g0', jt_M_rings_31]
    simp (disch := omega) only [jb_K_n, jb_K_v, ↓reduceIte, jT_lt, jF_lt, jT_le, jF_le, jT_eq, jF_eq, jT_z, jF_z, jF_neg, jT_nn, jT_pos, jF_pos, jT_le0, jF_le0, jT_x, jF_m1, jF_m1r, jT_tt, jI_add, jI_mul, jI_sub, jI_cl, jm_up_same, jm_up_o, jm_up_j, jbR_T, jbR_F, g2, mM_hind0, jt_M_rings_225, g3, k1, jt_M_rings_238]
end RG
