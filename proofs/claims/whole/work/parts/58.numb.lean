/-! ===== the class: what stands in a command ===== -/
theorem jc_295 : jm_c 295 = 6 := by decide +kernel
theorem jn_296 : jm_ln 296 = 60 := by decide +kernel
theorem jmt_full : ∀ (l : List Nat) (u : Nat → Nat) (s : Nat), jmt l u s = l.length → ∀ p, p < l.length → jft (l.getD p 0) (u (s + p)) = true
  | [], _, _, _, p, hp => absurd hp (Nat.not_lt_zero _)
  | f :: l, u, s, h, p, hp => by
    rw [jmt] at h
    by_cases hf : jft f (u s) = true
    · rw [if_pos hf] at h
      cases p with
      | zero => exact hf
      | succ p =>
        have := jmt_full l u (s + 1) (by simp only [List.length_cons] at h; omega) p (by simp only [List.length_cons] at hp; omega)
        rw [show s + 1 + p = s + (p + 1) by omega] at this
        exact this
    · rw [if_neg hf] at h
      simp only [List.length_cons] at h; omega
def jsg (x : Nat) : Nat := if x = 46 then 5 else x - 97
def jsgI (x : Nat) : Int32 := if jgn x = true then jI (jsg x) else -1
def jnv (u : Nat → Nat) (s c wh : Nat) : Int32 := if jln c ≤ jnl c + 2 * wh then -1 else if (jfm c).getD (jnl c + 2 * wh) 0 = 66 then jI (u (s + (jnl c + 2 * wh)) - 97) else if (jfm c).getD (jnl c + 2 * wh) 0 = 68 then jI (u (s + (jnl c + 2 * wh)) - 48) else if (jfm c).getD (jnl c + 2 * wh) 0 = 75 then jI (jkd (u (s + (jnl c + 2 * wh)))) else -1
section NU
variable {σ : jm_S} {n : Nat} {t : Nat → Nat}
theorem jstr_ixL {c : Nat} (hc : c < 8) (x1 x2 : Int32) : ∀ (m i : Nat), i + m = jnl c - 1 → jb_Ex 26 (7, [.ref (1000000 + c + 100), .int x1, .int x2, .int (jI (jln c)), .int ((jI 32).toInt8.toInt32), .int (jI i)], [], jm_hp σ) = some (some (.int (jI (jnl c - 1))), jm_hp σ)
  | 0, i, hi => by
    have h0 : 1000000 ≤ 1000000 + c ∧ 1000000 + c < 1000010 := ⟨by omega, by omega⟩
    have hb := jnl_b c hc
    have hb2 := jln_b c
    have key : ∀ c < 8, (jsb (1000000 + c)).length = jln c ∧ (jsb (1000000 + c)).getD (jnl c - 1) 0 = (jI 32).toInt8.toInt32 := by decide +kernel
    obtain ⟨k1, k2⟩ := key c hc
    have hi2 : i = jnl c - 1 := by omega
    subst hi2
    rw [jt_L1_indexOfChar_7 h0, if_neg (by rw [jI_le (by omega) (by omega)]; omega), k1, if_pos ((jx_I (by omega)).mpr (by omega)), jI_cl (by omega), if_pos k2]
  | m + 1, i, hi => by
    have ih := jstr_ixL hc x1 x2 m (i + 1) (by omega)
    have h0 : 1000000 ≤ 1000000 + c ∧ 1000000 + c < 1000010 := ⟨by omega, by omega⟩
    have hb := jnl_b c hc
    have hb2 := jln_b c
    have key : ∀ c < 8, (jsb (1000000 + c)).length = jln c := by decide +kernel
    have key2 : ∀ c < 8, ∀ i < 8, i < jnl c - 1 → (jsb (1000000 + c)).getD i 0 ≠ (jI 32).toInt8.toInt32 := by decide +kernel
    rw [jt_L1_indexOfChar_7 h0, if_neg (by rw [jI_le (by omega) (by omega)]; omega), key c hc, if_pos ((jx_I (by omega)).mpr (by omega)), jI_cl (by omega), if_neg (key2 c hc i (by omega) (by omega)), jI_add]
    exact ih
theorem jstr_ix {c : Nat} (hc : c < 8) : jb_Ev 179 [.ref (1000000 + c), .int (jI 32)] (jm_hp σ) = some (some (.int (jI (jnl c - 1))), jm_hp σ) := by
  have h0 : 1000000 ≤ 1000000 + c ∧ 1000000 + c < 1000010 := ⟨by omega, by omega⟩
  have hb := jnl_b c hc
  have hb2 := jln_b c
  have key : ∀ c < 8, (jsb (1000000 + c)).length = jln c := by decide +kernel
  have hl := jstr_len (σ := σ) (c := c) (by omega)
  rw [jfm_ln hc] at hl
  rw [jt_Str_indexOf_0 h0, jt_Str_indexOf2_0 h0, jt_Str_isLatin1_0 h0]
  simp (disch := omega) only [jb_K_n, jb_K_v, ↓reduceIte, jT_lt, jF_lt, jT_le, jF_le, jT_eq, jF_eq, jT_z, jF_z, jF_neg, jT_nn, jT_pos, jF_pos, jT_le0, jF_le0, jT_x, jF_m1, jF_m1r, jT_tt, jI_add, jI_mul, jI_sub, jI_cl, jm_up_same, jm_up_o, jm_up_j, jbR_T, jbR_F]
  rw [jt_Str_indexOf2_4 h0 (by decide +kernel), hl]
  simp (disch := omega) only [jb_K_n, jb_K_v, ↓reduceIte, jT_lt, jF_lt, jT_le, jF_le, jT_eq, jF_eq, jT_z, jF_z, jF_neg, jT_nn, jT_pos, jF_pos, jT_le0, jF_le0, jT_x, jF_m1, jF_m1r, jT_tt, jI_add, jI_mul, jI_sub, jI_cl, jm_up_same, jm_up_o, jm_up_j, jbR_T, jbR_F, jt_Str_indexOf2_17 h0]
  rw [jt_L1_indexOf_0 h0, jt_L1_canEncode_0, if_neg (by decide +kernel), if_neg (by decide +kernel)]
  simp (disch := omega) only [jb_K_n, jb_K_v, ↓reduceIte, jT_lt, jF_lt, jT_le, jF_le, jT_eq, jF_eq, jT_z, jF_z, jF_neg, jT_nn, jT_pos, jF_pos, jT_le0, jF_le0, jT_x, jF_m1, jF_m1r, jT_tt, jI_add, jI_mul, jI_sub, jI_cl, jm_up_same, jm_up_o, jm_up_j, jbR_T, jbR_F]
  rw [jt_L1_indexOf_4 h0, if_neg (by decide +kernel), key c hc, if_neg (show ¬ jI 0 < jI 0 by decide +kernel), if_neg (show ¬ jI (jln c) < jI (jln c) from Int32.lt_irrefl), if_pos ((jI_lt (by omega) (by omega)).mpr (by omega)), jt_L1_indexOfChar_0 h0, jstr_ixL hc _ _ (jnl c - 1) 0 (by omega)]
  simp (disch := omega) only [jb_K_n, jb_K_v, ↓reduceIte, jT_lt, jF_lt, jT_le, jF_le, jT_eq, jF_eq, jT_z, jF_z, jF_neg, jT_nn, jT_pos, jF_pos, jT_le0, jF_le0, jT_x, jF_m1, jF_m1r, jT_tt, jI_add, jI_mul, jI_sub, jI_cl, jm_up_same, jm_up_o, jm_up_j, jbR_T, jbR_F, jt_L1_indexOf_36 h0, jt_Str_indexOf2_20 h0, jt_Str_indexOf_6 h0]
theorem jText_numberOf {L : List (Nat × Nat × Nat)} (hr : jRn σ 283 n t) (ht : jtx n t) (hw : jrW σ L) {i c s e wh : Nat} (hi : i < L.length) (hL : jLz L i = (c, s, e)) (hc : c < 8) (hs : s ≤ 60) (hm : jmt (jfm c) (jtu n t) s = jln c) (hwh : wh < 2) : jb_Ev 205 [.ref (282 : Nat), .int (jI i), .int (jI wh)] (jm_hp σ) = some (some (.int (jnv (jtu n t) s c wh)), jm_hp σ) := by
  have h0 : 1000000 ≤ 1000000 + c ∧ 1000000 + c < 1000010 := ⟨by omega, by omega⟩
  have hb := jnl_b c hc
  have hb2 := jln_b c
  have hl := jstr_len (σ := σ) (c := c) (by omega)
  rw [jfm_ln hc] at hl
  have a1 := jRn_at hw.1 hi
  have a2 := jRn_at hw.2.1 hi
  simp only [hL] at a1 a2
  have hfo := jText_formOf (σ := σ) hc
  have hix := jstr_ix (σ := σ) hc
  rw [jt_Text_numberOf_0, a1, jb_K_v]
  refine Eq.trans jt_Text_numberOf_8 ?_
  rw [hfo, jb_K_v]
  refine Eq.trans (jt_Text_numberOf_11 h0) ?_
  rw [hix, jb_K_v]
  refine Eq.trans (jt_Text_numberOf_18 h0) ?_
  have ep : jI (jnl c - 1) + jI 1 + jI 2 * jI wh = jI (jnl c + 2 * wh) := by
    rw [jI_mul, jI_add, jI_add]; congr 1; omega
  rw [ep, if_neg (by rw [jI_neg (by omega)]; exact id), hl, jb_K_v]
  refine Eq.trans (jt_Text_numberOf_37 h0) ?_
  unfold jnv
  by_cases hp : jln c ≤ jnl c + 2 * wh
  · rw [if_pos hp, if_neg (by rw [jI_lt (by omega) (by omega)]; omega)]
  · rw [if_neg hp, if_pos ((jI_lt (by omega) (by omega)).mpr (by omega)), a2, jb_K_v]
    have hat := jtc_at hr (i := s + (jnl c + 2 * wh)) (by omega)
    have hch := jstr_at (σ := σ) (c := c) (p := jnl c + 2 * wh) (by omega) (by rw [jfm_ln hc]; omega)
    have hfit := jmt_full (jfm c) (jtu n t) s (by rw [jfm_ln hc]; exact hm) (jnl c + 2 * wh) (by rw [jfm_ln hc]; omega)
    have hlt : (jfm c).getD (jnl c + 2 * wh) 0 < 256 := by
      have key : ∀ c < 8, ∀ p < 8, p < (jfm c).length → (jfm c).getD p 0 < 256 := by decide +kernel
      exact key c hc _ (by omega) (by rw [jfm_ln hc]; omega)
    refine Eq.trans (jt_Text_numberOf_54 h0) ?_
    rw [jI_add, hat, jb_K_v]
    refine Eq.trans (jt_Text_numberOf_60 h0) ?_
    rw [hch, jb_K_v]
    refine Eq.trans (jt_Text_numberOf_68 h0) ?_
    have hs2 := jtc_sign (σ := σ) ht (s + (jnl c + 2 * wh))
    have hk2 := jtc_kind (σ := σ) ht (s + (jnl c + 2 * wh))
    have hv : jtu n t (s + (jnl c + 2 * wh)) ≠ 0 → jtc n t (s + (jnl c + 2 * wh)) = jI (jtu n t (s + (jnl c + 2 * wh))) := by
      intro z
      unfold jtc jtu at *
      by_cases e' : s + (jnl c + 2 * wh) < n
      · rw [if_pos e', if_pos e']
      · rw [if_neg e'] at z; omega
    generalize jtu n t (s + (jnl c + 2 * wh)) = x at *
    generalize (jfm c).getD (jnl c + 2 * wh) 0 = f at *
    by_cases f1 : f = 66
    · subst f1
      rw [if_pos rfl, if_pos rfl]
      have hx := of_decide_eq_true hfit
      rcases hs2 with ⟨q1, k, q2, q3, q4⟩ | ⟨q1, q4⟩
      · rw [q4, jb_K_v]
        refine Eq.trans (jt_Text_numberOf_109 h0) ?_
        rw [show k = x - 97 by omega]
      · have := of_decide_eq_false q1; omega
    · rw [if_neg (by rw [jI_eq (by omega) (by omega)]; exact f1), if_neg f1]
      by_cases f2 : f = 68
      · subst f2
        rw [if_pos rfl, if_pos rfl]
        have hx : 48 ≤ x ∧ x ≤ 57 := of_decide_eq_true hfit
        rw [hv (by omega), jI_sub (by omega)]
      · rw [if_neg (by rw [jI_eq (by omega) (by omega)]; exact f2), if_neg f2]
        by_cases f3 : f = 75
        · subst f3
          rw [if_pos rfl, if_pos rfl]
          have hx : x = 110 ∨ x = 100 ∨ x = 116 := of_decide_eq_true hfit
          rcases hk2 with ⟨k, q2, q3, q4⟩ | ⟨q1, q4⟩
          · rw [q4, jb_K_v]
            refine Eq.trans (jt_Text_numberOf_115 h0) ?_
            unfold jkd
            rcases q3 with ⟨a, b⟩ | ⟨a, b⟩ | ⟨a, b⟩ <;> rw [a, b] <;> rfl
          · exact absurd hx q1
        · rw [if_neg (by rw [jI_eq (by omega) (by omega)]; exact f3), if_neg f3]
theorem jtc_sgI (ht : jtx n t) (i : Nat) : jb_Ev 10 [.int (jtc n t i)] (jm_hp σ) = some (some (.int (jsgI (jtu n t i))), jm_hp σ) := by
  unfold jsgI jsg
  rcases jtc_sign (σ := σ) ht i with ⟨q1, k, q2, q3, q4⟩ | ⟨q1, q4⟩
  · rw [if_pos q1, q4]
    rcases q3 with ⟨a, b⟩ | ⟨a, b, c⟩
    · rw [if_pos a, b]
    · rw [if_neg a, c, Nat.add_sub_cancel_left]
  · rw [if_neg (by rw [q1]; decide), q4]
theorem jcopyL {L : List (Nat × Nat × Nat)} (ht : jtx n t) {i e q : Nat} (hi : i < L.length) (hL : (jLz L i).2.2 = e) (he : e ≤ 60) (x3 : Int32) : ∀ (m k : Nat) (σ : jm_S), q + k + m = e → jRn σ 283 n t → jrW σ L → jR σ 295 k (fun j => jsgI (jtu n t (q + j))) → ∃ σ', jb_Ex 148 (33, [.ref (282 : Nat), .int (jI i), .ref (295 : Nat), .int x3, .int (jI (q + k))], [], jm_hp σ) = some (none, jm_hp σ') ∧ jR σ' 295 (k + m) (fun j => jsgI (jtu n t (q + j))) ∧ jA 295 297 σ σ'
  | 0, k, σ, hm, hr, hw, hR => by
    have a3 := jRn_at hw.2.2 hi
    simp only [hL] at a3
    refine ⟨σ, ?_, hR, jA.rf⟩
    rw [jt_Text_copySigns_33 jc_295, a3, jb_K_v]
    refine Eq.trans (jt_Text_copySigns_43 jc_295) ?_
    rw [if_pos ((jI_le (by omega) (by omega)).mpr (by omega))]
  | m + 1, k, σ, hm, hr, hw, hR => by
    have a3 := jRn_at hw.2.2 hi
    simp only [hL] at a3
    have hat := jtc_at hr (i := q + k) (by omega)
    have hk60 : k < jm_ln (295 + 1) := by rw [jn_296]; omega
    have ha := jR_add hR hk60 (jsgI (jtu n t (q + k)))
    have hR2 := hR.add hk60 (jsgI (jtu n t (q + k)))
    have hA : jA 295 297 σ (jm_up (jm_up σ (295 + 1) k (jsgI (jtu n t (q + k)))) 295 1 (jI (k + 1))) := fun a b hab => by rw [jm_up_o _ _ (by omega), jm_up_o _ _ (by omega)]
    generalize jm_up (jm_up σ (295 + 1) k (jsgI (jtu n t (q + k)))) 295 1 (jI (k + 1)) = σ1 at *
    obtain ⟨σ', e1, f1, f2⟩ := jcopyL (q := q) ht hi hL he x3 m (k + 1) σ1 (by omega) (hr.A hA (by omega)) ⟨hw.1.A hA (by omega), hw.2.1.A hA (by omega), hw.2.2.A hA (by omega)⟩ (hR2.congr (fun j hj => by
      by_cases z : j = k
      · rw [if_pos z, z]
      · rw [if_neg z]))
    refine ⟨σ', ?_, by rw [show k + (m + 1) = k + 1 + m by omega]; exact f1, hA.tr f2⟩
    rw [jt_Text_copySigns_33 jc_295, a3, jb_K_v]
    refine Eq.trans (jt_Text_copySigns_43 jc_295) ?_
    rw [if_neg (by rw [jI_le (by omega) (by omega)]; omega), hat, jb_K_v]
    refine Eq.trans (jt_Text_copySigns_56 jc_295) ?_
    rw [jtc_sgI ht, jb_K_v]
    refine Eq.trans (jt_Text_copySigns_59 jc_295) ?_
    rw [ha, jb_K_n]
    refine Eq.trans (jt_Text_copySigns_62 jc_295) ?_
    rw [jI_add]
    exact e1
theorem jText_copySigns {L : List (Nat × Nat × Nat)} (hr : jRn σ 283 n t) (ht : jtx n t) (hw : jrW σ L) {i c s e : Nat} (hi : i < L.length) (hL : jLz L i = (c, s, e)) (hc : c < 8) (he : e ≤ 60) (hs : s + jln c ≤ e) : ∃ σ', jb_Ev 148 [.ref (282 : Nat), .int (jI i), .ref (295 : Nat)] (jm_hp σ) = some (none, jm_hp σ') ∧ jR σ' 295 (e - (s + jln c - 1)) (fun j => jsgI (jtu n t (s + jln c - 1 + j))) ∧ jA 295 297 σ σ' := by
  have h0 : 1000000 ≤ 1000000 + c ∧ 1000000 + c < 1000010 := ⟨by omega, by omega⟩
  have hb2 := jln_b c
  have hl := jstr_len (σ := jm_up σ 295 1 (jI 0)) (c := c) (by omega)
  rw [jfm_ln hc] at hl
  have hA : jA 295 297 σ (jm_up σ 295 1 (jI 0)) := fun a b hab => by rw [jm_up_o _ _ (by omega)]
  have hw' : jrW (jm_up σ 295 1 (jI 0)) L := ⟨hw.1.A hA (by omega), hw.2.1.A hA (by omega), hw.2.2.A hA (by omega)⟩
  have hR : jR (jm_up σ 295 1 (jI 0)) 295 0 (fun j => jsgI (jtu n t (s + jln c - 1 + j))) := ⟨jc_295, Nat.zero_le _, jm_up_same _ _ _ _, fun k hk => absurd hk (Nat.not_lt_zero _)⟩
  have a1 := jRn_at hw'.1 hi
  have a2 := jRn_at hw'.2.1 hi
  simp only [hL] at a1 a2
  obtain ⟨σ', e1, f1, f2⟩ := jcopyL (q := s + jln c - 1) ht hi (by rw [hL]) he (jI (s + jln c - 1)) (e - (s + jln c - 1)) 0 _ (by omega) (hr.A hA (by omega)) hw' hR
  refine ⟨σ', ?_, by rw [Nat.zero_add] at f1; exact f1, hA.tr f2⟩
  rw [jt_Text_copySigns_0 jc_295, jt_Row_clear_0 jc_295, jb_K_n]
  refine Eq.trans (jt_Text_copySigns_4 jc_295) ?_
  rw [a2, jb_K_v]
  refine Eq.trans (jt_Text_copySigns_12 jc_295) ?_
  rw [a1, jb_K_v]
  refine Eq.trans (jt_Text_copySigns_20 jc_295) ?_
  rw [jText_formOf hc, jb_K_v]
  refine Eq.trans (jt_Text_copySigns_23 jc_295 h0) ?_
  rw [hl, jb_K_v]
  refine Eq.trans (jt_Text_copySigns_26 jc_295) ?_
  rw [jI_add, jI_sub (by omega)]
  exact e1
end NU
