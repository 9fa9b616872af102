/-! ===== the class: which command stands at a place ===== -/
theorem jfm_dr {c p : Nat} (hp : p < (jfm c).length) : (jfm c).drop p = (jfm c).getD p 0 :: (jfm c).drop (p + 1) := by
  rw [List.drop_eq_getElem_cons hp]
  congr 1
  rw [List.getD_eq_getElem?_getD, List.getElem?_eq_getElem hp]
  rfl
theorem jBI_1 : jBI true = jI 1 := rfl
theorem jBI_0 : jBI false = jI 0 := rfl
section MT
variable {σ : jm_S} {n : Nat} {t : Nat → Nat}
theorem jmatchL (hr : jRn σ 283 n t) (ht : jtx n t) {c s : Nat} (hc : c < 8) (hs : s ≤ 100) : ∀ (m p : Nat), p + m = (jfm c).length → jb_Ex 204 (8, [.ref (282 : Nat), .int (jI c), .int (jI s), .ref (1000000 + c), .int (jI p)], [], jm_hp σ) = some (some (.int (jI (p + jmt ((jfm c).drop p) (jtu n t) (s + p)))), jm_hp σ)
  | 0, p, hp => by
    have hl := jfm_len c hc
    have hl2 : (jfm c).length ≤ 8 := by rw [hl]; split <;> (try split) <;> omega
    have h0 : 1000000 ≤ 1000000 + c ∧ 1000000 + c < 1000010 := ⟨by omega, by omega⟩
    rw [List.drop_eq_nil_of_le (by omega)]
    simp (disch := omega) only [jb_K_n, jb_K_v, ↓reduceIte, jT_lt, jF_lt, jT_le, jF_le, jT_eq, jF_eq, jT_z, jF_z, jF_neg, jT_nn, jT_pos, jF_pos, jT_le0, jF_le0, jT_x, jF_m1, jF_m1r, jT_tt, jI_add, jI_mul, jI_sub, jI_cl, jm_up_same, jm_up_o, jm_up_j, jbR_T, jbR_F, jt_Text_match_8 h0, jstr_len (show c < 10 by omega), jt_Text_match_14 h0, jt_Text_match_53 h0]
    rw [jmt, ← hp]
  | m + 1, p, hp => by
    have ih := jmatchL hr ht hc hs m (p + 1) (by omega)
    have hl := jfm_len c hc
    have hl2 : (jfm c).length ≤ 8 := by rw [hl]; split <;> (try split) <;> omega
    have h0 : 1000000 ≤ 1000000 + c ∧ 1000000 + c < 1000010 := ⟨by omega, by omega⟩
    have key : ∀ c < 8, ∀ p < 8, p < (jfm c).length → (jfm c).getD p 0 < 256 ∧ (jfm c).getD p 0 ≠ 0 := by decide +kernel
    obtain ⟨k1, k2⟩ := key c hc p (by omega) (by omega)
    have ha := jstr_at (σ := σ) (c := c) (p := p) (by omega) (by omega)
    have hat := jtc_at hr (i := s + p) (by omega)
    have hf := jisFit (σ := σ) ht k1 k2 (s + p)
    rw [jfm_dr (by omega)]
    rw [jt_Text_match_8 h0]
    simp (disch := omega) only [jb_K_n, jb_K_v, ↓reduceIte, jT_lt, jF_lt, jT_le, jF_le, jT_eq, jF_eq, jT_z, jF_z, jF_neg, jT_nn, jT_pos, jF_pos, jT_le0, jF_le0, jT_x, jF_m1, jF_m1r, jT_tt, jI_add, jI_mul, jI_sub, jI_cl, jm_up_same, jm_up_o, jm_up_j, jbR_T, jbR_F, jstr_len (show c < 10 by omega), jt_Text_match_14 h0, ha, jt_Text_match_23 h0, hat, jt_Text_match_34 h0, hf, jt_Text_match_37 h0]
    unfold jmt
    cases hb : jft ((jfm c).getD p 0) (jtu n t (s + p)) with
    | false =>
      simp (disch := omega) only [jb_K_n, jb_K_v, ↓reduceIte, jT_lt, jF_lt, jT_le, jF_le, jT_eq, jF_eq, jT_z, jF_z, jF_neg, jT_nn, jT_pos, jF_pos, jT_le0, jF_le0, jT_x, jF_m1, jF_m1r, jT_tt, jI_add, jI_mul, jI_sub, jI_cl, jm_up_same, jm_up_o, jm_up_j, jbR_T, jbR_F, jBI_0]
      rfl
    | true =>
      simp (disch := omega) only [jb_K_n, jb_K_v, ↓reduceIte, jT_lt, jF_lt, jT_le, jF_le, jT_eq, jF_eq, jT_z, jF_z, jF_neg, jT_nn, jT_pos, jF_pos, jT_le0, jF_le0, jT_x, jF_m1, jF_m1r, jT_tt, jI_add, jI_mul, jI_sub, jI_cl, jm_up_same, jm_up_o, jm_up_j, jbR_T, jbR_F, jBI_1, ih]
      have e : s + (p + 1) = s + p + 1 := by omega
      rw [e]
      generalize jmt (List.drop (p + 1) (jfm c)) (jtu n t) (s + p + 1) = X
      rw [show p + 1 + X = p + (X + 1) by omega]
theorem jText_formOf {c : Nat} (hc : c < 8) : jb_Ev 20 [.int (jI c)] (jm_hp σ) = some (some (.ref (1000000 + c)), jm_hp σ) := by
  rw [jt_Text_formOf_0]
  rcases (by omega : c = 0 ∨ c = 1 ∨ c = 2 ∨ c = 3 ∨ c = 4 ∨ c = 5 ∨ c = 6 ∨ c = 7) with h | h | h | h | h | h | h | h <;> subst h <;> simp (disch := omega) only [jb_K_n, jb_K_v, ↓reduceIte, jT_lt, jF_lt, jT_le, jF_le, jT_eq, jF_eq, jT_z, jF_z, jF_neg, jT_nn, jT_pos, jF_pos, jT_le0, jF_le0, jT_x, jF_m1, jF_m1r, jT_tt, jI_add, jI_mul, jI_sub, jI_cl, jm_up_same, jm_up_o, jm_up_j, jbR_T, jbR_F]
theorem jText_match (hr : jRn σ 283 n t) (ht : jtx n t) {c s : Nat} (hc : c < 8) (hs : s ≤ 100) : jb_Ev 204 [.ref (282 : Nat), .int (jI c), .int (jI s)] (jm_hp σ) = some (some (.int (jI (jmt (jfm c) (jtu n t) s))), jm_hp σ) := by
  have h0 : 1000000 ≤ 1000000 + c ∧ 1000000 + c < 1000010 := ⟨by omega, by omega⟩
  have h := jmatchL hr ht hc hs (jfm c).length 0 (by omega)
  rw [jt_Text_match_0, jText_formOf hc]
  simp (disch := omega) only [jb_K_n, jb_K_v, ↓reduceIte, jT_lt, jF_lt, jT_le, jF_le, jT_eq, jF_eq, jT_z, jF_z, jF_neg, jT_nn, jT_pos, jF_pos, jT_le0, jF_le0, jT_x, jF_m1, jF_m1r, jT_tt, jI_add, jI_mul, jI_sub, jI_cl, jm_up_same, jm_up_o, jm_up_j, jbR_T, jbR_F]
  refine Eq.trans (jt_Text_match_4 h0) ?_
  rw [h, List.drop_zero, Nat.zero_add, Nat.add_zero]
theorem jfm_ln {c : Nat} (hc : c < 8) : (jfm c).length = jln c := jfm_len c hc
theorem jcfS (hr : jRn σ 283 n t) (ht : jtx n t) {c s : Nat} (hc : c < 8) (hs : s ≤ 100) : jb_Ex 229 (2, [.ref (282 : Nat), .int (jI s), .int (jI c)], [], jm_hp σ) = if jmt (jfm c) (jtu n t) s = jln c then some (some (.int (jI c)), jm_hp σ) else jb_Ex 229 (2, [.ref (282 : Nat), .int (jI s), .int (jI (c + 1))], [], jm_hp σ) := by
  have h0 : 1000000 ≤ 1000000 + c ∧ 1000000 + c < 1000010 := ⟨by omega, by omega⟩
  have hm := jText_match hr ht hc hs
  have hl := jstr_len (σ := σ) (c := c) (by omega)
  rw [jfm_ln hc] at hl
  have h1 := jmt_le (jfm c) (jtu n t) s
  rw [jfm_ln hc] at h1
  have h2 : jln c ≤ 8 := by unfold jln; split <;> (try split) <;> omega
  rw [jt_Text_commandFrom_2, if_neg (by rw [jI_le (by omega) (by omega)]; omega), hm, jb_K_v]
  refine Eq.trans jt_Text_commandFrom_14 ?_
  rw [jText_formOf hc, jb_K_v]
  refine Eq.trans (jt_Text_commandFrom_18 h0) ?_
  rw [hl, jb_K_v]
  refine Eq.trans jt_Text_commandFrom_21 ?_
  by_cases h : jmt (jfm c) (jtu n t) s = jln c
  · rw [if_pos h, if_pos (by rw [h])]
  · rw [if_neg h, if_neg (by rw [jI_eq (by omega) (by omega)]; exact h), jI_add]
theorem jText_commandFrom (hr : jRn σ 283 n t) (ht : jtx n t) {s : Nat} (hs : s ≤ 100) : jb_Ev 229 [.ref (282 : Nat), .int (jI s)] (jm_hp σ) = some (some (.int (if jcm (jtu n t) s = 8 then -1 else jI (jcm (jtu n t) s))), jm_hp σ) := by
  have f (c : Nat) (hc : c < 8) := jcfS hr ht hc hs
  have f8 : jb_Ex 229 (2, [.ref (282 : Nat), .int (jI s), .int (jI 8)], [], jm_hp σ) = some (some (.int (-1)), jm_hp σ) := by
    rw [jt_Text_commandFrom_2, if_pos (by decide +kernel)]
  rw [jt_Text_commandFrom_0, f 0 (by omega), f 1 (by omega), f 2 (by omega), f 3 (by omega), f 4 (by omega), f 5 (by omega), f 6 (by omega), f 7 (by omega), f8]
  unfold jcm
  simp only [show jln 0 = 8 from rfl, show jln 1 = 8 from rfl, show jln 2 = 8 from rfl, show jln 3 = 8 from rfl, show jln 4 = 8 from rfl, show jln 5 = 8 from rfl, show jln 6 = 4 from rfl, show jln 7 = 6 from rfl]
  by_cases h0 : jmt (jfm 0) (jtu n t) s = 8
  · simp only [if_pos h0]; rfl
  by_cases h1 : jmt (jfm 1) (jtu n t) s = 8
  · simp only [if_neg h0, if_pos h1]; rfl
  by_cases h2 : jmt (jfm 2) (jtu n t) s = 8
  · simp only [if_neg h0, if_neg h1, if_pos h2]; rfl
  by_cases h3 : jmt (jfm 3) (jtu n t) s = 8
  · simp only [if_neg h0, if_neg h1, if_neg h2, if_pos h3]; rfl
  by_cases h4 : jmt (jfm 4) (jtu n t) s = 8
  · simp only [if_neg h0, if_neg h1, if_neg h2, if_neg h3, if_pos h4]; rfl
  by_cases h5 : jmt (jfm 5) (jtu n t) s = 8
  · simp only [if_neg h0, if_neg h1, if_neg h2, if_neg h3, if_neg h4, if_pos h5]; rfl
  by_cases h6 : jmt (jfm 6) (jtu n t) s = 4
  · simp only [if_neg h0, if_neg h1, if_neg h2, if_neg h3, if_neg h4, if_neg h5, if_pos h6]; rfl
  by_cases h7 : jmt (jfm 7) (jtu n t) s = 6
  · simp only [if_neg h0, if_neg h1, if_neg h2, if_neg h3, if_neg h4, if_neg h5, if_neg h6, if_pos h7]; rfl
  simp only [if_neg h0, if_neg h1, if_neg h2, if_neg h3, if_neg h4, if_neg h5, if_neg h6, if_neg h7, ↓reduceIte]
theorem jlmS (hr : jRn σ 283 n t) (ht : jtx n t) {c s m : Nat} (hc : c < 8) (hs : s ≤ 100) (hm : m ≤ 8) : jb_Ex 230 (4, [.ref (282 : Nat), .int (jI s), .int (jI m), .int (jI c)], [], jm_hp σ) = jb_Ex 230 (4, [.ref (282 : Nat), .int (jI s), .int (jI (jmx m (jmt (jfm c) (jtu n t) s))), .int (jI (c + 1))], [], jm_hp σ) := by
  have h := jText_match hr ht hc hs
  have h1 := jmt_le (jfm c) (jtu n t) s
  rw [jfm_ln hc] at h1
  have h2 : jln c ≤ 8 := by unfold jln; split <;> (try split) <;> omega
  rw [jt_Text_longestMatch_4, if_neg (by rw [jI_le (by omega) (by omega)]; omega), h, jb_K_v]
  refine Eq.trans jt_Text_longestMatch_17 ?_
  rw [jI_add]
  unfold jmx
  by_cases e : m < jmt (jfm c) (jtu n t) s
  · rw [if_pos e, if_pos ((jI_lt (by omega) (by omega)).mpr e)]
  · rw [if_neg e, if_neg (by rw [jI_lt (by omega) (by omega)]; exact e)]
theorem jText_longestMatch (hr : jRn σ 283 n t) (ht : jtx n t) {s : Nat} (hs : s ≤ 100) : jlm (jtu n t) s ≤ 8 ∧ jb_Ev 230 [.ref (282 : Nat), .int (jI s)] (jm_hp σ) = some (some (.int (jI (jlm (jtu n t) s))), jm_hp σ) := by
  have hx : ∀ c m, c < 8 → m ≤ 8 → jmx m (jmt (jfm c) (jtu n t) s) ≤ 8 := by
    intro c m hc hm
    have h1 := jmt_le (jfm c) (jtu n t) s
    rw [jfm_ln hc] at h1
    have h2 : jln c ≤ 8 := by unfold jln; split <;> (try split) <;> omega
    unfold jmx; split <;> omega
  have g0 := hx 0 0 (by omega) (by omega)
  have g1 := hx 1 _ (by omega) g0
  have g2 := hx 2 _ (by omega) g1
  have g3 := hx 3 _ (by omega) g2
  have g4 := hx 4 _ (by omega) g3
  have g5 := hx 5 _ (by omega) g4
  have g6 := hx 6 _ (by omega) g5
  have g7 := hx 7 _ (by omega) g6
  refine ⟨g7, ?_⟩
  rw [jt_Text_longestMatch_0, jlmS hr ht (by omega) hs (by omega), jlmS hr ht (by omega) hs g0, jlmS hr ht (by omega) hs g1, jlmS hr ht (by omega) hs g2, jlmS hr ht (by omega) hs g3, jlmS hr ht (by omega) hs g4, jlmS hr ht (by omega) hs g5, jlmS hr ht (by omega) hs g6, jt_Text_longestMatch_4, if_pos (by decide +kernel)]
  rfl
end MT
