/-! ===== the plain form: which word stands at a place ===== -/
section MK
variable {σ : jm_S} {n s : Nat} {t : Nat → Nat}
/-- the text, as the plain form holds it while it reads: its length, the place, no fault yet -/
def jMt (σ : jm_S) (n : Nat) (t : Nat → Nat) (s : Nat) : Prop := σ 307 26 = jI n ∧ σ 307 27 = jI s ∧ σ 307 28 = -1 ∧ jAr σ 313 n t
theorem jstartOf {w : Nat} (hw : w ≤ 8) : jb_Ev 45 [.int (jI w)] (jm_hp σ) = some (some (.int (jI (jso w))), jm_hp σ) := by
  rw [jt_M_startOf_0]
  rcases (by omega : w = 0 ∨ w = 1 ∨ w = 2 ∨ w = 3 ∨ w = 4 ∨ w = 5 ∨ w = 6 ∨ w = 7 ∨ w = 8) with h | h | h | h | h | h | h | h | h <;> subst h <;> simp (disch := omega) only [jb_K_n, jb_K_v, ↓reduceIte, jT_lt, jF_lt, jT_le, jF_le, jT_eq, jF_eq, jT_z, jF_z, jF_neg, jT_nn, jT_pos, jF_pos, jT_le0, jF_le0, jT_x, jF_m1, jF_m1r, jT_tt, jI_add, jI_mul, jI_sub, jI_cl, jm_up_same, jm_up_o, jm_up_j, jbR_T, jbR_F] <;> rfl
theorem jso_b : ∀ w < 8, jso (w + 1) = jso w + jnl w ∧ jso w + jnl w ≤ 42 := by decide +kernel
theorem jnm_ch : ∀ w < 8, ∀ k < 7, k < jnl w → (jfm 9).getD (jso w + k) 0 = (jnm w).getD k 0 := by decide +kernel
theorem jnm_lit : ∀ w < 8, ∀ k < 7, k < jnl w → ((jnm w).getD k 0 ≠ 66 ∧ (jnm w).getD k 0 ≠ 68) ∧ (jnm w).getD k 0 ≠ 75 ∧ (jnm w).getD k 0 ≠ 83 := by decide +kernel
theorem jnm_dr {w k : Nat} (hk : k < (jnm w).length) : (jnm w).drop k = (jnm w).getD k 0 :: (jnm w).drop (k + 1) := by
  rw [List.drop_eq_getElem_cons hk]
  congr 1
  rw [List.getD_eq_getElem?_getD, List.getElem?_eq_getElem hk]
  rfl
theorem jkindI (hM : jMt σ n t s) (ht : jtx n t) (hs : s ≤ 61) {w f : Nat} (hw : w < 8) (hf : f ≤ 1000) : ∀ (m k : Nat), k + m = jnl w → jb_Ex 212 (36, [.ref (307 : Nat), .int (jI f), .int (-1), .int (jI w), .int (jI (jnl w)), .int (jI k)], [], jm_hp σ) = jb_Ex 212 (9, [.ref (307 : Nat), .int (jI (jmx f (s + (k + jmt ((jnm w).drop k) (jtu n t) (s + k))))), .int (if k + jmt ((jnm w).drop k) (jtu n t) (s + k) = jnl w then jI w else -1), .int (jI (w + 1)), .int (jI (jnl w)), .int (jI (k + jmt ((jnm w).drop k) (jtu n t) (s + k)))], [], jm_hp σ)
  | 0, k, hk => by
    have hl := jnm_len w hw
    have hb := jnl_b w hw
    have h60 := ht.1
    rw [List.drop_eq_nil_of_le (by omega), jmt, Nat.add_zero, jt_M_kindHere_36, hM.2.1, if_pos (show k = jnl w by omega)]
    have e : k = jnl w := by omega
    subst e
    unfold jmx
    by_cases z : f < s + jnl w
    · rw [if_pos z]; simp (disch := omega) only [jb_K_n, jb_K_v, ↓reduceIte, jT_lt, jF_lt, jT_le, jF_le, jT_eq, jF_eq, jT_z, jF_z, jF_neg, jT_nn, jT_pos, jF_pos, jT_le0, jF_le0, jT_x, jF_m1, jF_m1r, jT_tt, jI_add, jI_mul, jI_sub, jI_cl, jm_up_same, jm_up_o, jm_up_j, jbR_T, jbR_F]
    · rw [if_neg z]; simp (disch := omega) only [jb_K_n, jb_K_v, ↓reduceIte, jT_lt, jF_lt, jT_le, jF_le, jT_eq, jF_eq, jT_z, jF_z, jF_neg, jT_nn, jT_pos, jF_pos, jT_le0, jF_le0, jT_x, jF_m1, jF_m1r, jT_tt, jI_add, jI_mul, jI_sub, jI_cl, jm_up_same, jm_up_o, jm_up_j, jbR_T, jbR_F]
  | m + 1, k, hk => by
    have ih := jkindI hM ht hs hw hf m (k + 1) (by omega)
    have hl := jnm_len w hw
    have hb := jnl_b w hw
    have h60 := ht.1
    obtain ⟨q1, q2⟩ := jso_b w hw
    obtain ⟨⟨l1, l2⟩, l3, l4⟩ := jnm_lit w hw k (by omega) (by omega)
    have hch := jnm_ch w hw k (by omega) (by omega)
    have h9 : (jfm 9).length = 42 := by decide +kernel
    have ha := jstr_at (σ := σ) (c := 9) (p := jso w + k) (by omega) (by omega)
    rw [hch] at ha
    have hst := jstartOf (σ := σ) (w := w) (by omega)
    rw [jnm_dr (by omega), jmt, jt_M_kindHere_36, hM.2.1, hM.1, if_neg (by rw [jI_le (by omega) (by omega)]; omega), jI_add]
    have hx : ∀ j : Nat, j ≤ 100 → (if jI f < jI (s + j) then jI (s + j) else jI f) = jI (jmx f (s + j)) := by
      intro j hj
      unfold jmx
      by_cases z : f < s + j
      · rw [if_pos z, if_pos ((jI_lt (by omega) (by omega)).mpr z)]
      · rw [if_neg z, if_neg (by rw [jI_lt (by omega) (by omega)]; exact z)]
    have hkn : ¬ (jI k = jI (jnl w)) := by rw [jI_eq (by omega) (by omega)]; omega
    by_cases e : n ≤ s + k
    · rw [if_pos ((jI_le (by omega) (by omega)).mpr e), if_neg hkn, jI_add]
      have hu : jtu n t (s + k) = 0 := if_neg (by omega)
      have hft : jft ((jnm w).getD k 0) (jtu n t (s + k)) = false := by
        unfold jft
        rw [if_neg l1, if_neg l2, if_neg l3, if_neg l4, hu]
        have key : ∀ w < 8, ∀ k < 7, k < jnl w → 0 ≠ (jnm w).getD k 0 := by decide +kernel
        exact decide_eq_false (key w hw k (by omega) (by omega))
      simp only [hft, Bool.false_eq_true, ↓reduceIte, Nat.add_zero, jI_add]
      rw [hx k (by omega), if_neg (show ¬ k = jnl w by omega)]
    · rw [if_neg (by rw [jI_le (by omega) (by omega)]; exact e), if_pos ((jx_I (by omega)).mpr (by omega)), hst, jb_K_v, jI_cl (by omega)]
      have hu : jtu n t (s + k) = t (s + k) := if_pos (by omega)
      have htk := ht.2 (s + k) (by omega)
      have h313 := hM.2.2.2 (s + k) (by omega)
      refine Eq.trans jt_M_kindHere_76 ?_
      rw [jI_add, ha, jb_K_v]
      refine Eq.trans jt_M_kindHere_82 ?_
      rw [h313, hM.2.1, if_neg hkn]
      simp only [jI_add]
      have hlit : (jnm w).getD k 0 < 256 := by
        have key : ∀ w < 8, ∀ k < 7, k < jnl w → (jnm w).getD k 0 < 256 := by decide +kernel
        exact key w hw k (by omega) (by omega)
      have hft : jft ((jnm w).getD k 0) (jtu n t (s + k)) = decide (t (s + k) = (jnm w).getD k 0) := by
        unfold jft
        rw [if_neg l1, if_neg l2, if_neg l3, if_neg l4, hu]
      by_cases z : t (s + k) = (jnm w).getD k 0
      · rw [if_pos (by rw [z]), ih, hft, if_pos (decide_eq_true z)]
        have e1 : s + (k + 1) = s + k + 1 := by omega
        rw [e1]
        generalize jmt (List.drop (k + 1) (jnm w)) (jtu n t) (s + k + 1) = X
        rw [show k + 1 + X = k + (X + 1) by omega]
      · rw [if_neg (by rw [jI_eq (by omega) (by omega)]; exact z), hft, decide_eq_false z, hx k (by omega)]
        simp only [Bool.false_eq_true, ↓reduceIte, Nat.add_zero]
        rw [if_neg (show ¬ k = jnl w by omega)]
theorem jkindS (hM : jMt σ n t s) (ht : jtx n t) (hs : s ≤ 61) {w f : Nat} (hw : w < 8) (hf : f ≤ 1000) (u4 u5 : Value) : ∃ v4 v5, jb_Ex 212 (9, [.ref (307 : Nat), .int (jI f), .int (-1), .int (jI w), u4, u5], [], jm_hp σ) = jb_Ex 212 (9, [.ref (307 : Nat), .int (jI (jmx f (s + jmt (jnm w) (jtu n t) s))), .int (if jmt (jnm w) (jtu n t) s = jnl w then jI w else -1), .int (jI (w + 1)), v4, v5], [], jm_hp σ) := by
  have hb := jnl_b w hw
  obtain ⟨q1, q2⟩ := jso_b w hw
  have h := jkindI hM ht hs hw hf (jnl w) 0 (by omega)
  rw [List.drop_zero, Nat.add_zero] at h
  simp only [Nat.zero_add] at h
  refine ⟨.int (jI (jnl w)), .int (jI (jmt (jnm w) (jtu n t) s)), ?_⟩
  rw [jt_M_kindHere_9, if_neg (by rw [jI_le (by omega) (by omega)]; omega), if_pos rfl, jI_add, jstartOf (by omega), jb_K_v]
  refine Eq.trans jt_M_kindHere_26 ?_
  rw [jstartOf (by omega), jb_K_v]
  refine Eq.trans jt_M_kindHere_30 ?_
  rw [jI_sub (by omega), q1, Nat.add_sub_cancel_left]
  exact h
theorem jkindF (hM : jMt σ n t s) (hs : s ≤ 61) {w x3 : Nat} (hw : w < 8) (hx : x3 ≤ 8) (f : Int32) (u4 u5 : Value) : jb_Ex 212 (9, [.ref (307 : Nat), .int f, .int (jI w), .int (jI x3), u4, u5], [], jm_hp σ) = some (some (.int (jI w)), jm_hp (jm_up σ 307 27 (jI (s + jnl w)))) := by
  obtain ⟨q1, q2⟩ := jso_b w hw
  have h : jb_K (jb_Ev 45 [.int (jI w + jI 1)] (jm_hp (jm_up σ 307 28 (σ 307 28)))) (fun v h => jb_Ex 212 (159, [.ref (307 : Nat), .int f, .int (jI w), .int (jI x3), u4, u5], v.toList ++ [.int ((jm_up σ 307 28 (σ 307 28)) 307 27), .ref (307 : Nat)], h)) = some (some (.int (jI w)), jm_hp (jm_up σ 307 27 (jI (s + jnl w)))) := by
    rw [jm_up_id, jI_add, jstartOf (by omega), jb_K_v]
    refine Eq.trans jt_M_kindHere_159 ?_
    rw [jstartOf (by omega), jb_K_v]
    refine Eq.trans jt_M_kindHere_163 ?_
    rw [hM.2.1, jI_sub (by omega), q1, Nat.add_sub_cancel_left, jI_add]
  rw [jt_M_kindHere_9]
  have hm : ¬ (jI w = (-1 : Int32)) := fun z => (jI_m1 (by omega)).mp z
  by_cases e : jI 8 ≤ jI x3
  · rw [if_pos e, if_neg hm]; exact h
  · rw [if_neg e, if_neg hm]; exact h
/-- the word that stands there, or how far one goes -/
theorem jM_kindHere (hM : jMt σ n t s) (ht : jtx n t) (hs : s ≤ 61) : (∃ w, w < 8 ∧ jmt (jnm w) (jtu n t) s = jnl w ∧ jb_Ev 212 [.ref (307 : Nat)] (jm_hp σ) = some (some (.int (jI w)), jm_hp (jm_up σ 307 27 (jI (s + jnl w))))) ∨ ((∀ w < 8, jmt (jnm w) (jtu n t) s ≠ jnl w) ∧ jfar (jtu n t) s ≤ 1000 ∧ jb_Ev 212 [.ref (307 : Nat)] (jm_hp σ) = some (some (.int (-1)), jm_hp (jm_up (jm_up σ 307 28 (jI (jfar (jtu n t) s))) 307 27 (jI s)))) := by
  have hN : ∀ c m, c < 8 → m ≤ 100 → jmx m (s + jmt (jnm c) (jtu n t) s) ≤ 100 := by
    intro c m hc hm
    have h1 := jmt_nle hc (jtu n t) s
    have h2 := jnl_b c hc
    rw [jmx_max]; omega
  have step (w f : Nat) (hw : w < 8) (hf : f ≤ 100) (u4 u5 : Value) : (jmt (jnm w) (jtu n t) s = jnl w ∧ jb_Ex 212 (9, [.ref (307 : Nat), .int (jI f), .int (-1), .int (jI w), u4, u5], [], jm_hp σ) = some (some (.int (jI w)), jm_hp (jm_up σ 307 27 (jI (s + jnl w))))) ∨ (jmt (jnm w) (jtu n t) s ≠ jnl w ∧ ∃ v4 v5, jb_Ex 212 (9, [.ref (307 : Nat), .int (jI f), .int (-1), .int (jI w), u4, u5], [], jm_hp σ) = jb_Ex 212 (9, [.ref (307 : Nat), .int (jI (jmx f (s + jmt (jnm w) (jtu n t) s))), .int (-1), .int (jI (w + 1)), v4, v5], [], jm_hp σ)) := by
    obtain ⟨v4, v5, e⟩ := jkindS hM ht hs hw (f := f) (by omega) u4 u5
    by_cases h : jmt (jnm w) (jtu n t) s = jnl w
    · rw [if_pos h] at e
      exact Or.inl ⟨h, e.trans (jkindF hM hs hw (by omega) _ _ _)⟩
    · rw [if_neg h] at e
      exact Or.inr ⟨h, v4, v5, e⟩
  have g0 := hN 0 s (by omega) (by omega)
  have g1 := hN 1 _ (by omega) g0
  have g2 := hN 2 _ (by omega) g1
  have g3 := hN 3 _ (by omega) g2
  have g4 := hN 4 _ (by omega) g3
  have g5 := hN 5 _ (by omega) g4
  have g6 := hN 6 _ (by omega) g5
  have g7 := hN 7 _ (by omega) g6
  rw [jt_M_kindHere_0, hM.2.1]
  rcases step 0 s (by omega) (by omega) (.retAddr 0) (.retAddr 0) with ⟨h0, e0⟩ | ⟨h0, v, v', e0⟩
  · exact Or.inl ⟨0, by omega, h0, e0⟩
  rcases step 1 _ (by omega) g0 v v' with ⟨h1, e1⟩ | ⟨h1, v, v', e1⟩
  · exact Or.inl ⟨1, by omega, h1, e0.trans e1⟩
  replace e1 := e0.trans e1
  rcases step 2 _ (by omega) g1 v v' with ⟨h2, e2⟩ | ⟨h2, v, v', e2⟩
  · exact Or.inl ⟨2, by omega, h2, e1.trans e2⟩
  replace e2 := e1.trans e2
  rcases step 3 _ (by omega) g2 v v' with ⟨h3, e3⟩ | ⟨h3, v, v', e3⟩
  · exact Or.inl ⟨3, by omega, h3, e2.trans e3⟩
  replace e3 := e2.trans e3
  rcases step 4 _ (by omega) g3 v v' with ⟨h4, e4⟩ | ⟨h4, v, v', e4⟩
  · exact Or.inl ⟨4, by omega, h4, e3.trans e4⟩
  replace e4 := e3.trans e4
  rcases step 5 _ (by omega) g4 v v' with ⟨h5, e5⟩ | ⟨h5, v, v', e5⟩
  · exact Or.inl ⟨5, by omega, h5, e4.trans e5⟩
  replace e5 := e4.trans e5
  rcases step 6 _ (by omega) g5 v v' with ⟨h6, e6⟩ | ⟨h6, v, v', e6⟩
  · exact Or.inl ⟨6, by omega, h6, e5.trans e6⟩
  replace e6 := e5.trans e6
  rcases step 7 _ (by omega) g6 v v' with ⟨h7, e7⟩ | ⟨h7, v, v', e7⟩
  · exact Or.inl ⟨7, by omega, h7, e6.trans e7⟩
  replace e7 := e6.trans e7
  refine Or.inr ⟨?_, Nat.le_trans g7 (by omega), e7.trans ?_⟩
  · intro w hw
    rcases (by omega : w = 0 ∨ w = 1 ∨ w = 2 ∨ w = 3 ∨ w = 4 ∨ w = 5 ∨ w = 6 ∨ w = 7) with q | q | q | q | q | q | q | q <;> subst q <;> assumption
  · rw [jt_M_kindHere_9, if_pos (by decide +kernel), if_pos rfl, jm_up_j _ _ (show (27 : Nat) ≠ 28 by decide), hM.2.1, jI_add]
    rfl
end MK
