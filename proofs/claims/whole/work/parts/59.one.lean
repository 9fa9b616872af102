/-! ===== one command, on both sides ===== -/
def jqx (u : Nat → Nat) (c s e : Nat) (w : Nat → Nat) : Option jRes :=
  if c = 0 then (if u (s + 7) = 48 then none else some (qbec w (6 + 3 * (u (s + 5) - 97)) (u (s + 7) - 48)))
  else if c = 1 then some (qren w (u (s + 7) - 97))
  else if c = 2 then some (qent w (jkd (u (s + 5))) (e - (s + 7)) (fun k => jsg (u (s + 7 + k))))
  else if c = 3 then (if u (s + 7) - 48 < w 0 then some (qstr w (u (s + 7) - 48)) else none)
  else if c = 4 then (if u (s + 5) = 48 then none else some (qcom w (u (s + 5) - 48) (u (s + 7) - 48)))
  else if c = 5 then (if u (s + 5) - 48 < w 1 ∧ u (s + 7) ≠ 48 then some (qbec w (69 + 2 * (u (s + 5) - 48)) (u (s + 7) - 48)) else none)
  else if c = 6 then (if u (s + 3) - 48 < w 1 then some (qlea w (u (s + 3) - 48)) else none)
  else some (qrin w (e - (s + 5)) (fun k => jsg (u (s + 5 + k))))
def jok (u : Nat → Nat) (n c s e : Nat) : Prop := c < 8 ∧ jmt (jfm c) u s = jln c ∧ e = jen u n s c ∧ s + jln c ≤ n ∧ s + jln c ≤ e ∧ e ≤ n
theorem jpZ_ok {n : Nat} {t : Nat → Nat} : ∀ (k s : Nat), ∀ i, i < (jpZ (jtu n t) n k s).2.length → jok (jtu n t) n (jLz (jpZ (jtu n t) n k s).2 i).1 (jLz (jpZ (jtu n t) n k s).2 i).2.1 (jLz (jpZ (jtu n t) n k s).2 i).2.2
  | 0, s, i, hi => absurd hi (Nat.not_lt_zero _)
  | k + 1, s, i, hi => by
    rw [jpZ] at hi ⊢
    rcases jcm_cases (jtu n t) s with h8 | ⟨h8, hm⟩
    · rw [if_pos h8] at hi; exact absurd hi (Nat.not_lt_zero _)
    · have hne : jcm (jtu n t) s ≠ 8 := by omega
      rw [if_neg hne] at hi ⊢
      obtain ⟨b1, b2, b3⟩ := jcm_in h8 hm
      have hh : jok (jtu n t) n (jcm (jtu n t) s) s (jen (jtu n t) n s (jcm (jtu n t) s)) := ⟨h8, hm, rfl, b1, b2, b3⟩
      generalize jcm (jtu n t) s = c at *
      generalize jen (jtu n t) n s c = e at *
      by_cases he : n ≤ e
      · rw [if_pos he] at hi ⊢
        have : i = 0 := by simp only [List.length_cons, List.length_nil] at hi; omega
        subst this
        exact hh
      · rw [if_neg he] at hi ⊢
        by_cases h59 : jtu n t e = 59
        · rw [if_pos h59] at hi ⊢
          cases i with
          | zero => exact hh
          | succ i => exact jpZ_ok k (e + 1) i (by simp only [List.length_cons] at hi; omega)
        · rw [if_neg h59] at hi ⊢
          have : i = 0 := by simp only [List.length_cons, List.length_nil] at hi; omega
          subst this
          exact hh
theorem jok_fit {u : Nat → Nat} {n c s e p : Nat} (h : jok u n c s e) (hp : p < jln c) : jft ((jfm c).getD p 0) (u (s + p)) = true := jmt_full (jfm c) u s (by rw [jfm_ln h.1]; exact h.2.1) p (by rw [jfm_ln h.1]; exact hp)
theorem jok_sg {u : Nat → Nat} {n c s e : Nat} (h : jok u n c s e) (hc : c = 2 ∨ c = 7) : ∀ j, j < e - (s + jln c - 1) → jgn (u (s + jln c - 1 + j)) = true := by
  intro j hj
  have hb := jln_b c
  cases j with
  | zero =>
    have := jok_fit h (p := jln c - 1) (by omega)
    rw [show s + jln c - 1 + 0 = s + (jln c - 1) by omega]
    rcases hc with rfl | rfl
    · rw [show (jfm 2).getD (jln 2 - 1) 0 = 83 from by decide +kernel] at this; exact this
    · rw [show (jfm 7).getD (jln 7 - 1) 0 = 83 from by decide +kernel] at this; exact this
  | succ j =>
    have he := h.2.2.1
    unfold jen at he
    rw [if_pos hc] at he
    rw [show s + jln c - 1 + (j + 1) = s + jln c + j by omega]
    exact jse_all u (n - (s + jln c)) (s + jln c) (s + jln c + j) (by omega) (by rw [← he]; omega)
theorem jsg_le {x : Nat} (h : jgn x = true) : jsg x ≤ 5 := by
  have := of_decide_eq_true h
  unfold jsg
  split <;> omega
theorem jCO_K {σ : jm_S} {q : jRes} {e : Option jb_Res} {K : Option Value → jb_H → Option jb_Res} (h : jCO σ q e) (hK : ∀ x σ', K (some (.int x)) (jm_hp σ') = some (some (.int x), jm_hp σ')) : jCO σ q (jb_K e K) := by
  cases q with
  | inl p =>
    obtain ⟨h1, h2, σ', h3, h4⟩ := h
    exact ⟨h1, h2, σ', by rw [h3, jb_K_some]; exact hK _ _, h4⟩
  | inr p =>
    obtain ⟨h1, h3⟩ := h
    exact ⟨h1, by rw [h3, jb_K_some]; exact hK _ _⟩
theorem jMO_K {σ : jm_S} {q : jRes} {e : Option jb_Res} {K : Option Value → jb_H → Option jb_Res} (h : jMO σ q e) (hK : ∀ x σ', K (some (.int x)) (jm_hp σ') = some (some (.int x), jm_hp σ')) : jMO σ q (jb_K e K) := by
  cases q with
  | inl p =>
    obtain ⟨σ', h3, h4⟩ := h
    exact ⟨σ', by rw [h3, jb_K_some]; exact hK _ _, h4⟩
  | inr p =>
    obtain ⟨x, σ', h3, h4⟩ := h
    exact ⟨x, σ', by rw [h3, jb_K_some]; exact hK _ _, h4⟩
theorem jnv_d {u : Nat → Nat} {s c wh f : Nat} (h : ¬ jln c ≤ jnl c + 2 * wh) (hf : (jfm c).getD (jnl c + 2 * wh) 0 = f) : jnv u s c wh = if f = 66 then jI (u (s + (jnl c + 2 * wh)) - 97) else if f = 68 then jI (u (s + (jnl c + 2 * wh)) - 48) else if f = 75 then jI (jkd (u (s + (jnl c + 2 * wh)))) else -1 := by
  unfold jnv
  rw [if_neg h, hf]
section ON
variable {σ : jm_S} {n : Nat} {t : Nat → Nat} {w : Nat → Nat}
theorem jC_perform {L : List (Nat × Nat × Nat)} (hV : jV σ 1 w) (hw : jInv w) (hr : jRn σ 283 n t) (ht : jtx n t) (hW : jrW σ L) {i c s e : Nat} (hi : i < L.length) (hL : jLz L i = (c, s, e)) (ho : jok (jtu n t) n c s e) : (jqx (jtu n t) c s e w = none ∧ ∃ x, x < 0 ∧ x ≠ -5 ∧ ∃ σ', jb_Ev 231 [.ref (0 : Nat), .int (jI i)] (jm_hp σ) = some (some (.int x), jm_hp σ') ∧ jA 295 297 σ σ') ∨ (∃ q, jqx (jtu n t) c s e w = some q ∧ ∃ σ0, jA 295 297 σ σ0 ∧ jCO σ0 q (jb_Ev 231 [.ref (0 : Nat), .int (jI i)] (jm_hp σ))) := by
  have h60 := ht.1
  obtain ⟨o1, o2, o3, o4, o5, o6⟩ := ho
  have hb := jln_b c
  have n0 := jText_numberOf hr ht hW hi hL o1 (by omega) o2 (wh := 0) (by omega)
  have n1 := jText_numberOf hr ht hW hi hL o1 (by omega) o2 (wh := 1) (by omega)
  obtain ⟨σ0, e0, R0, A0⟩ := jText_copySigns hr ht hW hi hL o1 (by omega) o5
  have V0 := hV.A A0 (by omega)
  have a1 := jRn_at (hW.1.A A0 (by omega)) hi
  simp only [hL] at a1
  have hE : jb_Ev 231 [.ref (0 : Nat), .int (jI i)] (jm_hp σ) = jb_Ex 231 (43, [.ref (0 : Nat), .int (jI i), .int (jnv (jtu n t) s c 0), .int (jnv (jtu n t) s c 1)], [.int (jI c)], jm_hp σ0) := by
    rw [jt_D_perform_0, n0, jb_K_v]
    refine Eq.trans jt_D_perform_9 ?_
    rw [n1, jb_K_v]
    refine Eq.trans jt_D_perform_19 ?_
    rw [e0, jb_K_n]
    refine Eq.trans jt_D_perform_32 ?_
    rw [a1, jb_K_v]
  rw [hE, jt_D_perform_43]
  have ho : jok (jtu n t) n c s e := ⟨o1, o2, o3, o4, o5, o6⟩
  have hfit (p : Nat) (hp : p < jln c) := jok_fit ho hp
  have hsg := jok_sg ho
  have hk2 : ∀ x, jkd x ≤ 2 := by intro x; unfold jkd; split <;> (try split) <;> omega
  rcases (by omega : c = 0 ∨ c = 1 ∨ c = 2 ∨ c = 3 ∨ c = 4 ∨ c = 5 ∨ c = 6 ∨ c = 7) with q | q | q | q | q | q | q | q <;> subst q
  · have f5 : 97 ≤ jtu n t (s + 5) ∧ jtu n t (s + 5) ≤ 101 := of_decide_eq_true (hfit 5 (by decide))
    have f7 : 48 ≤ jtu n t (s + 7) ∧ jtu n t (s + 7) ≤ 57 := of_decide_eq_true (hfit 7 (by decide))
    rw [show jnv (jtu n t) s 0 0 = jI (jtu n t (s + 5) - 97) from jnv_d (f := 66) (by decide) (by decide +kernel), show jnv (jtu n t) s 0 1 = jI (jtu n t (s + 7) - 48) from jnv_d (f := 68) (by decide) (by decide +kernel)]
    rw [if_pos rfl]
    unfold jqx
    rw [if_pos rfl]
    by_cases z : jtu n t (s + 7) = 48
    · left
      rw [if_pos z]
      refine ⟨rfl, -2, by decide, by decide, σ0, ?_, A0⟩
      have e1 := jR_hasY V0.b.1 (show jtu n t (s + 5) - 97 < 5 by omega)
      have e2 : ¬ jbt (jI (jtu n t (s + 7) - 48)) 1 9 := by
        rintro ⟨d, d1, d2, d3⟩
        have := (jI_eq (by omega) (by omega)).mp d3; omega
      simp (disch := omega) only [jb_K_n, jb_K_v, ↓reduceIte, jT_lt, jF_lt, jT_le, jF_le, jT_eq, jF_eq, jT_z, jF_z, jF_neg, jT_nn, jT_pos, jF_pos, jT_le0, jF_le0, jT_x, jF_m1, jF_m1r, jT_tt, jI_add, jI_mul, jI_sub, jI_cl, jm_up_same, jm_up_o, jm_up_j, jbR_T, jbR_F, jt_Bells_moveTo_0, jt_Bells_moveTo_8, jt_Bells_moveTo_17, jt_Bells_moveTo_31, jt_Bells_moveTo_45, jt_Bells_moveTo_55, e1, jD_depthN e2, jt_D_perform_104]
    · right
      rw [if_neg z]
      exact ⟨_, rfl, σ0, A0, jCO_K (cBells_moveTo V0 hw (by omega) (by omega) (by omega)) (fun x σ' => jt_D_perform_104)⟩
  · have f7 : 97 ≤ jtu n t (s + 7) ∧ jtu n t (s + 7) ≤ 101 := of_decide_eq_true (hfit 7 (by decide))
    rw [show jnv (jtu n t) s 1 0 = jI (jtu n t (s + 7) - 97) from jnv_d (f := 66) (by decide) (by decide +kernel)]
    rw [if_neg (by decide +kernel), if_pos rfl]
    exact Or.inr ⟨_, rfl, σ0, A0, jCO_K (cBells_mend V0 hw (by omega)) (fun x σ' => jt_D_perform_120)⟩
  · have hR : jRn σ0 295 (e - (s + 7)) (fun j => jsg (jtu n t (s + 7 + j))) := by
      refine jR.congr R0 (fun j hj => ?_)
      show jsgI (jtu n t (s + 7 + j)) = _
      unfold jsgI
      rw [if_pos (show jgn (jtu n t (s + 7 + j)) = true from hsg (Or.inl rfl) j hj)]
    rw [show jnv (jtu n t) s 2 0 = jI (jkd (jtu n t (s + 5))) from jnv_d (f := 75) (by decide) (by decide +kernel)]
    rw [if_neg (by decide +kernel), if_neg (by decide +kernel), if_pos rfl]
    exact Or.inr ⟨_, rfl, σ0, A0, jCO_K (cBook_enter V0 hw hR (fun j hj => jsg_le (hsg (Or.inl rfl) j hj)) (hk2 _)) (fun x σ' => jt_D_perform_140)⟩
  · have f7 : 48 ≤ jtu n t (s + 7) ∧ jtu n t (s + 7) ≤ 57 := of_decide_eq_true (hfit 7 (by decide))
    rw [show jnv (jtu n t) s 3 0 = jI (jtu n t (s + 7) - 48) from jnv_d (f := 68) (by decide) (by decide +kernel)]
    rw [if_neg (by decide +kernel), if_neg (by decide +kernel), if_neg (by decide +kernel), if_pos rfl]
    unfold jqx
    rw [if_neg (by decide), if_neg (by decide), if_neg (by decide), if_pos rfl]
    by_cases z : jtu n t (s + 7) - 48 < w 0
    · rw [if_pos z]
      exact Or.inr ⟨_, rfl, σ0, A0, jCO_K (cBook_remove V0 hw z) (fun x σ' => jt_D_perform_152)⟩
    · left
      rw [if_neg z]
      refine ⟨rfl, -1, by decide, by decide, σ0, ?_, A0⟩
      have hb0 := hw.b0
      have e1 := jR_hasN V0.k.1 (x := jI (jtu n t (s + 7) - 48)) (by
        rintro ⟨d, d1, d2⟩
        have := (jI_eq (by omega) (by omega)).mp d2; omega)
      simp (disch := omega) only [jb_K_n, jb_K_v, ↓reduceIte, jT_lt, jF_lt, jT_le, jF_le, jT_eq, jF_eq, jT_z, jF_z, jF_neg, jT_nn, jT_pos, jF_pos, jT_le0, jF_le0, jT_x, jF_m1, jF_m1r, jT_tt, jI_add, jI_mul, jI_sub, jI_cl, jm_up_same, jm_up_o, jm_up_j, jbR_T, jbR_F, jt_Book_remove_0, e1, jt_Book_remove_0, jt_Book_remove_8, jt_Book_remove_21, jt_Book_remove_29, jt_Book_remove_37, jt_Book_remove_44, jt_D_perform_152]
  · have f5 : 48 ≤ jtu n t (s + 5) ∧ jtu n t (s + 5) ≤ 57 := of_decide_eq_true (hfit 5 (by decide))
    have f7 : 48 ≤ jtu n t (s + 7) ∧ jtu n t (s + 7) ≤ 57 := of_decide_eq_true (hfit 7 (by decide))
    rw [show jnv (jtu n t) s 4 0 = jI (jtu n t (s + 5) - 48) from jnv_d (f := 68) (by decide) (by decide +kernel), show jnv (jtu n t) s 4 1 = jI (jtu n t (s + 7) - 48) from jnv_d (f := 68) (by decide) (by decide +kernel)]
    rw [if_neg (by decide +kernel), if_neg (by decide +kernel), if_neg (by decide +kernel), if_neg (by decide +kernel), if_pos rfl]
    unfold jqx
    rw [if_neg (by decide), if_neg (by decide), if_neg (by decide), if_neg (by decide), if_pos rfl]
    by_cases z : jtu n t (s + 5) = 48
    · left
      rw [if_pos z]
      refine ⟨rfl, -2, by decide, by decide, σ0, ?_, A0⟩
      have e2 : ¬ jbt (jI (jtu n t (s + 5) - 48)) 1 9 := by
        rintro ⟨d, d1, d2, d3⟩
        have := (jI_eq (by omega) (by omega)).mp d3; omega
      simp (disch := omega) only [jb_K_n, jb_K_v, ↓reduceIte, jT_lt, jF_lt, jT_le, jF_le, jT_eq, jF_eq, jT_z, jF_z, jF_neg, jT_nn, jT_pos, jF_pos, jT_le0, jF_le0, jT_x, jF_m1, jF_m1r, jT_tt, jI_add, jI_mul, jI_sub, jI_cl, jm_up_same, jm_up_o, jm_up_j, jbR_T, jbR_F, jt_Swimmers_come_0, jt_Swimmers_come_4, jt_Swimmers_come_27, jt_Swimmers_come_37, jt_Swimmers_come_46, jt_Swimmers_come_54, jt_Swimmers_come_61, jD_depthN e2, jt_D_perform_169]
    · right
      rw [if_neg z]
      exact ⟨_, rfl, σ0, A0, jCO_K (cSwimmers_come V0 hw (by omega) (by omega) (by omega)) (fun x σ' => jt_D_perform_169)⟩
  · have f5 : 48 ≤ jtu n t (s + 5) ∧ jtu n t (s + 5) ≤ 57 := of_decide_eq_true (hfit 5 (by decide))
    have f7 : 48 ≤ jtu n t (s + 7) ∧ jtu n t (s + 7) ≤ 57 := of_decide_eq_true (hfit 7 (by decide))
    rw [show jnv (jtu n t) s 5 0 = jI (jtu n t (s + 5) - 48) from jnv_d (f := 68) (by decide) (by decide +kernel), show jnv (jtu n t) s 5 1 = jI (jtu n t (s + 7) - 48) from jnv_d (f := 68) (by decide) (by decide +kernel)]
    rw [if_neg (by decide +kernel), if_neg (by decide +kernel), if_neg (by decide +kernel), if_neg (by decide +kernel), if_neg (by decide +kernel), if_pos rfl]
    unfold jqx
    rw [if_neg (by decide), if_neg (by decide), if_neg (by decide), if_neg (by decide), if_neg (by decide), if_pos rfl]
    have hb1 := hw.b1
    by_cases z : jtu n t (s + 5) - 48 < w 1
    · by_cases y : jtu n t (s + 7) = 48
      · left
        rw [if_neg (fun x => x.2 y)]
        refine ⟨rfl, -2, by decide, by decide, σ0, ?_, A0⟩
        have e1 := jR_hasY V0.s.1 z
        have e2 : ¬ jbt (jI (jtu n t (s + 7) - 48)) 1 9 := by
          rintro ⟨d, d1, d2, d3⟩
          have := (jI_eq (by omega) (by omega)).mp d3; omega
        simp (disch := omega) only [jb_K_n, jb_K_v, ↓reduceIte, jT_lt, jF_lt, jT_le, jF_le, jT_eq, jF_eq, jT_z, jF_z, jF_neg, jT_nn, jT_pos, jF_pos, jT_le0, jF_le0, jT_x, jF_m1, jF_m1r, jT_tt, jI_add, jI_mul, jI_sub, jI_cl, jm_up_same, jm_up_o, jm_up_j, jbR_T, jbR_F, jt_Swimmers_moveTo_0, jt_Swimmers_moveTo_8, jt_Swimmers_moveTo_17, jt_Swimmers_moveTo_31, jt_Swimmers_moveTo_45, jt_Swimmers_moveTo_55, e1, jD_depthN e2, jt_D_perform_186]
      · rw [if_pos ⟨z, y⟩]
        exact Or.inr ⟨_, rfl, σ0, A0, jCO_K (cSwimmers_moveTo V0 hw z (by omega) (by omega)) (fun x σ' => jt_D_perform_186)⟩
    · left
      rw [if_neg (fun x => z x.1)]
      refine ⟨rfl, -1, by decide, by decide, σ0, ?_, A0⟩
      have e1 := jR_hasN V0.s.1 (x := jI (jtu n t (s + 5) - 48)) (by
        rintro ⟨d, d1, d2⟩
        have := (jI_eq (by omega) (by omega)).mp d2; omega)
      simp (disch := omega) only [jb_K_n, jb_K_v, ↓reduceIte, jT_lt, jF_lt, jT_le, jF_le, jT_eq, jF_eq, jT_z, jF_z, jF_neg, jT_nn, jT_pos, jF_pos, jT_le0, jF_le0, jT_x, jF_m1, jF_m1r, jT_tt, jI_add, jI_mul, jI_sub, jI_cl, jm_up_same, jm_up_o, jm_up_j, jbR_T, jbR_F, jt_Swimmers_moveTo_0, jt_Swimmers_moveTo_8, jt_Swimmers_moveTo_17, jt_Swimmers_moveTo_31, jt_Swimmers_moveTo_45, jt_Swimmers_moveTo_55, e1, jt_D_perform_186]
  · have f3 : 48 ≤ jtu n t (s + 3) ∧ jtu n t (s + 3) ≤ 57 := of_decide_eq_true (hfit 3 (by decide))
    rw [show jnv (jtu n t) s 6 0 = jI (jtu n t (s + 3) - 48) from jnv_d (f := 68) (by decide) (by decide +kernel)]
    rw [if_neg (by decide +kernel), if_neg (by decide +kernel), if_neg (by decide +kernel), if_neg (by decide +kernel), if_neg (by decide +kernel), if_neg (by decide +kernel), if_pos rfl]
    unfold jqx
    rw [if_neg (by decide), if_neg (by decide), if_neg (by decide), if_neg (by decide), if_neg (by decide), if_neg (by decide), if_pos rfl]
    by_cases z : jtu n t (s + 3) - 48 < w 1
    · rw [if_pos z]
      exact Or.inr ⟨_, rfl, σ0, A0, jCO_K (cSwimmers_leave V0 hw z) (fun x σ' => jt_D_perform_198)⟩
    · left
      rw [if_neg z]
      refine ⟨rfl, -1, by decide, by decide, σ0, ?_, A0⟩
      have hb1 := hw.b1
      have e1 := jR_hasN V0.s.1 (x := jI (jtu n t (s + 3) - 48)) (by
        rintro ⟨d, d1, d2⟩
        have := (jI_eq (by omega) (by omega)).mp d2; omega)
      simp (disch := omega) only [jb_K_n, jb_K_v, ↓reduceIte, jT_lt, jF_lt, jT_le, jF_le, jT_eq, jF_eq, jT_z, jF_z, jF_neg, jT_nn, jT_pos, jF_pos, jT_le0, jF_le0, jT_x, jF_m1, jF_m1r, jT_tt, jI_add, jI_mul, jI_sub, jI_cl, jm_up_same, jm_up_o, jm_up_j, jbR_T, jbR_F, jt_Swimmers_leave_0, jt_Swimmers_leave_8, jt_Swimmers_leave_21, jt_Swimmers_leave_29, jt_Swimmers_leave_36, e1, jt_D_perform_198]
  · have hR : jRn σ0 295 (e - (s + 5)) (fun j => jsg (jtu n t (s + 5 + j))) := by
      refine jR.congr R0 (fun j hj => ?_)
      show jsgI (jtu n t (s + 5 + j)) = _
      unfold jsgI
      rw [if_pos (show jgn (jtu n t (s + 5 + j)) = true from hsg (Or.inr rfl) j hj)]
    rw [if_neg (by decide +kernel), if_neg (by decide +kernel), if_neg (by decide +kernel), if_neg (by decide +kernel), if_neg (by decide +kernel), if_neg (by decide +kernel), if_neg (by decide +kernel), if_pos rfl]
    exact Or.inr ⟨_, rfl, σ0, A0, jCO_K (cVillage_ring V0 hw (by omega) hR (fun j hj => jsg_le (hsg (Or.inr rfl) j hj))) (fun x σ' => jt_D_perform_214)⟩
end ON
