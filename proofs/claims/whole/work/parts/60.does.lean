/-! ===== one command: the plain form ===== -/
section DN
variable {σ : jm_S} {n : Nat} {t : Nat → Nat} {w : Nat → Nat}
theorem jtakeL (hT : jAr σ 313 n t) (ht : jtx n t) {k q e : Nat} (hk : k < 30) (hq : q ≤ e) (he : e ≤ n) (hg : ∀ j, j < e - q → jgn (jtu n t (q + j)) = true) : ∀ (m j : Nat) (τ : jm_S) (u3 : Value), j + m = e - q → τ 320 (4 * k + 2) = jI q → τ 307 20 = jI (e - q) → jAr τ 313 n t → jAr τ 315 j (fun i => jsg (jtu n t (q + i))) → ∃ τ', jb_Ex 47 (23, [.ref (307 : Nat), .int (jI (4 * k)), .int (jI j), u3], [], jm_hp τ) = some (none, jm_hp τ') ∧ jAr τ' 315 (e - q) (fun i => jsg (jtu n t (q + i))) ∧ (∀ a b, a ≠ 315 → τ' a b = τ a b)
  | 0, j, τ, u3, hm, h2, h20, hT', h15 => by
    have h60 := ht.1
    refine ⟨τ, ?_, by rw [show e - q = j by omega]; exact h15, fun _ _ _ => rfl⟩
    rw [jt_M_takesText_23, h20, if_pos ((jI_le (by omega) (by omega)).mpr (by omega))]
  | m + 1, j, τ, u3, hm, h2, h20, hT', h15 => by
    have h60 := ht.1
    have hu : jtu n t (q + j) = t (q + j) := if_pos (by omega)
    have h313 := hT' (q + j) (by omega)
    have htb := ht.2 (q + j) (by omega)
    have hgj := of_decide_eq_true (hg j (by omega))
    rw [hu] at hgj
    have h0 : ∃ u, jb_Ex 47 (23, [.ref (307 : Nat), .int (jI (4 * k)), .int (jI j), u3], [], jm_hp τ) = jb_Ex 47 (23, [.ref (307 : Nat), .int (jI (4 * k)), .int (jI (j + 1)), u], [], jm_hp (jm_up τ 315 j (jI (jsg (t (q + j)))))) := by
      rw [jt_M_takesText_23, h20, if_neg (by rw [jI_le (by omega) (by omega)]; omega)]
      simp only [jI_add]
      rw [if_pos ((jx_I (by omega)).mpr (by omega)), jI_cl (a := 4 * k + 2) (by omega), h2, jI_add, if_pos ((jx_I (by omega)).mpr (by omega)), jI_cl (a := q + j) (by omega), h313]
      simp only [jI_cl (a := j) (by omega)]
      unfold jsg
      by_cases z : t (q + j) = 46
      · rw [if_pos (by rw [z]), if_pos ((jx_I (by omega)).mpr (by omega)), if_pos z]
        exact ⟨_, rfl⟩
      · rw [if_neg (by rw [jI_eq (by omega) (by omega)]; exact z), if_pos ((jx_I (by omega)).mpr (by omega)), if_neg z, jI_sub (by omega)]
        exact ⟨_, rfl⟩
    obtain ⟨u, h0⟩ := h0
    obtain ⟨τ', e1, f1, f2⟩ := jtakeL hT ht hk hq he hg m (j + 1) (jm_up τ 315 j (jI (jsg (t (q + j))))) u (by omega) (by rw [jm_up_o _ _ (by omega)]; exact h2) (by rw [jm_up_o _ _ (by omega)]; exact h20) (fun i hi => by rw [jm_up_o _ _ (by omega)]; exact hT' i hi) (fun i hi => by
      by_cases z : i = j
      · rw [z, jm_up_same]
        show _ = jI (jsg (jtu n t (q + j)))
        rw [hu]
      · rw [jm_up_j _ _ z]; exact h15 i (by omega))
    exact ⟨τ', h0.trans e1, f1, fun a b hab => by rw [f2 a b hab, jm_up_o _ _ hab]⟩
theorem jM_takesText (hT : jAr σ 313 n t) (ht : jtx n t) {k q e : Nat} (hk : k < 30) (hq : q ≤ e) (he : e ≤ n) (hg : ∀ j, j < e - q → jgn (jtu n t (q + j)) = true) (h2 : σ 320 (4 * k + 2) = jI q) (h3 : σ 320 (4 * k + 3) = jI e) : ∃ σ', jb_Ev 47 [.ref (307 : Nat), .int (jI (4 * k))] (jm_hp σ) = some (none, jm_hp σ') ∧ σ' 307 20 = jI (e - q) ∧ jAr σ' 315 (e - q) (fun i => jsg (jtu n t (q + i))) ∧ (∀ a b, ¬ (a = 315 ∨ a = 307 ∧ b = 20) → σ' a b = σ a b) := by
  have h60 := ht.1
  have hT' : jAr (jm_up σ 307 20 (jI (e - q))) 313 n t := fun i hi => by rw [jm_up_o _ _ (by omega)]; exact hT i hi
  obtain ⟨σ', e1, f1, f2⟩ := jtakeL hT' ht hk hq he hg (e - q) 0 _ (.retAddr 0) (by omega) (by rw [jm_up_o _ _ (by omega)]; exact h2) (jm_up_same _ _ _ _) hT' (fun i hi => absurd hi (Nat.not_lt_zero _))
  refine ⟨σ', ?_, by rw [f2 _ _ (by omega), jm_up_same], f1, fun a b hab => ?_⟩
  · rw [jt_M_takesText_0]
    simp only [jI_add]
    rw [if_pos ((jx_I (by omega)).mpr (by omega)), if_pos ((jx_I (by omega)).mpr (by omega)), jI_cl (a := 4 * k + 3) (by omega), jI_cl (a := 4 * k + 2) (by omega), h2, h3, jI_sub (by omega)]
    exact e1
  · rw [f2 a b (by omega)]
    unfold jm_up
    rw [if_neg (by omega)]
def jfB (σ σ' : jm_S) : Prop := ∀ a b, ¬ (a = 315 ∨ a = 307 ∧ b = 20) → σ' a b = σ a b
theorem jM_isRight {k c s e : Nat} (hA : jAr σ 308 146 w) (hw : jInv w) (hk : k < 30) (h0 : σ 320 (4 * k) = jI c) (hB : jnB (jtu n t) s e c k σ) (ho : jok (jtu n t) n c s e) : jb_Ev 166 [.ref (307 : Nat), .int (jI (4 * k))] (jm_hp σ) = some (some (.int (jBI (jqx (jtu n t) c s e w).isSome)), jm_hp σ) := by
  have hb0 := hw.b0
  have hb1 := hw.b1
  obtain ⟨o1, o2⟩ := id ho
  obtain ⟨g0, g1, g2, g3, g4, g5, g6⟩ := hB
  have hfit (p : Nat) (hp : p < jln c) := jok_fit ho hp
  have hE : jb_Ev 166 [.ref (307 : Nat), .int (jI (4 * k))] (jm_hp σ) = _ := jt_M_isRight_0
  simp only [jI_add] at hE
  rw [if_pos ((jx_I (by omega)).mpr (by omega)), if_pos ((jx_I (by omega)).mpr (by omega)), if_pos ((jx_I (by omega)).mpr (by omega)), jI_cl (a := 4 * k) (by omega), jI_cl (a := 4 * k + 1) (by omega), jI_cl (a := 4 * k + 2) (by omega), h0] at hE
  rw [hE]
  unfold jqx
  rcases (by omega : c = 0 ∨ c = 1 ∨ c = 2 ∨ c = 3 ∨ c = 4 ∨ c = 5 ∨ c = 6 ∨ c = 7) with q | q | q | q | q | q | q | q <;> subst q
  · have f7 : 48 ≤ jtu n t (s + 7) ∧ jtu n t (s + 7) ≤ 57 := of_decide_eq_true (hfit 7 (by decide))
    rw [if_pos rfl, if_pos rfl, (g0 rfl).2]
    by_cases z : jtu n t (s + 7) = 48
    · rw [if_pos z, jM_depthN (by
        rintro ⟨d, d1, d2, d3⟩
        have := (jI_eq (by omega) (by omega)).mp d3; omega), jb_K_v]
      exact jt_M_isRight_72.trans jbR_F
    · rw [if_neg z, jM_depthY (by omega) (by omega), jb_K_v]
      exact jt_M_isRight_72.trans jbR_T
  · rw [if_neg (by decide +kernel), if_pos rfl, if_neg (by decide), if_pos rfl]; rfl
  · rw [if_neg (by decide +kernel), if_neg (by decide +kernel), if_pos rfl, if_neg (by decide), if_neg (by decide), if_pos rfl]; rfl
  · have f7 : 48 ≤ jtu n t (s + 7) ∧ jtu n t (s + 7) ≤ 57 := of_decide_eq_true (hfit 7 (by decide))
    rw [if_neg (by decide +kernel), if_neg (by decide +kernel), if_neg (by decide +kernel), if_pos rfl, if_neg (by decide), if_neg (by decide), if_neg (by decide), if_pos rfl, g3 rfl]
    by_cases z : jtu n t (s + 7) - 48 < w 0
    · rw [if_pos z, jM_wordY (hA 0 (by omega)) z (by omega), jb_K_v]
      exact jt_M_isRight_78.trans jbR_T
    · rw [if_neg z, jM_wordN (hA 0 (by omega)) (by
        rintro ⟨d, d1, d2⟩
        have := (jI_eq (by omega) (by omega)).mp d2; omega) (by omega), jb_K_v]
      exact jt_M_isRight_78.trans jbR_F
  · have f5 : 48 ≤ jtu n t (s + 5) ∧ jtu n t (s + 5) ≤ 57 := of_decide_eq_true (hfit 5 (by decide))
    rw [if_neg (by decide +kernel), if_neg (by decide +kernel), if_neg (by decide +kernel), if_neg (by decide +kernel), if_pos rfl, if_neg (by decide), if_neg (by decide), if_neg (by decide), if_neg (by decide), if_pos rfl, (g4 (Or.inl rfl)).1]
    by_cases z : jtu n t (s + 5) = 48
    · rw [if_pos z, jM_depthN (by
        rintro ⟨d, d1, d2, d3⟩
        have := (jI_eq (by omega) (by omega)).mp d3; omega), jb_K_v]
      exact jt_M_isRight_83.trans jbR_F
    · rw [if_neg z, jM_depthY (by omega) (by omega), jb_K_v]
      exact jt_M_isRight_83.trans jbR_T
  · have f5 : 48 ≤ jtu n t (s + 5) ∧ jtu n t (s + 5) ≤ 57 := of_decide_eq_true (hfit 5 (by decide))
    have f7 : 48 ≤ jtu n t (s + 7) ∧ jtu n t (s + 7) ≤ 57 := of_decide_eq_true (hfit 7 (by decide))
    rw [if_neg (by decide +kernel), if_neg (by decide +kernel), if_neg (by decide +kernel), if_neg (by decide +kernel), if_neg (by decide +kernel), if_pos rfl, if_neg (by decide), if_neg (by decide), if_neg (by decide), if_neg (by decide), if_neg (by decide), if_pos rfl, (g4 (Or.inr rfl)).1, (g4 (Or.inr rfl)).2]
    by_cases z : jtu n t (s + 5) - 48 < w 1
    · rw [jM_swimY (hA 1 (by omega)) z (by omega), jb_K_v]
      refine Eq.trans jt_M_isRight_89 ?_
      rw [if_neg (by decide +kernel)]
      by_cases y : jtu n t (s + 7) = 48
      · rw [if_neg (fun x => x.2 y), jM_depthN (by
          rintro ⟨d, d1, d2, d3⟩
          have := (jI_eq (by omega) (by omega)).mp d3; omega), jb_K_v]
        refine Eq.trans jt_M_isRight_96 ?_
        rw [if_pos (by decide +kernel)]; rfl
      · rw [if_pos ⟨z, y⟩, jM_depthY (by omega) (by omega), jb_K_v]
        refine Eq.trans jt_M_isRight_96 ?_
        rw [if_neg (by decide +kernel)]; rfl
    · rw [if_neg (fun x => z x.1), jM_swimN (hA 1 (by omega)) (by
        rintro ⟨d, d1, d2⟩
        have := (jI_eq (by omega) (by omega)).mp d2; omega) (by omega), jb_K_v]
      refine Eq.trans jt_M_isRight_89 ?_
      rw [if_pos (by decide +kernel)]; rfl
  · have f3 : 48 ≤ jtu n t (s + 3) ∧ jtu n t (s + 3) ≤ 57 := of_decide_eq_true (hfit 3 (by decide))
    rw [if_neg (by decide +kernel), if_neg (by decide +kernel), if_neg (by decide +kernel), if_neg (by decide +kernel), if_neg (by decide +kernel), if_neg (by decide +kernel), if_pos rfl, if_neg (by decide), if_neg (by decide), if_neg (by decide), if_neg (by decide), if_neg (by decide), if_neg (by decide), if_pos rfl, g5 rfl]
    by_cases z : jtu n t (s + 3) - 48 < w 1
    · rw [if_pos z, jM_swimY (hA 1 (by omega)) z (by omega), jb_K_v]
      exact jt_M_isRight_110.trans jbR_T
    · rw [if_neg z, jM_swimN (hA 1 (by omega)) (by
        rintro ⟨d, d1, d2⟩
        have := (jI_eq (by omega) (by omega)).mp d2; omega) (by omega), jb_K_v]
      exact jt_M_isRight_110.trans jbR_F
  · rw [if_neg (by decide +kernel), if_neg (by decide +kernel), if_neg (by decide +kernel), if_neg (by decide +kernel), if_neg (by decide +kernel), if_neg (by decide +kernel), if_neg (by decide +kernel), if_neg (by decide), if_neg (by decide), if_neg (by decide), if_neg (by decide), if_neg (by decide), if_neg (by decide), if_neg (by decide)]; rfl
theorem jM_does {k c s e : Nat} {q : jRes} (hA : jAr σ 308 146 w) (hw : jInv w) (h17 : σ 307 17 = jI 0) (hT : jAr σ 313 n t) (ht : jtx n t) (hk : k < 30) (h0 : σ 320 (4 * k) = jI c) (hB : jnB (jtu n t) s e c k σ) (ho : jok (jtu n t) n c s e) (hq : jqx (jtu n t) c s e w = some q) : ∃ σ0, jfB σ σ0 ∧ jMO σ0 q (jb_Ev 213 [.ref (307 : Nat), .int (jI (4 * k))] (jm_hp σ)) := by
  have hb0 := hw.b0
  have hb1 := hw.b1
  obtain ⟨o1, o2, o3, o4, o5, o6⟩ := id ho
  have h60 := ht.1
  obtain ⟨g0, g1, g2, g3, g4, g5, g6⟩ := hB
  have hfit (p : Nat) (hp : p < jln c) := jok_fit ho hp
  have hsg := jok_sg ho
  have hrf : jfB σ σ := fun _ _ _ => rfl
  have hE : jb_Ev 213 [.ref (307 : Nat), .int (jI (4 * k))] (jm_hp σ) = _ := jt_M_does_0
  simp only [jI_add] at hE
  rw [if_pos ((jx_I (by omega)).mpr (by omega)), if_pos ((jx_I (by omega)).mpr (by omega)), if_pos ((jx_I (by omega)).mpr (by omega)), jI_cl (a := 4 * k) (by omega), jI_cl (a := 4 * k + 1) (by omega), jI_cl (a := 4 * k + 2) (by omega), h0] at hE
  rw [hE]
  unfold jqx at hq
  rcases (by omega : c = 0 ∨ c = 1 ∨ c = 2 ∨ c = 3 ∨ c = 4 ∨ c = 5 ∨ c = 6 ∨ c = 7) with q' | q' | q' | q' | q' | q' | q' | q' <;> subst q'
  · have f5 : 97 ≤ jtu n t (s + 5) ∧ jtu n t (s + 5) ≤ 101 := of_decide_eq_true (hfit 5 (by decide))
    have f7 : 48 ≤ jtu n t (s + 7) ∧ jtu n t (s + 7) ≤ 57 := of_decide_eq_true (hfit 7 (by decide))
    rw [if_pos rfl] at hq ⊢
    by_cases z : jtu n t (s + 7) = 48
    · rw [if_pos z] at hq; cases hq
    rw [if_neg z] at hq; cases hq
    have hBb := hw.1.1 (jtu n t (s + 5) - 97) (by omega)
    have hm := mM_becomes (k := 6 + 3 * (jtu n t (s + 5) - 97)) (d := jtu n t (s + 7) - 48) hA h17 (by omega) (by omega) (by omega)
    refine ⟨σ, hrf, ?_⟩
    rw [(g0 rfl).1, (g0 rfl).2]
    simp (disch := omega) only [jb_K_n, jb_K_v, ↓reduceIte, jT_lt, jF_lt, jT_le, jF_le, jT_eq, jF_eq, jT_z, jF_z, jF_neg, jT_nn, jT_pos, jF_pos, jT_le0, jF_le0, jT_x, jF_m1, jF_m1r, jT_tt, jI_add, jI_mul, jI_sub, jI_cl, jm_up_same, jm_up_o, jm_up_j, jbR_T, jbR_F, jt_M_bellAt_0, jt_M_does_73, Nat.add_zero]
    exact jMO_K hm (fun x σ' => jt_M_does_79)
  · have f7 : 97 ≤ jtu n t (s + 7) ∧ jtu n t (s + 7) ≤ 101 := of_decide_eq_true (hfit 7 (by decide))
    rw [if_neg (by decide), if_pos rfl] at hq; cases hq
    rw [if_neg (by decide +kernel), if_pos rfl, g1 rfl]
    have hBb := hw.1.1 (jtu n t (s + 7) - 97) (by omega)
    exact ⟨σ, hrf, jMO_K (mM_renews hA h17 (by omega) (by omega)) (fun x σ' => jt_M_does_85)⟩
  · rw [if_neg (by decide), if_neg (by decide), if_pos rfl] at hq; cases hq
    rw [if_neg (by decide +kernel), if_neg (by decide +kernel), if_pos rfl]
    obtain ⟨σ0, e0, t1, t2, t3⟩ := jM_takesText hT ht hk (show s + 7 ≤ e from by have : s + 8 ≤ e := o5; omega) o6 (hsg (Or.inl rfl)) (g2 rfl).2.1 (g2 rfl).2.2
    refine ⟨σ0, t3, ?_⟩
    rw [e0, jb_K_n, (g2 rfl).1]
    have hm : jMw σ0 w (e - (s + 7)) (fun i => jsg (jtu n t (s + 7 + i))) := ⟨fun j hj => by rw [t3 _ _ (by omega)]; exact hA j hj, t1, t2⟩
    have := mM_adds (kd := jkd (jtu n t (s + 5))) hw hm (by rw [t3 _ _ (by omega)]; exact h17) (fun j hj => jsg_le (hsg (Or.inl rfl) j hj)) (by omega)
    rw [jt_M_does_91]
    exact jMO_K this (fun x σ' => jt_M_does_96)
  · have f7 : 48 ≤ jtu n t (s + 7) ∧ jtu n t (s + 7) ≤ 57 := of_decide_eq_true (hfit 7 (by decide))
    rw [if_neg (by decide), if_neg (by decide), if_neg (by decide), if_pos rfl] at hq
    rw [if_neg (by decide +kernel), if_neg (by decide +kernel), if_neg (by decide +kernel), if_pos rfl, g3 rfl]
    by_cases z : jtu n t (s + 7) - 48 < w 0
    · rw [if_pos z] at hq; cases hq
      exact ⟨σ, hrf, jMO_K (mM_strikes hA h17 z hb0) (fun x σ' => jt_M_does_102)⟩
    · rw [if_neg z] at hq; cases hq
  · rw [if_neg (by decide), if_neg (by decide), if_neg (by decide), if_neg (by decide), if_pos rfl] at hq
    rw [if_neg (by decide +kernel), if_neg (by decide +kernel), if_neg (by decide +kernel), if_neg (by decide +kernel), if_pos rfl, (g4 (Or.inl rfl)).1, (g4 (Or.inl rfl)).2]
    by_cases z : jtu n t (s + 5) = 48
    · rw [if_pos z] at hq; cases hq
    rw [if_neg z] at hq; cases hq
    exact ⟨σ, hrf, jMO_K (mM_comes hA h17 hb1) (fun x σ' => jt_M_does_109)⟩
  · have f7 : 48 ≤ jtu n t (s + 7) ∧ jtu n t (s + 7) ≤ 57 := of_decide_eq_true (hfit 7 (by decide))
    rw [if_neg (by decide), if_neg (by decide), if_neg (by decide), if_neg (by decide), if_neg (by decide), if_pos rfl] at hq
    rw [if_neg (by decide +kernel), if_neg (by decide +kernel), if_neg (by decide +kernel), if_neg (by decide +kernel), if_neg (by decide +kernel), if_pos rfl, (g4 (Or.inr rfl)).1, (g4 (Or.inr rfl)).2]
    by_cases z : jtu n t (s + 5) - 48 < w 1 ∧ jtu n t (s + 7) ≠ 48
    · rw [if_pos z] at hq; cases hq
      have hBb := hw.2.2.1.2 (jtu n t (s + 5) - 48) z.1
      have hm := mM_becomes (k := 69 + 2 * (jtu n t (s + 5) - 48)) (d := jtu n t (s + 7) - 48) hA h17 (by omega) (by omega) (by omega)
      refine ⟨σ, hrf, ?_⟩
      simp (disch := omega) only [jb_K_n, jb_K_v, ↓reduceIte, jT_lt, jF_lt, jT_le, jF_le, jT_eq, jF_eq, jT_z, jF_z, jF_neg, jT_nn, jT_pos, jF_pos, jT_le0, jF_le0, jT_x, jF_m1, jF_m1r, jT_tt, jI_add, jI_mul, jI_sub, jI_cl, jm_up_same, jm_up_o, jm_up_j, jbR_T, jbR_F, jt_M_swimmerAt_0, jt_M_does_115, Nat.add_zero]
      exact jMO_K hm (fun x σ' => jt_M_does_121)
    · rw [if_neg z] at hq; cases hq
  · rw [if_neg (by decide), if_neg (by decide), if_neg (by decide), if_neg (by decide), if_neg (by decide), if_neg (by decide), if_pos rfl] at hq
    rw [if_neg (by decide +kernel), if_neg (by decide +kernel), if_neg (by decide +kernel), if_neg (by decide +kernel), if_neg (by decide +kernel), if_neg (by decide +kernel), if_pos rfl, g5 rfl]
    by_cases z : jtu n t (s + 3) - 48 < w 1
    · rw [if_pos z] at hq; cases hq
      exact ⟨σ, hrf, jMO_K (mM_leaves hA h17 z hb1) (fun x σ' => jt_M_does_127)⟩
    · rw [if_neg z] at hq; cases hq
  · rw [if_neg (by decide), if_neg (by decide), if_neg (by decide), if_neg (by decide), if_neg (by decide), if_neg (by decide), if_neg (by decide)] at hq; cases hq
    rw [if_neg (by decide +kernel), if_neg (by decide +kernel), if_neg (by decide +kernel), if_neg (by decide +kernel), if_neg (by decide +kernel), if_neg (by decide +kernel), if_neg (by decide +kernel)]
    obtain ⟨σ0, e0, t1, t2, t3⟩ := jM_takesText hT ht hk (show s + 5 ≤ e from by have : s + 6 ≤ e := o5; omega) o6 (hsg (Or.inr rfl)) (g6 rfl).1 (g6 rfl).2
    refine ⟨σ0, t3, ?_⟩
    rw [e0, jb_K_n]
    have hm : jMw σ0 w (e - (s + 5)) (fun i => jsg (jtu n t (s + 5 + i))) := ⟨fun j hj => by rw [t3 _ _ (by omega)]; exact hA j hj, t1, t2⟩
    have := mM_rings hw hm (by rw [t3 _ _ (by omega)]; exact h17) (fun j hj => jsg_le (hsg (Or.inr rfl) j hj)) (by omega)
    rw [jt_M_does_133]
    exact jMO_K this (fun x σ' => jt_M_does_137)
end DN
