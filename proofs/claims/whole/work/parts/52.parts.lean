/-! ===== the class: the text in commands ===== -/
theorem jn_286 : jm_ln 286 = 12 := by decide +kernel
theorem jn_288 : jm_ln 288 = 12 := by decide +kernel
theorem jn_290 : jm_ln 290 = 12 := by decide +kernel
theorem jft_0 {f : Nat} (h : f ≠ 0) : jft f 0 = false := by
  unfold jft
  by_cases h1 : f = 66
  · rw [if_pos h1]; rfl
  rw [if_neg h1]
  by_cases h2 : f = 68
  · rw [if_pos h2]; rfl
  rw [if_neg h2]
  by_cases h3 : f = 75
  · rw [if_pos h3]; rfl
  rw [if_neg h3]
  by_cases h4 : f = 83
  · rw [if_pos h4]; rfl
  rw [if_neg h4]
  exact decide_eq_false (by omega)
theorem jmt_in (n : Nat) (t : Nat → Nat) : ∀ (l : List Nat) (s : Nat), (∀ f ∈ l, f ≠ 0) → jmt l (jtu n t) s = 0 ∨ s + jmt l (jtu n t) s ≤ n
  | [], _, _ => Or.inl rfl
  | f :: l, s, h => by
    unfold jmt
    by_cases hf : jft f (jtu n t s) = true
    · rw [if_pos hf]
      have hs : s < n := by
        rcases Nat.lt_or_ge s n with z | z
        · exact z
        · exfalso
          unfold jtu at hf
          rw [if_neg (by omega), jft_0 (h f (List.mem_cons_self ..))] at hf
          cases hf
      rcases jmt_in n t l (s + 1) (fun g hg => h g (List.mem_cons_of_mem _ hg)) with z | z <;> omega
    · rw [if_neg hf]; exact Or.inl rfl
theorem jfm_0 : ∀ c < 8, ∀ f ∈ jfm c, f ≠ 0 := by decide +kernel
theorem jcm_cases (u : Nat → Nat) (s : Nat) : jcm u s = 8 ∨ (jcm u s < 8 ∧ jmt (jfm (jcm u s)) u s = jln (jcm u s)) := by
  unfold jcm
  by_cases h0 : jmt (jfm 0) u s = 8
  · simp only [if_pos h0]; exact Or.inr ⟨by omega, h0⟩
  by_cases h1 : jmt (jfm 1) u s = 8
  · simp only [if_neg h0, if_pos h1]; exact Or.inr ⟨by omega, h1⟩
  by_cases h2 : jmt (jfm 2) u s = 8
  · simp only [if_neg h0, if_neg h1, if_pos h2]; exact Or.inr ⟨by omega, h2⟩
  by_cases h3 : jmt (jfm 3) u s = 8
  · simp only [if_neg h0, if_neg h1, if_neg h2, if_pos h3]; exact Or.inr ⟨by omega, h3⟩
  by_cases h4 : jmt (jfm 4) u s = 8
  · simp only [if_neg h0, if_neg h1, if_neg h2, if_neg h3, if_pos h4]; exact Or.inr ⟨by omega, h4⟩
  by_cases h5 : jmt (jfm 5) u s = 8
  · simp only [if_neg h0, if_neg h1, if_neg h2, if_neg h3, if_neg h4, if_pos h5]; exact Or.inr ⟨by omega, h5⟩
  by_cases h6 : jmt (jfm 6) u s = 4
  · simp only [if_neg h0, if_neg h1, if_neg h2, if_neg h3, if_neg h4, if_neg h5, if_pos h6]; exact Or.inr ⟨by omega, h6⟩
  by_cases h7 : jmt (jfm 7) u s = 6
  · simp only [if_neg h0, if_neg h1, if_neg h2, if_neg h3, if_neg h4, if_neg h5, if_neg h6, if_pos h7]; exact Or.inr ⟨by omega, h7⟩
  simp only [if_neg h0, if_neg h1, if_neg h2, if_neg h3, if_neg h4, if_neg h5, if_neg h6, if_neg h7]
  exact Or.inl trivial
theorem jln_b (c : Nat) : 4 ≤ jln c ∧ jln c ≤ 8 := by unfold jln; split <;> (try split) <;> omega
/-- a command's place -/
theorem jcm_in {n : Nat} {t : Nat → Nat} {c s : Nat} (hc : c < 8) (hm : jmt (jfm c) (jtu n t) s = jln c) : s + jln c ≤ n ∧ s + jln c ≤ jen (jtu n t) n s c ∧ jen (jtu n t) n s c ≤ n := by
  have h := jmt_in n t (jfm c) s (jfm_0 c hc)
  have h1 := jln_b c
  rw [hm] at h
  have h2 : s + jln c ≤ n := by omega
  refine ⟨h2, ?_⟩
  unfold jen
  by_cases e : c = 2 ∨ c = 7
  · rw [if_pos e]
    have := jse_ge (jtu n t) (n - (s + jln c)) (s + jln c)
    omega
  · rw [if_neg e]; omega
def jLz (L : List (Nat × Nat × Nat)) (k : Nat) : Nat × Nat × Nat := L.getD k (0, 0, 0)
def jrW (σ : jm_S) (L : List (Nat × Nat × Nat)) : Prop := jRn σ 285 L.length (fun k => (jLz L k).1) ∧ jRn σ 287 L.length (fun k => (jLz L k).2.1) ∧ jRn σ 289 L.length (fun k => (jLz L k).2.2)
theorem jLz_app (L : List (Nat × Nat × Nat)) (q : Nat × Nat × Nat) (k : Nat) (hk : k < L.length + 1) : jLz (L ++ [q]) k = if k = L.length then q else jLz L k := by
  unfold jLz
  simp only [List.getD_eq_getElem?_getD]
  by_cases e : k = L.length
  · rw [if_pos e, e, List.getElem?_append_right (Nat.le_refl _), Nat.sub_self]; rfl
  · rw [if_neg e, List.getElem?_append_left (by omega)]
section PT
variable {σ : jm_S} {n : Nat} {t : Nat → Nat}
theorem jendL (hr : jRn σ 283 n t) (ht : jtx n t) (c s e0 : Int32) : ∀ (m i : Nat), i + m = n → jb_Ex 146 (26, [.ref (282 : Nat), .int c, .int s, .int e0, .int (jI i)], [], jm_hp σ) = some (some (.int (jI (jse (jtu n t) m i))), jm_hp σ)
  | 0, i, hi => by
    have h60 := ht.1
    have hz := jR_size hr
    rw [jt_Text_endOf_26, hz]
    simp (disch := omega) only [jb_K_n, jb_K_v, ↓reduceIte, jT_lt, jF_lt, jT_le, jF_le, jT_eq, jF_eq, jT_z, jF_z, jF_neg, jT_nn, jT_pos, jF_pos, jT_le0, jF_le0, jT_x, jF_m1, jF_m1r, jT_tt, jI_add, jI_mul, jI_sub, jI_cl, jm_up_same, jm_up_o, jm_up_j, jbR_T, jbR_F, jt_Text_endOf_35, hz, jt_Text_endOf_70]
    unfold jse
    rw [← hi]; rfl
  | m + 1, i, hi => by
    have ih := jendL hr ht c s e0 m (i + 1) (by omega)
    have h60 := ht.1
    have hz := jR_size hr
    have ha := jtc_at hr (i := i) (by omega)
    rw [jt_Text_endOf_26, hz]
    rcases jtc_sign (σ := σ) ht i with ⟨s1, k, k1, k2, k3⟩ | ⟨s1, k3⟩
    · simp (disch := omega) only [jb_K_n, jb_K_v, ↓reduceIte, jT_lt, jF_lt, jT_le, jF_le, jT_eq, jF_eq, jT_z, jF_z, jF_neg, jT_nn, jT_pos, jF_pos, jT_le0, jF_le0, jT_x, jF_m1, jF_m1r, jT_tt, jI_add, jI_mul, jI_sub, jI_cl, jm_up_same, jm_up_o, jm_up_j, jbR_T, jbR_F, jt_Text_endOf_35, ha, jt_Text_endOf_47, k3, jt_Text_endOf_50, ih]
      rw [jse, if_pos s1]
    · simp (disch := omega) only [jb_K_n, jb_K_v, ↓reduceIte, jT_lt, jF_lt, jT_le, jF_le, jT_eq, jF_eq, jT_z, jF_z, jF_neg, jT_nn, jT_pos, jF_pos, jT_le0, jF_le0, jT_x, jF_m1, jF_m1r, jT_tt, jI_add, jI_mul, jI_sub, jI_cl, jm_up_same, jm_up_o, jm_up_j, jbR_T, jbR_F, jt_Text_endOf_35, ha, jt_Text_endOf_47, k3, jt_Text_endOf_50]
      rw [jse, if_neg (by rw [s1]; decide)]
theorem jText_endOf (hr : jRn σ 283 n t) (ht : jtx n t) {c s : Nat} (hc : c < 8) (hs : s + jln c ≤ n) : jb_Ev 146 [.ref (282 : Nat), .int (jI c), .int (jI s)] (jm_hp σ) = some (some (.int (jI (jen (jtu n t) n s c))), jm_hp σ) := by
  have h0 : 1000000 ≤ 1000000 + c ∧ 1000000 + c < 1000010 := ⟨by omega, by omega⟩
  have hl := jstr_len (σ := σ) (c := c) (by omega)
  rw [jfm_ln hc] at hl
  have h := jendL hr ht (jI c) (jI s) (jI (s + jln c)) (n - (s + jln c)) (s + jln c) (by omega)
  rw [jt_Text_endOf_0, jText_formOf hc, jb_K_v]
  refine Eq.trans (jt_Text_endOf_5 h0) ?_
  rw [hl, jb_K_v]
  refine Eq.trans jt_Text_endOf_8 ?_
  rw [jI_add]
  unfold jen
  by_cases e : c = 2 ∨ c = 7
  · rw [if_pos e]
    by_cases e2 : c = 2
    · rw [if_pos (by rw [e2])]; exact h
    · rw [if_neg (by rw [jI_eq (by omega) (by omega)]; exact e2), if_pos (by rw [(show c = 7 by omega)])]; exact h
  · rw [if_neg e, if_neg (by rw [jI_eq (by omega) (by omega)]; omega), if_neg (by rw [jI_eq (by omega) (by omega)]; omega)]
def jZi (q : Option Nat) : Int32 := match q with
  | none => -1
  | some x => jI x
theorem jZi_n : jZi none = -1 := rfl
theorem jZi_s (x : Nat) : jZi (some x) = jI x := rfl
theorem jrW_add {L : List (Nat × Nat × Nat)} (h : jrW σ L) (hL : L.length < 12) (a b c : Nat) : ∃ σ', (∃ σ1 σ2, jb_Ev 1 [.ref (285 : Nat), .int (jI a)] (jm_hp σ) = some (none, jm_hp σ1) ∧ jb_Ev 1 [.ref (287 : Nat), .int (jI b)] (jm_hp σ1) = some (none, jm_hp σ2) ∧ jb_Ev 1 [.ref (289 : Nat), .int (jI c)] (jm_hp σ2) = some (none, jm_hp σ')) ∧ jrW σ' (L ++ [(a, b, c)]) ∧ jA 285 291 σ σ' := by
  obtain ⟨h1, h2, h3⟩ := h
  have g1 := jRn_add h1 (by rw [jn_286]; exact hL) a
  have e1 := jR_add h1 (by rw [jn_286]; exact hL) (jI a)
  have h2' : jRn (jm_up (jm_up σ (285 + 1) L.length (jI a)) 285 1 (jI (L.length + 1))) 287 L.length (fun k => (jLz L k).2.1) := jR.eq h2 (by rw [jm_up_o _ _ (by omega), jm_up_o _ _ (by omega)]) (fun k _ => by rw [jm_up_o _ _ (by omega), jm_up_o _ _ (by omega)])
  have h3' : jRn (jm_up (jm_up σ (285 + 1) L.length (jI a)) 285 1 (jI (L.length + 1))) 289 L.length (fun k => (jLz L k).2.2) := jR.eq h3 (by rw [jm_up_o _ _ (by omega), jm_up_o _ _ (by omega)]) (fun k _ => by rw [jm_up_o _ _ (by omega), jm_up_o _ _ (by omega)])
  have a1 : jA 285 291 σ (jm_up (jm_up σ (285 + 1) L.length (jI a)) 285 1 (jI (L.length + 1))) := fun q j hq => by rw [jm_up_o _ _ (by omega), jm_up_o _ _ (by omega)]
  generalize jm_up (jm_up σ (285 + 1) L.length (jI a)) 285 1 (jI (L.length + 1)) = σ1 at g1 e1 h2' h3' a1
  have g2 := jRn_add h2' (by rw [jn_288]; exact hL) b
  have e2 := jR_add h2' (by rw [jn_288]; exact hL) (jI b)
  have g1' : jRn (jm_up (jm_up σ1 (287 + 1) L.length (jI b)) 287 1 (jI (L.length + 1))) 285 _ _ := jR.eq g1 (by rw [jm_up_o _ _ (by omega), jm_up_o _ _ (by omega)]) (fun k _ => by rw [jm_up_o _ _ (by omega), jm_up_o _ _ (by omega)])
  have h3'' : jRn (jm_up (jm_up σ1 (287 + 1) L.length (jI b)) 287 1 (jI (L.length + 1))) 289 L.length (fun k => (jLz L k).2.2) := jR.eq h3' (by rw [jm_up_o _ _ (by omega), jm_up_o _ _ (by omega)]) (fun k _ => by rw [jm_up_o _ _ (by omega), jm_up_o _ _ (by omega)])
  have a2 : jA 285 291 σ1 (jm_up (jm_up σ1 (287 + 1) L.length (jI b)) 287 1 (jI (L.length + 1))) := fun q j hq => by rw [jm_up_o _ _ (by omega), jm_up_o _ _ (by omega)]
  generalize jm_up (jm_up σ1 (287 + 1) L.length (jI b)) 287 1 (jI (L.length + 1)) = σ2 at g2 e2 g1' h3'' a2
  have g3 := jRn_add h3'' (by rw [jn_290]; exact hL) c
  have e3 := jR_add h3'' (by rw [jn_290]; exact hL) (jI c)
  have g1'' : jRn (jm_up (jm_up σ2 (289 + 1) L.length (jI c)) 289 1 (jI (L.length + 1))) 285 _ _ := jR.eq g1' (by rw [jm_up_o _ _ (by omega), jm_up_o _ _ (by omega)]) (fun k _ => by rw [jm_up_o _ _ (by omega), jm_up_o _ _ (by omega)])
  have g2' : jRn (jm_up (jm_up σ2 (289 + 1) L.length (jI c)) 289 1 (jI (L.length + 1))) 287 _ _ := jR.eq g2 (by rw [jm_up_o _ _ (by omega), jm_up_o _ _ (by omega)]) (fun k _ => by rw [jm_up_o _ _ (by omega), jm_up_o _ _ (by omega)])
  have a3 : jA 285 291 σ2 (jm_up (jm_up σ2 (289 + 1) L.length (jI c)) 289 1 (jI (L.length + 1))) := fun q j hq => by rw [jm_up_o _ _ (by omega), jm_up_o _ _ (by omega)]
  generalize jm_up (jm_up σ2 (289 + 1) L.length (jI c)) 289 1 (jI (L.length + 1)) = σ3 at g3 e3 g1'' g2' a3
  have hl : (L ++ [(a, b, c)]).length = L.length + 1 := by rw [List.length_append]; rfl
  refine ⟨σ3, ⟨σ1, σ2, e1, e2, e3⟩, ⟨?_, ?_, ?_⟩, (a1.tr a2).tr a3⟩
  · refine g1''.congr hl.symm (fun k hk => ?_)
    show _ = (jLz (L ++ [(a, b, c)]) k).1
    rw [jLz_app L _ k hk]
    unfold jn0
    split <;> rfl
  · refine g2'.congr hl.symm (fun k hk => ?_)
    show _ = (jLz (L ++ [(a, b, c)]) k).2.1
    rw [jLz_app L _ k hk]
    unfold jn0
    split <;> rfl
  · refine g3.congr hl.symm (fun k hk => ?_)
    show _ = (jLz (L ++ [(a, b, c)]) k).2.2
    rw [jLz_app L _ k hk]
    unfold jn0
    split <;> rfl
theorem jfaultL (ht : jtx n t) : ∀ (k many s : Nat) (L : List (Nat × Nat × Nat)) (σ : jm_S) (u3 u4 : Value), many + k = 13 → L.length = many → 5 * many ≤ s → s ≤ n → jRn σ 283 n t → jrW σ L → ∃ σ', jb_Ex 239 (25, [.ref (282 : Nat), .int (jI s), .int (jI many), u3, u4], [], jm_hp σ) = some (some (.int (jZi (jpZ (jtu n t) n k s).1)), jm_hp σ') ∧ jrW σ' (L ++ (jpZ (jtu n t) n k s).2) ∧ jA 285 291 σ σ'
  | 0, many, s, L, σ, u3, u4, hk, hL, h5, hs, hr, hw => by have := ht.1; omega
  | k + 1, many, s, L, σ, u3, u4, hk, hL, h5, hs, hr, hw => by
    have h60 := ht.1
    have hcf := jText_commandFrom hr ht (s := s) (by omega)
    rw [jt_Text_findFault_25, if_neg (by rw [jI_le (by omega) (by omega)]; omega), hcf, jb_K_v]
    rcases jcm_cases (jtu n t) s with h8 | ⟨h8, hm⟩
    · obtain ⟨l8, hl⟩ := jText_longestMatch hr ht (s := s) (by omega)
      rw [if_pos h8]
      refine ⟨σ, ?_, ?_, jA.rf⟩
      · refine Eq.trans jt_Text_findFault_36 ?_
        rw [if_pos rfl, hl, jb_K_v]
        refine Eq.trans jt_Text_findFault_48 ?_
        rw [jI_add, jpZ, if_pos h8]
        rfl
      · rw [jpZ, if_pos h8, List.append_nil]; exact hw
    · have hne : jcm (jtu n t) s ≠ 8 := by omega
      rw [if_neg hne, jpZ, if_neg hne]
      obtain ⟨b1, b2, b3⟩ := jcm_in h8 hm
      have he := jText_endOf hr ht h8 b1
      have hb := jln_b (jcm (jtu n t) s)
      generalize jcm (jtu n t) s = c at *
      generalize jen (jtu n t) n s c = e at *
      obtain ⟨σ', ⟨σ1, σ2, e1, e2, e3⟩, hw', ha⟩ := jrW_add hw (by omega) c s e
      have hr' : jRn σ' 283 n t := hr.A ha (by omega)
      have hz := jR_size hr'
      have hat := jtc_at hr' (i := e) (by omega)
      have st : jb_Ex 239 (36, [.ref (282 : Nat), .int (jI s), .int (jI many), u3, u4], [.int (jI c)], jm_hp σ) = if e < n then (if jtc n t e = jI 59 then jb_Ex 239 (25, [.ref (282 : Nat), .int (jI (e + 1)), .int (jI (many + 1)), .int (jI c), .int (jI e)], [], jm_hp σ') else some (some (.int (jI e)), jm_hp σ')) else some (some (.int (-1)), jm_hp σ') := by
        rw [jt_Text_findFault_36, if_neg (fun z => (jI_m1 (by omega)).mp z), he, jb_K_v]
        refine Eq.trans jt_Text_findFault_56 ?_
        rw [e1, jb_K_n]
        refine Eq.trans jt_Text_findFault_66 ?_
        rw [e2, jb_K_n]
        refine Eq.trans jt_Text_findFault_74 ?_
        rw [e3, jb_K_n]
        refine Eq.trans jt_Text_findFault_83 ?_
        rw [hz, jb_K_v]
        refine Eq.trans jt_Text_findFault_92 ?_
        by_cases e' : e < n
        · rw [if_pos e', if_pos ((jI_lt (by omega) (by omega)).mpr e'), hat, jb_K_v]
          refine Eq.trans jt_Text_findFault_106 ?_
          rw [jI_add, jI_add]
        · rw [if_neg e', if_neg (by rw [jI_lt (by omega) (by omega)]; exact e')]
      by_cases e' : n ≤ e
      · rw [if_pos e']
        refine ⟨σ', ?_, hw', ha⟩
        refine Eq.trans st ?_
        rw [if_neg (by omega)]
        rfl
      · rw [if_neg e']
        rw [if_pos (show e < n by omega)] at st
        have hu : jtu n t e = t e := if_pos (by omega)
        have hc : jtc n t e = jI (t e) := if_pos (by omega)
        have := ht.2 e (by omega)
        rw [hc] at st
        rw [hu]
        by_cases h59 : t e = 59
        · rw [if_pos h59]
          rw [if_pos (by rw [h59])] at st
          obtain ⟨σ'', g1, g2, g3⟩ := jfaultL ht k (many + 1) (e + 1) (L ++ [(c, s, e)]) σ' (.int (jI c)) (.int (jI e)) (by omega) (by rw [List.length_append, hL]; rfl) (by omega) (by omega) hr' hw'
          refine ⟨σ'', st.trans g1, ?_, ha.tr g3⟩
          rw [List.append_assoc] at g2
          exact g2
        · rw [if_neg h59]
          rw [if_neg (by rw [jI_eq (by omega) (by omega)]; exact h59)] at st
          exact ⟨σ', st, hw', ha⟩
theorem jText_findFault (hr : jRn σ 283 n t) (ht : jtx n t) : ∃ σ', jb_Ev 239 [.ref (282 : Nat)] (jm_hp σ) = some (some (.int (jZi (jpZ (jtu n t) n 13 0).1)), jm_hp σ') ∧ jrW σ' (jpZ (jtu n t) n 13 0).2 ∧ jA 285 291 σ σ' := by
  have c1 := jt_Row_clear_0 (r0 := 285) (σ := σ) jc_285
  have c2 := jt_Row_clear_0 (r0 := 287) (σ := jm_up σ 285 1 (jI 0)) jc_287
  have c3 := jt_Row_clear_0 (r0 := 289) (σ := jm_up (jm_up σ 285 1 (jI 0)) 287 1 (jI 0)) jc_289
  have a : jA 285 291 σ (jm_up (jm_up (jm_up σ 285 1 (jI 0)) 287 1 (jI 0)) 289 1 (jI 0)) := fun q j hq => by rw [jm_up_o _ _ (by omega), jm_up_o _ _ (by omega), jm_up_o _ _ (by omega)]
  have hw : jrW (jm_up (jm_up (jm_up σ 285 1 (jI 0)) 287 1 (jI 0)) 289 1 (jI 0)) [] := by
    refine ⟨⟨jc_285, Nat.zero_le _, ?_, fun k hk => absurd hk (Nat.not_lt_zero _)⟩, ⟨jc_287, Nat.zero_le _, ?_, fun k hk => absurd hk (Nat.not_lt_zero _)⟩, ⟨jc_289, Nat.zero_le _, jm_up_same _ _ _ _, fun k hk => absurd hk (Nat.not_lt_zero _)⟩⟩
    · rw [jm_up_o _ _ (by omega), jm_up_o _ _ (by omega), jm_up_same]; rfl
    · rw [jm_up_o _ _ (by omega), jm_up_same]; rfl
  obtain ⟨σ', g1, g2, g3⟩ := jfaultL ht 13 0 0 [] _ (.retAddr 0) (.retAddr 0) (by omega) rfl (by omega) (Nat.zero_le _) (hr.A a (by omega)) hw
  refine ⟨σ', ?_, g2, a.tr g3⟩
  rw [jt_Text_findFault_0, c1, jb_K_n]
  refine Eq.trans jt_Text_findFault_7 ?_
  rw [c2, jb_K_n]
  refine Eq.trans jt_Text_findFault_14 ?_
  rw [c3, jb_K_n]
  refine Eq.trans jt_Text_findFault_21 ?_
  exact g1
end PT
