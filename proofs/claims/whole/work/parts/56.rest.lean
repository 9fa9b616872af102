/-! ===== the plain form: the rest of a command ===== -/
theorem jm2a {u : Nat → Nat} {p f : Nat} {l : List Nat} (h : jft f (u p) = true) : jmt (f :: l) u p = jmt l u (p + 1) + 1 := by rw [jmt, if_pos h]
theorem jm2b {u : Nat → Nat} {p f : Nat} {l : List Nat} (h : jft f (u p) = false) : jmt (f :: l) u p = 0 := by rw [jmt, h]; rfl
theorem jft_b (x : Nat) : jft 66 x = decide (97 ≤ x ∧ x ≤ 101) := rfl
theorem jft_d (x : Nat) : jft 68 x = decide (48 ≤ x ∧ x ≤ 57) := rfl
theorem jft_k (x : Nat) : jft 75 x = decide (x = 110 ∨ x = 100 ∨ x = 116) := rfl
theorem jft_s (x : Nat) : jft 83 x = jgn x := rfl
theorem jft_32 (x : Nat) : jft 32 x = decide (x = 32) := rfl
theorem jmt_nil (u : Nat → Nat) (p : Nat) : jmt [] u p = 0 := rfl
def jrF (k : Nat) (σ σ' : jm_S) : Prop := ∀ q j, ¬ (q = 320 ∧ 4 * k < j ∧ j ≤ 4 * k + 3 ∨ q = 307 ∧ (j = 27 ∨ j = 28)) → σ' q j = σ q j
theorem jtF.r {k : Nat} {σ σ' : jm_S} (h : jtF k σ σ') : jrF k σ σ' := fun q j x => h q j (by omega)
theorem jrF.rf {k : Nat} {σ : jm_S} : jrF k σ σ := fun _ _ _ => rfl
theorem jrF.tr {k : Nat} {σ σ' σ'' : jm_S} (h : jrF k σ σ') (h' : jrF k σ' σ'') : jrF k σ σ'' := fun q j x => (h' q j x).trans (h q j x)
theorem jrF.u {k : Nat} {σ σ' : jm_S} (h : jrF k σ σ') {q j : Nat} {x : Int32} (hq : q = 320 ∧ 4 * k < j ∧ j ≤ 4 * k + 3 ∨ q = 307 ∧ (j = 27 ∨ j = 28)) : jrF k σ (jm_up σ' q j x) := by
  intro a b hab
  unfold jm_up
  rw [if_neg (fun z => hab (by rw [z.1, z.2]; exact hq))]
  exact h a b hab
def jkd (x : Nat) : Nat := if x = 110 then 0 else if x = 100 then 1 else 2
/-- the numbers of a command, as the plain form writes them down -/
def jnB (u : Nat → Nat) (s e w k : Nat) (σ : jm_S) : Prop :=
  (w = 0 → σ 320 (4 * k + 1) = jI (u (s + 5) - 97) ∧ σ 320 (4 * k + 2) = jI (u (s + 7) - 48)) ∧
  (w = 1 → σ 320 (4 * k + 1) = jI (u (s + 7) - 97)) ∧
  (w = 2 → σ 320 (4 * k + 1) = jI (jkd (u (s + 5))) ∧ σ 320 (4 * k + 2) = jI (s + 7) ∧ σ 320 (4 * k + 3) = jI e) ∧
  (w = 3 → σ 320 (4 * k + 1) = jI (u (s + 7) - 48)) ∧
  (w = 4 ∨ w = 5 → σ 320 (4 * k + 1) = jI (u (s + 5) - 48) ∧ σ 320 (4 * k + 2) = jI (u (s + 7) - 48)) ∧
  (w = 6 → σ 320 (4 * k + 1) = jI (u (s + 3) - 48)) ∧
  (w = 7 → σ 320 (4 * k + 2) = jI (s + 5) ∧ σ 320 (4 * k + 3) = jI e)
section MQ
variable {σ : jm_S} {n p k : Nat} {t : Nat → Nat} {x2 : Int32}
theorem jtail_68 (hM : jMt σ n t p) (ht : jtx n t) (hp : p ≤ 70) (hk : k < 30) : ∃ σ', jb_K (jb_Ev 162 [.ref (307 : Nat)] (jm_hp σ)) (fun v h => jb_Ex 198 (68, [.ref (307 : Nat), .int (jI (4 * k)), .int x2], v.toList ++ [], h)) = some (none, jm_hp σ') ∧ jtF k σ σ' ∧ ((jmt [32, 68] (jtu n t) p = 2 ∧ σ' 307 28 = -1 ∧ σ' 307 27 = jI (p + 2) ∧ σ' 320 (4 * k + 2) = jI (jtu n t (p + 1) - 48)) ∨ (jmt [32, 68] (jtu n t) p ≠ 2 ∧ σ' 307 28 = jI (p + jmt [32, 68] (jtu n t) p))) := by
  rcases jM_blank hM ht (by omega) with ⟨b1, b2⟩ | ⟨b1, b2⟩
  · rw [b2, jb_K_n, jm2a (by rw [jft_32, decide_eq_true b1])]
    have hM1 := hM.nx (p + 1)
    rcases jM_digit hM1 ht (by omega) with ⟨d1, d2, d3⟩ | ⟨d1, d3⟩
    · rw [jm2a (by rw [jft_d, decide_eq_true ⟨d1, d2⟩]), jmt_nil]
      refine ⟨jm_up (jm_up (jm_up σ 307 27 (jI (p + 1))) 307 27 (jI (p + 1 + 1))) 320 (4 * k + 2) (jI (jtu n t (p + 1) - 48)), ?_, ((jtF.rf.u (by omega)).u (by omega)).u (by omega), Or.inl ⟨rfl, ?_, ?_, jm_up_same _ _ _ _⟩⟩
      · refine Eq.trans jt_M_readsRest_68 ?_
        rw [d3, jb_K_v]
        refine Eq.trans jt_M_readsRest_79 ?_
        rw [jI_add, if_pos ((jx_I (by omega)).mpr (by omega)), jI_cl (by omega)]
      · rw [jm_up_o _ _ (by omega), jm_up_j _ _ (show (28 : Nat) ≠ 27 by decide), jm_up_j _ _ (show (28 : Nat) ≠ 27 by decide)]; exact hM.2.2.1
      · rw [jm_up_o _ _ (by omega), jm_up_same]
    · rw [jm2b (by rw [jft_d, decide_eq_false d1])]
      refine ⟨jm_up (jm_up (jm_up σ 307 27 (jI (p + 1))) 307 28 (jI (p + 1))) 320 (4 * k + 2) (jI 0), ?_, ((jtF.rf.u (by omega)).u (by omega)).u (by omega), Or.inr ⟨by decide, ?_⟩⟩
      · refine Eq.trans jt_M_readsRest_68 ?_
        rw [d3, jb_K_v]
        refine Eq.trans jt_M_readsRest_79 ?_
        rw [jI_add, if_pos ((jx_I (by omega)).mpr (by omega)), jI_cl (by omega)]
      · rw [jm_up_o _ _ (by omega), jm_up_same]
  · rw [b2, jb_K_n, jm2b (by rw [jft_32, decide_eq_false b1])]
    have h28 : (jm_up σ 307 28 (jI p)) 307 28 = jI p := jm_up_same _ _ _ _
    refine ⟨jm_up (jm_up σ 307 28 (jI p)) 320 (4 * k + 2) (jI 0), ?_, (jtF.rf.u (by omega)).u (by omega), Or.inr ⟨by decide, ?_⟩⟩
    · refine Eq.trans jt_M_readsRest_68 ?_
      rw [jM_digitD (q := p) (by omega) h28, jb_K_v]
      refine Eq.trans jt_M_readsRest_79 ?_
      rw [jI_add, if_pos ((jx_I (by omega)).mpr (by omega)), jI_cl (by omega)]
    · rw [jm_up_o _ _ (by omega), h28]; rfl
theorem jtailD_68 {q : Nat} (hq : q < 1000) (h28 : σ 307 28 = jI q) (hk : k < 30) : ∃ σ', jb_K (jb_Ev 162 [.ref (307 : Nat)] (jm_hp σ)) (fun v h => jb_Ex 198 (68, [.ref (307 : Nat), .int (jI (4 * k)), .int x2], v.toList ++ [], h)) = some (none, jm_hp σ') ∧ jtF k σ σ' ∧ σ' 307 28 = jI q := by
  refine ⟨jm_up σ 320 (4 * k + 2) (jI 0), ?_, jtF.rf.u (by omega), ?_⟩
  · rw [jM_blankD hq h28, jb_K_n]
    refine Eq.trans jt_M_readsRest_68 ?_
    rw [jM_digitD hq h28, jb_K_v]
    refine Eq.trans jt_M_readsRest_79 ?_
    rw [jI_add, if_pos ((jx_I (by omega)).mpr (by omega)), jI_cl (by omega)]
  · rw [jm_up_o _ _ (by omega)]; exact h28
theorem jtail_142 (hM : jMt σ n t p) (ht : jtx n t) (hp : p ≤ 70) (hk : k < 30) : ∃ σ', jb_K (jb_Ev 162 [.ref (307 : Nat)] (jm_hp σ)) (fun v h => jb_Ex 198 (142, [.ref (307 : Nat), .int (jI (4 * k)), .int x2], v.toList ++ [], h)) = some (none, jm_hp σ') ∧ jtF k σ σ' ∧ ((jmt [32, 68] (jtu n t) p = 2 ∧ σ' 307 28 = -1 ∧ σ' 307 27 = jI (p + 2) ∧ σ' 320 (4 * k + 2) = jI (jtu n t (p + 1) - 48)) ∨ (jmt [32, 68] (jtu n t) p ≠ 2 ∧ σ' 307 28 = jI (p + jmt [32, 68] (jtu n t) p))) := by
  rcases jM_blank hM ht (by omega) with ⟨b1, b2⟩ | ⟨b1, b2⟩
  · rw [b2, jb_K_n, jm2a (by rw [jft_32, decide_eq_true b1])]
    have hM1 := hM.nx (p + 1)
    rcases jM_digit hM1 ht (by omega) with ⟨d1, d2, d3⟩ | ⟨d1, d3⟩
    · rw [jm2a (by rw [jft_d, decide_eq_true ⟨d1, d2⟩]), jmt_nil]
      refine ⟨jm_up (jm_up (jm_up σ 307 27 (jI (p + 1))) 307 27 (jI (p + 1 + 1))) 320 (4 * k + 2) (jI (jtu n t (p + 1) - 48)), ?_, ((jtF.rf.u (by omega)).u (by omega)).u (by omega), Or.inl ⟨rfl, ?_, ?_, jm_up_same _ _ _ _⟩⟩
      · refine Eq.trans jt_M_readsRest_142 ?_
        rw [d3, jb_K_v]
        refine Eq.trans jt_M_readsRest_153 ?_
        rw [jI_add, if_pos ((jx_I (by omega)).mpr (by omega)), jI_cl (by omega)]
      · rw [jm_up_o _ _ (by omega), jm_up_j _ _ (show (28 : Nat) ≠ 27 by decide), jm_up_j _ _ (show (28 : Nat) ≠ 27 by decide)]; exact hM.2.2.1
      · rw [jm_up_o _ _ (by omega), jm_up_same]
    · rw [jm2b (by rw [jft_d, decide_eq_false d1])]
      refine ⟨jm_up (jm_up (jm_up σ 307 27 (jI (p + 1))) 307 28 (jI (p + 1))) 320 (4 * k + 2) (jI 0), ?_, ((jtF.rf.u (by omega)).u (by omega)).u (by omega), Or.inr ⟨by decide, ?_⟩⟩
      · refine Eq.trans jt_M_readsRest_142 ?_
        rw [d3, jb_K_v]
        refine Eq.trans jt_M_readsRest_153 ?_
        rw [jI_add, if_pos ((jx_I (by omega)).mpr (by omega)), jI_cl (by omega)]
      · rw [jm_up_o _ _ (by omega), jm_up_same]
  · rw [b2, jb_K_n, jm2b (by rw [jft_32, decide_eq_false b1])]
    have h28 : (jm_up σ 307 28 (jI p)) 307 28 = jI p := jm_up_same _ _ _ _
    refine ⟨jm_up (jm_up σ 307 28 (jI p)) 320 (4 * k + 2) (jI 0), ?_, (jtF.rf.u (by omega)).u (by omega), Or.inr ⟨by decide, ?_⟩⟩
    · refine Eq.trans jt_M_readsRest_142 ?_
      rw [jM_digitD (q := p) (by omega) h28, jb_K_v]
      refine Eq.trans jt_M_readsRest_153 ?_
      rw [jI_add, if_pos ((jx_I (by omega)).mpr (by omega)), jI_cl (by omega)]
    · rw [jm_up_o _ _ (by omega), h28]; rfl
theorem jtailD_142 {q : Nat} (hq : q < 1000) (h28 : σ 307 28 = jI q) (hk : k < 30) : ∃ σ', jb_K (jb_Ev 162 [.ref (307 : Nat)] (jm_hp σ)) (fun v h => jb_Ex 198 (142, [.ref (307 : Nat), .int (jI (4 * k)), .int x2], v.toList ++ [], h)) = some (none, jm_hp σ') ∧ jtF k σ σ' ∧ σ' 307 28 = jI q := by
  refine ⟨jm_up σ 320 (4 * k + 2) (jI 0), ?_, jtF.rf.u (by omega), ?_⟩
  · rw [jM_blankD hq h28, jb_K_n]
    refine Eq.trans jt_M_readsRest_142 ?_
    rw [jM_digitD hq h28, jb_K_v]
    refine Eq.trans jt_M_readsRest_153 ?_
    rw [jI_add, if_pos ((jx_I (by omega)).mpr (by omega)), jI_cl (by omega)]
  · rw [jm_up_o _ _ (by omega)]; exact h28
theorem jtail_118 (hM : jMt σ n t p) (ht : jtx n t) (hp : p ≤ n) (hk : k < 30) : ∃ σ', jb_K (jb_Ev 162 [.ref (307 : Nat)] (jm_hp σ)) (fun v h => jb_Ex 198 (118, [.ref (307 : Nat), .int (jI (4 * k)), .int x2], v.toList ++ [], h)) = some (none, jm_hp σ') ∧ jtF k σ σ' ∧ ((jmt [32, 83] (jtu n t) p = 2 ∧ σ' 307 28 = -1 ∧ σ' 307 27 = jI (jse (jtu n t) (n - (p + 2)) (p + 2)) ∧ σ' 320 (4 * k + 2) = jI (p + 1) ∧ σ' 320 (4 * k + 3) = jI (jse (jtu n t) (n - (p + 2)) (p + 2))) ∨ (jmt [32, 83] (jtu n t) p ≠ 2 ∧ σ' 307 28 = jI (p + jmt [32, 83] (jtu n t) p))) := by
  have h60 := ht.1
  rcases jM_blank hM ht (by omega) with ⟨b1, b2⟩ | ⟨b1, b2⟩
  · rw [b2, jb_K_n, jm2a (by rw [jft_32, decide_eq_true b1])]
    have hpn : p < n := by
      rcases Nat.lt_or_ge p n with z | z
      · exact z
      · exfalso
        have : jtu n t p = 0 := if_neg (by omega)
        omega
    have hM1 := hM.nx (p + 1)
    obtain ⟨σ', e, f, g⟩ := jM_signs hM1 ht (by omega) hk
    refine ⟨σ', ?_, (jtF.rf.u (by omega)).tr f, ?_⟩
    · refine Eq.trans jt_M_readsRest_118 ?_
      rw [e, jb_K_n]
      exact jt_M_readsRest_123
    · rcases g with ⟨g0, g1, g2, g3, g4⟩ | ⟨g0, g1⟩
      · left
        rw [jm2a (by rw [jft_s, g0]), jmt_nil]
        exact ⟨rfl, g1, g2, g3, g4⟩
      · right
        rw [jm2b (by rw [jft_s, g0])]
        exact ⟨by decide, g1⟩
  · rw [b2, jb_K_n, jm2b (by rw [jft_32, decide_eq_false b1])]
    have h28 : (jm_up σ 307 28 (jI p)) 307 28 = jI p := jm_up_same _ _ _ _
    obtain ⟨σ', e, f, g⟩ := jM_signsD (hM.x.u (q := 307) (j := 28) (x := jI p) (by omega)) ht (by omega) hk (q := p) (by omega) h28
    refine ⟨σ', ?_, (jtF.rf.u (by omega)).tr f, Or.inr ⟨by decide, g⟩⟩
    refine Eq.trans jt_M_readsRest_118 ?_
    rw [e, jb_K_n]
    exact jt_M_readsRest_123
theorem jtailD_118 {q : Nat} (hM : jMx σ n t p) (ht : jtx n t) (hp : p ≤ 100) (hq : q < 1000) (h28 : σ 307 28 = jI q) (hk : k < 30) : ∃ σ', jb_K (jb_Ev 162 [.ref (307 : Nat)] (jm_hp σ)) (fun v h => jb_Ex 198 (118, [.ref (307 : Nat), .int (jI (4 * k)), .int x2], v.toList ++ [], h)) = some (none, jm_hp σ') ∧ jtF k σ σ' ∧ σ' 307 28 = jI q := by
  obtain ⟨σ', e, f, g⟩ := jM_signsD hM ht hp hk hq h28
  refine ⟨σ', ?_, f, g⟩
  rw [jM_blankD hq h28, jb_K_n]
  refine Eq.trans jt_M_readsRest_118 ?_
  rw [e, jb_K_n]
  exact jt_M_readsRest_123
def jRO (u : Nat → Nat) (n s w k : Nat) (σ : jm_S) (e : Option jb_Res) : Prop := ∃ σ', e = some (none, jm_hp σ') ∧ jrF k σ σ' ∧ ((jmt (jrst w) u (s + jnl w) = (jrst w).length ∧ σ' 307 28 = -1 ∧ σ' 307 27 = jI (jen u n s w) ∧ jnB u s (jen u n s w) w k σ') ∨ (jmt (jrst w) u (s + jnl w) ≠ (jrst w).length ∧ σ' 307 28 = jI (s + jnl w + jmt (jrst w) u (s + jnl w))))
theorem jrest_0 {s : Nat} (hM : jMt σ n t (s + 5)) (ht : jtx n t) (hs : s + 5 ≤ n) (hk : k < 30) : jRO (jtu n t) n s 0 k σ (jb_Ev 198 [.ref (307 : Nat), .int (jI (4 * k)), .int (jI 0)] (jm_hp σ)) := by
  have h60 := ht.1
  have h0 : jb_Ev 198 [.ref (307 : Nat), .int (jI (4 * k)), .int (jI 0)] (jm_hp σ) = jb_K (jb_Ev 119 [.ref (307 : Nat), .int (jI 97), .int (jI 101)] (jm_hp σ)) (fun v h => jb_Ex 198 (63, [.ref (307 : Nat), .int (jI (4 * k)), .int (jI 0)], v.toList ++ [.int (jI (4 * k) + jI 1), .ref (320 : Nat)], h)) := by
    rw [jt_M_readsRest_0]; simp (disch := omega) only [jb_K_n, jb_K_v, ↓reduceIte, jT_lt, jF_lt, jT_le, jF_le, jT_eq, jF_eq, jT_z, jF_z, jF_neg, jT_nn, jT_pos, jF_pos, jT_le0, jF_le0, jT_x, jF_m1, jF_m1r, jT_tt, jI_add, jI_mul, jI_sub, jI_cl, jm_up_same, jm_up_o, jm_up_j, jbR_T, jbR_F]
  rw [h0]
  unfold jRO
  rw [show jrst 0 = [66, 32, 68] from by decide +kernel, show jnl 0 = 5 from rfl, show jen (jtu n t) n s 0 = s + 8 from rfl]
  rcases jM_reads hM ht (by omega) (l := 97) (h := 101) (by omega) with ⟨d0, d1, d2, d3⟩ | ⟨d1, d3⟩
  · rw [d3, jb_K_v]
    have hM1 := (hM.nx (s + 5 + 1)).u (j := 4 * k + 1) (x := jI (jtu n t (s + 5) - 97))
    obtain ⟨σ', e, f, g⟩ := jtail_68 (x2 := jI 0) hM1 ht (by omega) hk
    have g1 : σ' 320 (4 * k + 1) = jI (jtu n t (s + 5) - 97) := by rw [f _ _ (by omega), jm_up_same]
    refine ⟨σ', ?_, ((jrF.rf.u (by omega)).u (by omega)).tr f.r, ?_⟩
    · refine Eq.trans jt_M_readsRest_63 ?_
      rw [jI_add, if_pos ((jx_I (by omega)).mpr (by omega)), jI_cl (by omega)]
      exact e
    · rw [jm2a (by rw [jft_b, decide_eq_true ⟨d1, d2⟩])]
      rcases g with ⟨h1, h2, h3, h4⟩ | ⟨h1, h2⟩
      · left
        rw [h1]
        exact ⟨rfl, h2, h3, fun _ => ⟨g1, h4⟩, fun z => absurd z (by decide), fun z => absurd z (by decide), fun z => absurd z (by decide), fun z => absurd z (by decide), fun z => absurd z (by decide), fun z => absurd z (by decide)⟩
      · right
        refine ⟨fun z => h1 (by simpa using z), ?_⟩
        rw [h2, show s + 5 + 1 + jmt [32, 68] (jtu n t) (s + 5 + 1) = s + 5 + (jmt [32, 68] (jtu n t) (s + 5 + 1) + 1) by omega]
  · rw [d3, jb_K_v]
    have h28 : (jm_up (jm_up σ 307 28 (jI (s + 5))) 320 (4 * k + 1) (jI 0)) 307 28 = jI (s + 5) := by rw [jm_up_o _ _ (by omega), jm_up_same]
    obtain ⟨σ', e, f, g⟩ := jtailD_68 (x2 := jI 0) (k := k) (by omega) h28 hk
    refine ⟨σ', ?_, ((jrF.rf.u (by omega)).u (by omega)).tr f.r, Or.inr ?_⟩
    · refine Eq.trans jt_M_readsRest_63 ?_
      rw [jI_add, if_pos ((jx_I (by omega)).mpr (by omega)), jI_cl (by omega)]
      exact e
    · rw [jm2b (by rw [jft_b, decide_eq_false d1])]
      exact ⟨by decide, g⟩
theorem jrest_4 {s : Nat} (hM : jMt σ n t (s + 5)) (ht : jtx n t) (hs : s + 5 ≤ n) (hk : k < 30) : jRO (jtu n t) n s 4 k σ (jb_Ev 198 [.ref (307 : Nat), .int (jI (4 * k)), .int (jI 4)] (jm_hp σ)) := by
  have h60 := ht.1
  have h0 : jb_Ev 198 [.ref (307 : Nat), .int (jI (4 * k)), .int (jI 4)] (jm_hp σ) = jb_K (jb_Ev 163 [.ref (307 : Nat)] (jm_hp σ)) (fun v h => jb_Ex 198 (137, [.ref (307 : Nat), .int (jI (4 * k)), .int (jI 4)], v.toList ++ [.int (jI (4 * k) + jI 1), .ref (320 : Nat)], h)) := by
    rw [jt_M_readsRest_0]; simp (disch := omega) only [jb_K_n, jb_K_v, ↓reduceIte, jT_lt, jF_lt, jT_le, jF_le, jT_eq, jF_eq, jT_z, jF_z, jF_neg, jT_nn, jT_pos, jF_pos, jT_le0, jF_le0, jT_x, jF_m1, jF_m1r, jT_tt, jI_add, jI_mul, jI_sub, jI_cl, jm_up_same, jm_up_o, jm_up_j, jbR_T, jbR_F]
  rw [h0]
  unfold jRO
  rw [show jrst 4 = [68, 32, 68] from by decide +kernel, show jnl 4 = 5 from rfl, show jen (jtu n t) n s 4 = s + 8 from rfl]
  rcases jM_digit hM ht (by omega) with ⟨d1, d2, d3⟩ | ⟨d1, d3⟩
  · rw [d3, jb_K_v]
    have hM1 := (hM.nx (s + 5 + 1)).u (j := 4 * k + 1) (x := jI (jtu n t (s + 5) - 48))
    obtain ⟨σ', e, f, g⟩ := jtail_142 (x2 := jI 4) hM1 ht (by omega) hk
    have g1 : σ' 320 (4 * k + 1) = jI (jtu n t (s + 5) - 48) := by rw [f _ _ (by omega), jm_up_same]
    refine ⟨σ', ?_, ((jrF.rf.u (by omega)).u (by omega)).tr f.r, ?_⟩
    · refine Eq.trans jt_M_readsRest_137 ?_
      rw [jI_add, if_pos ((jx_I (by omega)).mpr (by omega)), jI_cl (by omega)]
      exact e
    · rw [jm2a (by rw [jft_d, decide_eq_true ⟨d1, d2⟩])]
      rcases g with ⟨h1, h2, h3, h4⟩ | ⟨h1, h2⟩
      · left
        rw [h1]
        exact ⟨rfl, h2, h3, fun z => absurd z (by decide), fun z => absurd z (by decide), fun z => absurd z (by decide), fun z => absurd z (by decide), fun _ => ⟨g1, h4⟩, fun z => absurd z (by decide), fun z => absurd z (by decide)⟩
      · right
        refine ⟨fun z => h1 (by simpa using z), ?_⟩
        rw [h2, show s + 5 + 1 + jmt [32, 68] (jtu n t) (s + 5 + 1) = s + 5 + (jmt [32, 68] (jtu n t) (s + 5 + 1) + 1) by omega]
  · rw [d3, jb_K_v]
    have h28 : (jm_up (jm_up σ 307 28 (jI (s + 5))) 320 (4 * k + 1) (jI 0)) 307 28 = jI (s + 5) := by rw [jm_up_o _ _ (by omega), jm_up_same]
    obtain ⟨σ', e, f, g⟩ := jtailD_142 (x2 := jI 4) (k := k) (by omega) h28 hk
    refine ⟨σ', ?_, ((jrF.rf.u (by omega)).u (by omega)).tr f.r, Or.inr ?_⟩
    · refine Eq.trans jt_M_readsRest_137 ?_
      rw [jI_add, if_pos ((jx_I (by omega)).mpr (by omega)), jI_cl (by omega)]
      exact e
    · rw [jm2b (by rw [jft_d, decide_eq_false d1])]
      exact ⟨by decide, g⟩
theorem jrest_5 {s : Nat} (hM : jMt σ n t (s + 5)) (ht : jtx n t) (hs : s + 5 ≤ n) (hk : k < 30) : jRO (jtu n t) n s 5 k σ (jb_Ev 198 [.ref (307 : Nat), .int (jI (4 * k)), .int (jI 5)] (jm_hp σ)) := by
  have h60 := ht.1
  have h0 : jb_Ev 198 [.ref (307 : Nat), .int (jI (4 * k)), .int (jI 5)] (jm_hp σ) = jb_K (jb_Ev 163 [.ref (307 : Nat)] (jm_hp σ)) (fun v h => jb_Ex 198 (137, [.ref (307 : Nat), .int (jI (4 * k)), .int (jI 5)], v.toList ++ [.int (jI (4 * k) + jI 1), .ref (320 : Nat)], h)) := by
    rw [jt_M_readsRest_0]; simp (disch := omega) only [jb_K_n, jb_K_v, ↓reduceIte, jT_lt, jF_lt, jT_le, jF_le, jT_eq, jF_eq, jT_z, jF_z, jF_neg, jT_nn, jT_pos, jF_pos, jT_le0, jF_le0, jT_x, jF_m1, jF_m1r, jT_tt, jI_add, jI_mul, jI_sub, jI_cl, jm_up_same, jm_up_o, jm_up_j, jbR_T, jbR_F]
  rw [h0]
  unfold jRO
  rw [show jrst 5 = [68, 32, 68] from by decide +kernel, show jnl 5 = 5 from rfl, show jen (jtu n t) n s 5 = s + 8 from rfl]
  rcases jM_digit hM ht (by omega) with ⟨d1, d2, d3⟩ | ⟨d1, d3⟩
  · rw [d3, jb_K_v]
    have hM1 := (hM.nx (s + 5 + 1)).u (j := 4 * k + 1) (x := jI (jtu n t (s + 5) - 48))
    obtain ⟨σ', e, f, g⟩ := jtail_142 (x2 := jI 5) hM1 ht (by omega) hk
    have g1 : σ' 320 (4 * k + 1) = jI (jtu n t (s + 5) - 48) := by rw [f _ _ (by omega), jm_up_same]
    refine ⟨σ', ?_, ((jrF.rf.u (by omega)).u (by omega)).tr f.r, ?_⟩
    · refine Eq.trans jt_M_readsRest_137 ?_
      rw [jI_add, if_pos ((jx_I (by omega)).mpr (by omega)), jI_cl (by omega)]
      exact e
    · rw [jm2a (by rw [jft_d, decide_eq_true ⟨d1, d2⟩])]
      rcases g with ⟨h1, h2, h3, h4⟩ | ⟨h1, h2⟩
      · left
        rw [h1]
        exact ⟨rfl, h2, h3, fun z => absurd z (by decide), fun z => absurd z (by decide), fun z => absurd z (by decide), fun z => absurd z (by decide), fun _ => ⟨g1, h4⟩, fun z => absurd z (by decide), fun z => absurd z (by decide)⟩
      · right
        refine ⟨fun z => h1 (by simpa using z), ?_⟩
        rw [h2, show s + 5 + 1 + jmt [32, 68] (jtu n t) (s + 5 + 1) = s + 5 + (jmt [32, 68] (jtu n t) (s + 5 + 1) + 1) by omega]
  · rw [d3, jb_K_v]
    have h28 : (jm_up (jm_up σ 307 28 (jI (s + 5))) 320 (4 * k + 1) (jI 0)) 307 28 = jI (s + 5) := by rw [jm_up_o _ _ (by omega), jm_up_same]
    obtain ⟨σ', e, f, g⟩ := jtailD_142 (x2 := jI 5) (k := k) (by omega) h28 hk
    refine ⟨σ', ?_, ((jrF.rf.u (by omega)).u (by omega)).tr f.r, Or.inr ?_⟩
    · refine Eq.trans jt_M_readsRest_137 ?_
      rw [jI_add, if_pos ((jx_I (by omega)).mpr (by omega)), jI_cl (by omega)]
      exact e
    · rw [jm2b (by rw [jft_d, decide_eq_false d1])]
      exact ⟨by decide, g⟩
theorem jrest_1 {s : Nat} (hM : jMt σ n t (s + 7)) (ht : jtx n t) (hs : s + 7 ≤ n) (hk : k < 30) : jRO (jtu n t) n s 1 k σ (jb_Ev 198 [.ref (307 : Nat), .int (jI (4 * k)), .int (jI 1)] (jm_hp σ)) := by
  have h60 := ht.1
  have h0 : jb_Ev 198 [.ref (307 : Nat), .int (jI (4 * k)), .int (jI 1)] (jm_hp σ) = jb_K (jb_Ev 119 [.ref (307 : Nat), .int (jI 97), .int (jI 101)] (jm_hp σ)) (fun v h => jb_Ex 198 (98, [.ref (307 : Nat), .int (jI (4 * k)), .int (jI 1)], v.toList ++ [.int (jI (4 * k) + jI 1), .ref (320 : Nat)], h)) := by
    rw [jt_M_readsRest_0]; simp (disch := omega) only [jb_K_n, jb_K_v, ↓reduceIte, jT_lt, jF_lt, jT_le, jF_le, jT_eq, jF_eq, jT_z, jF_z, jF_neg, jT_nn, jT_pos, jF_pos, jT_le0, jF_le0, jT_x, jF_m1, jF_m1r, jT_tt, jI_add, jI_mul, jI_sub, jI_cl, jm_up_same, jm_up_o, jm_up_j, jbR_T, jbR_F]
  rw [h0]
  unfold jRO
  rw [show jrst 1 = [66] from by decide +kernel, show jnl 1 = 7 from rfl, show jen (jtu n t) n s 1 = s + 8 from rfl]
  rcases jM_reads hM ht (by omega) (l := 97) (h := 101) (by omega) with ⟨d0, d1, d2, d3⟩ | ⟨d1, d3⟩
  · rw [d3, jb_K_v]
    refine ⟨jm_up (jm_up σ 307 27 (jI (s + 7 + 1))) 320 (4 * k + 1) (jI (jtu n t (s + 7) - 97)), ?_, (jrF.rf.u (by omega)).u (by omega), ?_⟩
    · refine Eq.trans jt_M_readsRest_98 ?_
      rw [jI_add, if_pos ((jx_I (by omega)).mpr (by omega)), jI_cl (by omega)]
    · rw [jm2a (by rw [jft_b, decide_eq_true ⟨d1, d2⟩]), jmt_nil]
      refine Or.inl ⟨rfl, ?_, ?_, fun z => absurd z (by decide), fun _ => jm_up_same _ _ _ _, fun z => absurd z (by decide), fun z => absurd z (by decide), fun z => absurd z (by decide), fun z => absurd z (by decide), fun z => absurd z (by decide)⟩
      · rw [jm_up_o _ _ (by omega), jm_up_j _ _ (show (28 : Nat) ≠ 27 by decide)]; exact hM.2.2.1
      · rw [jm_up_o _ _ (by omega), jm_up_same]
  · rw [d3, jb_K_v]
    refine ⟨jm_up (jm_up σ 307 28 (jI (s + 7))) 320 (4 * k + 1) (jI 0), ?_, (jrF.rf.u (by omega)).u (by omega), Or.inr ?_⟩
    · refine Eq.trans jt_M_readsRest_98 ?_
      rw [jI_add, if_pos ((jx_I (by omega)).mpr (by omega)), jI_cl (by omega)]
    · rw [jm2b (by rw [jft_b, decide_eq_false d1])]
      refine ⟨by decide, ?_⟩
      rw [jm_up_o _ _ (by omega), jm_up_same]
theorem jrest_3 {s : Nat} (hM : jMt σ n t (s + 7)) (ht : jtx n t) (hs : s + 7 ≤ n) (hk : k < 30) : jRO (jtu n t) n s 3 k σ (jb_Ev 198 [.ref (307 : Nat), .int (jI (4 * k)), .int (jI 3)] (jm_hp σ)) := by
  have h60 := ht.1
  have h0 : jb_Ev 198 [.ref (307 : Nat), .int (jI (4 * k)), .int (jI 3)] (jm_hp σ) = jb_K (jb_Ev 163 [.ref (307 : Nat)] (jm_hp σ)) (fun v h => jb_Ex 198 (176, [.ref (307 : Nat), .int (jI (4 * k)), .int (jI 3)], v.toList ++ [.int (jI (4 * k) + jI 1), .ref (320 : Nat)], h)) := by
    rw [jt_M_readsRest_0]; simp (disch := omega) only [jb_K_n, jb_K_v, ↓reduceIte, jT_lt, jF_lt, jT_le, jF_le, jT_eq, jF_eq, jT_z, jF_z, jF_neg, jT_nn, jT_pos, jF_pos, jT_le0, jF_le0, jT_x, jF_m1, jF_m1r, jT_tt, jI_add, jI_mul, jI_sub, jI_cl, jm_up_same, jm_up_o, jm_up_j, jbR_T, jbR_F]
  rw [h0]
  unfold jRO
  rw [show jrst 3 = [68] from by decide +kernel, show jnl 3 = 7 from rfl, show jen (jtu n t) n s 3 = s + 8 from rfl]
  rcases jM_digit hM ht (by omega) with ⟨d1, d2, d3⟩ | ⟨d1, d3⟩
  · rw [d3, jb_K_v]
    refine ⟨jm_up (jm_up σ 307 27 (jI (s + 7 + 1))) 320 (4 * k + 1) (jI (jtu n t (s + 7) - 48)), ?_, (jrF.rf.u (by omega)).u (by omega), ?_⟩
    · refine Eq.trans jt_M_readsRest_176 ?_
      rw [jI_add, if_pos ((jx_I (by omega)).mpr (by omega)), jI_cl (by omega)]
    · rw [jm2a (by rw [jft_d, decide_eq_true ⟨d1, d2⟩]), jmt_nil]
      refine Or.inl ⟨rfl, ?_, ?_, fun z => absurd z (by decide), fun z => absurd z (by decide), fun z => absurd z (by decide), fun _ => jm_up_same _ _ _ _, fun z => absurd z (by decide), fun z => absurd z (by decide), fun z => absurd z (by decide)⟩
      · rw [jm_up_o _ _ (by omega), jm_up_j _ _ (show (28 : Nat) ≠ 27 by decide)]; exact hM.2.2.1
      · rw [jm_up_o _ _ (by omega), jm_up_same]
  · rw [d3, jb_K_v]
    refine ⟨jm_up (jm_up σ 307 28 (jI (s + 7))) 320 (4 * k + 1) (jI 0), ?_, (jrF.rf.u (by omega)).u (by omega), Or.inr ?_⟩
    · refine Eq.trans jt_M_readsRest_176 ?_
      rw [jI_add, if_pos ((jx_I (by omega)).mpr (by omega)), jI_cl (by omega)]
    · rw [jm2b (by rw [jft_d, decide_eq_false d1])]
      refine ⟨by decide, ?_⟩
      rw [jm_up_o _ _ (by omega), jm_up_same]
theorem jrest_6 {s : Nat} (hM : jMt σ n t (s + 3)) (ht : jtx n t) (hs : s + 3 ≤ n) (hk : k < 30) : jRO (jtu n t) n s 6 k σ (jb_Ev 198 [.ref (307 : Nat), .int (jI (4 * k)), .int (jI 6)] (jm_hp σ)) := by
  have h60 := ht.1
  have h0 : jb_Ev 198 [.ref (307 : Nat), .int (jI (4 * k)), .int (jI 6)] (jm_hp σ) = jb_K (jb_Ev 163 [.ref (307 : Nat)] (jm_hp σ)) (fun v h => jb_Ex 198 (176, [.ref (307 : Nat), .int (jI (4 * k)), .int (jI 6)], v.toList ++ [.int (jI (4 * k) + jI 1), .ref (320 : Nat)], h)) := by
    rw [jt_M_readsRest_0]; simp (disch := omega) only [jb_K_n, jb_K_v, ↓reduceIte, jT_lt, jF_lt, jT_le, jF_le, jT_eq, jF_eq, jT_z, jF_z, jF_neg, jT_nn, jT_pos, jF_pos, jT_le0, jF_le0, jT_x, jF_m1, jF_m1r, jT_tt, jI_add, jI_mul, jI_sub, jI_cl, jm_up_same, jm_up_o, jm_up_j, jbR_T, jbR_F]
  rw [h0]
  unfold jRO
  rw [show jrst 6 = [68] from by decide +kernel, show jnl 6 = 3 from rfl, show jen (jtu n t) n s 6 = s + 4 from rfl]
  rcases jM_digit hM ht (by omega) with ⟨d1, d2, d3⟩ | ⟨d1, d3⟩
  · rw [d3, jb_K_v]
    refine ⟨jm_up (jm_up σ 307 27 (jI (s + 3 + 1))) 320 (4 * k + 1) (jI (jtu n t (s + 3) - 48)), ?_, (jrF.rf.u (by omega)).u (by omega), ?_⟩
    · refine Eq.trans jt_M_readsRest_176 ?_
      rw [jI_add, if_pos ((jx_I (by omega)).mpr (by omega)), jI_cl (by omega)]
    · rw [jm2a (by rw [jft_d, decide_eq_true ⟨d1, d2⟩]), jmt_nil]
      refine Or.inl ⟨rfl, ?_, ?_, fun z => absurd z (by decide), fun z => absurd z (by decide), fun z => absurd z (by decide), fun z => absurd z (by decide), fun z => absurd z (by decide), fun _ => jm_up_same _ _ _ _, fun z => absurd z (by decide)⟩
      · rw [jm_up_o _ _ (by omega), jm_up_j _ _ (show (28 : Nat) ≠ 27 by decide)]; exact hM.2.2.1
      · rw [jm_up_o _ _ (by omega), jm_up_same]
  · rw [d3, jb_K_v]
    refine ⟨jm_up (jm_up σ 307 28 (jI (s + 3))) 320 (4 * k + 1) (jI 0), ?_, (jrF.rf.u (by omega)).u (by omega), Or.inr ?_⟩
    · refine Eq.trans jt_M_readsRest_176 ?_
      rw [jI_add, if_pos ((jx_I (by omega)).mpr (by omega)), jI_cl (by omega)]
    · rw [jm2b (by rw [jft_d, decide_eq_false d1])]
      refine ⟨by decide, ?_⟩
      rw [jm_up_o _ _ (by omega), jm_up_same]
theorem jrest_2 {s : Nat} (hM : jMt σ n t (s + 5)) (ht : jtx n t) (hs : s + 5 ≤ n) (hk : k < 30) : jRO (jtu n t) n s 2 k σ (jb_Ev 198 [.ref (307 : Nat), .int (jI (4 * k)), .int (jI 2)] (jm_hp σ)) := by
  have h60 := ht.1
  have h0 : jb_Ev 198 [.ref (307 : Nat), .int (jI (4 * k)), .int (jI 2)] (jm_hp σ) = jb_K (jb_Ev 164 [.ref (307 : Nat)] (jm_hp σ)) (fun v h => jb_Ex 198 (113, [.ref (307 : Nat), .int (jI (4 * k)), .int (jI 2)], v.toList ++ [.int (jI (4 * k) + jI 1), .ref (320 : Nat)], h)) := by
    rw [jt_M_readsRest_0]; simp (disch := omega) only [jb_K_n, jb_K_v, ↓reduceIte, jT_lt, jF_lt, jT_le, jF_le, jT_eq, jF_eq, jT_z, jF_z, jF_neg, jT_nn, jT_pos, jF_pos, jT_le0, jF_le0, jT_x, jF_m1, jF_m1r, jT_tt, jI_add, jI_mul, jI_sub, jI_cl, jm_up_same, jm_up_o, jm_up_j, jbR_T, jbR_F]
  rw [h0]
  unfold jRO
  rw [show jrst 2 = [75, 32, 83] from by decide +kernel, show jnl 2 = 5 from rfl, show jen (jtu n t) n s 2 = jse (jtu n t) (n - (s + 8)) (s + 8) from rfl]
  rcases jM_kind hM ht (by omega) with ⟨kd, k1, k2, d3⟩ | ⟨d1, d3⟩
  · rw [d3, jb_K_v]
    have hpn : s + 5 < n := by
      rcases Nat.lt_or_ge (s + 5) n with z | z
      · exact z
      · exfalso
        have : jtu n t (s + 5) = 0 := if_neg (by omega)
        omega
    have hM1 := (hM.nx (s + 5 + 1)).u (j := 4 * k + 1) (x := jI kd)
    have hkd : jI kd = jI (jkd (jtu n t (s + 5))) := by
      unfold jkd
      rcases k2 with ⟨a, b⟩ | ⟨a, b⟩ | ⟨a, b⟩ <;> rw [a, b] <;> rfl
    obtain ⟨σ', e, f, g⟩ := jtail_118 (x2 := jI 2) hM1 ht (by omega) hk
    have g1 : σ' 320 (4 * k + 1) = jI kd := by rw [f _ _ (by omega), jm_up_same]
    refine ⟨σ', ?_, ((jrF.rf.u (by omega)).u (by omega)).tr f.r, ?_⟩
    · refine Eq.trans jt_M_readsRest_113 ?_
      rw [jI_add, if_pos ((jx_I (by omega)).mpr (by omega)), jI_cl (by omega)]
      exact e
    · rw [jm2a (by rw [jft_k, decide_eq_true (by omega)])]
      rcases g with ⟨h1, h2, h3, h4, h5⟩ | ⟨h1, h2⟩
      · left
        rw [h1]
        exact ⟨rfl, h2, h3, fun z => absurd z (by decide), fun z => absurd z (by decide), fun _ => ⟨by rw [g1]; exact hkd, h4, h5⟩, fun z => absurd z (by decide), fun z => absurd z (by decide), fun z => absurd z (by decide), fun z => absurd z (by decide)⟩
      · right
        refine ⟨fun z => h1 (by simpa using z), ?_⟩
        rw [h2, show s + 5 + 1 + jmt [32, 83] (jtu n t) (s + 5 + 1) = s + 5 + (jmt [32, 83] (jtu n t) (s + 5 + 1) + 1) by omega]
  · rw [d3, jb_K_v]
    have h28 : (jm_up (jm_up σ 307 28 (jI (s + 5))) 320 (4 * k + 1) (jI 2)) 307 28 = jI (s + 5) := by rw [jm_up_o _ _ (by omega), jm_up_same]
    obtain ⟨σ', e, f, g⟩ := jtailD_118 (x2 := jI 2) (k := k) ((hM.x.u (q := 307) (j := 28) (x := jI (s + 5)) (by omega)).u (q := 320) (j := 4 * k + 1) (x := jI 2) (by omega)) ht (by omega) (by omega) h28 hk
    refine ⟨σ', ?_, ((jrF.rf.u (by omega)).u (by omega)).tr f.r, Or.inr ?_⟩
    · refine Eq.trans jt_M_readsRest_113 ?_
      rw [jI_add, if_pos ((jx_I (by omega)).mpr (by omega)), jI_cl (by omega)]
      exact e
    · rw [jm2b (by rw [jft_k, decide_eq_false d1])]
      exact ⟨by decide, g⟩
theorem jrest_7 {s : Nat} (hM : jMt σ n t (s + 5)) (ht : jtx n t) (hs : s + 5 ≤ n) (hk : k < 30) : jRO (jtu n t) n s 7 k σ (jb_Ev 198 [.ref (307 : Nat), .int (jI (4 * k)), .int (jI 7)] (jm_hp σ)) := by
  have h60 := ht.1
  have h0 : jb_Ev 198 [.ref (307 : Nat), .int (jI (4 * k)), .int (jI 7)] (jm_hp σ) = jb_K (jb_Ev 165 [.ref (307 : Nat), .int (jI (4 * k))] (jm_hp σ)) (fun v h => jb_Ex 198 (162, [.ref (307 : Nat), .int (jI (4 * k)), .int (jI 7)], v.toList ++ [], h)) := by
    rw [jt_M_readsRest_0]; simp (disch := omega) only [jb_K_n, jb_K_v, ↓reduceIte, jT_lt, jF_lt, jT_le, jF_le, jT_eq, jF_eq, jT_z, jF_z, jF_neg, jT_nn, jT_pos, jF_pos, jT_le0, jF_le0, jT_x, jF_m1, jF_m1r, jT_tt, jI_add, jI_mul, jI_sub, jI_cl, jm_up_same, jm_up_o, jm_up_j, jbR_T, jbR_F]
  rw [h0]
  unfold jRO
  rw [show jrst 7 = [83] from by decide +kernel, show jnl 7 = 5 from rfl, show jen (jtu n t) n s 7 = jse (jtu n t) (n - (s + 6)) (s + 6) from rfl]
  obtain ⟨σ', e, f, g⟩ := jM_signs hM ht (by omega) hk
  refine ⟨σ', ?_, f.r, ?_⟩
  · rw [e, jb_K_n]; exact jt_M_readsRest_162
  · rcases g with ⟨g0, g1, g2, g3, g4⟩ | ⟨g0, g1⟩
    · left
      rw [jm2a (by rw [jft_s, g0]), jmt_nil]
      exact ⟨rfl, g1, g2, fun z => absurd z (by decide), fun z => absurd z (by decide), fun z => absurd z (by decide), fun z => absurd z (by decide), fun z => absurd z (by decide), fun z => absurd z (by decide), fun _ => ⟨g3, g4⟩⟩
    · right
      rw [jm2b (by rw [jft_s, g0])]
      exact ⟨by decide, g1⟩
theorem jM_rest {s w : Nat} (hw : w < 8) (hM : jMt σ n t (s + jnl w)) (ht : jtx n t) (hs : s + jnl w ≤ n) (hk : k < 30) : jRO (jtu n t) n s w k σ (jb_Ev 198 [.ref (307 : Nat), .int (jI (4 * k)), .int (jI w)] (jm_hp σ)) := by
  rcases (by omega : w = 0 ∨ w = 1 ∨ w = 2 ∨ w = 3 ∨ w = 4 ∨ w = 5 ∨ w = 6 ∨ w = 7) with q | q | q | q | q | q | q | q <;> subst q
  · exact jrest_0 hM ht hs hk
  · exact jrest_1 hM ht hs hk
  · exact jrest_2 hM ht hs hk
  · exact jrest_3 hM ht hs hk
  · exact jrest_4 hM ht hs hk
  · exact jrest_5 hM ht hs hk
  · exact jrest_6 hM ht hs hk
  · exact jrest_7 hM ht hs hk
end MQ
