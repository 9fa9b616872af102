/-! ===== changes that take the draft ===== -/
def jclr (S : jSt) : jSt := js0 S 9 (jn0 (S 9) 2 0)
def jGd (S : jSt) (q : jRes) : jSt := match q with
  | .inl (a, w) => jclr (jGo S (.inl (a, w)))
  | .inr (y, z) => jGo S (.inr (y, z))
theorem jclr_H (S : jSt) : (fun i => jclr S (10 + i)) = (fun i => S (10 + i)) := by
  unfold jclr
  rw [js0_K (by omega)]
section DR
variable {σ : jm_S} {S : jSt}
theorem jJC_clr (hC : JC σ S) : JC (jm_up σ 291 1 (jI 0)) (jclr S) := by
  have hA : jA 291 293 σ (jm_up σ 291 1 (jI 0)) := jA_up (by omega) (by omega)
  obtain ⟨k1, k2, k3, k4, k5, k6, k7, k8, k9⟩ := hC.keep hA
  refine ⟨k1 (by omega), ?_, ⟨k3 (by omega), k4 (by omega)⟩, ⟨?_, k6 (by omega), k7 (by omega)⟩, k8 (by omega), k9 (by omega)⟩
  · rw [jclr_H]
    exact k2 (by omega)
  · exact jR.clear hC.2.2.2.1.1 _
theorem jJM_clr (hM : JM σ S) : JM (jm_up σ 307 12 (jI 0)) (jclr S) := by
  obtain ⟨k1, k2, k3, k4, k5, k6, k7, k8, k9⟩ := hM.keep (P := fun q j => q = 307 ∧ j = 12) (σ' := jm_up σ 307 12 (jI 0)) (fun q j z => by
    by_cases e : q = 307
    · subst e
      exact jm_up_j _ _ (by omega)
    · exact jm_up_o _ _ e)
  refine ⟨k1 (fun j => by omega), ?_, ⟨k3 (by omega), k4 (fun j => by omega)⟩, ⟨jm_up_same _ _ _ _, fun j hj => absurd hj (Nat.not_lt_zero _)⟩, k6 (fun j => by omega), k7 (fun j => by omega), k8 (fun j => by omega), k9 (by omega)⟩
  rw [jclr_H]
  exact k2 (fun j => by omega)
theorem jJI_clr (hI : JI S) : JI (jclr S) := by
  obtain ⟨h1, ⟨h2, h3⟩, h4, ⟨h5, h5'⟩, h6⟩ := hI
  refine ⟨h1, ⟨h2, fun k hk => ?_⟩, h4, ⟨Nat.zero_le _, fun k hk => absurd hk (Nat.not_lt_zero _)⟩, h6⟩
  have : jclr S (10 + k) = S (10 + k) := congrFun (jclr_H S) k
  rw [this]
  exact h3 k hk
theorem jGd_I {q : jRes} (h : JI S) (h1 : ∀ a w, q = .inl (a, w) → jInv w) (h2 : ∀ y z, q = .inr (y, z) → y ≤ 7) : JI (jGd S q) := by
  have := jGo_I h h1 h2
  cases q with
  | inl p => exact jJI_clr this
  | inr p => exact this
/-- the class's end of such a change -/
theorem jC_endD {σ σ0 : jm_S} {S : jSt} {q : jRes} {e : Option jb_Res} (hC : JC σ S) (hI : JI S) (h0 : jA 26 51 σ σ0) (hb : jV σ0 26 (S 0)) (hq : jCO σ0 q e) : ∃ σ1 σ2, e = some (some (.int (jGa q)), jm_hp σ1) ∧ jb_Ev 217 [.ref (0 : Nat), .int (jGa q)] (jm_hp σ1) = some (some (.int (jGa q)), jm_hp σ2) ∧ JC σ2 (jGd S q) ∧ jHi σ σ2 := by
  cases q with
  | inr p =>
    obtain ⟨σ1, σ2, e1, e2, c2, f2⟩ := jC_end hC hI h0 hb hq
    refine ⟨σ1, σ2, e1, ?_, c2, f2⟩
    rw [jt_D_settledDraft_0, if_pos (show jGa (.inr p) < 0 from (by decide : (-5 : Int32) < 0)), jt_D_settledDraft_11, e2, jb_K_v, jt_D_settledDraft_16]
  | inl p =>
    obtain ⟨c1, c2, ⟨c3, c4⟩, ⟨c5, c6, c7⟩, c8, c9⟩ := hC
    obtain ⟨i1, ⟨i2, i3⟩, i4, i5, i6, i7⟩ := hI
    obtain ⟨a, w⟩ := p
    obtain ⟨ha, hw, σ1, e1, v1, A1⟩ := hq
    have hx : jA 291 293 σ1 (jm_up σ1 291 1 (jI 0)) := jA_up (by omega) (by omega)
    have cl := jR_clear (c5.A h0 (by omega) |> fun z => jRn.A z A1 (by omega))
    have cd : jRn (jm_up σ1 291 1 (jI 0)) 291 0 (S 2) := jR.clear (jRn.A (c5.A h0 (by omega)) A1 (by omega)) _
    generalize hρ : jm_up σ1 291 1 (jI 0) = ρ at hx cl cd
    have cH1 : jCH ρ (S 9 1) (fun k => S (10 + k)) := by
      obtain ⟨a1, o, a2, a3, a4⟩ := c2
      exact ⟨by rw [hx _ _ (by omega), A1 _ _ (by omega), h0 _ _ (by omega)]; exact a1, o, a2, by rw [hx _ _ (by omega), A1 _ _ (by omega), h0 _ _ (by omega)]; exact a3, fun k hk => (((a4 k hk).A h0 (by omega)).A A1 (by omega)).A hx (by omega)⟩
    obtain ⟨σ2, e2, cH2, A2⟩ := jsettled_ok ha i2 cH1 ((hb.A A1 (by omega)).A hx (by omega))
    refine ⟨σ1, σ2, e1, ?_, ⟨(v1.A hx (by omega)).A A2 (by omega), ?_, ⟨?_, fun z => ((((c4 z).A h0 (by omega)).A A1 (by omega)).A hx (by omega)).A A2 (by omega)⟩, ⟨cd.A A2 (by omega), (((c6.A h0 (by omega)).A A1 (by omega)).A hx (by omega)).A A2 (by omega), (((c7.A h0 (by omega)).A A1 (by omega)).A hx (by omega)).A A2 (by omega)⟩, ?_, ?_⟩, (((h0.Hi (by omega)).tr (A1.Hi (by omega))).tr (hx.Hi (by omega))).tr (A2.Hi (by omega))⟩
    · show jb_Ev 217 [.ref (0 : Nat), .int (jI a)] (jm_hp σ1) = some (some (.int (jI a)), jm_hp σ2)
      rw [jt_D_settledDraft_0, if_neg (by rw [jI_neg ha]; exact id), cl, jb_K_n, jt_D_settledDraft_11, e2, jb_K_v, jt_D_settledDraft_16]
    · refine cH2.congr (jpn_le i2) (fun k hk => ?_)
      exact (jpush_H S w hk).symm.trans (congrFun (jclr_H (jpush S w)) k).symm
    · rw [A2 _ _ (by omega), hx _ _ (by omega), A1 _ _ (by omega), h0 _ _ (by omega)]
      exact c3
    · have e : ∀ j, σ2 278 j = σ 278 j := fun j => by rw [A2 _ _ (by omega), hx _ _ (by omega), A1 _ _ (by omega), h0 _ _ (by omega)]
      unfold jCR at c8 ⊢
      rw [e, e, e, e]
      exact c8
    · rw [A2 _ _ (by omega), hx _ _ (by omega), A1 _ _ (by omega), h0 _ _ (by omega)]
      exact c9
theorem mM_draftL {n : Nat} {f : Nat → Nat} (hn : n ≤ 20) (h12 : σ 307 12 = jI n) (hd : jAr σ 312 n f) : ∀ (m k : Nat) (τ : jm_S), k + m = n → jAr τ 315 k f → (∀ q j, q ≠ 315 → τ q j = σ q j) → ∃ τ', jb_Ex 35 (2, [.ref (307 : Nat), .int (jI k)], [], jm_hp τ) = some (none, jm_hp τ') ∧ τ' 307 20 = jI n ∧ jAr τ' 315 n f ∧ (∀ q j, q ≠ 315 → ¬ (q = 307 ∧ j = 20) → τ' q j = σ q j)
  | 0, k, τ, hm, h1, h2 => by
    obtain rfl : k = n := by omega
    have h3 := (h2 307 12 (by omega)).trans h12
    refine ⟨jm_up τ 307 20 (jI k), ?_, jm_up_same _ _ _ _, fun j hj => by rw [jm_up_o _ _ (by omega)]; exact h1 j hj, fun q j z1 z2 => ?_⟩
    · rw [jt_M_takesDraft_2]
      simp (disch := omega) only [jb_K_n, jb_K_v, ↓reduceIte, jT_lt, jF_lt, jT_le, jF_le, jT_eq, jF_eq, jT_z, jF_z, jF_neg, jT_nn, jT_pos, jF_pos, jT_le0, jF_le0, jT_x, jF_m1, jF_m1r, jT_tt, jI_add, jI_mul, jI_sub, jI_cl, jm_up_same, jm_up_o, jm_up_j, jbR_T, jbR_F, h3]
    · by_cases e : q = 307
      · subst e
        rw [jm_up_j _ _ (by omega)]
        exact h2 _ _ z1
      · rw [jm_up_o _ _ e]
        exact h2 _ _ z1
  | m + 1, k, τ, hm, h1, h2 => by
    have h3 := (h2 307 12 (by omega)).trans h12
    have h4 := (h2 312 k (by omega)).trans (hd k (by omega))
    obtain ⟨τ', g1, g2, g3, g4⟩ := mM_draftL hn h12 hd m (k + 1) (jm_up τ 315 k (jI (f k))) (by omega) (fun j hj => by
      by_cases e : j = k
      · rw [e, jm_up_same]
      · rw [jm_up_j _ _ e]
        exact h1 j (by omega)) (fun q j z => (jm_up_o _ _ z).trans (h2 q j z))
    refine ⟨τ', ?_, g2, g3, g4⟩
    rw [← g1, jt_M_takesDraft_2]
    simp (disch := omega) only [jb_K_n, jb_K_v, ↓reduceIte, jT_lt, jF_lt, jT_le, jF_le, jT_eq, jF_eq, jT_z, jF_z, jF_neg, jT_nn, jT_pos, jF_pos, jT_le0, jF_le0, jT_x, jF_m1, jF_m1r, jT_tt, jI_add, jI_mul, jI_sub, jI_cl, jm_up_same, jm_up_o, jm_up_j, jbR_T, jbR_F, h3, h4]
theorem mM_draft (hM : JM σ S) (hI : JI S) : ∃ σ', jb_Ev 35 [.ref (307 : Nat)] (jm_hp σ) = some (none, jm_hp σ') ∧ σ' 307 20 = jI (S 9 2) ∧ jAr σ' 315 (S 9 2) (S 2) ∧ (∀ q j, q ≠ 315 → ¬ (q = 307 ∧ j = 20) → σ' q j = σ q j) := by
  rw [jt_M_takesDraft_0]
  exact mM_draftL hI.2.2.2.1.1 hM.2.2.2.1.1 hM.2.2.2.1.2 (S 9 2) 0 σ (Nat.zero_add _) (fun j hj => absurd hj (Nat.not_lt_zero _)) (fun _ _ _ => rfl)
/-- the plain form's beginning of such a change -/
theorem mM_begin (hM : JM σ S) (hI : JI S) : ∃ σ1 σ2, jb_Ev 93 [.ref (307 : Nat)] (jm_hp σ) = some (none, jm_hp σ1) ∧ jb_Ev 35 [.ref (307 : Nat)] (jm_hp σ1) = some (none, jm_hp σ2) ∧ JM σ2 S ∧ jAr σ2 309 146 (S 0) ∧ σ2 307 17 = jI 0 ∧ jMw σ2 (S 0) (S 9 2) (S 2) ∧ jmS σ σ2 := by
  obtain ⟨σ1, e1, b1, s1, f1⟩ := jM_starts hM.1
  have g1 : jmS σ σ1 := fun q j z => f1 q j (by omega)
  obtain ⟨σ2, e2, s2, r2, f2⟩ := mM_draft (hM.mS g1) hI
  have g2 : jmS σ1 σ2 := fun q j z => f2 q j (by omega) (by omega)
  have hM2 := (hM.mS g1).mS g2
  exact ⟨σ1, σ2, e1, e2, hM2, fun j hj => (f2 _ _ (by omega) (by omega)).trans (b1 j hj), (f2 _ _ (by omega) (by omega)).trans s1, ⟨hM2.1, s2, r2⟩, g1.tr g2⟩
theorem jm_up_id (k j : Nat) : jm_up σ k j (σ k j) = σ := by
  funext q i
  unfold jm_up
  split
  · rename_i h
    rw [h.1, h.2]
  · rfl
theorem o_word (hC : JC σ S) (hM : JM σ S) (hI : JI S) (x1 : Int32) : jOp σ 235 207 [.int x1] := by
  obtain ⟨σ0, e0, v0, A0⟩ := jV_take (v := 26) (u := 1) jc_26 jc_1 (by omega) hC.1
  have V0 := hC.1.A A0 (by omega)
  have hd := hC.2.2.2.1.1.A A0 (by omega)
  have hn : S 9 2 ≤ 20 := hI.2.2.2.1.1
  by_cases h1 : jbt x1 0 2
  · obtain ⟨kd, -, hk, rfl⟩ := h1
    have hq := cBook_enter V0 hI.1 hd hI.2.2.2.1.2 hk
    obtain ⟨σ1, σ2, e1, e2, c2, f2⟩ := jC_endD hC hI A0 v0 hq
    refine jOp_of (v := .int (jGa (qent (S 0) kd (S 9 2) (S 2)))) hM ⟨σ2, ?_, c2, f2⟩ (fun τ hτ => ?_) (jGd_I hI (jCO_w hq) (fun y z h => (jqent_y h).2))
    · rw [jt_D_word_0, e0, jb_K_n, jt_D_word_11, e1, jb_K_v, jt_D_word_31, e2, jb_K_v, jt_D_word_34]
    · obtain ⟨τ1, τ2, e3, e4, M2, b2, s2, w2, l2⟩ := mM_begin hτ hI
      have hqm := mM_adds (kd := kd) hI.1 w2 s2 hI.2.2.2.1.2 (by omega)
      obtain ⟨x, τ3, τ4, e5, e6, m4, l4⟩ := jM_end M2 hI (fun _ _ _ => rfl) b2 hqm (fun y z h => jqent_y h)
      have hcl : jLo τ (jm_up τ4 307 12 (jI 0)) := (l2.Lo.tr l4).tr (fun q j hq => jm_up_o _ _ (by omega))
      cases hqq : qent (S 0) kd (S 9 2) (S 2) with
      | inl p =>
        have ha : p.1 < 2147483648 := by
          rw [hqq] at hq
          exact hq.1
        rw [hqq] at e6 m4
        refine ⟨jm_up τ4 307 12 (jI 0), ?_, jJM_clr m4, hcl⟩
        have hne : ¬ jI p.1 = (-5 : Int32) := fun z => jI_neneg (x := -5) ha (by decide) z.symm
        have e6' : jb_Ev 149 [.ref (307 : Nat), .int x] (jm_hp τ3) = some (some (.int (jI p.1)), jm_hp τ4) := e6
        show _ = some (some (Value.int (jI p.1)), _)
        simp (disch := omega) only [jb_K_n, jb_K_v, ↓reduceIte, jT_lt, jF_lt, jT_le, jF_le, jT_eq, jF_eq, jT_z, jF_z, jF_neg, jT_nn, jT_pos, jF_pos, jT_le0, jF_le0, jT_x, jF_m1, jF_m1r, jT_tt, jI_add, jI_mul, jI_sub, jI_cl, jm_up_same, jm_up_o, jm_up_j, jbR_T, jbR_F, jt_M_word_0, jM_kindY hk, jt_M_word_4, e3, jt_M_word_14, e4, jt_M_word_18, e5, jt_M_word_24, e6', jt_M_word_27, hne]
      | inr p =>
        rw [hqq] at e6 m4
        refine ⟨τ4, ?_, m4, l2.Lo.tr l4⟩
        have e6' : jb_Ev 149 [.ref (307 : Nat), .int x] (jm_hp τ3) = some (some (.int (-5)), jm_hp τ4) := e6
        show _ = some (some (Value.int (-5)), _)
        simp (disch := omega) only [jb_K_n, jb_K_v, ↓reduceIte, jT_lt, jF_lt, jT_le, jF_le, jT_eq, jF_eq, jT_z, jF_z, jF_neg, jT_nn, jT_pos, jF_pos, jT_le0, jF_le0, jT_x, jF_m1, jF_m1r, jT_tt, jI_add, jI_mul, jI_sub, jI_cl, jm_up_same, jm_up_o, jm_up_j, jbR_T, jbR_F, jt_M_word_0, jM_kindY hk, jt_M_word_4, e3, jt_M_word_14, e4, jt_M_word_18, e5, jt_M_word_24, e6', jt_M_word_27, jm_up_id]
  · refine jOp_q (v := .int (-2)) hC hM hI ⟨σ0, ?_, A0.cS (by omega)⟩ (fun τ hτ => ⟨τ, ?_, jmS.rf⟩)
    · have e2 := jsettled_no (σ := σ0) jneg2
      rcases jI_cases x1 with z | ⟨a, z, rfl⟩
      · simp (disch := omega) only [jb_K_n, jb_K_v, ↓reduceIte, jT_lt, jF_lt, jT_le, jF_le, jT_eq, jF_eq, jT_z, jF_z, jF_neg, jT_nn, jT_pos, jF_pos, jT_le0, jF_le0, jT_x, jF_m1, jF_m1r, jT_tt, jI_add, jI_mul, jI_sub, jI_cl, jm_up_same, jm_up_o, jm_up_j, jbR_T, jbR_F, jt_D_word_0, jt_D_word_11, jt_D_word_31, jt_D_word_34, e0, jt_Book_enter_0 hd.1, z, jt_D_settledDraft_0, jt_D_settledDraft_11, jt_D_settledDraft_16, jneg2, e2]
      · have z2 : 2 < a := by
          rcases Nat.lt_or_ge 2 a with q | q
          · exact q
          · exact absurd ⟨a, by omega, q, rfl⟩ h1
        simp (disch := omega) only [jb_K_n, jb_K_v, ↓reduceIte, jT_lt, jF_lt, jT_le, jF_le, jT_eq, jF_eq, jT_z, jF_z, jF_neg, jT_nn, jT_pos, jF_pos, jT_le0, jF_le0, jT_x, jF_m1, jF_m1r, jT_tt, jI_add, jI_mul, jI_sub, jI_cl, jm_up_same, jm_up_o, jm_up_j, jbR_T, jbR_F, jt_D_word_0, jt_D_word_11, jt_D_word_31, jt_D_word_34, e0, jt_Book_enter_0 hd.1, jt_D_settledDraft_0, jt_D_settledDraft_11, jt_D_settledDraft_16, jneg2, e2]
    · simp (disch := omega) only [jb_K_n, jb_K_v, ↓reduceIte, jT_lt, jF_lt, jT_le, jF_le, jT_eq, jF_eq, jT_z, jF_z, jF_neg, jT_nn, jT_pos, jF_pos, jT_le0, jF_le0, jT_x, jF_m1, jF_m1r, jT_tt, jI_add, jI_mul, jI_sub, jI_cl, jm_up_same, jm_up_o, jm_up_j, jbR_T, jbR_F, jt_M_word_0, jM_kindN h1, jt_M_word_4]
end DR
