/-! ===== ring: the village's own method, and the call ===== -/
section RC
variable {σ : jm_S} {w f : Nat → Nat} {S : jSt}
theorem cVillage_ring {r n : Nat} (hV : jV σ 1 w) (hw : jInv w) (hr26 : 26 ≤ r) (hr : jRn σ r n f) (hf : ∀ k, k < n → f k ≤ 5) : jCO σ (qrin w n f) (jb_Ev 169 [.ref (1 : Nat), .ref r, .ref (278 : Nat)] (jm_hp σ)) := by
  unfold qrin
  have hb := jR.bd hr
  have b2 := hw.b2
  by_cases c1 : n < 1 ∨ 12 < n
  · rw [if_pos c1]
    refine ⟨⟨by omega, by omega⟩, ?_⟩
    rw [jt_Village_ringPeal_0 hr.1]
    rcases c1 with c1 | c1
    · simp (disch := omega) only [jb_K_n, jb_K_v, ↓reduceIte, jT_lt, jF_lt, jT_le, jF_le, jT_eq, jF_eq, jT_z, jF_z, jF_neg, jT_nn, jT_pos, jF_pos, jT_le0, jF_le0, jT_x, jF_m1, jF_m1r, jT_tt, jI_add, jI_mul, jI_sub, jI_cl, jm_up_same, jm_up_o, jm_up_j, jbR_T, jbR_F, jR_size hr, jt_Village_ringPeal_4 hr.1, jt_Reasons_refuse_0, jt_Village_ringPeal_22 hr.1, jrs]
    · simp (disch := omega) only [jb_K_n, jb_K_v, ↓reduceIte, jT_lt, jF_lt, jT_le, jF_le, jT_eq, jF_eq, jT_z, jF_z, jF_neg, jT_nn, jT_pos, jF_pos, jT_le0, jF_le0, jT_x, jF_m1, jF_m1r, jT_tt, jI_add, jI_mul, jI_sub, jI_cl, jm_up_same, jm_up_o, jm_up_j, jbR_T, jbR_F, jR_size hr, jt_Village_ringPeal_4 hr.1, jt_Reasons_refuse_0, jt_Village_ringPeal_22 hr.1, jrs]
  rw [if_neg c1]
  have hany := cBells_anyL hV.b.2.1 hw.1 hr hf n 0 (Nat.zero_add _) (fun i hi => absurd hi (Nat.not_lt_zero _))
  by_cases c2 : jrc w f n = 0
  · rw [if_pos c2] at hany ⊢
    refine ⟨⟨by omega, by omega⟩, ?_⟩
    rw [jt_Village_ringPeal_0 hr.1]
    simp (disch := omega) only [jb_K_n, jb_K_v, ↓reduceIte, jT_lt, jF_lt, jT_le, jF_le, jT_eq, jF_eq, jT_z, jF_z, jF_neg, jT_nn, jT_pos, jF_pos, jT_le0, jF_le0, jT_x, jF_m1, jF_m1r, jT_tt, jI_add, jI_mul, jI_sub, jI_cl, jm_up_same, jm_up_o, jm_up_j, jbR_T, jbR_F, jR_size hr, jt_Village_ringPeal_4 hr.1, jt_Bells_canAnySound_0 hr.1, hany, jt_Village_ringPeal_31 hr.1, jt_Reasons_refuse_0, jt_Village_ringPeal_41 hr.1, jrs]
  · rw [if_neg c2] at hany ⊢
    have hcn : jrc w f n ≤ n := jrc_le
    obtain ⟨v1, v2, v3, ⟨g, v4, v5, v6⟩, v7, v8, v9⟩ := jV1.mp hV
    obtain ⟨τ, e1, a1, a2, fA⟩ := cPeals_begin v4 v5
    have hN : 1 ≤ (if w 2 < 5 then w 2 + 1 else w 2) ∧ (if w 2 < 5 then w 2 + 1 else w 2) ≤ 5 := by split <;> omega
    have hN2 : (if w 2 < 5 then w 2 + 1 else w 2) = (if w 2 + 1 < 5 then w 2 + 1 else 5) := by split <;> split <;> omega
    generalize hNN : (if w 2 < 5 then w 2 + 1 else w 2) = N at *
    have k3 := (fA 1 4 (by omega)).trans v7
    have kF : ∀ q j, ¬ (q = 1 ∨ 22 ≤ q ∧ q < 26) → jm_up τ 1 4 (jI (w 3 + 1)) q j = σ q j := fun q j z => (jm_up_o _ _ (by omega)).trans (fA q j (by omega))
    have kJ : ∀ j, j ≠ 4 → jm_up τ 1 4 (jI (w 3 + 1)) 1 j = σ 1 j := fun j z => (jm_up_j _ _ z).trans (fA 1 j (by omega))
    have hk : jRk (jm_up τ 1 4 (jI (w 3 + 1))) w f g 0 N := by
      refine ⟨v1.1.k (P := fun q => q = 1 ∨ 22 ≤ q ∧ q < 26) kF (by omega) (by omega), v1.2.1.k (P := fun q => q = 1 ∨ 22 ≤ q ∧ q < 26) kF (by omega) (by omega), v1.2.2.k (P := fun q => q = 1 ∨ 22 ≤ q ∧ q < 26) kF (by omega) (by omega), v2.k (P := fun q => q = 1 ∨ 22 ≤ q ∧ q < 26) kF (fun q z1 z2 => by omega), v3.k (P := fun q => q = 1 ∨ 22 ≤ q ∧ q < 26) kF (fun q z1 z2 => by omega), a1.k (P := fun q => q = 1) (fun q j z => jm_up_o _ _ z) (by omega) (by omega), (a2.k (P := fun q => q = 1) (σ' := jm_up τ 1 4 (jI (w 3 + 1))) (fun q j z => jm_up_o _ _ z) (by omega) (by omega)).congr rfl (fun j hj => ?_), jm_up_same _ _ _ _, (kJ _ (by omega)).trans v8, (kJ _ (by omega)).trans v9⟩
      rw [if_neg (Nat.not_lt_zero j)]
    have kA : jA 1 26 σ (jm_up τ 1 4 (jI (w 3 + 1))) := fun q j z => kF q j (by omega)
    obtain ⟨υ, g1, g2, g3⟩ := cVillage_ringL hw hr26 hr hf (by omega) hN n 0 _ (.retAddr 0) (Nat.zero_add _) hk kA
    have g1' : jb_Ex 169 (65, [.ref (1 : Nat), .ref r, .ref (278 : Nat), .int (jI n), .int (jI 0), .int (jI 0), .retAddr 0], [], jm_hp (jm_up τ 1 4 (jI (w 3 + 1)))) = _ := g1
    obtain ⟨x1, x2, x3, x4, x5, x6, x7, x8, x9, x10⟩ := g2
    have kU : ∀ q j, ¬ (q = 1) → jm_up υ 1 5 (jI (w 4 + jrc w f n)) q j = υ q j := fun q j z => jm_up_o _ _ z
    refine ⟨by omega, jInv_rin hw hf (by omega) (by omega), jm_up υ 1 5 (jI (w 4 + jrc w f n)), ?_, jV1.mpr ⟨⟨?_, ?_, ?_⟩, ?_, ?_, ⟨_, ?_, x7.k (P := fun q => q = 1) kU (by omega) (by omega), ?_⟩, ⟨?_, ?_, ?_⟩⟩, fun q j z => (kU q j (by omega)).trans (g3 q j z)⟩
    · rw [jt_Village_ringPeal_0 hr.1]
      simp (disch := omega) only [jb_K_n, jb_K_v, ↓reduceIte, jT_lt, jF_lt, jT_le, jF_le, jT_eq, jF_eq, jT_z, jF_z, jF_neg, jT_nn, jT_pos, jF_pos, jT_le0, jF_le0, jT_x, jF_m1, jF_m1r, jT_tt, jI_add, jI_mul, jI_sub, jI_cl, jm_up_same, jm_up_o, jm_up_j, jbR_T, jbR_F, jR_size hr, jt_Village_ringPeal_4 hr.1, jt_Bells_canAnySound_0 hr.1, hany, jt_Village_ringPeal_31 hr.1, e1, jt_Village_ringPeal_49 hr.1, k3, g1']
    · exact (x1.k (P := fun q => q = 1) kU (by omega) (by omega)).congr rfl (fun b hb => by rw [jkp_lo (by omega) (by omega) (by omega), jrw_o hf (Or.inr (Or.inr ⟨b, hb, rfl⟩))])
    · exact (x2.k (P := fun q => q = 1) kU (by omega) (by omega)).congr rfl (fun b hb => by rw [jkp_lo (by omega) (by omega) (by omega)])
    · exact (x3.k (P := fun q => q = 1) kU (by omega) (by omega)).congr rfl (fun b hb => by rw [jkp_lo (by omega) (by omega) (by omega)])
    · exact x4.fr hw.b0 (fun q j z1 z2 => kU q j (by omega)) (fun j z => by rw [jkp_lo (by omega) (by omega) (by omega), jrw_o hf (by omega)])
    · exact x5.fr hw.b1 (fun q j z1 z2 => kU q j (by omega)) (fun j z => by rw [jkp_lo (by omega) (by omega) (by omega), jrw_o hf (by omega)])
    · refine (x6.k (P := fun q => q = 1) kU (by omega) (by omega)).congr (by rw [jkp_2, jrw_o hf (by omega), hN2]) (fun p hp => ?_)
      by_cases z : p = 0
      · rw [if_pos z, z]
        exact jkp_81.symm
      · rw [if_neg z, jkp_hi (by omega), jrw_o hf (by omega), show 81 + 13 * p - 13 = 81 + 13 * (p - 1) by omega]
    · intro p j hp hj
      rw [jkp_2, jrw_o hf (by omega), ← hN2] at hp
      by_cases z : p = 0
      · subst z
        have hj' : j < n := by
          have := hj
          rw [show 81 + 13 * 0 = 81 from rfl, jkp_81] at this
          exact this
        show (if 11 < 12 * 0 + j then _ else _) = jkp _ _ _ (82 + 13 * 0 + j)
        rw [if_neg (by omega), if_pos (by omega), show 82 + 13 * 0 + j = 82 + j by omega, jkp_s hj' (by omega), show 12 * 0 + j = j by omega]
      · have hp' : p - 1 < w 2 := by rw [← hNN] at hp; split at hp <;> omega
        rw [jkp_hi (by omega), jrw_o hf (by omega), show 81 + 13 * p - 13 = 81 + 13 * (p - 1) by omega] at hj
        have := v6 (p - 1) j hp' hj
        show (if 11 < 12 * p + j then _ else _) = _
        rw [if_pos (by omega), jkp_hi (by omega), jrw_o hf (by omega), show 12 * p + j - 12 = 12 * (p - 1) + j by omega, show 82 + 13 * p + j - 13 = 82 + 13 * (p - 1) + j by omega]
        exact this
    · rw [jm_up_j _ _ (by omega), jkp_3, jrw_o hf (by omega)]
      exact x8
    · rw [jm_up_same, jkp_lo (by omega) (by omega) (by omega), jrw_4 hf]
    · rw [jm_up_j _ _ (by omega), jkp_lo (by omega) (by omega) (by omega)]
      exact x10
theorem o_ring (hC : JC σ S) (hM : JM σ S) (hI : JI S) : jOp σ 236 190 [] := by
  obtain ⟨σ0, e0, v0, A0⟩ := jV_take (v := 26) (u := 1) jc_26 jc_1 (by omega) hC.1
  have V0 := hC.1.A A0 (by omega)
  have hd := hC.2.2.2.1.1.A A0 (by omega)
  have hn : S 9 2 ≤ 20 := hI.2.2.2.1.1
  have hq := cVillage_ring V0 hI.1 (by omega) hd hI.2.2.2.1.2
  obtain ⟨σ1, σ2, e1, e2, c2, f2⟩ := jC_endD hC hI A0 v0 hq
  refine jOp_of (v := .int (jGa (qrin (S 0) (S 9 2) (S 2)))) hM ⟨σ2, ?_, c2, f2⟩ (fun τ hτ => ?_) (jGd_I hI (jCO_w hq) (fun y z h => (jqrin_y h).2))
  · rw [jt_D_ring_0, e0, jb_K_n, jt_D_ring_11, e1, jb_K_v, jt_D_ring_27, e2, jb_K_v, jt_D_ring_30]
  · obtain ⟨τ1, τ2, e3, e4, M2, b2, s2, w2, l2⟩ := mM_begin hτ hI
    have hqm := mM_rings hI.1 w2 s2 hI.2.2.2.1.2 (by omega)
    obtain ⟨x, τ3, τ4, e5, e6, m4, l4⟩ := jM_end M2 hI (fun _ _ _ => rfl) b2 hqm (fun y z h => jqrin_y h)
    have hcl : jLo τ (jm_up τ4 307 12 (jI 0)) := (l2.Lo.tr l4).tr (fun q j hq => jm_up_o _ _ (by omega))
    cases hqq : qrin (S 0) (S 9 2) (S 2) with
    | inl p =>
      have ha : p.1 < 2147483648 := by
        rw [hqq] at hq
        exact hq.1
      rw [hqq] at e6 m4
      refine ⟨jm_up τ4 307 12 (jI 0), ?_, jJM_clr m4, hcl⟩
      have hne : ¬ jI p.1 = (-5 : Int32) := fun z => jI_neneg (x := -5) ha (by decide) z.symm
      have e6' : jb_Ev 149 [.ref (307 : Nat), .int x] (jm_hp τ3) = some (some (.int (jI p.1)), jm_hp τ4) := e6
      show _ = some (some (Value.int (jI p.1)), _)
      simp (disch := omega) only [jb_K_n, jb_K_v, ↓reduceIte, jT_lt, jF_lt, jT_le, jF_le, jT_eq, jF_eq, jT_z, jF_z, jF_neg, jT_nn, jT_pos, jF_pos, jT_le0, jF_le0, jT_x, jF_m1, jF_m1r, jT_tt, jI_add, jI_mul, jI_sub, jI_cl, jm_up_same, jm_up_o, jm_up_j, jbR_T, jbR_F, jt_M_ring_0, e3, jt_M_ring_4, e4, jt_M_ring_8, e5, jt_M_ring_13, e6', jt_M_ring_16, hne]
    | inr p =>
      rw [hqq] at e6 m4
      refine ⟨τ4, ?_, m4, l2.Lo.tr l4⟩
      have e6' : jb_Ev 149 [.ref (307 : Nat), .int x] (jm_hp τ3) = some (some (.int (-5)), jm_hp τ4) := e6
      show _ = some (some (Value.int (-5)), _)
      simp (disch := omega) only [jb_K_n, jb_K_v, ↓reduceIte, jT_lt, jF_lt, jT_le, jF_le, jT_eq, jF_eq, jT_z, jF_z, jF_neg, jT_nn, jT_pos, jF_pos, jT_le0, jF_le0, jT_x, jF_m1, jF_m1r, jT_tt, jI_add, jI_mul, jI_sub, jI_cl, jm_up_same, jm_up_o, jm_up_j, jbR_T, jbR_F, jt_M_ring_0, e3, jt_M_ring_4, e4, jt_M_ring_8, e5, jt_M_ring_13, e6', jt_M_ring_16, jm_up_id]
end RC
