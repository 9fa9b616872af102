/-! ===== the two calls with fractions: what they answer ===== -/
/-- a call's two runs, its answer named -/
def jOpV (σ : jm_S) (nc nm : Nat) (as : List Value) (v : Value) : Prop := ∃ (σ1 σ2 : jm_S) (S' : jSt), jb_Ev nc (.ref (0 : Nat) :: as) (jm_hp σ) = some (some v, jm_hp σ1) ∧ jb_Ev nm (.ref (307 : Nat) :: as) (jm_hp σ1) = some (some v, jm_hp σ2) ∧ JC σ2 S' ∧ JM σ2 S' ∧ JI S'
theorem jOpV_of {σ : jm_S} {S S' : jSt} {nc nm : Nat} {as : List Value} {v : Value} (hM : JM σ S) (hc : jOC σ nc as v S') (hm : ∀ τ, JM τ S → jOM τ nm as v S') (hi : JI S') : jOpV σ nc nm as v := by
  obtain ⟨σ1, e1, c1, f1⟩ := hc
  obtain ⟨σ2, e2, c2, f2⟩ := hm σ1 (hM.hi f1)
  exact ⟨σ1, σ2, S', e1, e2, c1.lo f2, c2, hi⟩
theorem jOpV_q {σ : jm_S} {S : jSt} {nc nm : Nat} {as : List Value} {v : Value} (hC : JC σ S) (hM : JM σ S) (hI : JI S) (hc : ∃ σ1, jb_Ev nc (.ref (0 : Nat) :: as) (jm_hp σ) = some (some v, jm_hp σ1) ∧ jcS σ σ1) (hm : ∀ τ, JM τ S → ∃ σ1, jb_Ev nm (.ref (307 : Nat) :: as) (jm_hp τ) = some (some v, jm_hp σ1) ∧ jmS τ σ1) : jOpV σ nc nm as v := by
  refine jOpV_of (S' := S) (v := v) hM ?_ (fun τ hτ => ?_) hI
  · obtain ⟨σ1, e, f⟩ := hc
    exact ⟨σ1, e, hC.cS f, f.Hi⟩
  · obtain ⟨σ1, e, f⟩ := hm τ hτ
    exact ⟨σ1, e, hτ.mS f, f.Lo⟩
theorem lw_f2d0 : vf_n64 (FP.f2d FP.fconst0) := by unfold vf_n64; decide +kernel
theorem lw_f2ds : ∀ m, m < 6 → ∀ n, n < 6 → n ≠ 0 → FP.f2d (FP.fdiv (FP.i2f (jI m)) (FP.i2f (jI n))) &&& 0x7fffffffffffffff ≤ 0x7ff0000000000000 := by decide +kernel
section OS
variable {σ : jm_S} {w : Nat → Nat} {S : jSt}
theorem lw_meanWear (hC : JC σ S) (hM : JM σ S) (hI : JI S) : ∃ z, jOpV σ 142 159 [] (.double z) := by
  have hs := jR_sum hC.1.b.2.1
  have hle : jsum (fun b => S 0 (7 + 3 * b)) 5 < 46 := by
    have h0 := hI.1.1.1 0 (by omega)
    have h1 := hI.1.1.1 1 (by omega)
    have h2 := hI.1.1.1 2 (by omega)
    have h3 := hI.1.1.1 3 (by omega)
    have h4 := hI.1.1.1 4 (by omega)
    show 0 + S 0 (7 + 3 * 0) + S 0 (7 + 3 * 1) + S 0 (7 + 3 * 2) + S 0 (7 + 3 * 3) + S 0 (7 + 3 * 4) < 46
    omega
  have hj := jmean _ hle
  refine ⟨_, jOpV_q (v := .double (FP.ddiv (FP.i2d (jI (jsum (fun b => S 0 (7 + 3 * b)) 5))) (UInt64.ofNat 4617315517961601024))) hC hM hI ⟨σ, ?_, jcS.rf⟩ (fun τ hτ => ⟨τ, ?_, jmS.rf⟩)⟩
  · rw [jt_D_meanWear_0, hs, jb_K_v, jt_D_meanWear_13, if_pos hj]
  · rw [jt_M_meanWear_0, jM_wear hτ.1, jb_K_v, jt_M_meanWear_4, if_pos hj]
theorem lw_meantShare (hC : JC σ S) (hM : JM σ S) (hI : JI S) : ∃ z, vf_n64 (FP.f2d z) ∧ jOpV σ 227 197 [] (.float z) := by
  have b2 := hI.1.b2
  by_cases h0 : S 0 2 = 0
  · have hpn := hC.1.pn
    rw [h0] at hpn
    refine ⟨_, lw_f2d0, jOpV_q (v := .float FP.fconst0) hC hM hI ⟨σ, by simp (disch := omega) only [jb_K_n, jb_K_v, ↓reduceIte, jT_lt, jF_lt, jT_le, jF_le, jT_eq, jF_eq, jT_z, jF_z, jF_neg, jT_nn, jT_pos, jF_pos, jT_le0, jF_le0, jT_x, jF_m1, jF_m1r, jT_tt, jI_add, jI_mul, jI_sub, jI_cl, jm_up_same, jm_up_o, jm_up_j, jbR_T, jbR_F, jt_D_meantShare_0, hpn, jt_D_meantShare_13], jcS.rf⟩ (fun τ hτ => ⟨τ, ?_, jmS.rf⟩)⟩
    have h2 := hτ.1 2 (by omega)
    rw [h0] at h2
    simp (disch := omega) only [jb_K_n, jb_K_v, ↓reduceIte, jT_lt, jF_lt, jT_le, jF_le, jT_eq, jF_eq, jT_z, jF_z, jF_neg, jT_nn, jT_pos, jF_pos, jT_le0, jF_le0, jT_x, jF_m1, jF_m1r, jT_tt, jI_add, jI_mul, jI_sub, jI_cl, jm_up_same, jm_up_o, jm_up_j, jbR_T, jbR_F, jt_M_meantShare_0, jt_M_meantShare_4, h2]
  · obtain ⟨τ', g1, g2⟩ := cShareL hI.1 h0 (S 0 2) 0 σ (Nat.zero_add _) hC.1
    have hj1 : jms (S 0) (S 0 2) < 6 := by
      have hle : jms (S 0) (S 0 2) ≤ S 0 2 := jsum_01 (fun i => by split <;> omega)
      omega
    have g1' : jb_Ex 227 (24, [.ref (0 : Nat), .int (jI (S 0 2)), .int (jI 0), .int (jI 0)], [], jm_hp σ) = _ := g1
    refine ⟨_, lw_f2ds _ hj1 _ (show S 0 2 < 6 by omega) h0, jOpV_q (v := .float (FP.fdiv (FP.i2f (jI (jms (S 0) (S 0 2)))) (FP.i2f (jI (S 0 2))))) hC hM hI ⟨τ', by simp (disch := omega) only [jb_K_n, jb_K_v, ↓reduceIte, jT_lt, jF_lt, jT_le, jF_le, jT_eq, jF_eq, jT_z, jF_z, jF_neg, jT_nn, jT_pos, jF_pos, jT_le0, jF_le0, jT_x, jF_m1, jF_m1r, jT_tt, jI_add, jI_mul, jI_sub, jI_cl, jm_up_same, jm_up_o, jm_up_j, jbR_T, jbR_F, jt_D_meantShare_0, hC.1.pn, jt_D_meantShare_13, g1'], g2⟩ (fun τ hτ => ?_)⟩
    obtain ⟨τ1, k1, k2⟩ := mShareL hI.1 h0 (S 0 2) 0 τ (Nat.zero_add _) hτ.1
    exact ⟨τ1, by rw [jt_M_meantShare_0]; exact k1, k2⟩
end OS
