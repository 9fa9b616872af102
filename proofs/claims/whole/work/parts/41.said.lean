/-! ===== said, silences, hears, echoes ===== -/
theorem jn_300 : jm_ln 300 = 12 := by decide +kernel
theorem jn_302 : jm_ln 302 = 12 := by decide +kernel
section SD
variable {σ : jm_S} {w f : Nat → Nat} {n : Nat} {S : jSt}
/-- the class: a peal's meaning -/
theorem cMeans {p : Nat} (hV : jV σ 1 w) (hw : jInv w) (hp : p < w 2) : ∃ σ' L, jb_Ev 203 [.ref (0 : Nat), .int (jI p)] (jm_hp σ) = some (some (.int (if jP w (jpz w p) (jpf w p) = 1 then jI 1 else jI 0)), jm_hp σ') ∧ jcS σ σ' ∧ jRn σ' 297 (jpz w p) (jpf w p) ∧ jRn σ' 299 L.length (fun j => L.getD j 0) ∧ L.length ≤ 12 ∧ (∀ i ∈ L, i < w 0) ∧ (jP w (jpz w p) (jpf w p) ≠ 1 → L = []) ∧ (jP w (jpz w p) (jpf w p) = 1 → jPath w (jpz w p) (jpf w p) L 0 0 ∧ jsl w L ≤ jpz w p ∧ σ' 279 1 = jI (jpz w p - jsl w L)) := by
  obtain ⟨n1, n12, n5⟩ := jp_n hw hp
  obtain ⟨σ1, e1, r1, f1⟩ := cCopy hV hw hp jc_297 (by rw [show (297 : Nat) + 1 = 298 from rfl, jn_298]; omega) (by omega)
  obtain ⟨σ2, L, e2, f2, h1, h2, h3, h4, h5⟩ := cMeant (r3 := 299) (hV.A (f1.A (a := 297) (b := 299) (by omega) (by omega)) (by omega)) hw r1 n5 n12 jc_299 (by rw [show (299 : Nat) + 1 = 300 from rfl, jn_300]; omega) (by omega) (by omega)
  refine ⟨σ2, L, ?_, (f1.cS (by omega) (by omega)).tr (fun q j z => f2 q j (by omega)), r1.k (P := fun q => 279 ≤ q ∧ q < 282 ∨ q = 299 ∨ q = 299 + 1) f2 (by omega) (by omega), h1, h2, h3, h4, h5⟩
  by_cases e : jP w (jpz w p) (jpf w p) = 1
  · rw [if_pos e] at e2 ⊢
    simp (disch := omega) only [jb_K_n, jb_K_v, ↓reduceIte, jT_lt, jF_lt, jT_le, jF_le, jT_eq, jF_eq, jT_z, jF_z, jF_neg, jT_nn, jT_pos, jF_pos, jT_le0, jF_le0, jT_x, jF_m1, jF_m1r, jT_tt, jI_add, jI_mul, jI_sub, jI_cl, jm_up_same, jm_up_o, jm_up_j, jbR_T, jbR_F, jt_D_isMeant_0, jt_D_isMeant_15, jt_D_isMeant_37, e1, e2]
  · rw [if_neg e] at e2 ⊢
    simp (disch := omega) only [jb_K_n, jb_K_v, ↓reduceIte, jT_lt, jF_lt, jT_le, jF_le, jT_eq, jF_eq, jT_z, jF_z, jF_neg, jT_nn, jT_pos, jF_pos, jT_le0, jF_le0, jT_x, jF_m1, jF_m1r, jT_tt, jI_add, jI_mul, jI_sub, jI_cl, jm_up_same, jm_up_o, jm_up_j, jbR_T, jbR_F, jt_D_isMeant_0, jt_D_isMeant_15, jt_D_isMeant_37, e1, e2]
theorem mMeansP {p : Nat} (hA : jAr σ 308 146 w) (hw : jInv w) (hp : p < w 2) : ∃ σ1 σ' L, jb_Ev 109 [.ref (307 : Nat), .int (jI p)] (jm_hp σ) = some (none, jm_hp σ1) ∧ jb_Ev 194 [.ref (307 : Nat)] (jm_hp σ1) = some (some (.int (if jP w (jpz w p) (jpf w p) = 1 then jI 1 else jI 0)), jm_hp σ') ∧ jmS σ σ' ∧ (∀ q j, q ≠ 315 → q ≠ 316 → q ≠ 317 → q ≠ 318 → ¬ (q = 307 ∧ (j = 20 ∨ j = 24)) → σ' q j = σ q j) ∧ jMw σ' w (jpz w p) (jpf w p) ∧ σ' 307 24 = jI L.length ∧ (∀ j, j < L.length → σ' 318 j = jI (L.getD j 0)) ∧ L.length ≤ 12 ∧ (∀ i ∈ L, i < w 0) ∧ (jP w (jpz w p) (jpf w p) ≠ 1 → L = []) ∧ (jP w (jpz w p) (jpf w p) = 1 → jPath w (jpz w p) (jpf w p) L 0 0 ∧ jsl w L ≤ jpz w p) := by
  obtain ⟨n1, n12, n5⟩ := jp_n hw hp
  obtain ⟨τ1, g1, g2, g3⟩ := mPeal hA hw hp
  obtain ⟨τ2, L, g4, g5, g6, g7, g8, g9, g10, g11⟩ := mMeans hw g2 n5 (by omega)
  exact ⟨τ1, τ2, L, g1, g4, g3.ms.tr g5.ms, fun q j z1 z2 z3 z4 z5 => (g5 q j z2 z3 z4 (by omega)).trans (g3 q j z1 (by omega)), g2.k8 g5, g6, g7, by omega, g9, g10, g11⟩
theorem o_said (hC : JC σ S) (hM : JM σ S) (hI : JI S) (x y : Int32) : jOp σ 223 208 [.int x, .int y] := by
  have b2 := hI.1.b2
  by_cases hx : jlt x (S 0 2)
  · obtain ⟨p, hp, rfl⟩ := hx
    obtain ⟨n1, n12, n5⟩ := jp_n hI.1 hp
    have hY := cHasY hC.1 hp
    obtain ⟨σ2, L, e1, f1, r1, r2, r3, r4, r5, r6⟩ := cMeans hC.1 hI.1 hp
    by_cases e : jP (S 0) (jpz (S 0) p) (jpf (S 0) p) = 1
    · rw [if_pos e] at e1
      obtain ⟨r6, r7, r8⟩ := r6 e
      have hM2 : ∀ τ, JM τ S → ∃ τ1 τ2, jb_Ev 109 [.ref (307 : Nat), .int (jI p)] (jm_hp τ) = some (none, jm_hp τ1) ∧ jb_Ev 194 [.ref (307 : Nat)] (jm_hp τ1) = some (some (.int (jI 1)), jm_hp τ2) ∧ jmS τ τ2 ∧ τ2 307 24 = jI L.length ∧ (∀ j, j < L.length → τ2 318 j = jI (L.getD j 0)) := fun τ hτ => by
        obtain ⟨τ1, τ2, L', g1, g2, g3, g4, g5, g6, g7, g8, g9, g10, g11⟩ := mMeansP hτ.1 hI.1 hp
        rw [if_pos e] at g2
        obtain rfl := jPath_det (g11 e).1 r6
        exact ⟨τ1, τ2, g1, g2, g3, g6, g7⟩
      by_cases hy : jlt y L.length
      · obtain ⟨k, hk, rfl⟩ := hy
        have hat := jRn_at r2 hk
        refine jOp_q (v := .int (jI (L.getD k 0))) hC hM hI ⟨σ2, by simp (disch := omega) only [jb_K_n, jb_K_v, ↓reduceIte, jT_lt, jF_lt, jT_le, jF_le, jT_eq, jF_eq, jT_z, jF_z, jF_neg, jT_nn, jT_pos, jF_pos, jT_le0, jF_le0, jT_x, jF_m1, jF_m1r, jT_tt, jI_add, jI_mul, jI_sub, jI_cl, jm_up_same, jm_up_o, jm_up_j, jbR_T, jbR_F, jt_D_said_0, jt_D_said_11, jt_D_said_21, jt_D_said_35, jt_D_said_46, hY, e1, jR_hasY r2 hk, hat], f1⟩ (fun τ hτ => ?_)
        obtain ⟨τ1, τ2, g1, g2, g3, g4, g5⟩ := hM2 τ hτ
        have hY2 := jM_pealY (σ := τ) (hτ.1 2 (by omega)) hp (by omega)
        have g5' := g5 k hk
        exact ⟨τ2, by simp (disch := omega) only [jb_K_n, jb_K_v, ↓reduceIte, jT_lt, jF_lt, jT_le, jF_le, jT_eq, jF_eq, jT_z, jF_z, jF_neg, jT_nn, jT_pos, jF_pos, jT_le0, jF_le0, jT_x, jF_m1, jF_m1r, jT_tt, jI_add, jI_mul, jI_sub, jI_cl, jm_up_same, jm_up_o, jm_up_j, jbR_T, jbR_F, jt_M_said_0, jt_M_said_5, jt_M_said_15, jt_M_said_19, jt_M_said_38, hY2, g1, g2, g4, jM_inY, g5'], g3⟩
      · refine jOp_q (v := .int (-1)) hC hM hI ⟨σ2, by simp (disch := omega) only [jb_K_n, jb_K_v, ↓reduceIte, jT_lt, jF_lt, jT_le, jF_le, jT_eq, jF_eq, jT_z, jF_z, jF_neg, jT_nn, jT_pos, jF_pos, jT_le0, jF_le0, jT_x, jF_m1, jF_m1r, jT_tt, jI_add, jI_mul, jI_sub, jI_cl, jm_up_same, jm_up_o, jm_up_j, jbR_T, jbR_F, jt_D_said_0, jt_D_said_11, jt_D_said_21, jt_D_said_35, jt_D_said_46, hY, e1, jR_hasN r2 hy], f1⟩ (fun τ hτ => ?_)
        obtain ⟨τ1, τ2, g1, g2, g3, g4, g5⟩ := hM2 τ hτ
        have hY2 := jM_pealY (σ := τ) (hτ.1 2 (by omega)) hp (by omega)
        have hN := jM_ltN (σ := τ2) hy (by omega)
        refine ⟨τ2, ?_, g3⟩
        rw [jt_M_said_0, hY2, jb_K_v, jt_M_said_5, if_neg (by decide), g1, jb_K_n, jt_M_said_15, g2, jb_K_v, jt_M_said_19, if_neg (by decide), g4, hN, jb_K_v, jt_M_said_38, if_pos jI_zero]
    · rw [if_neg e] at e1
      refine jOp_q (v := .int (-6)) hC hM hI ⟨σ2, by simp (disch := omega) only [jb_K_n, jb_K_v, ↓reduceIte, jT_lt, jF_lt, jT_le, jF_le, jT_eq, jF_eq, jT_z, jF_z, jF_neg, jT_nn, jT_pos, jF_pos, jT_le0, jF_le0, jT_x, jF_m1, jF_m1r, jT_tt, jI_add, jI_mul, jI_sub, jI_cl, jm_up_same, jm_up_o, jm_up_j, jbR_T, jbR_F, jt_D_said_0, jt_D_said_11, jt_D_said_21, jt_D_said_35, jt_D_said_46, hY, e1], f1⟩ (fun τ hτ => ?_)
      obtain ⟨τ1, τ2, L', g1, g2, g3, -⟩ := mMeansP hτ.1 hI.1 hp
      rw [if_neg e] at g2
      have hY2 := jM_pealY (σ := τ) (hτ.1 2 (by omega)) hp (by omega)
      exact ⟨τ2, by simp (disch := omega) only [jb_K_n, jb_K_v, ↓reduceIte, jT_lt, jF_lt, jT_le, jF_le, jT_eq, jF_eq, jT_z, jF_z, jF_neg, jT_nn, jT_pos, jF_pos, jT_le0, jF_le0, jT_x, jF_m1, jF_m1r, jT_tt, jI_add, jI_mul, jI_sub, jI_cl, jm_up_same, jm_up_o, jm_up_j, jbR_T, jbR_F, jt_M_said_0, jt_M_said_5, jt_M_said_15, jt_M_said_19, jt_M_said_38, hY2, g1, g2], g3⟩
  · refine jOp_q (v := .int (-1)) hC hM hI ⟨σ, ?_, jcS.rf⟩ (fun τ hτ => ⟨τ, ?_, jmS.rf⟩)
    · have hN := cHasN hC.1 hx
      simp (disch := omega) only [jb_K_n, jb_K_v, ↓reduceIte, jT_lt, jF_lt, jT_le, jF_le, jT_eq, jF_eq, jT_z, jF_z, jF_neg, jT_nn, jT_pos, jF_pos, jT_le0, jF_le0, jT_x, jF_m1, jF_m1r, jT_tt, jI_add, jI_mul, jI_sub, jI_cl, jm_up_same, jm_up_o, jm_up_j, jbR_T, jbR_F, jt_D_said_0, jt_D_said_11, jt_D_said_21, jt_D_said_35, jt_D_said_46, hN]
    · have hN := jM_pealN (σ := τ) (hτ.1 2 (by omega)) hx (by omega)
      simp (disch := omega) only [jb_K_n, jb_K_v, ↓reduceIte, jT_lt, jF_lt, jT_le, jF_le, jT_eq, jF_eq, jT_z, jF_z, jF_neg, jT_nn, jT_pos, jF_pos, jT_le0, jF_le0, jT_x, jF_m1, jF_m1r, jT_tt, jI_add, jI_mul, jI_sub, jI_cl, jm_up_same, jm_up_o, jm_up_j, jbR_T, jbR_F, jt_M_said_0, jt_M_said_5, jt_M_said_15, jt_M_said_19, jt_M_said_38, hN]
theorem jgd_mid {A B : List Nat} {i : Nat} : (A ++ i :: B).getD A.length 0 = i := by
  rw [List.getD_eq_getElem?_getD, List.getElem?_append_right (Nat.le_refl _), Nat.sub_self]
  rfl
theorem mSilL (hw : jInv w) (hA : jAr σ 308 146 w) {p n : Nat} {L : List Nat} (h24 : σ 307 24 = jI L.length) (hL : ∀ j, j < L.length → σ 318 j = jI (L.getD j 0)) (hl : L.length ≤ 12) (hn : n ≤ 12) (hs : jsl w L ≤ n) (hLw : ∀ i ∈ L, i < w 0) : ∀ (B A : List Nat) , L = A ++ B → jb_Ex 209 (32, [.ref (307 : Nat), .int (jI p), .int (jI (n - jsl w A)), .int (jI A.length)], [], jm_hp σ) = some (some (.int (jI (n - jsl w L))), jm_hp σ)
  | [], A, h => by
    rw [List.append_nil] at h
    subst h
    rw [jt_M_silences_32, h24, if_pos (by rw [jI_le (by omega) (by omega)]; omega)]
  | i :: B, A, h => by
    have b0 := hw.b0
    have hAl : A.length < L.length := by rw [h, List.length_append]; show _ < A.length + (B.length + 1); omega
    have hi : i < w 0 := hLw i (by rw [h]; exact List.mem_append_right _ List.mem_cons_self)
    have h3 := hL _ hAl
    rw [show L.getD A.length 0 = i by rw [h]; exact jgd_mid] at h3
    have IH := mSilL hw hA (p := p) h24 hL hl hn hs hLw B (A ++ [i]) (by rw [h, List.append_assoc]; rfl)
    have hsz := hA (22 + 6 * i) (by omega)
    have e1 : 21 + 6 * i + 1 = 22 + 6 * i := by omega
    have hle : jsl w A + w (22 + 6 * i) ≤ jsl w L := by
      rw [h, show A ++ i :: B = (A ++ [i]) ++ B by rw [List.append_assoc]; rfl]
      have : ∀ (X Y : List Nat), jsl w X ≤ jsl w (X ++ Y) := fun X Y => by
        induction X with
        | nil => exact Nat.zero_le _
        | cons a l ih => exact Nat.add_le_add_left ih _
      have := this (A ++ [i]) B
      rw [jsl_app] at this
      exact this
    rw [jsl_app, List.length_append] at IH
    have IH' : jb_Ex 209 (32, [.ref (307 : Nat), .int (jI p), .int (jI (n - (jsl w A + w (22 + 6 * i)))), .int (jI (A.length + 1))], [], jm_hp σ) = _ := IH
    have e2 : n - jsl w A - w (22 + 6 * i) = n - (jsl w A + w (22 + 6 * i)) := by omega
    rw [jt_M_silences_32]
    simp (disch := omega) only [jb_K_n, jb_K_v, ↓reduceIte, jT_lt, jF_lt, jT_le, jF_le, jT_eq, jF_eq, jT_z, jF_z, jF_neg, jT_nn, jT_pos, jF_pos, jT_le0, jF_le0, jT_x, jF_m1, jF_m1r, jT_tt, jI_add, jI_mul, jI_sub, jI_cl, jm_up_same, jm_up_o, jm_up_j, jbR_T, jbR_F, h24, h3, jt_M_wordAt_0, jt_M_silences_54, e1, hsz, e2, IH']
theorem o_silences (hC : JC σ S) (hM : JM σ S) (hI : JI S) (x : Int32) : jOp σ 224 209 [.int x] := by
  have b2 := hI.1.b2
  by_cases hx : jlt x (S 0 2)
  · obtain ⟨p, hp, rfl⟩ := hx
    obtain ⟨n1, n12, n5⟩ := jp_n hI.1 hp
    have hY := cHasY hC.1 hp
    obtain ⟨σ2, L, e1, f1, r1, r2, r3, r4, r5, r6⟩ := cMeans hC.1 hI.1 hp
    by_cases e : jP (S 0) (jpz (S 0) p) (jpf (S 0) p) = 1
    · rw [if_pos e] at e1
      obtain ⟨r6, r7, r8⟩ := r6 e
      refine jOp_q (v := .int (jI (jpz (S 0) p - jsl (S 0) L))) hC hM hI ⟨σ2, by simp (disch := omega) only [jb_K_n, jb_K_v, ↓reduceIte, jT_lt, jF_lt, jT_le, jF_le, jT_eq, jF_eq, jT_z, jF_z, jF_neg, jT_nn, jT_pos, jF_pos, jT_le0, jF_le0, jT_x, jF_m1, jF_m1r, jT_tt, jI_add, jI_mul, jI_sub, jI_cl, jm_up_same, jm_up_o, jm_up_j, jbR_T, jbR_F, jt_D_silences_0, jt_D_silences_11, jt_D_silences_21, hY, e1, r8], f1⟩ (fun τ hτ => ?_)
      obtain ⟨τ1, τ2, L', g1, g2, g3, g4, g5, g6, g7, g8, g9, g10, g11⟩ := mMeansP hτ.1 hI.1 hp
      rw [if_pos e] at g2
      obtain rfl := jPath_det (g11 e).1 r6
      have hY2 := jM_pealY (σ := τ) (hτ.1 2 (by omega)) hp (by omega)
      have hl := mSilL (p := p) hI.1 g5.1 g6 g7 g8 n12 r7 r4 L' [] rfl
      refine ⟨τ2, ?_, g3⟩
      have hl' : jb_Ex 209 (32, [.ref (307 : Nat), .int (jI p), .int (jI (jpz (S 0) p)), .int (jI 0)], [], jm_hp τ2) = _ := hl
      simp (disch := omega) only [jb_K_n, jb_K_v, ↓reduceIte, jT_lt, jF_lt, jT_le, jF_le, jT_eq, jF_eq, jT_z, jF_z, jF_neg, jT_nn, jT_pos, jF_pos, jT_le0, jF_le0, jT_x, jF_m1, jF_m1r, jT_tt, jI_add, jI_mul, jI_sub, jI_cl, jm_up_same, jm_up_o, jm_up_j, jbR_T, jbR_F, jt_M_silences_0, hY2, jt_M_silences_5, g1, jt_M_silences_15, g2, jt_M_silences_19, g5.2.1, hl']
    · rw [if_neg e] at e1
      refine jOp_q (v := .int (-6)) hC hM hI ⟨σ2, by simp (disch := omega) only [jb_K_n, jb_K_v, ↓reduceIte, jT_lt, jF_lt, jT_le, jF_le, jT_eq, jF_eq, jT_z, jF_z, jF_neg, jT_nn, jT_pos, jF_pos, jT_le0, jF_le0, jT_x, jF_m1, jF_m1r, jT_tt, jI_add, jI_mul, jI_sub, jI_cl, jm_up_same, jm_up_o, jm_up_j, jbR_T, jbR_F, jt_D_silences_0, jt_D_silences_11, jt_D_silences_21, hY, e1], f1⟩ (fun τ hτ => ?_)
      obtain ⟨τ1, τ2, L', g1, g2, g3, -⟩ := mMeansP hτ.1 hI.1 hp
      rw [if_neg e] at g2
      have hY2 := jM_pealY (σ := τ) (hτ.1 2 (by omega)) hp (by omega)
      exact ⟨τ2, by simp (disch := omega) only [jb_K_n, jb_K_v, ↓reduceIte, jT_lt, jF_lt, jT_le, jF_le, jT_eq, jF_eq, jT_z, jF_z, jF_neg, jT_nn, jT_pos, jF_pos, jT_le0, jF_le0, jT_x, jF_m1, jF_m1r, jT_tt, jI_add, jI_mul, jI_sub, jI_cl, jm_up_same, jm_up_o, jm_up_j, jbR_T, jbR_F, jt_M_silences_0, hY2, jt_M_silences_5, g1, jt_M_silences_15, g2, jt_M_silences_19], g3⟩
  · refine jOp_q (v := .int (-1)) hC hM hI ⟨σ, ?_, jcS.rf⟩ (fun τ hτ => ⟨τ, ?_, jmS.rf⟩)
    · have hN := cHasN hC.1 hx
      simp (disch := omega) only [jb_K_n, jb_K_v, ↓reduceIte, jT_lt, jF_lt, jT_le, jF_le, jT_eq, jF_eq, jT_z, jF_z, jF_neg, jT_nn, jT_pos, jF_pos, jT_le0, jF_le0, jT_x, jF_m1, jF_m1r, jT_tt, jI_add, jI_mul, jI_sub, jI_cl, jm_up_same, jm_up_o, jm_up_j, jbR_T, jbR_F, jt_D_silences_0, jt_D_silences_11, jt_D_silences_21, hN]
    · have hN := jM_pealN (σ := τ) (hτ.1 2 (by omega)) hx (by omega)
      simp (disch := omega) only [jb_K_n, jb_K_v, ↓reduceIte, jT_lt, jF_lt, jT_le, jF_le, jT_eq, jF_eq, jT_z, jF_z, jF_neg, jT_nn, jT_pos, jF_pos, jT_le0, jF_le0, jT_x, jF_m1, jF_m1r, jT_tt, jI_add, jI_mul, jI_sub, jI_cl, jm_up_same, jm_up_o, jm_up_j, jbR_T, jbR_F, jt_M_silences_0, hN, jt_M_silences_5]
theorem o_hears (hC : JC σ S) (hM : JM σ S) (hI : JI S) (x1 x y : Int32) : jOp σ 138 153 [.int x1, .int x, .int y] := by
  have b2 := hI.1.b2
  have b1 := hI.1.b1
  by_cases hs : jlt x1 (S 0 1)
  · obtain ⟨i, hi, rfl⟩ := hs
    have hB := hI.1.2.2.1.2 i hi
    have sY := jR_hasY hC.1.s.1 hi
    by_cases h : ∃ p j, p < S 0 2 ∧ j < jpz (S 0) p ∧ x = jI p ∧ y = jI j
    · obtain ⟨p, j, hp, hj, rfl, rfl⟩ := h
      obtain ⟨n1, n12, n5⟩ := jp_n hI.1 hp
      have hY := cSignY hC.1 hI.1 hp hj
      have h5 := n5 j hj
      have hh := cHear hC.1 hI.1 h5 (show S 0 (69 + 2 * i) < 10 by omega) (show S 0 (70 + 2 * i) < 10 by omega)
      refine jOp_q (v := .int (jI (jhr (S 0) (S 0 (69 + 2 * i)) (S 0 (70 + 2 * i)) (jpf (S 0) p j)))) hC hM hI ⟨σ, by simp (disch := omega) only [jb_K_n, jb_K_v, ↓reduceIte, jT_lt, jF_lt, jT_le, jF_le, jT_eq, jF_eq, jT_z, jF_z, jF_neg, jT_nn, jT_pos, jF_pos, jT_le0, jF_le0, jT_x, jF_m1, jF_m1r, jT_tt, jI_add, jI_mul, jI_sub, jI_cl, jm_up_same, jm_up_o, jm_up_j, jbR_T, jbR_F, jt_D_hears_0, jt_D_hears_14, jt_D_hears_31, jt_D_hears_55, jt_D_hears_82, jt_D_hears_85, sY, hY, hC.1.wd hi, hC.1.wr hi, hh], jcS.rf⟩ (fun τ hτ => ⟨τ, ?_, jmS.rf⟩)
      have sY2 := jM_swimY (σ := τ) (hτ.1 1 (by omega)) hi (by omega)
      have hY2 := jM_pealY (σ := τ) (hτ.1 2 (by omega)) hp (by omega)
      have h1 : τ 308 (81 + 13 * p) = jI (jpz (S 0) p) := hτ.1 _ (by omega)
      have h2 : τ 308 (82 + 13 * p + j) = jI (jpf (S 0) p j) := hτ.1 _ (by omega)
      have h3 := hτ.1 (69 + 2 * i) (by omega)
      have h4 := hτ.1 (70 + 2 * i) (by omega)
      have e0 : 81 + 13 * p + 1 + j = 82 + 13 * p + j := by omega
      have e1 : 69 + 2 * i + 1 = 70 + 2 * i := by omega
      have hm := mHear hτ.1 hI.1 h5 (show S 0 (69 + 2 * i) < 10 by omega) (show S 0 (70 + 2 * i) < 10 by omega)
      unfold jhr
      by_cases c : jpf (S 0) p j < 5 ∧ S 0 (6 + 3 * jpf (S 0) p j) ≤ S 0 (69 + 2 * i) + S 0 (70 + 2 * i) ∧ S 0 (69 + 2 * i) ≤ S 0 (6 + 3 * jpf (S 0) p j) + S 0 (70 + 2 * i)
      · rw [if_pos c] at hm ⊢
        simp (disch := omega) only [jb_K_n, jb_K_v, ↓reduceIte, jT_lt, jF_lt, jT_le, jF_le, jT_eq, jF_eq, jT_z, jF_z, jF_neg, jT_nn, jT_pos, jF_pos, jT_le0, jF_le0, jT_x, jF_m1, jF_m1r, jT_tt, jI_add, jI_mul, jI_sub, jI_cl, jm_up_same, jm_up_o, jm_up_j, jbR_T, jbR_F, jt_M_hears_0, jt_M_hears_5, jt_M_hears_13, jt_M_hears_26, jt_M_hears_34, jt_M_hears_59, jt_M_hears_70, jt_M_hears_96, sY2, hY2, jt_M_pealAt_0, jt_M_swimmerAt_0, Nat.add_zero, h1, jM_inY, e0, h2, e1, h3, h4, hm]
      · rw [if_neg c] at hm ⊢
        simp (disch := omega) only [jb_K_n, jb_K_v, ↓reduceIte, jT_lt, jF_lt, jT_le, jF_le, jT_eq, jF_eq, jT_z, jF_z, jF_neg, jT_nn, jT_pos, jF_pos, jT_le0, jF_le0, jT_x, jF_m1, jF_m1r, jT_tt, jI_add, jI_mul, jI_sub, jI_cl, jm_up_same, jm_up_o, jm_up_j, jbR_T, jbR_F, jt_M_hears_0, jt_M_hears_5, jt_M_hears_13, jt_M_hears_26, jt_M_hears_34, jt_M_hears_59, jt_M_hears_70, jt_M_hears_96, sY2, hY2, jt_M_pealAt_0, jt_M_swimmerAt_0, Nat.add_zero, h1, jM_inY, e0, h2, e1, h3, h4, hm]
    · have hN := cSignN hC.1 hI.1 h
      refine jOp_q (v := .int (-1)) hC hM hI ⟨σ, by simp (disch := omega) only [jb_K_n, jb_K_v, ↓reduceIte, jT_lt, jF_lt, jT_le, jF_le, jT_eq, jF_eq, jT_z, jF_z, jF_neg, jT_nn, jT_pos, jF_pos, jT_le0, jF_le0, jT_x, jF_m1, jF_m1r, jT_tt, jI_add, jI_mul, jI_sub, jI_cl, jm_up_same, jm_up_o, jm_up_j, jbR_T, jbR_F, jt_D_hears_0, jt_D_hears_14, jt_D_hears_31, jt_D_hears_55, jt_D_hears_82, jt_D_hears_85, sY, hN], jcS.rf⟩ (fun τ hτ => ⟨τ, ?_, jmS.rf⟩)
      have sY2 := jM_swimY (σ := τ) (hτ.1 1 (by omega)) hi (by omega)
      by_cases hx : jlt x (S 0 2)
      · obtain ⟨p, hp, rfl⟩ := hx
        obtain ⟨n1, n12, n5⟩ := jp_n hI.1 hp
        have hY2 := jM_pealY (σ := τ) (hτ.1 2 (by omega)) hp (by omega)
        have h1 : τ 308 (81 + 13 * p) = jI (jpz (S 0) p) := hτ.1 _ (by omega)
        have hb : ¬ jbt y 0 (jpz (S 0) p - 1) := fun ⟨j, z1, z2, z3⟩ => h ⟨p, j, hp, by omega, rfl, z3⟩
        simp (disch := omega) only [jb_K_n, jb_K_v, ↓reduceIte, jT_lt, jF_lt, jT_le, jF_le, jT_eq, jF_eq, jT_z, jF_z, jF_neg, jT_nn, jT_pos, jF_pos, jT_le0, jF_le0, jT_x, jF_m1, jF_m1r, jT_tt, jI_add, jI_mul, jI_sub, jI_cl, jm_up_same, jm_up_o, jm_up_j, jbR_T, jbR_F, jt_M_hears_0, jt_M_hears_5, jt_M_hears_13, jt_M_hears_26, jt_M_hears_34, jt_M_hears_59, jt_M_hears_70, jt_M_hears_96, sY2, hY2, jt_M_pealAt_0, Nat.add_zero, h1, jM_inN hb]
      · have hN2 := jM_pealN (σ := τ) (hτ.1 2 (by omega)) hx (by omega)
        simp (disch := omega) only [jb_K_n, jb_K_v, ↓reduceIte, jT_lt, jF_lt, jT_le, jF_le, jT_eq, jF_eq, jT_z, jF_z, jF_neg, jT_nn, jT_pos, jF_pos, jT_le0, jF_le0, jT_x, jF_m1, jF_m1r, jT_tt, jI_add, jI_mul, jI_sub, jI_cl, jm_up_same, jm_up_o, jm_up_j, jbR_T, jbR_F, jt_M_hears_0, jt_M_hears_5, jt_M_hears_13, jt_M_hears_26, jt_M_hears_34, jt_M_hears_59, jt_M_hears_70, jt_M_hears_96, sY2, hN2]
  · refine jOp_q (v := .int (-1)) hC hM hI ⟨σ, ?_, jcS.rf⟩ (fun τ hτ => ⟨τ, ?_, jmS.rf⟩)
    · have sN := jR_hasN hC.1.s.1 hs
      simp (disch := omega) only [jb_K_n, jb_K_v, ↓reduceIte, jT_lt, jF_lt, jT_le, jF_le, jT_eq, jF_eq, jT_z, jF_z, jF_neg, jT_nn, jT_pos, jF_pos, jT_le0, jF_le0, jT_x, jF_m1, jF_m1r, jT_tt, jI_add, jI_mul, jI_sub, jI_cl, jm_up_same, jm_up_o, jm_up_j, jbR_T, jbR_F, jt_D_hears_0, jt_D_hears_14, jt_D_hears_31, jt_D_hears_55, jt_D_hears_82, jt_D_hears_85, sN]
    · have sN := jM_swimN (σ := τ) (hτ.1 1 (by omega)) hs (by omega)
      simp (disch := omega) only [jb_K_n, jb_K_v, ↓reduceIte, jT_lt, jF_lt, jT_le, jF_le, jT_eq, jF_eq, jT_z, jF_z, jF_neg, jT_nn, jT_pos, jF_pos, jT_le0, jF_le0, jT_x, jF_m1, jF_m1r, jT_tt, jI_add, jI_mul, jI_sub, jI_cl, jm_up_same, jm_up_o, jm_up_j, jbR_T, jbR_F, jt_M_hears_0, jt_M_hears_5, jt_M_hears_13, jt_M_hears_26, jt_M_hears_34, jt_M_hears_59, jt_M_hears_70, jt_M_hears_96, sN]
/-! echoes -/
def jec (f : Nat → Nat) (b j : Nat) : Nat := if f j = 5 ∧ b ≤ j then f (j - b) else f j
theorem cEchoL {b n : Nat} (h : jRn σ 297 n f) (hf : ∀ j, j < n → f j ≤ 5) (hn : n ≤ 12) (hb : b < 100) (x1 : Int32) : ∀ (m k : Nat) (τ : jm_S), k + m = n → jRn τ 301 k (jec f b) → jF 301 σ τ → ∃ σ', jb_Ex 176 (54, [.ref (0 : Nat), .int x1, .int (jI b), .int (jI k)], [], jm_hp τ) = jb_Ex 176 (54, [.ref (0 : Nat), .int x1, .int (jI b), .int (jI n)], [], jm_hp σ') ∧ jRn σ' 301 n (jec f b) ∧ jF 301 σ σ'
  | 0, k, τ, hm, h1, h2 => by
    obtain rfl : k = n := by omega
    exact ⟨τ, rfl, h1, h2⟩
  | m + 1, k, τ, hm, h1, h2 => by
    have h' := h.fr h2 (by omega)
    have hat := jRn_at h' (show k < n by omega)
    have h5 := hf k (by omega)
    have hca : k < jm_ln (301 + 1) := by rw [show (301 : Nat) + 1 = 302 from rfl, jn_302]; omega
    have hadd := jR_add h1 hca (jI (jec f b k))
    obtain ⟨σ', g1, g2, g3⟩ := cEchoL h hf hn hb x1 m (k + 1) _ (by omega) ((jRn_add h1 hca (jec f b k)).congr rfl (fun j hj => by
      by_cases e : j = k
      · rw [jn0_e e, e]
      · rw [jn0_o e])) (h2.tr (jF_add _ _ _))
    refine ⟨σ', ?_, g2, g3⟩
    have hec : jb_Ev 77 [.ref (0 : Nat), .int (jI k), .int (jI b)] (jm_hp τ) = some (some (.int (jI (jec f b k))), jm_hp τ) := by
      unfold jec
      by_cases e : f k = 5
      · by_cases e2 : b ≤ k
        · have hat2 := jRn_at h' (show k - b < n by omega)
          rw [if_pos ⟨e, e2⟩]
          rw [e] at hat
          simp (disch := omega) only [jb_K_n, jb_K_v, ↓reduceIte, jT_lt, jF_lt, jT_le, jF_le, jT_eq, jF_eq, jT_z, jF_z, jF_neg, jT_nn, jT_pos, jF_pos, jT_le0, jF_le0, jT_x, jF_m1, jF_m1r, jT_tt, jI_add, jI_mul, jI_sub, jI_cl, jm_up_same, jm_up_o, jm_up_j, jbR_T, jbR_F, jt_D_echoAt_0, jt_D_echoAt_8, jt_D_echoAt_31, hat, hat2]
        · rw [if_neg (fun z => e2 z.2)]
          rw [e] at hat ⊢
          simp (disch := omega) only [jb_K_n, jb_K_v, ↓reduceIte, jT_lt, jF_lt, jT_le, jF_le, jT_eq, jF_eq, jT_z, jF_z, jF_neg, jT_nn, jT_pos, jF_pos, jT_le0, jF_le0, jT_x, jF_m1, jF_m1r, jT_tt, jI_add, jI_mul, jI_sub, jI_cl, jm_up_same, jm_up_o, jm_up_j, jbR_T, jbR_F, jt_D_echoAt_0, jt_D_echoAt_8, jt_D_echoAt_31, hat]
      · rw [if_neg (fun z => e z.1)]
        simp (disch := omega) only [jb_K_n, jb_K_v, ↓reduceIte, jT_lt, jF_lt, jT_le, jF_le, jT_eq, jF_eq, jT_z, jF_z, jF_neg, jT_nn, jT_pos, jF_pos, jT_le0, jF_le0, jT_x, jF_m1, jF_m1r, jT_tt, jI_add, jI_mul, jI_sub, jI_cl, jm_up_same, jm_up_o, jm_up_j, jbR_T, jbR_F, jt_D_echoAt_0, jt_D_echoAt_8, jt_D_echoAt_31, hat]
    rw [← g1, jt_D_echoes_54]
    simp (disch := omega) only [jb_K_n, jb_K_v, ↓reduceIte, jT_lt, jF_lt, jT_le, jF_le, jT_eq, jF_eq, jT_z, jF_z, jF_neg, jT_nn, jT_pos, jF_pos, jT_le0, jF_le0, jT_x, jF_m1, jF_m1r, jT_tt, jI_add, jI_mul, jI_sub, jI_cl, jm_up_same, jm_up_o, jm_up_j, jbR_T, jbR_F, jR_size h', jt_D_echoes_62, hec, jt_D_echoes_75, hadd, jt_D_echoes_78]
theorem mEchoL {b n : Nat} (hb : 1 ≤ b) (hb2 : b ≤ 12) (hf : ∀ j, j < n → f j ≤ 5) (hn : n ≤ 12) (h20 : σ 307 20 = jI n) (x1 : Int32) : ∀ (m : Nat) (τ : jm_S), m ≤ n → jAr τ 315 n (fun j => if m ≤ j then jec f b j else f j) → (∀ q j, q ≠ 315 → τ q j = σ q j) → ∃ τ' y, jb_Ex 195 (45, [.ref (307 : Nat), .int x1, .int (jI b), .int (jI m + -1)], [], jm_hp τ) = jb_K (jb_Ev 151 [.ref (307 : Nat)] (jm_hp τ')) (fun v h => jb_Ex 195 (93, [.ref (307 : Nat), .int x1, .int (jI b), .int y], v.toList ++ [], h)) ∧ jAr τ' 315 n (jec f b) ∧ (∀ q j, q ≠ 315 → τ' q j = σ q j)
  | 0, τ, hm, h1, h2 => by
    refine ⟨τ, jI 0 + -1, ?_, h1.congr (fun j hj => if_pos (Nat.zero_le _)), h2⟩
    rw [jt_M_echoes_45, if_pos (jI_ltneg' (by omega) (by decide))]
  | m + 1, τ, hm, h1, h2 => by
    have ed : jI (m + 1) + (-1 : Int32) = jI m := jI_dec (by omega)
    rw [ed]
    by_cases c : m < b
    · refine ⟨τ, jI m, ?_, h1.congr (fun j hj => ?_), h2⟩
      · rw [jt_M_echoes_45, if_pos (by rw [jI_lt (by omega) (by omega)]; exact c)]
      · by_cases z : m + 1 ≤ j
        · rw [if_pos z]
        · rw [if_neg z]
          unfold jec
          rw [if_neg (by omega)]
    · have hr := h1 m (by omega)
      have hr2 := h1 (m - b) (by omega)
      dsimp only at hr hr2
      rw [if_neg (by omega)] at hr hr2
      have h5 := hf m (by omega)
      by_cases e : f m = 5
      · obtain ⟨τ', y, g1, g2, g3⟩ := mEchoL hb hb2 hf hn h20 x1 m (jm_up τ 315 m (jI (f (m - b)))) (by omega) ((h1.up m (f (m - b))).congr (fun j hj => by
          by_cases z : j = m
          · rw [jn0_e z, if_pos (by omega), z]
            unfold jec
            rw [if_pos ⟨e, by omega⟩]
          · rw [jn0_o z]
            by_cases z2 : m + 1 ≤ j
            · rw [if_pos z2, if_pos (by omega)]
            · rw [if_neg z2, if_neg (by omega)])) (fun q j z => (jm_up_o _ _ z).trans (h2 q j z))
        refine ⟨τ', y, ?_, g2, g3⟩
        rw [e] at hr
        rw [← g1, jt_M_echoes_45]
        simp (disch := omega) only [jb_K_n, jb_K_v, ↓reduceIte, jT_lt, jF_lt, jT_le, jF_le, jT_eq, jF_eq, jT_z, jF_z, jF_neg, jT_nn, jT_pos, jF_pos, jT_le0, jF_le0, jT_x, jF_m1, jF_m1r, jT_tt, jI_add, jI_mul, jI_sub, jI_cl, jm_up_same, jm_up_o, jm_up_j, jbR_T, jbR_F, hr, hr2]
      · obtain ⟨τ', y, g1, g2, g3⟩ := mEchoL hb hb2 hf hn h20 x1 m (jm_up τ 315 m (jI (f m))) (by omega) ((h1.up m (f m)).congr (fun j hj => by
          by_cases z : j = m
          · rw [jn0_e z, if_pos (by omega), z]
            unfold jec
            rw [if_neg (fun q => e q.1)]
          · rw [jn0_o z]
            by_cases z2 : m + 1 ≤ j
            · rw [if_pos z2, if_pos (by omega)]
            · rw [if_neg z2, if_neg (by omega)])) (fun q j z => (jm_up_o _ _ z).trans (h2 q j z))
        refine ⟨τ', y, ?_, g2, g3⟩
        rw [← g1, jt_M_echoes_45]
        simp (disch := omega) only [jb_K_n, jb_K_v, ↓reduceIte, jT_lt, jF_lt, jT_le, jF_le, jT_eq, jF_eq, jT_z, jF_z, jF_neg, jT_nn, jT_pos, jF_pos, jT_le0, jF_le0, jT_x, jF_m1, jF_m1r, jT_tt, jI_add, jI_mul, jI_sub, jI_cl, jm_up_same, jm_up_o, jm_up_j, jbR_T, jbR_F, hr]
theorem o_echoes (hC : JC σ S) (hM : JM σ S) (hI : JI S) (x y : Int32) : jOp σ 176 195 [.int x, .int y] := by
  have b2 := hI.1.b2
  by_cases hx : jlt x (S 0 2)
  · obtain ⟨p, hp, rfl⟩ := hx
    obtain ⟨n1, n12, n5⟩ := jp_n hI.1 hp
    have hY := cHasY hC.1 hp
    by_cases hy : jbt y 1 12
    · obtain ⟨b, hb1, hb12, rfl⟩ := hy
      have he5 : ∀ j, j < jpz (S 0) p → jec (jpf (S 0) p) b j ≤ 5 := fun j hj => by
        unfold jec
        split
        · exact n5 _ (by omega)
        · exact n5 _ hj
      obtain ⟨σ1, e1, r1, f1⟩ := cCopy hC.1 hI.1 hp jc_297 (by rw [show (297 : Nat) + 1 = 298 from rfl, jn_298]; omega) (by omega)
      have f2 : jF 301 σ1 (jm_up σ1 301 1 (jI 0)) := jF_clear _
      have hcl : jb_Ev 13 [.ref (301 : Nat)] (jm_hp σ1) = some (none, jm_hp (jm_up σ1 301 1 (jI 0))) := jt_Row_clear_0 jc_301
      obtain ⟨σ3, e3, r3, f3⟩ := cEchoL (b := b) r1 n5 n12 (by omega) (jI p) (jpz (S 0) p) 0 (jm_up σ1 301 1 (jI 0)) (Nat.zero_add _) ⟨jc_301, Nat.zero_le _, jm_up_same _ _ _ _, fun k hk => absurd hk (Nat.not_lt_zero _)⟩ f2
      have fA : jA 297 303 σ σ3 := (f1.A (by omega) (by omega)).tr (f3.A (by omega) (by omega))
      obtain ⟨σ4, e4, f4⟩ := cForw (hC.1.A fA (by omega)) hI.1 r3 (by omega) he5 (by omega)
      have hs3 := jR_size (r1.fr f3 (by omega))
      refine jOp_q (v := .int (jI (jcap (jP (S 0) (jpz (S 0) p) (jec (jpf (S 0) p) b))))) hC hM hI ⟨σ4, ?_, (fA.cS (by omega)).tr (f4.cS (by omega))⟩ (fun τ hτ => ?_)
      · have e5 : jb_Ex 176 (54, [.ref (0 : Nat), .int (jI p), .int (jI b), .int (jI (jpz (S 0) p))], [], jm_hp σ3) = some (some (.int (jI (jcap (jP (S 0) (jpz (S 0) p) (jec (jpf (S 0) p) b))))), jm_hp σ4) := by
          rw [jt_D_echoes_54]
          simp (disch := omega) only [jb_K_n, jb_K_v, ↓reduceIte, jT_lt, jF_lt, jT_le, jF_le, jT_eq, jF_eq, jT_z, jF_z, jF_neg, jT_nn, jT_pos, jF_pos, jT_le0, jF_le0, jT_x, jF_m1, jF_m1r, jT_tt, jI_add, jI_mul, jI_sub, jI_cl, jm_up_same, jm_up_o, jm_up_j, jbR_T, jbR_F, hs3, jt_D_echoes_62, e4, jt_D_echoes_102]
        rw [e5] at e3
        simp (disch := omega) only [jb_K_n, jb_K_v, ↓reduceIte, jT_lt, jF_lt, jT_le, jF_le, jT_eq, jF_eq, jT_z, jF_z, jF_neg, jT_nn, jT_pos, jF_pos, jT_le0, jF_le0, jT_x, jF_m1, jF_m1r, jT_tt, jI_add, jI_mul, jI_sub, jI_cl, jm_up_same, jm_up_o, jm_up_j, jbR_T, jbR_F, jt_D_echoes_0, hY, jt_D_echoes_11, e1, jt_D_echoes_45, hcl, jt_D_echoes_52, e3]
      · obtain ⟨τ1, g1, g2, g3⟩ := mPeal hτ.1 hI.1 hp
        have hY2 := jM_pealY (σ := τ) (hτ.1 2 (by omega)) hp (by omega)
        obtain ⟨τ2, yy, k1, k2, k3⟩ := mEchoL (σ := τ1) hb1 hb12 n5 n12 g2.2.1 (jI p) (jpz (S 0) p) τ1 (Nat.le_refl _) (g2.2.2.congr (fun j hj => by rw [if_neg (by omega)])) (fun _ _ _ => rfl)
        have hMw : jMw τ2 (S 0) (jpz (S 0) p) (jec (jpf (S 0) p) b) := ⟨fun j hj => (k3 _ _ (by omega)).trans (g2.1 j hj), (k3 _ _ (by omega)).trans g2.2.1, k2⟩
        obtain ⟨τ3, k4, k5, -⟩ := mParses hI.1 hMw he5 (by omega)
        have ed : (jI (jpz (S 0) p) - jI 1 : Int32) = jI (jpz (S 0) p) + -1 := by rw [jI_dec (by omega), jI_sub (by omega)]
        refine ⟨τ3, ?_, (g3.ms.tr (fun q j z => k3 q j (by omega))).tr k5.ms⟩
        rw [k4, jb_K_v, jt_M_echoes_93, ← ed, jI_sub (by omega)] at k1
        simp (disch := omega) only [jb_K_n, jb_K_v, ↓reduceIte, jT_lt, jF_lt, jT_le, jF_le, jT_eq, jF_eq, jT_z, jF_z, jF_neg, jT_nn, jT_pos, jF_pos, jT_le0, jF_le0, jT_x, jF_m1, jF_m1r, jT_tt, jI_add, jI_mul, jI_sub, jI_cl, jm_up_same, jm_up_o, jm_up_j, jbR_T, jbR_F, jt_M_echoes_0, hY2, jt_M_echoes_5, jM_inY, jt_M_echoes_15, g1, jt_M_echoes_38, g2.2.1, k1]
    · refine jOp_q (v := .int (-2)) hC hM hI ⟨σ, ?_, jcS.rf⟩ (fun τ hτ => ⟨τ, ?_, jmS.rf⟩)
      · rcases jI_cases y with z | ⟨a, z, rfl⟩
        · have z1 := jI_ltneg' (a := 1) (by omega) z
          simp (disch := omega) only [jb_K_n, jb_K_v, ↓reduceIte, jT_lt, jF_lt, jT_le, jF_le, jT_eq, jF_eq, jT_z, jF_z, jF_neg, jT_nn, jT_pos, jF_pos, jT_le0, jF_le0, jT_x, jF_m1, jF_m1r, jT_tt, jI_add, jI_mul, jI_sub, jI_cl, jm_up_same, jm_up_o, jm_up_j, jbR_T, jbR_F, jt_D_echoes_0, hY, jt_D_echoes_11, z1]
        · by_cases z1 : a < 1
          · simp (disch := omega) only [jb_K_n, jb_K_v, ↓reduceIte, jT_lt, jF_lt, jT_le, jF_le, jT_eq, jF_eq, jT_z, jF_z, jF_neg, jT_nn, jT_pos, jF_pos, jT_le0, jF_le0, jT_x, jF_m1, jF_m1r, jT_tt, jI_add, jI_mul, jI_sub, jI_cl, jm_up_same, jm_up_o, jm_up_j, jbR_T, jbR_F, jt_D_echoes_0, hY, jt_D_echoes_11]
          · have z2 : 12 < a := by
              rcases Nat.lt_or_ge 12 a with q | q
              · exact q
              · exact absurd ⟨a, by omega, q, rfl⟩ hy
            simp (disch := omega) only [jb_K_n, jb_K_v, ↓reduceIte, jT_lt, jF_lt, jT_le, jF_le, jT_eq, jF_eq, jT_z, jF_z, jF_neg, jT_nn, jT_pos, jF_pos, jT_le0, jF_le0, jT_x, jF_m1, jF_m1r, jT_tt, jI_add, jI_mul, jI_sub, jI_cl, jm_up_same, jm_up_o, jm_up_j, jbR_T, jbR_F, jt_D_echoes_0, hY, jt_D_echoes_11]
      · have hY2 := jM_pealY (σ := τ) (hτ.1 2 (by omega)) hp (by omega)
        simp (disch := omega) only [jb_K_n, jb_K_v, ↓reduceIte, jT_lt, jF_lt, jT_le, jF_le, jT_eq, jF_eq, jT_z, jF_z, jF_neg, jT_nn, jT_pos, jF_pos, jT_le0, jF_le0, jT_x, jF_m1, jF_m1r, jT_tt, jI_add, jI_mul, jI_sub, jI_cl, jm_up_same, jm_up_o, jm_up_j, jbR_T, jbR_F, jt_M_echoes_0, hY2, jt_M_echoes_5, jM_inN hy, jt_M_echoes_15, jt_M_echoes_23]
  · refine jOp_q (v := .int (-1)) hC hM hI ⟨σ, ?_, jcS.rf⟩ (fun τ hτ => ⟨τ, ?_, jmS.rf⟩)
    · have hN := cHasN hC.1 hx
      simp (disch := omega) only [jb_K_n, jb_K_v, ↓reduceIte, jT_lt, jF_lt, jT_le, jF_le, jT_eq, jF_eq, jT_z, jF_z, jF_neg, jT_nn, jT_pos, jF_pos, jT_le0, jF_le0, jT_x, jF_m1, jF_m1r, jT_tt, jI_add, jI_mul, jI_sub, jI_cl, jm_up_same, jm_up_o, jm_up_j, jbR_T, jbR_F, jt_D_echoes_0, hN, jt_D_echoes_11]
    · have hN := jM_pealN (σ := τ) (hτ.1 2 (by omega)) hx (by omega)
      simp (disch := omega) only [jb_K_n, jb_K_v, ↓reduceIte, jT_lt, jF_lt, jT_le, jF_le, jT_eq, jF_eq, jT_z, jF_z, jF_neg, jT_nn, jT_pos, jF_pos, jT_le0, jF_le0, jT_x, jF_m1, jF_m1r, jT_tt, jI_add, jI_mul, jI_sub, jI_cl, jm_up_same, jm_up_o, jm_up_j, jbR_T, jbR_F, jt_M_echoes_0, hN, jt_M_echoes_5, jt_M_echoes_23]
end SD
