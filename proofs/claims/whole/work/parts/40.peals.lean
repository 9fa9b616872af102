/-! ===== peals that are kept; what is heard ===== -/
theorem jn_298 : jm_ln 298 = 12 := by decide +kernel
def jpz (w : Nat → Nat) (p : Nat) : Nat := w (81 + 13 * p)
def jpf (w : Nat → Nat) (p : Nat) : Nat → Nat := fun j => w (82 + 13 * p + j)
def jhr (w : Nat → Nat) (d r s : Nat) : Nat := if s < 5 ∧ w (6 + 3 * s) ≤ d + r ∧ d ≤ w (6 + 3 * s) + r then s else 5
theorem jhr_le (w : Nat → Nat) (d r : Nat) {s : Nat} (h : s ≤ 5) : jhr w d r s ≤ 5 := by
  unfold jhr
  split <;> omega
theorem jabs : ∀ a, a < 10 → ∀ d, d < 10 → (if 0 ≤ jI a - jI d then jI a - jI d else 0 - (jI a - jI d)) = jI (if d ≤ a then a - d else d - a) := by decide +kernel
section PE
variable {σ : jm_S} {w f : Nat → Nat} {n : Nat} {S : jSt}
theorem jp_n (hw : jInv w) {p : Nat} (hp : p < w 2) : 1 ≤ jpz w p ∧ jpz w p ≤ 12 ∧ ∀ j, j < jpz w p → jpf w p j ≤ 5 := hw.2.2.2.2 p hp
theorem cHasY (hV : jV σ 1 w) {p : Nat} (hp : p < w 2) : jb_Ev 76 [.ref (21 : Nat), .int (jI p)] (jm_hp σ) = some (some (.int (jI 1)), jm_hp σ) := by
  obtain ⟨g, h1, -⟩ := hV.p
  simp (disch := omega) only [jb_K_n, jb_K_v, ↓reduceIte, jT_lt, jF_lt, jT_le, jF_le, jT_eq, jF_eq, jT_z, jF_z, jF_neg, jT_nn, jT_pos, jF_pos, jT_le0, jF_le0, jT_x, jF_m1, jF_m1r, jT_tt, jI_add, jI_mul, jI_sub, jI_cl, jm_up_same, jm_up_o, jm_up_j, jbR_T, jbR_F, jt_Peals_has_0, jt_Peals_has_8, jR_hasY h1 hp]
theorem cHasN (hV : jV σ 1 w) {x : Int32} (hx : ¬ jlt x (w 2)) : jb_Ev 76 [.ref (21 : Nat), .int x] (jm_hp σ) = some (some (.int (jI 0)), jm_hp σ) := by
  obtain ⟨g, h1, -⟩ := hV.p
  simp (disch := omega) only [jb_K_n, jb_K_v, ↓reduceIte, jT_lt, jF_lt, jT_le, jF_le, jT_eq, jF_eq, jT_z, jF_z, jF_neg, jT_nn, jT_pos, jF_pos, jT_le0, jF_le0, jT_x, jF_m1, jF_m1r, jT_tt, jI_add, jI_mul, jI_sub, jI_cl, jm_up_same, jm_up_o, jm_up_j, jbR_T, jbR_F, jt_Peals_has_0, jt_Peals_has_8, jR_hasN h1 hx]
theorem cSignY (hV : jV σ 1 w) (hw : jInv w) {p j : Nat} (hp : p < w 2) (hj : j < jpz w p) : jb_Ev 70 [.ref (21 : Nat), .int (jI p), .int (jI j)] (jm_hp σ) = some (some (.int (jI (jpf w p j))), jm_hp σ) := by
  obtain ⟨g, h1, h2, h3⟩ := hV.p
  have b2 := hw.b2
  obtain ⟨n1, n12, -⟩ := jp_n hw hp
  have hz : jb_Ev 6 [.ref (22 : Nat), .int (jI p)] (jm_hp σ) = some (some (.int (jI (jpz w p))), jm_hp σ) := hV.pz hp
  have hat := jRn_at h2 (show p * 12 + j < 60 by omega)
  have hg := h3 p j hp hj
  rw [show 12 * p + j = p * 12 + j by omega] at hg
  rw [hg] at hat
  have hat' : jb_Ev 6 [.ref (24 : Nat), .int (jI (p * 12 + j))] (jm_hp σ) = some (some (.int (jI (jpf w p j))), jm_hp σ) := hat
  simp (disch := omega) only [jb_K_n, jb_K_v, ↓reduceIte, jT_lt, jF_lt, jT_le, jF_le, jT_eq, jF_eq, jT_z, jF_z, jF_neg, jT_nn, jT_pos, jF_pos, jT_le0, jF_le0, jT_x, jF_m1, jF_m1r, jT_tt, jI_add, jI_mul, jI_sub, jI_cl, jm_up_same, jm_up_o, jm_up_j, jbR_T, jbR_F, jt_Peals_signAt_0, jt_Peals_signAt_8, jt_Peals_signAt_24, jt_Peals_signAt_42, jR_hasY h1 hp, hz, hat']
theorem cSignN (hV : jV σ 1 w) (hw : jInv w) {x y : Int32} (h : ¬ ∃ p j, p < w 2 ∧ j < jpz w p ∧ x = jI p ∧ y = jI j) : jb_Ev 70 [.ref (21 : Nat), .int x, .int y] (jm_hp σ) = some (some (.int (-1)), jm_hp σ) := by
  obtain ⟨g, h1, h2, h3⟩ := hV.p
  have b2 := hw.b2
  by_cases hx : jlt x (w 2)
  · obtain ⟨p, hp, rfl⟩ := hx
    obtain ⟨n1, n12, -⟩ := jp_n hw hp
    have hz : jb_Ev 6 [.ref (22 : Nat), .int (jI p)] (jm_hp σ) = some (some (.int (jI (jpz w p))), jm_hp σ) := hV.pz hp
    rcases jI_cases y with z | ⟨a, z, rfl⟩
    · simp (disch := omega) only [jb_K_n, jb_K_v, ↓reduceIte, jT_lt, jF_lt, jT_le, jF_le, jT_eq, jF_eq, jT_z, jF_z, jF_neg, jT_nn, jT_pos, jF_pos, jT_le0, jF_le0, jT_x, jF_m1, jF_m1r, jT_tt, jI_add, jI_mul, jI_sub, jI_cl, jm_up_same, jm_up_o, jm_up_j, jbR_T, jbR_F, jt_Peals_signAt_0, jt_Peals_signAt_8, jt_Peals_signAt_24, jt_Peals_signAt_42, jR_hasY h1 hp, z]
    · have ha : jpz w p ≤ a := by
        rcases Nat.lt_or_ge a (jpz w p) with q | q
        · exact absurd ⟨p, a, hp, q, rfl, rfl⟩ h
        · exact q
      simp (disch := omega) only [jb_K_n, jb_K_v, ↓reduceIte, jT_lt, jF_lt, jT_le, jF_le, jT_eq, jF_eq, jT_z, jF_z, jF_neg, jT_nn, jT_pos, jF_pos, jT_le0, jF_le0, jT_x, jF_m1, jF_m1r, jT_tt, jI_add, jI_mul, jI_sub, jI_cl, jm_up_same, jm_up_o, jm_up_j, jbR_T, jbR_F, jt_Peals_signAt_0, jt_Peals_signAt_8, jt_Peals_signAt_24, jt_Peals_signAt_42, jR_hasY h1 hp, hz]
  · simp (disch := omega) only [jb_K_n, jb_K_v, ↓reduceIte, jT_lt, jF_lt, jT_le, jF_le, jT_eq, jF_eq, jT_z, jF_z, jF_neg, jT_nn, jT_pos, jF_pos, jT_le0, jF_le0, jT_x, jF_m1, jF_m1r, jT_tt, jI_add, jI_mul, jI_sub, jI_cl, jm_up_same, jm_up_o, jm_up_j, jbR_T, jbR_F, jt_Peals_signAt_0, jt_Peals_signAt_8, jt_Peals_signAt_24, jt_Peals_signAt_42, jR_hasN h1 hx]
theorem cCopyL {r p : Nat} (hV : jV σ 1 w) (hw : jInv w) (hp : p < w 2) (hc : jm_c r = 6) (hl : 12 ≤ jm_ln (r + 1)) (hr : 26 ≤ r) : ∀ (m k : Nat) (τ : jm_S), k + m = jpz w p → jRn τ r k (jpf w p) → jF r σ τ → ∃ σ', jb_Ex 133 (6, [.ref (21 : Nat), .int (jI p), .ref r, .int (jI k)], [], jm_hp τ) = some (none, jm_hp σ') ∧ jRn σ' r (jpz w p) (jpf w p) ∧ jF r σ σ'
  | 0, k, τ, hm, h1, h2 => by
    obtain ⟨n1, n12, -⟩ := jp_n hw hp
    obtain rfl : k = jpz w p := by omega
    have hV' := hV.A (h2.A (a := 26) (b := r + 2) (by omega) (by omega)) (by omega)
    have hz : jb_Ev 6 [.ref (22 : Nat), .int (jI p)] (jm_hp τ) = some (some (.int (jI (jpz w p))), jm_hp τ) := hV'.pz hp
    refine ⟨τ, ?_, h1, h2⟩
    rw [jt_Peals_copyTo_6 hc, hz, jb_K_v, jt_Peals_copyTo_15 hc, if_pos (by rw [jI_le (by omega) (by omega)]; omega)]
  | m + 1, k, τ, hm, h1, h2 => by
    obtain ⟨n1, n12, -⟩ := jp_n hw hp
    have hV' := hV.A (h2.A (a := 26) (b := r + 2) (by omega) (by omega)) (by omega)
    have hz : jb_Ev 6 [.ref (22 : Nat), .int (jI p)] (jm_hp τ) = some (some (.int (jI (jpz w p))), jm_hp τ) := hV'.pz hp
    obtain ⟨σ', g1, g2, g3⟩ := cCopyL hV hw hp hc hl hr m (k + 1) _ (by omega) ((jRn_add h1 (by omega) (jpf w p k)).congr rfl (fun j hj => by
      by_cases e : j = k
      · rw [jn0_e e, e]
      · rw [jn0_o e])) (h2.tr (jF_add _ _ _))
    refine ⟨σ', ?_, g2, g3⟩
    rw [← g1, jt_Peals_copyTo_6 hc, hz, jb_K_v, jt_Peals_copyTo_15 hc, if_neg (by rw [jI_le (by omega) (by omega)]; omega), cSignY hV' hw hp (by omega), jb_K_v, jt_Peals_copyTo_25 hc, jR_add h1 (by omega), jb_K_n, jt_Peals_copyTo_28 hc, jI_add]
theorem cCopy {r p : Nat} (hV : jV σ 1 w) (hw : jInv w) (hp : p < w 2) (hc : jm_c r = 6) (hl : 12 ≤ jm_ln (r + 1)) (hr : 26 ≤ r) : ∃ σ', jb_Ev 133 [.ref (21 : Nat), .int (jI p), .ref r] (jm_hp σ) = some (none, jm_hp σ') ∧ jRn σ' r (jpz w p) (jpf w p) ∧ jF r σ σ' := by
  obtain ⟨σ', g1, g2, g3⟩ := cCopyL hV hw hp hc hl hr (jpz w p) 0 (jm_up σ r 1 (jI 0)) (Nat.zero_add _) ⟨hc, Nat.zero_le _, jm_up_same _ _ _ _, fun k hk => absurd hk (Nat.not_lt_zero _)⟩ (jF_clear _)
  refine ⟨σ', ?_, g2, g3⟩
  rw [jt_Peals_copyTo_0 hc, jt_Row_clear_0 hc, jb_K_n, jt_Peals_copyTo_4 hc, g1]
theorem cHear (hV : jV σ 1 w) (hw : jInv w) {s d r : Nat} (hs : s ≤ 5) (hd : d < 10) (hr : r < 10) : jb_Ev 68 [.ref (2 : Nat), .int (jI s), .int (jI d), .int (jI r)] (jm_hp σ) = some (some (.int (jI (jhr w d r s))), jm_hp σ) := by
  unfold jhr
  by_cases e : s < 5
  · have hb := hw.1.1 s e
    have hat := hV.bd e
    have ha := jabs (w (6 + 3 * s)) (by omega) d hd
    by_cases e2 : w (6 + 3 * s) ≤ d + r ∧ d ≤ w (6 + 3 * s) + r
    · rw [if_pos ⟨e, e2⟩, jt_Bells_heardAs_0, jR_hasY hV.b.1 e, jb_K_v, jt_Bells_heardAs_8, if_neg (by decide), hat, jb_K_v, jt_Bells_heardAs_19, ha, if_neg]
      rw [jI_lt (by omega) (by split <;> omega)]
      split <;> omega
    · rw [if_neg (fun z => e2 z.2), jt_Bells_heardAs_0, jR_hasY hV.b.1 e, jb_K_v, jt_Bells_heardAs_8, if_neg (by decide), hat, jb_K_v, jt_Bells_heardAs_19, ha, if_pos]
      rw [jI_lt (by omega) (by split <;> omega)]
      split <;> omega
  · rw [if_neg (fun z => e z.1)]
    have hN := jR_hasN hV.b.1 (x := jI s) (fun ⟨j, z1, z2⟩ => by have := (jI_eq (by omega) (by omega)).mp z2; omega)
    simp (disch := omega) only [jb_K_n, jb_K_v, ↓reduceIte, jT_lt, jF_lt, jT_le, jF_le, jT_eq, jF_eq, jT_z, jF_z, jF_neg, jT_nn, jT_pos, jF_pos, jT_le0, jF_le0, jT_x, jF_m1, jF_m1r, jT_tt, jI_add, jI_mul, jI_sub, jI_cl, jm_up_same, jm_up_o, jm_up_j, jbR_T, jbR_F, jt_Bells_heardAs_0, jt_Bells_heardAs_8, jt_Bells_heardAs_19, hN]
theorem mHear (hA : jAr σ 308 146 w) (hw : jInv w) {s d r : Nat} (hs : s ≤ 5) (hd : d < 10) (hr : r < 10) : jb_Ev 110 [.ref (307 : Nat), .int (jI d), .int (jI r), .int (jI s)] (jm_hp σ) = some (some (.int (if s < 5 ∧ w (6 + 3 * s) ≤ d + r ∧ d ≤ w (6 + 3 * s) + r then jI 1 else jI 0)), jm_hp σ) := by
  by_cases e : s < 5
  · have hb := hw.1.1 s e
    have ha := jabs d hd (w (6 + 3 * s)) (by omega)
    have h1 := hA (6 + 3 * s) (by omega)
    have key : jb_Ev 110 [.ref (307 : Nat), .int (jI d), .int (jI r), .int (jI s)] (jm_hp σ) = (if jI r < (if 0 ≤ (jI d - jI (w (6 + 3 * s))) then (jI d - jI (w (6 + 3 * s))) else 0 - (jI d - jI (w (6 + 3 * s)))) then some (some (.int (jI 0)), jm_hp σ) else some (some (.int (jI 1)), jm_hp σ)) := by
      rw [jt_M_doesHear_0, if_neg (by rw [jI_eq (by omega) (by omega)]; omega), jt_M_bellAt_0, jb_K_v, jt_M_doesHear_14, jI_mul, jI_add, jI_add, if_pos ((jx_I (by omega)).mpr (by omega))]
      simp only [Nat.add_zero, jI_cl (show 6 + 3 * s < 2147483648 by omega), h1]
    rw [key, ha]
    by_cases e2 : w (6 + 3 * s) ≤ d + r ∧ d ≤ w (6 + 3 * s) + r
    · rw [if_pos (show s < 5 ∧ w (6 + 3 * s) ≤ d + r ∧ d ≤ w (6 + 3 * s) + r from ⟨e, e2⟩), if_neg]
      rw [jI_lt (by omega) (by split <;> omega)]
      split <;> omega
    · rw [if_neg (show ¬ (s < 5 ∧ w (6 + 3 * s) ≤ d + r ∧ d ≤ w (6 + 3 * s) + r) from fun z => e2 z.2), if_pos]
      rw [jI_lt (by omega) (by split <;> omega)]
      split <;> omega
  · rw [if_neg (fun z => e z.1)]
    simp (disch := omega) only [jb_K_n, jb_K_v, ↓reduceIte, jT_lt, jF_lt, jT_le, jF_le, jT_eq, jF_eq, jT_z, jF_z, jF_neg, jT_nn, jT_pos, jF_pos, jT_le0, jF_le0, jT_x, jF_m1, jF_m1r, jT_tt, jI_add, jI_mul, jI_sub, jI_cl, jm_up_same, jm_up_o, jm_up_j, jbR_T, jbR_F, jt_M_doesHear_0, jt_M_doesHear_14]
/-- the plain form's row and its size alone -/
def jM5 (σ σ' : jm_S) : Prop := ∀ q j, q ≠ 315 → ¬ (q = 307 ∧ j = 20) → σ' q j = σ q j
theorem mPealL {p : Nat} (hA : jAr σ 308 146 w) (hw : jInv w) (hp : p < w 2) : ∀ (m k : Nat) (τ : jm_S), k + m = jpz w p → τ 307 20 = jI (jpz w p) → jAr τ 315 k (jpf w p) → jM5 σ τ → ∃ τ', jb_Ex 109 (17, [.ref (307 : Nat), .int (jI p), .int (jI k)], [], jm_hp τ) = some (none, jm_hp τ') ∧ τ' 307 20 = jI (jpz w p) ∧ jAr τ' 315 (jpz w p) (jpf w p) ∧ jM5 σ τ'
  | 0, k, τ, hm, h1, h2, h3 => by
    obtain ⟨n1, n12, -⟩ := jp_n hw hp
    obtain rfl : k = jpz w p := by omega
    refine ⟨τ, ?_, h1, h2, h3⟩
    rw [jt_M_takesPeal_17, h1, if_pos (by rw [jI_le (by omega) (by omega)]; omega)]
  | m + 1, k, τ, hm, h1, h2, h3 => by
    have b2 := hw.b2
    obtain ⟨n1, n12, -⟩ := jp_n hw hp
    have h4 : τ 308 (82 + 13 * p + k) = jI (jpf w p k) := (h3 308 _ (by omega) (by omega)).trans (hA _ (by omega))
    obtain ⟨τ', g1, g2⟩ := mPealL hA hw hp m (k + 1) (jm_up τ 315 k (jI (jpf w p k))) (by omega) (by rw [jm_up_o _ _ (by omega)]; exact h1) (fun j hj => by
      by_cases e : j = k
      · rw [e, jm_up_same]
      · rw [jm_up_j _ _ e]
        exact h2 j (by omega)) (fun q j z1 z2 => (jm_up_o _ _ z1).trans (h3 q j z1 z2))
    refine ⟨τ', ?_, g2⟩
    have e0 : 81 + 13 * p + 1 + k = 82 + 13 * p + k := by omega
    rw [← g1, jt_M_takesPeal_17, h1]
    simp (disch := omega) only [jb_K_n, jb_K_v, ↓reduceIte, jT_lt, jF_lt, jT_le, jF_le, jT_eq, jF_eq, jT_z, jF_z, jF_neg, jT_nn, jT_pos, jF_pos, jT_le0, jF_le0, jT_x, jF_m1, jF_m1r, jT_tt, jI_add, jI_mul, jI_sub, jI_cl, jm_up_same, jm_up_o, jm_up_j, jbR_T, jbR_F, jt_M_pealAt_0, jt_M_takesPeal_38, e0, h4]
theorem mPeal {p : Nat} (hA : jAr σ 308 146 w) (hw : jInv w) (hp : p < w 2) : ∃ σ', jb_Ev 109 [.ref (307 : Nat), .int (jI p)] (jm_hp σ) = some (none, jm_hp σ') ∧ jMw σ' w (jpz w p) (jpf w p) ∧ jM5 σ σ' := by
  have b2 := hw.b2
  obtain ⟨n1, n12, -⟩ := jp_n hw hp
  have h1 : σ 308 (81 + 13 * p) = jI (jpz w p) := hA _ (by omega)
  have h5 : jM5 σ (jm_up σ 307 20 (jI (jpz w p))) := fun q j z1 z2 => by
    by_cases e : q = 307
    · subst e
      exact jm_up_j _ _ (by omega)
    · exact jm_up_o _ _ e
  obtain ⟨τ', g1, g2, g3, g4⟩ := mPealL (σ := σ) hA hw hp (jpz w p) 0 (jm_up σ 307 20 (jI (jpz w p))) (Nat.zero_add _) (jm_up_same _ _ _ _) (fun j hj => absurd hj (Nat.not_lt_zero _)) h5
  refine ⟨τ', ?_, ⟨fun j hj => (g4 _ _ (by omega) (by omega)).trans (hA j hj), g2, g3⟩, g4⟩
  simp (disch := omega) only [jb_K_n, jb_K_v, ↓reduceIte, jT_lt, jF_lt, jT_le, jF_le, jT_eq, jF_eq, jT_z, jF_z, jF_neg, jT_nn, jT_pos, jF_pos, jT_le0, jF_le0, jT_x, jF_m1, jF_m1r, jT_tt, jI_add, jI_mul, jI_sub, jI_cl, jm_up_same, jm_up_o, jm_up_j, jbR_T, jbR_F, jt_M_takesPeal_0, jt_M_pealAt_0, jt_M_takesPeal_9, Nat.add_zero, h1, g1]
theorem jM5.ms {σ' : jm_S} (h : jM5 σ σ') : jmS σ σ' := fun q j z => h q j (by omega) (by omega)
theorem jM67.ms {σ' : jm_S} (h : jM67 σ σ') : jmS σ σ' := fun q j z => h q j (by omega) (by omega)
theorem jM8.ms {σ' : jm_S} (h : jM8 σ σ') : jmS σ σ' := fun q j z => h q j (by omega) (by omega) (by omega) (by omega)
theorem jF.cS {r : Nat} {σ' : jm_S} (h : jF r σ σ') (hr : 295 ≤ r) (hr2 : r + 1 < 307) : jcS σ σ' := fun q j z => h q j (by omega) (by omega)
/-! ===== parses, parsesAgain, draftParses, signOf ===== -/
theorem o_parses (hC : JC σ S) (hM : JM σ S) (hI : JI S) (x : Int32) : jOp σ 173 191 [.int x] := by
  have b2 := hI.1.b2
  by_cases hx : jlt x (S 0 2)
  · obtain ⟨p, hp, rfl⟩ := hx
    obtain ⟨n1, n12, n5⟩ := jp_n hI.1 hp
    obtain ⟨σ1, e1, r1, f1⟩ := cCopy hC.1 hI.1 hp jc_297 (by rw [show (297 : Nat) + 1 = 298 from rfl, jn_298]; omega) (by omega)
    obtain ⟨σ2, e2, f2⟩ := cForw (hC.1.A (f1.A (a := 297) (b := 299) (by omega) (by omega)) (by omega)) hI.1 r1 (by omega) n5 (by omega)
    have hY := cHasY hC.1 hp
    refine jOp_q (v := .int (jI (jcap (jP (S 0) (jpz (S 0) p) (jpf (S 0) p))))) hC hM hI ⟨σ2, ?_, (f1.cS (by omega) (by omega)).tr (f2.cS (by omega))⟩ (fun τ hτ => ?_)
    · simp (disch := omega) only [jb_K_n, jb_K_v, ↓reduceIte, jT_lt, jF_lt, jT_le, jF_le, jT_eq, jF_eq, jT_z, jF_z, jF_neg, jT_nn, jT_pos, jF_pos, jT_le0, jF_le0, jT_x, jF_m1, jF_m1r, jT_tt, jI_add, jI_mul, jI_sub, jI_cl, jm_up_same, jm_up_o, jm_up_j, jbR_T, jbR_F, jt_D_parses_0, jt_D_parses_11, jt_D_parses_31, jt_D_parses_49, hY, e1, e2]
    · obtain ⟨τ1, g1, g2, g3⟩ := mPeal hτ.1 hI.1 hp
      obtain ⟨τ2, g4, g5, -⟩ := mParses hI.1 g2 n5 (by omega)
      have hY2 := jM_pealY (σ := τ) (hτ.1 2 (by omega)) hp (by omega)
      exact ⟨τ2, by simp (disch := omega) only [jb_K_n, jb_K_v, ↓reduceIte, jT_lt, jF_lt, jT_le, jF_le, jT_eq, jF_eq, jT_z, jF_z, jF_neg, jT_nn, jT_pos, jF_pos, jT_le0, jF_le0, jT_x, jF_m1, jF_m1r, jT_tt, jI_add, jI_mul, jI_sub, jI_cl, jm_up_same, jm_up_o, jm_up_j, jbR_T, jbR_F, jt_M_parses_0, jt_M_parses_5, jt_M_parses_15, jt_M_parses_19, hY2, g1, g4], g3.ms.tr g5.ms⟩
  · refine jOp_q (v := .int (-1)) hC hM hI ⟨σ, ?_, jcS.rf⟩ (fun τ hτ => ⟨τ, ?_, jmS.rf⟩)
    · have hN := cHasN hC.1 hx
      simp (disch := omega) only [jb_K_n, jb_K_v, ↓reduceIte, jT_lt, jF_lt, jT_le, jF_le, jT_eq, jF_eq, jT_z, jF_z, jF_neg, jT_nn, jT_pos, jF_pos, jT_le0, jF_le0, jT_x, jF_m1, jF_m1r, jT_tt, jI_add, jI_mul, jI_sub, jI_cl, jm_up_same, jm_up_o, jm_up_j, jbR_T, jbR_F, jt_D_parses_0, jt_D_parses_11, jt_D_parses_31, jt_D_parses_49, hN]
    · have hN := jM_pealN (σ := τ) (hτ.1 2 (by omega)) hx (by omega)
      simp (disch := omega) only [jb_K_n, jb_K_v, ↓reduceIte, jT_lt, jF_lt, jT_le, jF_le, jT_eq, jF_eq, jT_z, jF_z, jF_neg, jT_nn, jT_pos, jF_pos, jT_le0, jF_le0, jT_x, jF_m1, jF_m1r, jT_tt, jI_add, jI_mul, jI_sub, jI_cl, jm_up_same, jm_up_o, jm_up_j, jbR_T, jbR_F, jt_M_parses_0, jt_M_parses_5, jt_M_parses_15, jt_M_parses_19, hN]
theorem o_parsesAgain (hC : JC σ S) (hM : JM σ S) (hI : JI S) (x : Int32) : jOp σ 174 192 [.int x] := by
  have b2 := hI.1.b2
  by_cases hx : jlt x (S 0 2)
  · obtain ⟨p, hp, rfl⟩ := hx
    obtain ⟨n1, n12, n5⟩ := jp_n hI.1 hp
    obtain ⟨σ1, e1, r1, f1⟩ := cCopy hC.1 hI.1 hp jc_297 (by rw [show (297 : Nat) + 1 = 298 from rfl, jn_298]; omega) (by omega)
    obtain ⟨σ2, e2, f2, -⟩ := cBack (hC.1.A (f1.A (a := 297) (b := 299) (by omega) (by omega)) (by omega)) hI.1 r1 (by omega) n5 (by omega)
    have hY := cHasY hC.1 hp
    refine jOp_q (v := .int (jI (jcap (jP (S 0) (jpz (S 0) p) (jpf (S 0) p))))) hC hM hI ⟨σ2, ?_, (f1.cS (by omega) (by omega)).tr (f2.cS (by omega))⟩ (fun τ hτ => ?_)
    · simp (disch := omega) only [jb_K_n, jb_K_v, ↓reduceIte, jT_lt, jF_lt, jT_le, jF_le, jT_eq, jF_eq, jT_z, jF_z, jF_neg, jT_nn, jT_pos, jF_pos, jT_le0, jF_le0, jT_x, jF_m1, jF_m1r, jT_tt, jI_add, jI_mul, jI_sub, jI_cl, jm_up_same, jm_up_o, jm_up_j, jbR_T, jbR_F, jt_D_parsesAgain_0, jt_D_parsesAgain_11, jt_D_parsesAgain_31, jt_D_parsesAgain_49, hY, e1, e2]
    · obtain ⟨τ1, g1, g2, g3⟩ := mPeal hτ.1 hI.1 hp
      obtain ⟨τ2, g4, g5, -⟩ := mParses hI.1 g2 n5 (by omega)
      have hY2 := jM_pealY (σ := τ) (hτ.1 2 (by omega)) hp (by omega)
      exact ⟨τ2, by simp (disch := omega) only [jb_K_n, jb_K_v, ↓reduceIte, jT_lt, jF_lt, jT_le, jF_le, jT_eq, jF_eq, jT_z, jF_z, jF_neg, jT_nn, jT_pos, jF_pos, jT_le0, jF_le0, jT_x, jF_m1, jF_m1r, jT_tt, jI_add, jI_mul, jI_sub, jI_cl, jm_up_same, jm_up_o, jm_up_j, jbR_T, jbR_F, jt_M_parsesAgain_0, jt_M_parsesAgain_5, jt_M_parsesAgain_15, jt_M_parsesAgain_19, hY2, g1, g4], g3.ms.tr g5.ms⟩
  · refine jOp_q (v := .int (-1)) hC hM hI ⟨σ, ?_, jcS.rf⟩ (fun τ hτ => ⟨τ, ?_, jmS.rf⟩)
    · have hN := cHasN hC.1 hx
      simp (disch := omega) only [jb_K_n, jb_K_v, ↓reduceIte, jT_lt, jF_lt, jT_le, jF_le, jT_eq, jF_eq, jT_z, jF_z, jF_neg, jT_nn, jT_pos, jF_pos, jT_le0, jF_le0, jT_x, jF_m1, jF_m1r, jT_tt, jI_add, jI_mul, jI_sub, jI_cl, jm_up_same, jm_up_o, jm_up_j, jbR_T, jbR_F, jt_D_parsesAgain_0, jt_D_parsesAgain_11, jt_D_parsesAgain_31, jt_D_parsesAgain_49, hN]
    · have hN := jM_pealN (σ := τ) (hτ.1 2 (by omega)) hx (by omega)
      simp (disch := omega) only [jb_K_n, jb_K_v, ↓reduceIte, jT_lt, jF_lt, jT_le, jF_le, jT_eq, jF_eq, jT_z, jF_z, jF_neg, jT_nn, jT_pos, jF_pos, jT_le0, jF_le0, jT_x, jF_m1, jF_m1r, jT_tt, jI_add, jI_mul, jI_sub, jI_cl, jm_up_same, jm_up_o, jm_up_j, jbR_T, jbR_F, jt_M_parsesAgain_0, jt_M_parsesAgain_5, jt_M_parsesAgain_15, jt_M_parsesAgain_19, hN]
theorem o_draftParses (hC : JC σ S) (hM : JM σ S) (hI : JI S) : jOp σ 175 193 [] := by
  have hd := hC.2.2.2.1.1
  obtain ⟨hn, n5⟩ := hI.2.2.2.1
  obtain ⟨σ2, e2, f2⟩ := cForw hC.1 hI.1 hd (by omega) n5 hn
  refine jOp_q (v := .int (jI (jcap (jP (S 0) (S 9 2) (S 2))))) hC hM hI ⟨σ2, ?_, f2.cS (by omega)⟩ (fun τ hτ => ?_)
  · simp (disch := omega) only [jb_K_n, jb_K_v, ↓reduceIte, jT_lt, jF_lt, jT_le, jF_le, jT_eq, jF_eq, jT_z, jF_z, jF_neg, jT_nn, jT_pos, jF_pos, jT_le0, jF_le0, jT_x, jF_m1, jF_m1r, jT_tt, jI_add, jI_mul, jI_sub, jI_cl, jm_up_same, jm_up_o, jm_up_j, jbR_T, jbR_F, jt_D_draftParses_0, jt_D_draftParses_18, e2]
  · obtain ⟨τ1, g1, g2, g3, g4⟩ := mM_draft hτ hI
    have hMw : jMw τ1 (S 0) (S 9 2) (S 2) := ⟨fun j hj => (g4 _ _ (by omega) (by omega)).trans (hτ.1 j hj), g2, g3⟩
    have g5 : jM5 τ τ1 := g4
    by_cases e : S 9 2 = 0
    · refine ⟨τ1, ?_, g5.ms⟩
      have hP : jP (S 0) (S 9 2) (S 2) = 0 := if_pos (Or.inl e)
      rw [hP]
      rw [e] at g2
      simp (disch := omega) only [jb_K_n, jb_K_v, ↓reduceIte, jT_lt, jF_lt, jT_le, jF_le, jT_eq, jF_eq, jT_z, jF_z, jF_neg, jT_nn, jT_pos, jF_pos, jT_le0, jF_le0, jT_x, jF_m1, jF_m1r, jT_tt, jI_add, jI_mul, jI_sub, jI_cl, jm_up_same, jm_up_o, jm_up_j, jbR_T, jbR_F, jt_M_draftParses_0, jt_M_draftParses_4, jt_M_draftParses_19, g1, g2, show jcap 0 = 0 from rfl]
    · obtain ⟨τ2, k1, k2, -⟩ := mParses hI.1 hMw n5 hn
      exact ⟨τ2, by simp (disch := omega) only [jb_K_n, jb_K_v, ↓reduceIte, jT_lt, jF_lt, jT_le, jF_le, jT_eq, jF_eq, jT_z, jF_z, jF_neg, jT_nn, jT_pos, jF_pos, jT_le0, jF_le0, jT_x, jF_m1, jF_m1r, jT_tt, jI_add, jI_mul, jI_sub, jI_cl, jm_up_same, jm_up_o, jm_up_j, jbR_T, jbR_F, jt_M_draftParses_0, jt_M_draftParses_4, jt_M_draftParses_19, g1, g2, k1], g5.ms.tr k2.ms⟩
theorem o_signOf (hC : JC σ S) (hM : JM σ S) (hI : JI S) (x y : Int32) : jOp σ 137 152 [.int x, .int y] := by
  have b2 := hI.1.b2
  by_cases h : ∃ p j, p < S 0 2 ∧ j < jpz (S 0) p ∧ x = jI p ∧ y = jI j
  · obtain ⟨p, j, hp, hj, rfl, rfl⟩ := h
    obtain ⟨n1, n12, n5⟩ := jp_n hI.1 hp
    have hY := cSignY hC.1 hI.1 hp hj
    refine jOp_q (v := .int (jI (jpf (S 0) p j))) hC hM hI ⟨σ, by simp (disch := omega) only [jb_K_n, jb_K_v, ↓reduceIte, jT_lt, jF_lt, jT_le, jF_le, jT_eq, jF_eq, jT_z, jF_z, jF_neg, jT_nn, jT_pos, jF_pos, jT_le0, jF_le0, jT_x, jF_m1, jF_m1r, jT_tt, jI_add, jI_mul, jI_sub, jI_cl, jm_up_same, jm_up_o, jm_up_j, jbR_T, jbR_F, jt_D_signOf_0, jt_D_signOf_12, hY], jcS.rf⟩ (fun τ hτ => ⟨τ, ?_, jmS.rf⟩)
    have hY2 := jM_pealY (σ := τ) (hτ.1 2 (by omega)) hp (by omega)
    have h1 : τ 308 (81 + 13 * p) = jI (jpz (S 0) p) := hτ.1 _ (by omega)
    have h2 : τ 308 (82 + 13 * p + j) = jI (jpf (S 0) p j) := hτ.1 _ (by omega)
    have e0 : 81 + 13 * p + 1 + j = 82 + 13 * p + j := by omega
    simp (disch := omega) only [jb_K_n, jb_K_v, ↓reduceIte, jT_lt, jF_lt, jT_le, jF_le, jT_eq, jF_eq, jT_z, jF_z, jF_neg, jT_nn, jT_pos, jF_pos, jT_le0, jF_le0, jT_x, jF_m1, jF_m1r, jT_tt, jI_add, jI_mul, jI_sub, jI_cl, jm_up_same, jm_up_o, jm_up_j, jbR_T, jbR_F, jt_M_signOf_0, jt_M_signOf_5, jt_M_signOf_18, jt_M_signOf_26, jt_M_signOf_47, hY2, jt_M_pealAt_0, Nat.add_zero, h1, jM_inY, e0, h2]
  · have hN := cSignN hC.1 hI.1 h
    refine jOp_q (v := .int (-1)) hC hM hI ⟨σ, by simp (disch := omega) only [jb_K_n, jb_K_v, ↓reduceIte, jT_lt, jF_lt, jT_le, jF_le, jT_eq, jF_eq, jT_z, jF_z, jF_neg, jT_nn, jT_pos, jF_pos, jT_le0, jF_le0, jT_x, jF_m1, jF_m1r, jT_tt, jI_add, jI_mul, jI_sub, jI_cl, jm_up_same, jm_up_o, jm_up_j, jbR_T, jbR_F, jt_D_signOf_0, jt_D_signOf_12, hN], jcS.rf⟩ (fun τ hτ => ⟨τ, ?_, jmS.rf⟩)
    by_cases hx : jlt x (S 0 2)
    · obtain ⟨p, hp, rfl⟩ := hx
      obtain ⟨n1, n12, n5⟩ := jp_n hI.1 hp
      have hY2 := jM_pealY (σ := τ) (hτ.1 2 (by omega)) hp (by omega)
      have h1 : τ 308 (81 + 13 * p) = jI (jpz (S 0) p) := hτ.1 _ (by omega)
      have hb : ¬ jbt y 0 (jpz (S 0) p - 1) := fun ⟨j, z1, z2, z3⟩ => h ⟨p, j, hp, by omega, rfl, z3⟩
      simp (disch := omega) only [jb_K_n, jb_K_v, ↓reduceIte, jT_lt, jF_lt, jT_le, jF_le, jT_eq, jF_eq, jT_z, jF_z, jF_neg, jT_nn, jT_pos, jF_pos, jT_le0, jF_le0, jT_x, jF_m1, jF_m1r, jT_tt, jI_add, jI_mul, jI_sub, jI_cl, jm_up_same, jm_up_o, jm_up_j, jbR_T, jbR_F, jt_M_signOf_0, jt_M_signOf_5, jt_M_signOf_18, jt_M_signOf_26, jt_M_signOf_47, hY2, jt_M_pealAt_0, Nat.add_zero, h1, jM_inN hb]
    · have hN2 := jM_pealN (σ := τ) (hτ.1 2 (by omega)) hx (by omega)
      simp (disch := omega) only [jb_K_n, jb_K_v, ↓reduceIte, jT_lt, jF_lt, jT_le, jF_le, jT_eq, jF_eq, jT_z, jF_z, jF_neg, jT_nn, jT_pos, jF_pos, jT_le0, jF_le0, jT_x, jF_m1, jF_m1r, jT_tt, jI_add, jI_mul, jI_sub, jI_cl, jm_up_same, jm_up_o, jm_up_j, jbR_T, jbR_F, jt_M_signOf_0, jt_M_signOf_5, jt_M_signOf_18, jt_M_signOf_26, jt_M_signOf_47, hN2]
end PE
