/-! ===== the plain form's count, and what a row means ===== -/
section PL
variable {σ : jm_S} {w f : Nat → Nat} {n : Nat}
def jV2 (w : Nat → Nat) (n : Nat) (f : Nat → Nat) (p k : Nat) : Nat := if f (n - 1) = 5 then 0 else jW w n f p k
def jVs (w : Nat → Nat) (n : Nat) (f : Nat → Nat) (p k i : Nat) : Nat := if f (n - 1) = 5 then 0 else jsum (jg w n f p k) i
/-- the rows of ways, from a place on -/
def jMv (σ : jm_S) (w : Nat → Nat) (n : Nat) (f : Nat → Nat) (m : Nat) : Prop := (∀ p k, m ≤ p → p < n → k < 3 → σ 316 (3 * p + k) = jI (if f p = 5 then 0 else jV2 w n f p k)) ∧ (∀ p k, m ≤ p → p < n → 1 ≤ k → k < 3 → σ 317 (3 * p + k) = jI (jV2 w n f p k)) ∧ (∀ k, k < 3 → σ 317 (3 * n + k) = jI 0)
def jM67 (σ σ' : jm_S) : Prop := ∀ q j, q ≠ 316 → q ≠ 317 → σ' q j = σ q j
theorem jMw.k {σ' : jm_S} (h : jMw σ w n f) (hk : jM67 σ σ') : jMw σ' w n f := ⟨fun j hj => (hk _ _ (by omega) (by omega)).trans (h.1 j hj), (hk _ _ (by omega) (by omega)).trans h.2.1, fun j hj => (hk _ _ (by omega) (by omega)).trans (h.2.2 j hj)⟩
theorem mNext {k : Nat} (hk : k < 3) : jb_Ev 40 [.int (jI k)] (jm_hp σ) = some (some (.int (jI (jnk k))), jm_hp σ) := by
  unfold jnk
  by_cases e : k = 0
  · rw [if_pos e]
    simp (disch := omega) only [jb_K_n, jb_K_v, ↓reduceIte, jT_lt, jF_lt, jT_le, jF_le, jT_eq, jF_eq, jT_z, jF_z, jF_neg, jT_nn, jT_pos, jF_pos, jT_le0, jF_le0, jT_x, jF_m1, jF_m1r, jT_tt, jI_add, jI_mul, jI_sub, jI_cl, jm_up_same, jm_up_o, jm_up_j, jbR_T, jbR_F, jt_M_nextKind_0]
  · rw [if_neg e]
    simp (disch := omega) only [jb_K_n, jb_K_v, ↓reduceIte, jT_lt, jF_lt, jT_le, jF_le, jT_eq, jF_eq, jT_z, jF_z, jF_neg, jT_nn, jT_pos, jF_pos, jT_le0, jF_le0, jT_x, jF_m1, jF_m1r, jT_tt, jI_add, jI_mul, jI_sub, jI_cl, jm_up_same, jm_up_o, jm_up_j, jbR_T, jbR_F, jt_M_nextKind_0]
theorem mEnd (hw : jInv w) (hM : jMw σ w n f) (hn : n ≤ 20) {p k i : Nat} (hv : jMv σ w n f (p + 1)) (hi : i < w 0) (hst : jst w n f i p = true) : jb_Ev 41 [.ref (307 : Nat), .int (jI (p + w (22 + 6 * i))), .int (jI (jnk k))] (jm_hp σ) = some (some (.int (jI (if f (n - 1) = 5 then 0 else jW w n f (p + w (22 + 6 * i)) (jnk k)))), jm_hp σ) := by
  obtain ⟨a1, a2, a3, a4, a5, a6⟩ := hw.2.1.2.1 i hi
  obtain ⟨q1, q2, q3, q4⟩ := jst_ne hw hi hst
  have l1 := jnk_le k
  have l2 := jnk_1 k
  by_cases e : p + w (22 + 6 * i) = n
  · have hz : f (n - 1) ≠ 5 := by rw [← e]; exact q3
    have h0 := hv.2.2 (jnk k) (by omega)
    rw [if_neg hz, e, jW_end]
    by_cases e2 : jnk k = 2
    · rw [if_pos e2]
      rw [e2] at h0 ⊢
      simp (disch := omega) only [jb_K_n, jb_K_v, ↓reduceIte, jT_lt, jF_lt, jT_le, jF_le, jT_eq, jF_eq, jT_z, jF_z, jF_neg, jT_nn, jT_pos, jF_pos, jT_le0, jF_le0, jT_x, jF_m1, jF_m1r, jT_tt, jI_add, jI_mul, jI_sub, jI_cl, jm_up_same, jm_up_o, jm_up_j, jbR_T, jbR_F, jt_M_endWays_0, hM.2.1, h0]
    · rw [if_neg e2]
      simp (disch := omega) only [jb_K_n, jb_K_v, ↓reduceIte, jT_lt, jF_lt, jT_le, jF_le, jT_eq, jF_eq, jT_z, jF_z, jF_neg, jT_nn, jT_pos, jF_pos, jT_le0, jF_le0, jT_x, jF_m1, jF_m1r, jT_tt, jI_add, jI_mul, jI_sub, jI_cl, jm_up_same, jm_up_o, jm_up_j, jbR_T, jbR_F, jt_M_endWays_0, hM.2.1, h0]
  · have h0 := hv.2.1 (p + w (22 + 6 * i)) (jnk k) (by omega) (by omega) l2 (by omega)
    unfold jV2 at h0
    simp (disch := omega) only [jb_K_n, jb_K_v, ↓reduceIte, jT_lt, jF_lt, jT_le, jF_le, jT_eq, jF_eq, jT_z, jF_z, jF_neg, jT_nn, jT_pos, jF_pos, jT_le0, jF_le0, jT_x, jF_m1, jF_m1r, jT_tt, jI_add, jI_mul, jI_sub, jI_cl, jm_up_same, jm_up_o, jm_up_j, jbR_T, jbR_F, jt_M_endWays_0, hM.2.1, h0, Nat.zero_add]
theorem mParsesI (hw : jInv w) (hM : jMw σ w n f) (hf : ∀ k, k < n → f k ≤ 5) (hn : n ≤ 20) {p k : Nat} (hp : p < n) (hk : k < 3) (hv : jMv σ w n f (p + 1)) : ∀ (m i : Nat) (u5 : Value), i + m = w 0 → ∃ v5, jb_Ex 151 (64, [.ref (307 : Nat), .int (jI p), .int (jI k), .int (jI (jVs w n f p k i)), .int (jI i), u5], [], jm_hp σ) = jb_Ex 151 (64, [.ref (307 : Nat), .int (jI p), .int (jI k), .int (jI (jVs w n f p k (w 0))), .int (jI (w 0)), v5], [], jm_hp σ)
  | 0, i, u5, hm => by
    obtain rfl : i = w 0 := by omega
    exact ⟨u5, rfl⟩
  | m + 1, i, u5, hm => by
    have b0 := hw.b0
    obtain ⟨a1, a2, a3, a4, a5, a6⟩ := hw.2.1.2.1 i (by omega)
    have h0 := hM.1 0 (by omega)
    have hkd := hM.1 (21 + 6 * i) (by omega)
    have hsz := hM.1 (22 + 6 * i) (by omega)
    have e1 : 21 + 6 * i + 1 = 22 + 6 * i := by omega
    have hst := mM_here hw hM hf (by omega) (show i < w 0 by omega) (show p ≤ 60 by omega)
    have hs : jVs w n f p k (i + 1) = jVs w n f p k i + (if f (n - 1) = 5 then 0 else jg w n f p k i) := by
      unfold jVs
      by_cases z : f (n - 1) = 5
      · rw [if_pos z, if_pos z, if_pos z]
      · rw [if_neg z, if_neg z, if_neg z]
        rfl
    by_cases c1 : w (21 + 6 * i) = k
    · by_cases c2 : jst w n f i p = true
      · have hg : jg w n f p k i = jW w n f (p + w (22 + 6 * i)) (jnk k) := if_pos ⟨c1, c2⟩
        rw [jB_t c2] at hst
        have hend := mEnd (k := k) hw hM hn hv (show i < w 0 by omega) c2
        obtain ⟨v5, g⟩ := mParsesI hw hM hf hn hp hk hv m (i + 1) (.int (jI 1)) (by omega)
        refine ⟨v5, ?_⟩
        rw [← g, hs, hg, jt_M_parsesNow_64]
        rw [c1] at hkd
        simp (disch := omega) only [jb_K_n, jb_K_v, ↓reduceIte, jT_lt, jF_lt, jT_le, jF_le, jT_eq, jF_eq, jT_z, jF_z, jF_neg, jT_nn, jT_pos, jF_pos, jT_le0, jF_le0, jT_x, jF_m1, jF_m1r, jT_tt, jI_add, jI_mul, jI_sub, jI_cl, jm_up_same, jm_up_o, jm_up_j, jbR_T, jbR_F, h0, jt_M_wordAt_0, jt_M_parsesNow_84, Nat.add_zero, hkd, hst, jt_M_parsesNow_98, jt_M_parsesNow_125, e1, hsz, mNext hk, jt_M_parsesNow_133, hend, jt_M_parsesNow_136]
      · have hg : jg w n f p k i = 0 := if_neg (fun z => c2 z.2)
        have c2' : jst w n f i p = false := Bool.not_eq_true _ |>.mp c2
        rw [jB_f c2'] at hst
        obtain ⟨v5, g⟩ := mParsesI hw hM hf hn hp hk hv m (i + 1) (.int (jI 0)) (by omega)
        refine ⟨v5, ?_⟩
        rw [hg, ite_self, Nat.add_zero] at hs
        rw [← g, hs, jt_M_parsesNow_64]
        rw [c1] at hkd
        simp (disch := omega) only [jb_K_n, jb_K_v, ↓reduceIte, jT_lt, jF_lt, jT_le, jF_le, jT_eq, jF_eq, jT_z, jF_z, jF_neg, jT_nn, jT_pos, jF_pos, jT_le0, jF_le0, jT_x, jF_m1, jF_m1r, jT_tt, jI_add, jI_mul, jI_sub, jI_cl, jm_up_same, jm_up_o, jm_up_j, jbR_T, jbR_F, h0, jt_M_wordAt_0, jt_M_parsesNow_84, Nat.add_zero, hkd, hst, jt_M_parsesNow_98]
    · have hg : jg w n f p k i = 0 := if_neg (fun z => c1 z.1)
      obtain ⟨v5, g⟩ := mParsesI hw hM hf hn hp hk hv m (i + 1) (.int (jI 0)) (by omega)
      refine ⟨v5, ?_⟩
      rw [hg, ite_self, Nat.add_zero] at hs
      rw [← g, hs, jt_M_parsesNow_64]
      simp (disch := omega) only [jb_K_n, jb_K_v, ↓reduceIte, jT_lt, jF_lt, jT_le, jF_le, jT_eq, jF_eq, jT_z, jF_z, jF_neg, jT_nn, jT_pos, jF_pos, jT_le0, jF_le0, jT_x, jF_m1, jF_m1r, jT_tt, jI_add, jI_mul, jI_sub, jI_cl, jm_up_same, jm_up_o, jm_up_j, jbR_T, jbR_F, h0, jt_M_wordAt_0, jt_M_parsesNow_84, Nat.add_zero, hkd]
/-- one kind at a place -/
theorem mParsesK (hw : jInv w) (hM : jMw σ w n f) (hf : ∀ k, k < n → f k ≤ 5) (hn : n ≤ 20) {p k : Nat} (hp : p < n) (hk : k < 3) (hv : jMv σ w n f (p + 1)) (u3 u4 u5 : Value) : ∃ y v3 v4 v5, jb_Ex 151 (54, [.ref (307 : Nat), .int (jI p), .int (jI k), u3, u4, u5], [], jm_hp σ) = jb_Ex 151 (54, [.ref (307 : Nat), .int (jI p), .int (jI (k + 1)), v3, v4, v5], [], jm_hp (jm_up (jm_up σ 316 (3 * p + k) (jI (if f p = 5 then 0 else jV2 w n f p k))) 317 (3 * p + k) y)) ∧ (1 ≤ k → y = jI (jV2 w n f p k)) := by
  have b0 := hw.b0
  have h0 := hM.1 0 (by omega)
  have hrow := hM.2.2 p hp
  have h5 := hf p hp
  obtain ⟨v5, g⟩ := mParsesI hw hM hf hn hp hk hv (w 0) 0 u5 (Nat.zero_add _)
  have hs0 : jVs w n f p k 0 = 0 := by
    unfold jVs
    split <;> rfl
  rw [hs0] at g
  by_cases e : f p = 5
  · have hsw : jVs w n f p k (w 0) = 0 := by
      unfold jVs
      split
      · rfl
      · exact jsum_z (fun i hi => if_neg (fun z => (jst_ne hw hi z.2).2.1 e))
    rw [hsw] at g
    refine ⟨jI 0 + σ 317 (3 * p + 3 + k), .int (jI 0), .int (jI (w 0)), v5, ?_, fun h1 => ?_⟩
    · rw [e] at hrow
      rw [if_pos e, jt_M_parsesNow_54, if_neg (by rw [jI_le (by omega) (by omega)]; omega), g, jt_M_parsesNow_64]
      simp (disch := omega) only [jb_K_n, jb_K_v, ↓reduceIte, jT_lt, jF_lt, jT_le, jF_le, jT_eq, jF_eq, jT_z, jF_z, jF_neg, jT_nn, jT_pos, jF_pos, jT_le0, jF_le0, jT_x, jF_m1, jF_m1r, jT_tt, jI_add, jI_mul, jI_sub, jI_cl, jm_up_same, jm_up_o, jm_up_j, jbR_T, jbR_F, h0, hrow]
    · by_cases e2 : p + 1 = n
      · have := hv.2.2 k hk
        rw [← e2, show 3 * (p + 1) + k = 3 * p + 3 + k by omega] at this
        rw [this]
        unfold jV2
        rw [if_pos (by rw [← e2]; exact e)]
        rfl
      · have := hv.2.1 (p + 1) k (by omega) (by omega) h1 hk
        rw [show 3 * (p + 1) + k = 3 * p + 3 + k by omega] at this
        rw [this, jI_add, Nat.zero_add]
        unfold jV2
        rw [jW_sil hp e, if_neg (show k ≠ 0 by omega)]
  · have hsw : jVs w n f p k (w 0) = jV2 w n f p k := by
      unfold jVs jV2
      split
      · rfl
      · exact (jW_wd hw hp e).symm
    rw [hsw] at g
    refine ⟨jI (jV2 w n f p k) + jI 0, .int (jI (jV2 w n f p k)), .int (jI (w 0)), v5, ?_, fun h1 => by rw [jI_add, Nat.add_zero]⟩
    rw [if_neg e, jt_M_parsesNow_54, if_neg (by rw [jI_le (by omega) (by omega)]; omega), g, jt_M_parsesNow_64]
    simp (disch := omega) only [jb_K_n, jb_K_v, ↓reduceIte, jT_lt, jF_lt, jT_le, jF_le, jT_eq, jF_eq, jT_z, jF_z, jF_neg, jT_nn, jT_pos, jF_pos, jT_le0, jF_le0, jT_x, jF_m1, jF_m1r, jT_tt, jI_add, jI_mul, jI_sub, jI_cl, jm_up_same, jm_up_o, jm_up_j, jbR_T, jbR_F, h0, hrow, Nat.add_zero]
theorem jMv_keep {τ : jm_S} {m p k : Nat} {x y : Int32} (hv : jMv τ w n f m) (hp : p < m) (hpn : p < n) (hk : k < 3) : jMv (jm_up (jm_up τ 316 (3 * p + k) x) 317 (3 * p + k) y) w n f m := by
  refine ⟨fun q l h1 h2 h3 => ?_, fun q l h1 h2 h3 h4 => ?_, fun l h3 => ?_⟩
  · rw [jm_up_o _ _ (by omega), jm_up_j _ _ (by omega)]
    exact hv.1 q l h1 h2 h3
  · rw [jm_up_j _ _ (by omega), jm_up_o _ _ (by omega)]
    exact hv.2.1 q l h1 h2 h3 h4
  · rw [jm_up_j _ _ (by omega), jm_up_o _ _ (by omega)]
    exact hv.2.2 l h3
theorem mParsesP (hw : jInv w) (hM : jMw σ w n f) (hf : ∀ k, k < n → f k ≤ 5) (hn : n ≤ 20) {p : Nat} (hp : p < n) (hv : jMv σ w n f (p + 1)) (u3 u4 u5 : Value) : ∃ τ v2 v3 v4 v5, jb_Ex 151 (54, [.ref (307 : Nat), .int (jI p), .int (jI 0), u3, u4, u5], [], jm_hp σ) = jb_Ex 151 (48, [.ref (307 : Nat), .int (jI p + -1), v2, v3, v4, v5], [], jm_hp τ) ∧ jM67 σ τ ∧ jMv τ w n f p := by
  obtain ⟨y0, a3, a4, a5, e0, k0⟩ := mParsesK hw hM hf hn hp (show 0 < 3 by omega) hv u3 u4 u5
  have v0 := jMv_keep (x := jI (if f p = 5 then 0 else jV2 w n f p 0)) (y := y0) hv (show p < p + 1 by omega) hp (show 0 < 3 by omega)
  have m0 : jM67 σ (jm_up (jm_up σ 316 (3 * p + 0) (jI (if f p = 5 then 0 else jV2 w n f p 0))) 317 (3 * p + 0) y0) := fun q j z1 z2 => (jm_up_o _ _ z2).trans (jm_up_o _ _ z1)
  obtain ⟨y1, b3, b4, b5, e1, k1⟩ := mParsesK hw (hM.k m0) hf hn hp (show 1 < 3 by omega) v0 a3 a4 a5
  have v1 := jMv_keep (x := jI (if f p = 5 then 0 else jV2 w n f p 1)) (y := y1) v0 (show p < p + 1 by omega) hp (show 1 < 3 by omega)
  have m1 : jM67 σ (jm_up (jm_up (jm_up (jm_up σ 316 (3 * p + 0) (jI (if f p = 5 then 0 else jV2 w n f p 0))) 317 (3 * p + 0) y0) 316 (3 * p + 1) (jI (if f p = 5 then 0 else jV2 w n f p 1))) 317 (3 * p + 1) y1) := fun q j z1 z2 => (jm_up_o _ _ z2).trans ((jm_up_o _ _ z1).trans (m0 q j z1 z2))
  obtain ⟨y2, c3, c4, c5, e2, k2⟩ := mParsesK hw (hM.k m1) hf hn hp (show 2 < 3 by omega) v1 b3 b4 b5
  have v2 := jMv_keep (x := jI (if f p = 5 then 0 else jV2 w n f p 2)) (y := y2) v1 (show p < p + 1 by omega) hp (show 2 < 3 by omega)
  refine ⟨_, .int (jI 3), c3, c4, c5, e0.trans (e1.trans (e2.trans ?_)), fun q j z1 z2 => (jm_up_o _ _ z2).trans ((jm_up_o _ _ z1).trans (m1 q j z1 z2)), fun q l h1 h2 h3 => ?_, fun q l h1 h2 h3 h4 => ?_, v2.2.2⟩
  · rw [jt_M_parsesNow_54, if_pos (by rw [jI_le (by omega) (by omega)]; omega)]
  · by_cases z : p + 1 ≤ q
    · exact v2.1 q l z h2 h3
    · obtain rfl : q = p := by omega
      dsimp only
      rcases (show l = 0 ∨ l = 1 ∨ l = 2 by omega) with rfl | rfl | rfl
      · rw [jm_up_o _ _ (by omega), jm_up_j _ _ (by omega), jm_up_o _ _ (by omega), jm_up_j _ _ (by omega), jm_up_o _ _ (by omega), jm_up_same]
      · rw [jm_up_o _ _ (by omega), jm_up_j _ _ (by omega), jm_up_o _ _ (by omega), jm_up_same]
      · rw [jm_up_o _ _ (by omega), jm_up_same]
  · by_cases z : p + 1 ≤ q
    · exact v2.2.1 q l z h2 h3 h4
    · obtain rfl : q = p := by omega
      dsimp only
      rcases (show l = 1 ∨ l = 2 by omega) with rfl | rfl
      · rw [jm_up_j _ _ (by omega), jm_up_o _ _ (by omega), jm_up_same]
        exact k1 (by omega)
      · rw [jm_up_same]
        exact k2 (by omega)
theorem mParsesO (hw : jInv w) (hM : jMw σ w n f) (hf : ∀ k, k < n → f k ≤ 5) (hn : n ≤ 20) : ∀ (m : Nat) (τ : jm_S) (u2 u3 u4 u5 : Value), m ≤ n → jM67 σ τ → jMv τ w n f m → ∃ τ' v2 v3 v4 v5, jb_Ex 151 (48, [.ref (307 : Nat), .int (jI m + -1), u2, u3, u4, u5], [], jm_hp τ) = jb_Ex 151 (48, [.ref (307 : Nat), .int (jI 0 + -1), v2, v3, v4, v5], [], jm_hp τ') ∧ jM67 σ τ' ∧ jMv τ' w n f 0
  | 0, τ, u2, u3, u4, u5, hm, h1, h2 => ⟨τ, u2, u3, u4, u5, rfl, h1, h2⟩
  | m + 1, τ, u2, u3, u4, u5, hm, h1, h2 => by
    obtain ⟨υ, v2, v3, v4, v5, e1, f1, g1⟩ := mParsesP hw (hM.k h1) hf hn (show m < n by omega) h2 u3 u4 u5
    obtain ⟨τ', w2, w3, w4, w5, e2, f2⟩ := mParsesO hw hM hf hn m υ v2 v3 v4 v5 (by omega) (fun q j z1 z2 => (f1 q j z1 z2).trans (h1 q j z1 z2)) g1
    refine ⟨τ', w2, w3, w4, w5, ?_, f2⟩
    rw [← e2, ← e1, jI_dec (by omega), jt_M_parsesNow_48, if_neg (by rw [jI_neg (by omega)]; exact id)]
    rfl
theorem mParses (hw : jInv w) (hM : jMw σ w n f) (hf : ∀ k, k < n → f k ≤ 5) (hn : n ≤ 20) : ∃ σ', jb_Ev 151 [.ref (307 : Nat)] (jm_hp σ) = some (some (.int (jI (jcap (jP w n f)))), jm_hp σ') ∧ jM67 σ σ' ∧ jMv σ' w n f 0 := by
  have m0 := hM.2.1
  have hz : ∀ k, k < 3 → jb_Ex 151 (2, [.ref (307 : Nat), .int (jI k), .retAddr 0, .retAddr 0, .retAddr 0, .retAddr 0], [], jm_hp σ) = jb_Ex 151 (2, [.ref (307 : Nat), .int (jI (k + 1)), .retAddr 0, .retAddr 0, .retAddr 0, .retAddr 0], [], jm_hp (jm_up (jm_up σ 316 (3 * n + k) (jI 0)) 317 (3 * n + k) (jI 0))) := fun k hk => by
    rw [jt_M_parsesNow_2]
    simp (disch := omega) only [jb_K_n, jb_K_v, ↓reduceIte, jT_lt, jF_lt, jT_le, jF_le, jT_eq, jF_eq, jT_z, jF_z, jF_neg, jT_nn, jT_pos, jF_pos, jT_le0, jF_le0, jT_x, jF_m1, jF_m1r, jT_tt, jI_add, jI_mul, jI_sub, jI_cl, jm_up_same, jm_up_o, jm_up_j, jbR_T, jbR_F, m0]
  have step : ∀ (k : Nat) (τ : jm_S), k < 3 → jM67 σ τ → jb_Ex 151 (2, [.ref (307 : Nat), .int (jI k), .retAddr 0, .retAddr 0, .retAddr 0, .retAddr 0], [], jm_hp τ) = jb_Ex 151 (2, [.ref (307 : Nat), .int (jI (k + 1)), .retAddr 0, .retAddr 0, .retAddr 0, .retAddr 0], [], jm_hp (jm_up (jm_up τ 316 (3 * n + k) (jI 0)) 317 (3 * n + k) (jI 0))) := fun k τ hk hτ => by
    have m1 := (hτ 307 20 (by omega) (by omega)).trans m0
    rw [jt_M_parsesNow_2]
    simp (disch := omega) only [jb_K_n, jb_K_v, ↓reduceIte, jT_lt, jF_lt, jT_le, jF_le, jT_eq, jF_eq, jT_z, jF_z, jF_neg, jT_nn, jT_pos, jF_pos, jT_le0, jF_le0, jT_x, jF_m1, jF_m1r, jT_tt, jI_add, jI_mul, jI_sub, jI_cl, jm_up_same, jm_up_o, jm_up_j, jbR_T, jbR_F, m1]
  have up67 : ∀ (k : Nat) (τ : jm_S), jM67 σ τ → jM67 σ (jm_up (jm_up τ 316 (3 * n + k) (jI 0)) 317 (3 * n + k) (jI 0)) := fun k τ hτ q j z1 z2 => (jm_up_o _ _ z2).trans ((jm_up_o _ _ z1).trans (hτ q j z1 z2))
  have r0 : jM67 σ σ := fun _ _ _ _ => rfl
  have r1 := up67 0 _ r0
  have r2 := up67 1 _ r1
  have r3 := up67 2 _ r2
  have s0 := step 0 _ (by omega) r0
  have s1 := step 1 _ (by omega) r1
  have s2 := step 2 _ (by omega) r2
  have hv3 : jMv (jm_up (jm_up (jm_up (jm_up (jm_up (jm_up σ 316 (3 * n + 0) (jI 0)) 317 (3 * n + 0) (jI 0)) 316 (3 * n + 1) (jI 0)) 317 (3 * n + 1) (jI 0)) 316 (3 * n + 2) (jI 0)) 317 (3 * n + 2) (jI 0)) w n f n := by
    refine ⟨fun p k h1 h2 => by omega, fun p k h1 h2 => by omega, fun k hk => ?_⟩
    rcases (show k = 0 ∨ k = 1 ∨ k = 2 by omega) with rfl | rfl | rfl
    · rw [jm_up_j _ _ (by omega), jm_up_o _ _ (by omega), jm_up_j _ _ (by omega), jm_up_o _ _ (by omega), jm_up_same]
    · rw [jm_up_j _ _ (by omega), jm_up_o _ _ (by omega), jm_up_same]
    · rw [jm_up_same]
  have z0 : jm_up (jm_up (jm_up (jm_up (jm_up (jm_up σ 316 (3 * n + 0) (jI 0)) 317 (3 * n + 0) (jI 0)) 316 (3 * n + 1) (jI 0)) 317 (3 * n + 1) (jI 0)) 316 (3 * n + 2) (jI 0)) 317 (3 * n + 2) (jI 0) 316 (3 * n + 0) = jI 0 := by
    rw [jm_up_o _ _ (by omega), jm_up_j _ _ (by omega), jm_up_o _ _ (by omega), jm_up_j _ _ (by omega), jm_up_o _ _ (by omega), jm_up_same]
  generalize jm_up (jm_up (jm_up (jm_up (jm_up (jm_up σ 316 (3 * n + 0) (jI 0)) 317 (3 * n + 0) (jI 0)) 316 (3 * n + 1) (jI 0)) 317 (3 * n + 1) (jI 0)) 316 (3 * n + 2) (jI 0)) 317 (3 * n + 2) (jI 0) = ρ at s2 r3 hv3 z0
  have mρ := (r3 307 20 (by omega) (by omega)).trans m0
  have start : jb_Ev 151 [.ref (307 : Nat)] (jm_hp σ) = jb_Ex 151 (48, [.ref (307 : Nat), .int (jI n - jI 1), .retAddr 0, .retAddr 0, .retAddr 0, .retAddr 0], [], jm_hp ρ) := by
    rw [jt_M_parsesNow_0, s0, s1, s2, jt_M_parsesNow_2, if_pos (by rw [jI_le (by omega) (by omega)]; omega), mρ]
  by_cases en : n = 0
  · subst en
    refine ⟨ρ, ?_, r3, hv3⟩
    have hP : jP w 0 f = 0 := if_pos (Or.inl rfl)
    have hneg : (jI 0 - jI 1 : Int32) < 0 := by decide
    rw [start, jt_M_parsesNow_48, if_pos hneg, hP]
    have z0' : ρ 316 0 = jI 0 := z0
    simp (disch := omega) only [jb_K_n, jb_K_v, ↓reduceIte, jT_lt, jF_lt, jT_le, jF_le, jT_eq, jF_eq, jT_z, jF_z, jF_neg, jT_nn, jT_pos, jF_pos, jT_le0, jF_le0, jT_x, jF_m1, jF_m1r, jT_tt, jI_add, jI_mul, jI_sub, jI_cl, jm_up_same, jm_up_o, jm_up_j, jbR_T, jbR_F, z0', show jcap 0 = 0 from rfl]
  · have ed : (jI n - jI 1 : Int32) = jI n + -1 := by rw [jI_dec (by omega), jI_sub (by omega)]
    obtain ⟨τ', v2, v3, v4, v5, g1, g2, g3⟩ := mParsesO hw hM hf hn n ρ (.retAddr 0) (.retAddr 0) (.retAddr 0) (.retAddr 0) (Nat.le_refl _) r3 hv3
    refine ⟨τ', ?_, g2, g3⟩
    have hneg : (jI 0 + -1 : Int32) < 0 := by decide
    have hs := g3.1 0 0 (Nat.le_refl _) (by omega) (by omega)
    have hP : (if f 0 = 5 then 0 else jV2 w n f 0 0) = jP w n f := by
      unfold jP jV2
      by_cases z : f (n - 1) = 5
      · rw [if_pos z, if_pos (Or.inr z), ite_self]
      · rw [if_neg z, if_neg (show ¬ (n = 0 ∨ f (n - 1) = 5) by omega)]
        by_cases z0 : f 0 = 5
        · rw [if_pos z0, jW_sil (by omega) z0, if_pos rfl]
        · rw [if_neg z0]
    rw [hP] at hs
    have hs' : τ' 316 0 = jI (jP w n f) := hs
    have hb : jP w n f ≤ 1048576 := by
      unfold jP
      split
      · omega
      · exact jW_bd hw hn (by omega) 0
    rw [start, ed, g1, jt_M_parsesNow_48, if_pos hneg]
    unfold jcap
    by_cases c : jP w n f < 9999
    · rw [if_pos c]
      simp (disch := omega) only [jb_K_n, jb_K_v, ↓reduceIte, jT_lt, jF_lt, jT_le, jF_le, jT_eq, jF_eq, jT_z, jF_z, jF_neg, jT_nn, jT_pos, jF_pos, jT_le0, jF_le0, jT_x, jF_m1, jF_m1r, jT_tt, jI_add, jI_mul, jI_sub, jI_cl, jm_up_same, jm_up_o, jm_up_j, jbR_T, jbR_F, hs']
    · rw [if_neg c]
      simp (disch := omega) only [jb_K_n, jb_K_v, ↓reduceIte, jT_lt, jF_lt, jT_le, jF_le, jT_eq, jF_eq, jT_z, jF_z, jF_neg, jT_nn, jT_pos, jF_pos, jT_le0, jF_le0, jT_x, jF_m1, jF_m1r, jT_tt, jI_add, jI_mul, jI_sub, jI_cl, jm_up_same, jm_up_o, jm_up_j, jbR_T, jbR_F, hs']
end PL
