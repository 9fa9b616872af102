/-! ===== ring ===== -/
theorem jn_23 : jm_ln 23 = 5 := by decide +kernel
section RC
variable {σ : jm_S} {w f : Nat → Nat} {S : jSt}
theorem jR_afL {r N : Nat} {F : Nat → Int32} {x : Int32} : ∀ (i : Nat) (τ : jm_S), i < N → jR τ r N (fun j => if i < j then F (j - 1) else F j) → jF r σ τ → ∃ σ', jb_Ex 66 (29, [.ref r, .int x, .int (jI i)], [], jm_hp τ) = some (none, jm_hp σ') ∧ jR σ' r N (fun j => if j = 0 then x else F (j - 1)) ∧ jF r σ σ'
  | 0, τ, hi, h1, h2 => by
    have hb := h1.bd
    refine ⟨_, ?_, (h1.put 0 x).congr (fun j hj => ?_), h2.tr (jF_put _ _)⟩
    · rw [jt_Row_addFirst_29 h1.1, if_pos (by rw [jI_le0 (by omega)]), jR_put h1 hi, jb_K_n, jt_Row_addFirst_57 h1.1]
    · by_cases e : j = 0
      · rw [if_pos e, if_pos e]
      · rw [if_neg e, if_neg e, if_pos (by omega)]
  | i + 1, τ, hi, h1, h2 => by
    have hb := h1.bd
    have hat := jR_at h1 (show i < N by omega)
    rw [if_neg (by omega)] at hat
    obtain ⟨σ', g1, g2, g3⟩ := jR_afL (x := x) i (jm_up τ (r + 1) (i + 1) (F i)) (by omega) ((h1.put (i + 1) (F i)).congr (fun j hj => by
      by_cases e : j = i + 1
      · rw [if_pos e, if_pos (by omega), e]
        rfl
      · rw [if_neg e]
        by_cases e2 : i + 1 < j
        · rw [if_pos e2, if_pos (by omega)]
        · rw [if_neg e2, if_neg (by omega)])) (h2.tr (jF_put _ _))
    refine ⟨σ', ?_, g2, g3⟩
    rw [← g1, jt_Row_addFirst_29 h1.1, if_neg (by rw [jI_le0 (by omega)]; omega), jI_sub (by omega), show i + 1 - 1 = i from rfl, hat, jb_K_v, jt_Row_addFirst_42 h1.1, jR_put h1 hi, jb_K_n, jt_Row_addFirst_45 h1.1, jI_dec (by omega)]
    rfl
theorem jR_first {r n : Nat} {g : Nat → Nat} (h : jRn σ r n g) (hc : 1 ≤ jm_ln (r + 1)) (x : Nat) : ∃ σ', jb_Ev 66 [.ref r, .int (jI x)] (jm_hp σ) = some (none, jm_hp σ') ∧ jRn σ' r (if n < jm_ln (r + 1) then n + 1 else n) (fun j => if j = 0 then x else g (j - 1)) ∧ jF r σ σ' := by
  have hb := jR.bd h
  have hl := jm_ln_le (r + 1)
  have hle := h.2.1
  have fin : ∀ {N : Nat} {τ σ' : jm_S}, N ≤ n + 1 → jR σ' r N (fun j => if j = 0 then jI x else τ (r + 1) (j - 1)) → (∀ j, j < n → τ (r + 1) j = jI (g j)) → jRn σ' r N (fun j => if j = 0 then x else g (j - 1)) := fun {N τ σ'} hN h1 h2 => h1.congr (fun j hj => by
    by_cases e : j = 0
    · dsimp only
      rw [if_pos e, if_pos e]
    · dsimp only
      rw [if_neg e, if_neg e, h2 _ (by omega)])
  rw [jt_Row_addFirst_0 h.1, h.2.2.1]
  by_cases e : n < jm_ln (r + 1)
  · rw [if_neg (by rw [jI_le (by omega) (by omega)]; omega), if_pos e, jm_up_same, jI_add, jI_sub (by omega), show n + 1 - 1 = n from rfl]
    have h1 : jR (jm_up σ r 1 (jI (n + 1))) r (n + 1) (fun j => σ (r + 1) j) := ⟨h.1, e, jm_up_same _ _ _ _, fun j hj => jm_up_o _ _ (by omega)⟩
    obtain ⟨σ', g1, g2, g3⟩ := jR_afL (σ := σ) (F := fun j => σ (r + 1) j) (x := jI x) n (jm_up σ r 1 (jI (n + 1))) (by omega) (h1.congr (fun j hj => by rw [if_neg (by omega)])) (jF_clear _)
    exact ⟨σ', g1, fin (τ := σ) (Nat.le_refl _) g2 (fun j hj => h.2.2.2 j hj), g3⟩
  · rw [if_pos (by rw [jI_le (by omega) (by omega)]; omega), if_neg e, jI_sub (by omega)]
    have h1 : jR σ r n (fun j => σ (r + 1) j) := ⟨h.1, h.2.1, h.2.2.1, fun j hj => rfl⟩
    obtain ⟨σ', g1, g2, g3⟩ := jR_afL (σ := σ) (F := fun j => σ (r + 1) j) (x := jI x) (n - 1) σ (by omega) (h1.congr (fun j hj => by rw [if_neg (by omega)])) jF.rf
    exact ⟨σ', g1, fin (τ := σ) (by omega) g2 (fun j hj => h.2.2.2 j hj), g3⟩
theorem cPeals_bL {g : Nat → Nat} : ∀ (m : Nat) (τ : jm_S), m ≤ 48 → jRn τ 24 60 (fun j => if 11 + m < j then g (j - 12) else g j) → jF 24 σ τ → ∃ σ', jb_Ex 128 (18, [.ref (21 : Nat), .int (jI (11 + m))], [], jm_hp τ) = some (none, jm_hp σ') ∧ jRn σ' 24 60 (fun j => if 11 < j then g (j - 12) else g j) ∧ jF 24 σ σ'
  | 0, τ, hm, h1, h2 => by
    refine ⟨τ, ?_, h1, h2⟩
    rw [jt_Peals_begin_18]
    simp (disch := omega) only [jb_K_n, jb_K_v, ↓reduceIte, jT_lt, jF_lt, jT_le, jF_le, jT_eq, jF_eq, jT_z, jF_z, jF_neg, jT_nn, jT_pos, jF_pos, jT_le0, jF_le0, jT_x, jF_m1, jF_m1r, jT_tt, jI_add, jI_mul, jI_sub, jI_cl, jm_up_same, jm_up_o, jm_up_j, jbR_T, jbR_F]
  | m + 1, τ, hm, h1, h2 => by
    have hat := jRn_at h1 (show m < 60 by omega)
    rw [if_neg (by omega)] at hat
    have hput := jR_put h1 (show 12 + m < 60 by omega) (jI (g m))
    obtain ⟨σ', g1, g2, g3⟩ := cPeals_bL (g := g) m (jm_up τ 25 (12 + m) (jI (g m))) (by omega) ((jRn_put h1 (12 + m) (g m)).congr rfl (fun j hj => by
      by_cases e : j = 12 + m
      · rw [jn0_e e, if_pos (by omega), e, show 12 + m - 12 = m by omega]
      · rw [jn0_o e]
        by_cases e2 : 11 + (m + 1) < j
        · rw [if_pos e2, if_pos (by omega)]
        · rw [if_neg e2, if_neg (by omega)])) (h2.tr (jF_put _ _))
    refine ⟨σ', ?_, g2, g3⟩
    have e1 : 12 + m - 12 = m := by omega
    have e0 : 11 + (m + 1) = 12 + m := by omega
    have e3 : jI (12 + m) + (-1 : Int32) = jI (11 + m) := by rw [jI_dec (by omega)]; congr 1; omega
    rw [← g1, jt_Peals_begin_18]
    simp (disch := omega) only [jb_K_n, jb_K_v, ↓reduceIte, jT_lt, jF_lt, jT_le, jF_le, jT_eq, jF_eq, jT_z, jF_z, jF_neg, jT_nn, jT_pos, jF_pos, jT_le0, jF_le0, jT_x, jF_m1, jF_m1r, jT_tt, jI_add, jI_mul, jI_sub, jI_cl, jm_up_same, jm_up_o, jm_up_j, jbR_T, jbR_F, e0, e1, hat, jt_Peals_begin_40, hput, jt_Peals_begin_43, e3]
theorem cPeals_begin {N : Nat} {z g : Nat → Nat} (h1 : jRn σ 22 N z) (h2 : jRn σ 24 60 g) : ∃ σ', jb_Ev 128 [.ref (21 : Nat)] (jm_hp σ) = some (none, jm_hp σ') ∧ jRn σ' 22 (if N < 5 then N + 1 else N) (fun j => if j = 0 then 0 else z (j - 1)) ∧ jRn σ' 24 60 (fun j => if 11 < j then g (j - 12) else g j) ∧ jA 22 26 σ σ' := by
  obtain ⟨τ, e1, a1, f1⟩ := jR_first h1 (by rw [show (22 : Nat) + 1 = 23 from rfl, jn_23]; omega) 0
  rw [show (22 : Nat) + 1 = 23 from rfl, jn_23] at a1
  have h2' := h2.fr f1 (by omega)
  obtain ⟨υ, e2, a2, f2⟩ := cPeals_bL (σ := τ) (g := g) 48 τ (Nat.le_refl _) (h2'.congr rfl (fun j hj => by rw [if_neg (by omega)])) jF.rf
  refine ⟨υ, ?_, a1.fr f2 (by omega), a2, (f1.A (by omega) (by omega)).tr (f2.A (by omega) (by omega))⟩
  have e2' : jb_Ex 128 (18, [.ref (21 : Nat), .int (jI 59)], [], jm_hp τ) = some (none, jm_hp υ) := e2
  simp (disch := omega) only [jb_K_n, jb_K_v, ↓reduceIte, jT_lt, jF_lt, jT_le, jF_le, jT_eq, jF_eq, jT_z, jF_z, jF_neg, jT_nn, jT_pos, jF_pos, jT_le0, jF_le0, jT_x, jF_m1, jF_m1r, jT_tt, jI_add, jI_mul, jI_sub, jI_cl, jm_up_same, jm_up_o, jm_up_j, jbR_T, jbR_F, jt_Peals_begin_0, e1, jt_Peals_begin_8, jR_size h2', jt_Peals_begin_15, e2']
theorem cBells_can {u : Nat → Nat} (h1 : jRn σ 5 5 (fun b => u (7 + 3 * b))) (hu : jIb u) {s : Nat} (hs : s ≤ 5) : jb_Ev 65 [.ref (2 : Nat), .int (jI s)] (jm_hp σ) = some (some (.int (if s ≠ 5 ∧ u (7 + 3 * s) < 9 then jI 1 else jI 0)), jm_hp σ) := by
  by_cases e : s = 5
  · rw [if_neg (fun z => z.1 e)]
    have hN := jR_hasN h1 (x := jI s) (fun ⟨j, z1, z2⟩ => by have := (jI_eq (by omega) (by omega)).mp z2; omega)
    simp (disch := omega) only [jb_K_n, jb_K_v, ↓reduceIte, jT_lt, jF_lt, jT_le, jF_le, jT_eq, jF_eq, jT_z, jF_z, jF_neg, jT_nn, jT_pos, jF_pos, jT_le0, jF_le0, jT_x, jF_m1, jF_m1r, jT_tt, jI_add, jI_mul, jI_sub, jI_cl, jm_up_same, jm_up_o, jm_up_j, jbR_T, jbR_F, jt_Bells_canSound_0, jt_Bells_canSound_8, jt_Bells_canSound_19, hN]
  · have hb := hu.1 s (by omega)
    have ha := jRn_at h1 (show s < 5 by omega)
    by_cases e2 : u (7 + 3 * s) < 9
    · rw [if_pos ⟨e, e2⟩]
      simp (disch := omega) only [jb_K_n, jb_K_v, ↓reduceIte, jT_lt, jF_lt, jT_le, jF_le, jT_eq, jF_eq, jT_z, jF_z, jF_neg, jT_nn, jT_pos, jF_pos, jT_le0, jF_le0, jT_x, jF_m1, jF_m1r, jT_tt, jI_add, jI_mul, jI_sub, jI_cl, jm_up_same, jm_up_o, jm_up_j, jbR_T, jbR_F, jt_Bells_canSound_0, jt_Bells_canSound_8, jt_Bells_canSound_19, jR_hasY h1 (show s < 5 by omega), ha]
    · rw [if_neg (fun z => e2 z.2)]
      simp (disch := omega) only [jb_K_n, jb_K_v, ↓reduceIte, jT_lt, jF_lt, jT_le, jF_le, jT_eq, jF_eq, jT_z, jF_z, jF_neg, jT_nn, jT_pos, jF_pos, jT_le0, jF_le0, jT_x, jF_m1, jF_m1r, jT_tt, jI_add, jI_mul, jI_sub, jI_cl, jm_up_same, jm_up_o, jm_up_j, jbR_T, jbR_F, jt_Bells_canSound_0, jt_Bells_canSound_8, jt_Bells_canSound_19, jR_hasY h1 (show s < 5 by omega), ha]
theorem cBells_anyL {r n : Nat} (h1 : jRn σ 5 5 (fun b => w (7 + 3 * b))) (hw : jIb w) (hr : jRn σ r n f) (hf : ∀ k, k < n → f k ≤ 5) : ∀ (m k : Nat), k + m = n → (∀ i, i < k → ¬ (f i ≠ 5 ∧ w (7 + 3 * f i) < 9)) → jb_Ex 127 (2, [.ref (2 : Nat), .ref r, .int (jI k)], [], jm_hp σ) = some (some (.int (if jrc w f n = 0 then jI 0 else jI 1)), jm_hp σ)
  | 0, k, hm, h => by
    have hb := jR.bd hr
    obtain rfl : k = n := by omega
    rw [if_pos ((jrc_0 hf).1.mpr h), jt_Bells_canAnySound_2 hr.1]
    simp (disch := omega) only [jb_K_n, jb_K_v, ↓reduceIte, jT_lt, jF_lt, jT_le, jF_le, jT_eq, jF_eq, jT_z, jF_z, jF_neg, jT_nn, jT_pos, jF_pos, jT_le0, jF_le0, jT_x, jF_m1, jF_m1r, jT_tt, jI_add, jI_mul, jI_sub, jI_cl, jm_up_same, jm_up_o, jm_up_j, jbR_T, jbR_F, jR_size hr, jt_Bells_canAnySound_7 hr.1]
  | m + 1, k, hm, h => by
    have hb := jR.bd hr
    have hs := cBells_can h1 hw (hf k (by omega))
    have ha := jRn_at hr (show k < n by omega)
    rw [jt_Bells_canAnySound_2 hr.1]
    by_cases e : f k ≠ 5 ∧ w (7 + 3 * f k) < 9
    · rw [if_pos e] at hs
      rw [if_neg (fun z => (jrc_0 hf).1.mp z k (by omega) e)]
      simp (disch := omega) only [jb_K_n, jb_K_v, ↓reduceIte, jT_lt, jF_lt, jT_le, jF_le, jT_eq, jF_eq, jT_z, jF_z, jF_neg, jT_nn, jT_pos, jF_pos, jT_le0, jF_le0, jT_x, jF_m1, jF_m1r, jT_tt, jI_add, jI_mul, jI_sub, jI_cl, jm_up_same, jm_up_o, jm_up_j, jbR_T, jbR_F, jR_size hr, jt_Bells_canAnySound_7 hr.1, ha, jt_Bells_canAnySound_16 hr.1, hs, jt_Bells_canAnySound_19 hr.1]
    · rw [if_neg e] at hs
      have := cBells_anyL h1 hw hr hf m (k + 1) (by omega) (fun i hi => by
        by_cases e2 : i = k
        · rw [e2]; exact e
        · exact h i (by omega))
      simp (disch := omega) only [jb_K_n, jb_K_v, ↓reduceIte, jT_lt, jF_lt, jT_le, jF_le, jT_eq, jF_eq, jT_z, jF_z, jF_neg, jT_nn, jT_pos, jF_pos, jT_le0, jF_le0, jT_x, jF_m1, jF_m1r, jT_tt, jI_add, jI_mul, jI_sub, jI_cl, jm_up_same, jm_up_o, jm_up_j, jbR_T, jbR_F, jR_size hr, jt_Bells_canAnySound_7 hr.1, ha, jt_Bells_canAnySound_16 hr.1, hs, jt_Bells_canAnySound_19 hr.1, this]
/-- the state after k signs -/
def jRk (σ : jm_S) (w f g : Nat → Nat) (k N : Nat) : Prop := jRn σ 3 5 (fun b => w (6 + 3 * b)) ∧ jRn σ 5 5 (fun b => jrw w f k (7 + 3 * b)) ∧ jRn σ 7 5 (fun b => jrw w f k (8 + 3 * b)) ∧ jCk σ w ∧ jCs σ w ∧ jRn σ 22 N (fun p => if p = 0 then k else w (81 + 13 * (p - 1))) ∧ jRn σ 24 60 (fun j => if 11 < j then g (j - 12) else if j < k then jrs5 w f j else g j) ∧ σ 1 4 = jI (w 3 + 1) ∧ σ 1 5 = jI (w 4) ∧ σ 1 6 = jI (jrw w f k 5)
theorem jRn.k {σ' : jm_S} {r n : Nat} {g : Nat → Nat} (h : jRn σ r n g) {P : Nat → Prop} (hk : ∀ q j, ¬ P q → σ' q j = σ q j) (h1 : ¬ P r) (h2 : ¬ P (r + 1)) : jRn σ' r n g := jR.eq h (hk _ _ h1) (fun k _ => hk _ _ h2)
theorem jCk.k {σ' : jm_S} (h : jCk σ w) {P : Nat → Prop} (hk : ∀ q j, ¬ P q → σ' q j = σ q j) (hP : ∀ q, 10 ≤ q → q < 16 → ¬ P q) : jCk σ' w := ⟨h.1.k hk (hP _ (by omega) (by omega)) (hP _ (by omega) (by omega)), h.2.1.k hk (hP _ (by omega) (by omega)) (hP _ (by omega) (by omega)), h.2.2.k hk (hP _ (by omega) (by omega)) (hP _ (by omega) (by omega))⟩
theorem jCs.k {σ' : jm_S} (h : jCs σ w) {P : Nat → Prop} (hk : ∀ q j, ¬ P q → σ' q j = σ q j) (hP : ∀ q, 17 ≤ q → q < 21 → ¬ P q) : jCs σ' w := ⟨h.1.k hk (hP _ (by omega) (by omega)) (hP _ (by omega) (by omega)), h.2.k hk (hP _ (by omega) (by omega)) (hP _ (by omega) (by omega))⟩
theorem cVillage_ringL {r n N : Nat} {g : Nat → Nat} (hw : jInv w) (hr26 : 26 ≤ r) (hr : jRn σ r n f) (hf : ∀ k, k < n → f k ≤ 5) (hn : n ≤ 12) (hN : 1 ≤ N ∧ N ≤ 5) : ∀ (m k : Nat) (τ : jm_S) (u6 : Value), k + m = n → jRk τ w f g k N → jA 1 26 σ τ → ∃ σ', jb_Ex 169 (65, [.ref (1 : Nat), .ref r, .ref (278 : Nat), .int (jI n), .int (jI (jrc w f k)), .int (jI k), u6], [], jm_hp τ) = some (some (.int (jI (jrc w f n))), jm_hp (jm_up σ' 1 5 (jI (w 4 + jrc w f n)))) ∧ jRk σ' w f g n N ∧ jA 1 26 σ σ'
  | 0, k, τ, u6, hm, h, hA => by
    obtain rfl : k = n := by omega
    have hr' := hr.A hA (by omega)
    refine ⟨τ, ?_, h, hA⟩
    have h5 := h.2.2.2.2.2.2.2.2.1
    rw [jt_Village_ringPeal_65 hr.1]
    simp (disch := omega) only [jb_K_n, jb_K_v, ↓reduceIte, jT_lt, jF_lt, jT_le, jF_le, jT_eq, jF_eq, jT_z, jF_z, jF_neg, jT_nn, jT_pos, jF_pos, jT_le0, jF_le0, jT_x, jF_m1, jF_m1r, jT_tt, jI_add, jI_mul, jI_sub, jI_cl, jm_up_same, jm_up_o, jm_up_j, jbR_T, jbR_F, h5]
  | m + 1, k, τ, u6, hm, h, hA => by
    have hr' := hr.A hA (by omega)
    have hf5 := hf k (by omega)
    have hjb := jrw_b hw.1 (f := f) (k := k) (fun i hi => hf i (by omega))
    have hat := jRn_at hr' (show k < n by omega)
    obtain ⟨a1, a2, a3, a4, a5, a6, a7, a8, a9, a10⟩ := h
    have hs := cBells_can a2 hjb hf5
    have h22 := jRn_at a6 (show 0 < N by omega)
    rw [if_pos rfl] at h22
    by_cases e : f k ≠ 5 ∧ jrw w f k (7 + 3 * f k) < 9
    · rw [if_pos e] at hs
      have hb : f k < 5 := by omega
      have hc : jrc w f (k + 1) = jrc w f k + 1 := by
        show jrc w f k + _ = _
        rw [if_pos e]
      have w5 := jRn_at a2 hb
      have p5 := jR_put a2 hb (jI (jrw w f k (7 + 3 * f k) + 1))
      have k5 : ∀ q j, ¬ (q = 6) → jm_up τ 6 (f k) (jI (jrw w f k (7 + 3 * f k) + 1)) q j = τ q j := fun q j z => jm_up_o _ _ z
      have b2 := jRn_put a2 (f k) (jrw w f k (7 + 3 * f k) + 1)
      have b3 := a3.k (P := fun q => q = 6) k5 (by omega) (by omega)
      have b6 := a6.k (P := fun q => q = 6) k5 (by omega) (by omega)
      have b7 := a7.k (P := fun q => q = 6) k5 (by omega) (by omega)
      have w7 := jRn_at b3 hb
      have p7 := jR_put b3 hb (jI (jrw w f k (8 + 3 * f k) + 1))
      have c3 := jRn_put b3 (f k) (jrw w f k (8 + 3 * f k) + 1)
      have c6 := b6.k (P := fun q => q = 8) (σ' := jm_up (jm_up τ 6 (f k) (jI (jrw w f k (7 + 3 * f k) + 1))) 8 (f k) (jI (jrw w f k (8 + 3 * f k) + 1))) (fun q j z => jm_up_o _ _ z) (by omega) (by omega)
      have c7 := b7.k (P := fun q => q = 8) (σ' := jm_up (jm_up τ 6 (f k) (jI (jrw w f k (7 + 3 * f k) + 1))) 8 (f k) (jI (jrw w f k (8 + 3 * f k) + 1))) (fun q j z => jm_up_o _ _ z) (by omega) (by omega)
      have r22 := jRn_at c6 (show 0 < N by omega)
      rw [if_pos rfl] at r22
      have p24 := jR_put c7 (show k < 60 by omega) (jI (f k))
      have d6 := c6.k (P := fun q => q = 25) (σ' := jm_up (jm_up (jm_up τ 6 (f k) (jI (jrw w f k (7 + 3 * f k) + 1))) 8 (f k) (jI (jrw w f k (8 + 3 * f k) + 1))) 25 k (jI (f k))) (fun q j z => jm_up_o _ _ z) (by omega) (by omega)
      have p22 := jR_put d6 (show 0 < N by omega) (jI (k + 1))
      have d7 := jRn_put c7 k (f k)
      have e6 := jRn_put d6 0 (k + 1)
      have kF : ∀ q j, ¬ (q = 6 ∨ q = 8 ∨ q = 23 ∨ q = 25) → jm_up (jm_up (jm_up (jm_up τ 6 (f k) (jI (jrw w f k (7 + 3 * f k) + 1))) 8 (f k) (jI (jrw w f k (8 + 3 * f k) + 1))) 25 k (jI (f k))) 23 0 (jI (k + 1)) q j = τ q j := fun q j z => by rw [jm_up_o _ _ (by omega), jm_up_o _ _ (by omega), jm_up_o _ _ (by omega), jm_up_o _ _ (by omega)]
      generalize hρ : jm_up (jm_up (jm_up (jm_up τ 6 (f k) (jI (jrw w f k (7 + 3 * f k) + 1))) 8 (f k) (jI (jrw w f k (8 + 3 * f k) + 1))) 25 k (jI (f k))) 23 0 (jI (k + 1)) = ρ at kF e6 p22
      have kA : jA 1 26 σ ρ := hA.tr (fun q j z => kF q j (by omega))
      have hK : jRk ρ w f g (k + 1) N := by
        refine ⟨a1.k (P := fun q => q = 6 ∨ q = 8 ∨ q = 23 ∨ q = 25) kF (by omega) (by omega), ?_, ?_, a4.k (P := fun q => q = 6 ∨ q = 8 ∨ q = 23 ∨ q = 25) kF (fun q z1 z2 => by omega), a5.k (P := fun q => q = 6 ∨ q = 8 ∨ q = 23 ∨ q = 25) kF (fun q z1 z2 => by omega), ?_, ?_, (kF _ _ (by omega)).trans a8, (kF _ _ (by omega)).trans a9, ?_⟩
        · refine jRn.mv (σ := jm_up τ 6 (f k) (jI (jrw w f k (7 + 3 * f k) + 1))) b2 (fun q j z1 z2 => ?_) rfl (fun b hb' => ?_)
          · rw [← hρ, jm_up_o _ _ (by omega), jm_up_o _ _ (by omega), jm_up_o _ _ (by omega)]
          · rw [jrw_y e.1 e.2, jn0_o (by omega), jn0_o (by omega)]
            by_cases z : b = f k
            · rw [jn0_e (by omega), jn0_e z]
            · rw [jn0_o (by omega), jn0_o z]
        · refine jRn.mv c3 (fun q j z1 z2 => ?_) rfl (fun b hb' => ?_)
          · rw [← hρ, jm_up_o _ _ (by omega), jm_up_o _ _ (by omega)]
          · rw [jrw_y e.1 e.2, jn0_o (by omega)]
            by_cases z : b = f k
            · rw [jn0_e (by omega), jn0_e z]
            · rw [jn0_o (by omega), jn0_o z, jn0_o (by omega)]
        · refine e6.congr rfl (fun p hp => ?_)
          by_cases z : p = 0
          · rw [jn0_e z, if_pos z]
          · rw [jn0_o z, if_neg z, if_neg z]
        · refine d7.mv (fun q j z1 z2 => ?_) rfl (fun j hj => ?_)
          · rw [← hρ, jm_up_o _ _ (by omega)]
          · by_cases z : j = k
            · rw [jn0_e z, if_neg (by omega), if_pos (by omega), z]
              unfold jrs5
              rw [if_pos e]
            · rw [jn0_o z]
              by_cases z2 : 11 < j
              · rw [if_pos z2, if_pos z2]
              · rw [if_neg z2, if_neg z2]
                by_cases z3 : j < k
                · rw [if_pos z3, if_pos (by omega)]
                · rw [if_neg z3, if_neg (by omega)]
        · rw [jrw_y e.1 e.2, jn0_o (by omega), jn0_o (by omega), jn0_o (by omega)]
          exact (kF _ _ (by omega)).trans a10
      obtain ⟨σ', g1, g2, g3⟩ := cVillage_ringL hw hr26 hr hf hn hN m (k + 1) ρ (.int (jI (f k))) (by omega) hK kA
      refine ⟨σ', ?_, g2, g3⟩
      rw [← g1, hc, jt_Village_ringPeal_65 hr.1]
      have p5' : jb_Ev 8 [.ref (5 : Nat), .int (jI (f k)), .int (jI (jrw w f k (7 + 3 * f k) + 1))] (jm_hp τ) = some (none, jm_hp (jm_up τ 6 (f k) (jI (jrw w f k (7 + 3 * f k) + 1)))) := p5
      have p7' : jb_Ev 8 [.ref (7 : Nat), .int (jI (f k)), .int (jI (jrw w f k (8 + 3 * f k) + 1))] (jm_hp (jm_up τ 6 (f k) (jI (jrw w f k (7 + 3 * f k) + 1)))) = some (none, jm_hp (jm_up (jm_up τ 6 (f k) (jI (jrw w f k (7 + 3 * f k) + 1))) 8 (f k) (jI (jrw w f k (8 + 3 * f k) + 1)))) := p7
      simp (disch := omega) only [jb_K_n, jb_K_v, ↓reduceIte, jT_lt, jF_lt, jT_le, jF_le, jT_eq, jF_eq, jT_z, jF_z, jF_neg, jT_nn, jT_pos, jF_pos, jT_le0, jF_le0, jT_x, jF_m1, jF_m1r, jT_tt, jI_add, jI_mul, jI_sub, jI_cl, jm_up_same, jm_up_o, jm_up_j, jbR_T, jbR_F, hat, jt_Village_ringPeal_81 hr.1, jt_Bells_pull_0, jt_Bells_pull_5, jt_Bells_pull_23, jt_Bells_pull_28, jt_Bells_pull_41, jt_Bells_pull_46, hs, w5, p5', w7, p7', jt_Village_ringPeal_84 hr.1, jt_Peals_addToLatest_0, jt_Peals_addToLatest_8, jt_Peals_addToLatest_25, jt_Peals_addToLatest_36, r22, p24, p22, hρ, jt_Village_ringPeal_95 hr.1]
    · rw [if_neg e] at hs
      have hc : jrc w f (k + 1) = jrc w f k := by
        show jrc w f k + _ = _
        rw [if_neg e]
        rfl
      have p24 := jR_put a7 (show k < 60 by omega) (jI 5)
      have d6 := a6.k (P := fun q => q = 25) (σ' := jm_up τ 25 k (jI 5)) (fun q j z => jm_up_o _ _ z) (by omega) (by omega)
      have p22 := jR_put d6 (show 0 < N by omega) (jI (k + 1))
      have d7 := jRn_put a7 k 5
      have e6 := jRn_put d6 0 (k + 1)
      have hj : ∀ j, j ≠ 5 → jrw w f (k + 1) j = jrw w f k j := fun j hj => by
        by_cases z : f k = 5
        · rw [jrw_5 z]
        · rw [jrw_n z (fun q => e ⟨z, q⟩), jn0_o hj]
      by_cases z5 : f k = 5
      · have kF : ∀ q j, ¬ (q = 23 ∨ q = 25) → jm_up (jm_up τ 25 k (jI 5)) 23 0 (jI (k + 1)) q j = τ q j := fun q j z => by rw [jm_up_o _ _ (by omega), jm_up_o _ _ (by omega)]
        generalize hρ : jm_up (jm_up τ 25 k (jI 5)) 23 0 (jI (k + 1)) = ρ at kF e6 p22
        have kA : jA 1 26 σ ρ := hA.tr (fun q j z => kF q j (by omega))
        have hat2 := jRn_at (hr.A kA (by omega)) (show k < n by omega)
        have hK : jRk ρ w f g (k + 1) N := by
          refine ⟨a1.k (P := fun q => q = 23 ∨ q = 25) kF (by omega) (by omega), (a2.k (P := fun q => q = 23 ∨ q = 25) kF (by omega) (by omega)).congr rfl (fun b hb => (hj _ (by omega)).symm), (a3.k (P := fun q => q = 23 ∨ q = 25) kF (by omega) (by omega)).congr rfl (fun b hb => (hj _ (by omega)).symm), a4.k (P := fun q => q = 23 ∨ q = 25) kF (fun q z1 z2 => by omega), a5.k (P := fun q => q = 23 ∨ q = 25) kF (fun q z1 z2 => by omega), ?_, ?_, (kF _ _ (by omega)).trans a8, (kF _ _ (by omega)).trans a9, ?_⟩
          · refine e6.congr rfl (fun p hp => ?_)
            by_cases z : p = 0
            · rw [jn0_e z, if_pos z]
            · rw [jn0_o z, if_neg z, if_neg z]
          · refine d7.mv (fun q j z1 z2 => ?_) rfl (fun j hj => ?_)
            · rw [← hρ, jm_up_o _ _ (by omega)]
            · by_cases z : j = k
              · rw [jn0_e z, if_neg (by omega), if_pos (by omega), z]
                unfold jrs5
                rw [if_neg e]
              · rw [jn0_o z]
                by_cases z2 : 11 < j
                · rw [if_pos z2, if_pos z2]
                · rw [if_neg z2, if_neg z2]
                  by_cases z3 : j < k
                  · rw [if_pos z3, if_pos (by omega)]
                  · rw [if_neg z3, if_neg (by omega)]
          · rw [jrw_5 z5]
            exact (kF _ _ (by omega)).trans a10
        obtain ⟨σ', g1, g2, g3⟩ := cVillage_ringL hw hr26 hr hf hn hN m (k + 1) ρ (.int (jI 5)) (by omega) hK kA
        refine ⟨σ', ?_, g2, g3⟩
        rw [z5] at hs hat hat2
        rw [← g1, hc, jt_Village_ringPeal_65 hr.1]
        simp (disch := omega) only [jb_K_n, jb_K_v, ↓reduceIte, jT_lt, jF_lt, jT_le, jF_le, jT_eq, jF_eq, jT_z, jF_z, jF_neg, jT_nn, jT_pos, jF_pos, jT_le0, jF_le0, jT_x, jF_m1, jF_m1r, jT_tt, jI_add, jI_mul, jI_sub, jI_cl, jm_up_same, jm_up_o, jm_up_j, jbR_T, jbR_F, hat, jt_Village_ringPeal_81 hr.1, jt_Bells_pull_0, jt_Bells_pull_5, jt_Bells_pull_23, jt_Bells_pull_28, jt_Bells_pull_41, jt_Bells_pull_46, hs, jt_Village_ringPeal_84 hr.1, jt_Peals_addToLatest_0, jt_Peals_addToLatest_8, jt_Peals_addToLatest_25, jt_Peals_addToLatest_36, h22, p24, p22, hρ, jt_Village_ringPeal_95 hr.1, hat2, jt_Village_ringPeal_113 hr.1]
      · have kF0 : ∀ q j, ¬ (q = 23 ∨ q = 25) → jm_up (jm_up τ 25 k (jI 5)) 23 0 (jI (k + 1)) q j = τ q j := fun q j z => by rw [jm_up_o _ _ (by omega), jm_up_o _ _ (by omega)]
        generalize hρ : jm_up (jm_up τ 25 k (jI 5)) 23 0 (jI (k + 1)) = ρ at kF0 e6 p22
        have a10' := (kF0 1 6 (by omega)).trans a10
        have kF1 : ∀ q j, ¬ (q = 1) → jm_up ρ 1 6 (jI (jrw w f k 5 + 1)) q j = ρ q j := fun q j z => jm_up_o _ _ z
        have kJ : ∀ j, j ≠ 6 → jm_up ρ 1 6 (jI (jrw w f k 5 + 1)) 1 j = τ 1 j := fun j z => (jm_up_j _ _ z).trans (kF0 1 j (by omega))
        have hat2 := jRn_at (hr.A (hA.tr (fun q j z => kF0 q j (by omega))) (by omega)) (show k < n by omega)
        have kF : ∀ q j, ¬ (q = 23 ∨ q = 25 ∨ q = 1) → jm_up ρ 1 6 (jI (jrw w f k 5 + 1)) q j = τ q j := fun q j z => (kF1 q j (by omega)).trans (kF0 q j (by omega))
        have kA : jA 1 26 σ (jm_up ρ 1 6 (jI (jrw w f k 5 + 1))) := hA.tr (fun q j z => kF q j (by omega))
        have hK : jRk (jm_up ρ 1 6 (jI (jrw w f k 5 + 1))) w f g (k + 1) N := by
          refine ⟨a1.k (P := fun q => q = 23 ∨ q = 25 ∨ q = 1) kF (by omega) (by omega), (a2.k (P := fun q => q = 23 ∨ q = 25 ∨ q = 1) kF (by omega) (by omega)).congr rfl (fun b hb => (hj _ (by omega)).symm), (a3.k (P := fun q => q = 23 ∨ q = 25 ∨ q = 1) kF (by omega) (by omega)).congr rfl (fun b hb => (hj _ (by omega)).symm), a4.k (P := fun q => q = 23 ∨ q = 25 ∨ q = 1) kF (fun q z1 z2 => by omega), a5.k (P := fun q => q = 23 ∨ q = 25 ∨ q = 1) kF (fun q z1 z2 => by omega), ?_, ?_, (kJ _ (by omega)).trans a8, (kJ _ (by omega)).trans a9, ?_⟩
          · refine (e6.mv (σ' := jm_up ρ 1 6 (jI (jrw w f k 5 + 1))) (fun q j z1 z2 => by rw [kF1 _ _ (by omega), ← hρ]) rfl (fun p hp => ?_))
            by_cases z : p = 0
            · rw [jn0_e z, if_pos z]
            · rw [jn0_o z, if_neg z, if_neg z]
          · refine d7.mv (fun q j z1 z2 => ?_) rfl (fun j hj => ?_)
            · rw [kF1 _ _ (by omega), ← hρ, jm_up_o _ _ (by omega)]
            · by_cases z : j = k
              · rw [jn0_e z, if_neg (by omega), if_pos (by omega), z]
                unfold jrs5
                rw [if_neg e]
              · rw [jn0_o z]
                by_cases z2 : 11 < j
                · rw [if_pos z2, if_pos z2]
                · rw [if_neg z2, if_neg z2]
                  by_cases z3 : j < k
                  · rw [if_pos z3, if_pos (by omega)]
                  · rw [if_neg z3, if_neg (by omega)]
          · rw [jrw_n z5 (fun q => e ⟨z5, q⟩), jn0_s, jm_up_same]
        obtain ⟨σ', g1, g2, g3⟩ := cVillage_ringL hw hr26 hr hf hn hN m (k + 1) (jm_up ρ 1 6 (jI (jrw w f k 5 + 1))) (.int (jI 5)) (by omega) hK kA
        refine ⟨σ', ?_, g2, g3⟩
        rw [← g1, hc, jt_Village_ringPeal_65 hr.1]
        simp (disch := omega) only [jb_K_n, jb_K_v, ↓reduceIte, jT_lt, jF_lt, jT_le, jF_le, jT_eq, jF_eq, jT_z, jF_z, jF_neg, jT_nn, jT_pos, jF_pos, jT_le0, jF_le0, jT_x, jF_m1, jF_m1r, jT_tt, jI_add, jI_mul, jI_sub, jI_cl, jm_up_same, jm_up_o, jm_up_j, jbR_T, jbR_F, hat, jt_Village_ringPeal_81 hr.1, jt_Bells_pull_0, jt_Bells_pull_5, jt_Bells_pull_23, jt_Bells_pull_28, jt_Bells_pull_41, jt_Bells_pull_46, hs, jt_Village_ringPeal_84 hr.1, jt_Peals_addToLatest_0, jt_Peals_addToLatest_8, jt_Peals_addToLatest_25, jt_Peals_addToLatest_36, h22, p24, p22, hρ, jt_Village_ringPeal_95 hr.1, hat2, a10', jt_Village_ringPeal_113 hr.1]
end RC
