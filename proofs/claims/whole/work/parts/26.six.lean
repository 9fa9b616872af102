/-! ===== hang, splice, swim, dive, strike, go ===== -/
theorem jn_18 : jm_ln 18 = 6 := by decide +kernel
theorem jn_20 : jm_ln 20 = 6 := by decide +kernel
section CI
variable {σ : jm_S} {w : Nat → Nat}
theorem jn0_l {f : Nat → Nat} {k x j n : Nat} (h : n ≤ k) (hj : j < n) : jn0 f k x j = f j := if_neg (by omega)
theorem jInv_com (hw : jInv w) {d r : Nat} (h6 : w 1 ≠ 6) (hd : 1 ≤ d) (hd9 : d ≤ 9) (hr : r ≤ 9) : jInv (jcom w d r) := by
  have h1 := hw.b1
  unfold jcom
  refine ⟨hw.1.fr (fun j hj => ?_), hw.2.1.fr (fun j hj => ?_), ⟨?_, fun i hi => ?_⟩, hw.2.2.2.fr (fun j hj => ?_)⟩
  · rw [jn0_o (by omega), jn0_o (by omega), jn0_o (by omega)]
  · rw [jn0_o (by omega), jn0_o (by omega), jn0_o (by omega)]
  · rw [jn0_s]
    omega
  · rw [jn0_s] at hi
    by_cases e : i = w 1
    · subst e
      rw [jn0_o (by omega), jn0_o (by omega), jn0_s, jn0_o (by omega), jn0_s]
      omega
    · rw [jn0_o (by omega), jn0_o (by omega), jn0_o (by omega), jn0_o (by omega), jn0_o (by omega), jn0_o (by omega)]
      exact hw.2.2.1.2 i (by omega)
  · rw [jn0_o (by omega), jn0_o (by omega), jn0_o (by omega)]
theorem cSwimmers_come (hV : jV σ 1 w) (hw : jInv w) {d r : Nat} (hd : 1 ≤ d) (hd9 : d ≤ 9) (hr : r ≤ 9) : jCO σ (qcom w d r) (jb_Ev 63 [.ref (16 : Nat), .int (jI d), .int (jI r), .ref (278 : Nat)] (jm_hp σ)) := by
  unfold qcom
  have hb := hw.b1
  obtain ⟨h1, h2⟩ := hV.s
  by_cases e : w 1 = 6
  · rw [if_pos e]
    refine ⟨⟨by omega, by omega⟩, ?_⟩
    have hf := jR_fullY h1 (by rw [show (17 : Nat) + 1 = 18 from rfl, jn_18]; omega)
    simp (disch := omega) only [jb_K_n, jb_K_v, ↓reduceIte, jT_lt, jF_lt, jT_le, jF_le, jT_eq, jF_eq, jT_z, jF_z, jF_neg, jT_nn, jT_pos, jF_pos, jT_le0, jF_le0, jT_x, jF_m1, jF_m1r, jT_tt, jI_add, jI_mul, jI_sub, jI_cl, jm_up_same, jm_up_o, jm_up_j, jbR_T, jbR_F, jt_Swimmers_come_0, jt_Swimmers_come_4, jt_Swimmers_come_27, jt_Swimmers_come_37, jt_Swimmers_come_46, jt_Swimmers_come_54, jt_Swimmers_come_61, jD_depthY hd hd9, hf, jt_Reasons_refuse_0, jrs]
  · rw [if_neg e]
    have n1 : w 1 < jm_ln (17 + 1) := by rw [show (17 : Nat) + 1 = 18 from rfl, jn_18]; omega
    have n2 : w 1 < jm_ln (19 + 1) := by rw [show (19 : Nat) + 1 = 20 from rfl, jn_20]; omega
    have f1 := jF_add (r := 17) (σ := σ) (w 1) (jI d) (jI (w 1 + 1))
    have a1 := jRn_add h1 n1 d
    have e1 := jR_add h1 n1 (jI d)
    have hf := jR_fullN h1 n1
    generalize hτ : jm_up (jm_up σ (17 + 1) (w 1) (jI d)) 17 1 (jI (w 1 + 1)) = τ at f1 a1 e1
    have h2' : jRn τ 19 (w 1) _ := h2.fr f1 (by omega)
    have f2 := jF_add (r := 19) (σ := τ) (w 1) (jI r) (jI (w 1 + 1))
    have a2 := jRn_add h2' n2 r
    have e2 := jR_add h2' n2 (jI r)
    generalize hυ : jm_up (jm_up τ (19 + 1) (w 1) (jI r)) 19 1 (jI (w 1 + 1)) = υ at f2 a2 e2
    have a1' : jRn υ 17 (w 1 + 1) _ := a1.fr f2 (by omega)
    have hF : ∀ q j, ¬ (17 ≤ q ∧ q < 21) → υ q j = σ q j := fun q j z => (f2 q j (by omega) (by omega)).trans (f1 q j (by omega) (by omega))
    obtain ⟨v1, v2, v3, v4, v5⟩ := jV1.mp hV
    refine ⟨by omega, jInv_com hw e hd hd9 hr, υ, ?_, ?_, fun q j z => hF q j (by omega)⟩
    · simp (disch := omega) only [jb_K_n, jb_K_v, ↓reduceIte, jT_lt, jF_lt, jT_le, jF_le, jT_eq, jF_eq, jT_z, jF_z, jF_neg, jT_nn, jT_pos, jF_pos, jT_le0, jF_le0, jT_x, jF_m1, jF_m1r, jT_tt, jI_add, jI_mul, jI_sub, jI_cl, jm_up_same, jm_up_o, jm_up_j, jbR_T, jbR_F, jt_Swimmers_come_0, jt_Swimmers_come_4, jt_Swimmers_come_27, jt_Swimmers_come_37, jt_Swimmers_come_46, jt_Swimmers_come_54, jt_Swimmers_come_61, jD_depthY hd hd9, hf, e1, e2, jR_size a1', Nat.add_sub_cancel]
    · unfold jcom
      refine jV1.mpr ⟨v1.fr (fun q j z1 z2 => hF q j (by omega)) (fun j z1 z2 => ?_), v2.fr hw.b0 (fun q j z1 z2 => hF q j (by omega)) (fun j z => ?_), ⟨a1'.congr (by rw [jn0_s]) (fun i hi => ?_), a2.congr (by rw [jn0_s]) (fun i hi => ?_)⟩, v4.fr hw.2.2.2 (fun q j z1 z2 => hF q j (by omega)) (fun j z => ?_), v5.fr (fun j z1 z2 => hF _ j (by omega)) (fun j z1 z2 => ?_)⟩
      · rw [jn0_o (by omega), jn0_o (by omega), jn0_o (by omega)]
      · rw [jn0_o (by omega), jn0_o (by omega), jn0_o (by omega)]
      · by_cases e3 : i = w 1
        · subst e3
          rw [jn0_s, jn0_o (by omega), jn0_o (by omega), jn0_s]
        · rw [jn0_o e3, jn0_o (by omega), jn0_o (by omega), jn0_o (by omega)]
      · by_cases e3 : i = w 1
        · subst e3
          rw [jn0_s, jn0_o (by omega), jn0_s]
        · rw [jn0_o e3, jn0_o (by omega), jn0_o (by omega), jn0_o (by omega)]
      · rw [jn0_o (by omega), jn0_o (by omega), jn0_o (by omega)]
      · rw [jn0_o (by omega), jn0_o (by omega), jn0_o (by omega)]
theorem jInv_s (hw : jInv w) {i d : Nat} (hi : i < w 1) (hd : 1 ≤ d) (hd9 : d ≤ 9) : jInv (jn0 w (69 + 2 * i) d) := by
  have h1 := hw.b1
  refine ⟨hw.1.fr (fun j hj => jn0_o (by omega)), hw.2.1.fr (fun j hj => jn0_o (by omega)), ⟨by rw [jn0_o (by omega)]; exact h1, fun k hk => ?_⟩, hw.2.2.2.fr (fun j hj => jn0_o (by omega))⟩
  rw [jn0_o (by omega)] at hk
  have h2 := hw.2.2.1.2 k hk
  by_cases e : k = i
  · subst e
    rw [jn0_s, jn0_o (by omega)]
    omega
  · rw [jn0_o (by omega), jn0_o (by omega)]
    exact h2
theorem cSwimmers_moveTo (hV : jV σ 1 w) (hw : jInv w) {i d : Nat} (hi : i < w 1) (hd : 1 ≤ d) (hd9 : d ≤ 9) : jCO σ (qbec w (69 + 2 * i) d) (jb_Ev 64 [.ref (16 : Nat), .int (jI i), .int (jI d), .ref (278 : Nat)] (jm_hp σ)) := by
  unfold qbec
  have hb := hw.b1
  have hB := hw.2.2.1.2 i hi
  obtain ⟨h1, h2⟩ := hV.s
  by_cases e : w (69 + 2 * i) = d
  · rw [if_pos e]
    refine ⟨⟨by omega, by omega⟩, ?_⟩
    simp (disch := omega) only [jb_K_n, jb_K_v, ↓reduceIte, jT_lt, jF_lt, jT_le, jF_le, jT_eq, jF_eq, jT_z, jF_z, jF_neg, jT_nn, jT_pos, jF_pos, jT_le0, jF_le0, jT_x, jF_m1, jF_m1r, jT_tt, jI_add, jI_mul, jI_sub, jI_cl, jm_up_same, jm_up_o, jm_up_j, jbR_T, jbR_F, jt_Swimmers_moveTo_0, jt_Swimmers_moveTo_8, jt_Swimmers_moveTo_17, jt_Swimmers_moveTo_31, jt_Swimmers_moveTo_45, jt_Swimmers_moveTo_55, jR_hasY h1 hi, jD_depthY hd hd9, jR_at h1 hi, jt_Reasons_refuse_0, jrs]
  · rw [if_neg e]
    refine ⟨by omega, jInv_s hw hi hd hd9, jm_up σ 18 i (jI d), ?_, ?_, jA_up (by omega) (by omega)⟩
    · simp (disch := omega) only [jb_K_n, jb_K_v, ↓reduceIte, jT_lt, jF_lt, jT_le, jF_le, jT_eq, jF_eq, jT_z, jF_z, jF_neg, jT_nn, jT_pos, jF_pos, jT_le0, jF_le0, jT_x, jF_m1, jF_m1r, jT_tt, jI_add, jI_mul, jI_sub, jI_cl, jm_up_same, jm_up_o, jm_up_j, jbR_T, jbR_F, jt_Swimmers_moveTo_0, jt_Swimmers_moveTo_8, jt_Swimmers_moveTo_17, jt_Swimmers_moveTo_31, jt_Swimmers_moveTo_45, jt_Swimmers_moveTo_55, jR_hasY h1 hi, jD_depthY hd hd9, jR_at h1 hi, jR_put h1 hi (jI d)]
    · obtain ⟨v1, v2, v3, v4, v5⟩ := jV1.mp hV
      refine jV1.mpr ⟨v1.fr (fun q j z1 z2 => jm_up_o _ _ (by omega)) (fun j z1 z2 => jn0_o (by omega)), v2.fr hw.b0 (fun q j z1 z2 => jm_up_o _ _ (by omega)) (fun j z => jn0_o (by omega)), ⟨(jRn_put h1 i d).congr (by rw [jn0_o (by omega)]) (fun k hk => ?_), h2.mv (fun q j z1 z2 => jm_up_o _ _ (by omega)) (jn0_o (by omega)) (fun k hk => jn0_o (by omega))⟩, v4.fr hw.2.2.2 (fun q j z1 z2 => jm_up_o _ _ (by omega)) (fun j z => jn0_o (by omega)), v5.fr (fun j z1 z2 => jm_up_o _ _ (by omega)) (fun j z1 z2 => jn0_o (by omega))⟩
      by_cases e3 : k = i
      · rw [e3, jn0_s, jn0_s]
      · rw [jn0_o e3, jn0_o (by omega)]
theorem jlea_o {i j : Nat} (h : j ≠ 1) (h2 : j < 69 + 2 * i ∧ j < 79 ∨ 81 ≤ j) : jlea w i j = w j := by
  unfold jlea
  rw [jn0_o h, if_neg (by omega), if_neg (by omega)]
theorem jlea_m {i j : Nat} (h : 69 + 2 * i ≤ j) (h2 : j < 79) : jlea w i j = w (j + 2) := by
  unfold jlea
  rw [jn0_o (by omega), if_pos ⟨h, h2⟩]
theorem jlea_1 {i : Nat} : jlea w i 1 = w 1 - 1 := jn0_s _ _ _
theorem cSwimmers_leave (hV : jV σ 1 w) (hw : jInv w) {i : Nat} (hi : i < w 1) : jCO σ (qlea w i) (jb_Ev 126 [.ref (16 : Nat), .int (jI i)] (jm_hp σ)) := by
  unfold qlea
  have hb := hw.b1
  obtain ⟨h1, h2⟩ := hV.s
  obtain ⟨τ, e1, a1, f1⟩ := jR_remove h1 hi
  obtain ⟨υ, e2, a2, f2⟩ := jR_remove (h2.fr f1 (by omega)) hi
  have a1' : jRn υ 17 (w 1 - 1) _ := a1.fr f2 (by omega)
  have hF : ∀ q j, ¬ (17 ≤ q ∧ q < 21) → υ q j = σ q j := fun q j z => (f2 q j (by omega) (by omega)).trans (f1 q j (by omega) (by omega))
  obtain ⟨v1, v2, v3, v4, v5⟩ := jV1.mp hV
  refine ⟨by omega, ⟨hw.1.fr (fun j hj => jlea_o (by omega) (by omega)), hw.2.1.fr (fun j hj => jlea_o (by omega) (by omega)), ⟨by rw [jlea_1]; omega, fun k hk => ?_⟩, hw.2.2.2.fr (fun j hj => jlea_o (by omega) (by omega))⟩, υ, ?_, ?_, fun q j z => hF q j (by omega)⟩
  · rw [jlea_1] at hk
    by_cases e : k < i
    · rw [jlea_o (by omega) (by omega), jlea_o (by omega) (by omega)]
      exact hw.2.2.1.2 k (by omega)
    · rw [jlea_m (by omega) (by omega), jlea_m (by omega) (by omega), show 69 + 2 * k + 2 = 69 + 2 * (k + 1) by omega, show 70 + 2 * k + 2 = 70 + 2 * (k + 1) by omega]
      exact hw.2.2.1.2 (k + 1) (by omega)
  · simp (disch := omega) only [jb_K_n, jb_K_v, ↓reduceIte, jT_lt, jF_lt, jT_le, jF_le, jT_eq, jF_eq, jT_z, jF_z, jF_neg, jT_nn, jT_pos, jF_pos, jT_le0, jF_le0, jT_x, jF_m1, jF_m1r, jT_tt, jI_add, jI_mul, jI_sub, jI_cl, jm_up_same, jm_up_o, jm_up_j, jbR_T, jbR_F, jt_Swimmers_leave_0, jt_Swimmers_leave_8, jt_Swimmers_leave_21, jt_Swimmers_leave_29, jt_Swimmers_leave_36, jR_hasY h1 hi, e1, e2, jR_size a1']
  · refine jV1.mpr ⟨v1.fr (fun q j z1 z2 => hF q j (by omega)) (fun j z1 z2 => jlea_o (by omega) (by omega)), v2.fr hw.b0 (fun q j z1 z2 => hF q j (by omega)) (fun j z => jlea_o (by omega) (by omega)), ⟨a1'.congr jlea_1.symm (fun k hk => ?_), a2.congr jlea_1.symm (fun k hk => ?_)⟩, v4.fr hw.2.2.2 (fun q j z1 z2 => hF q j (by omega)) (fun j z => jlea_o (by omega) (by omega)), v5.fr (fun j z1 z2 => hF _ j (by omega)) (fun j z1 z2 => jlea_o (by omega) (by omega))⟩
    · by_cases e : k < i
      · rw [if_pos e, jlea_o (by omega) (by omega)]
      · rw [if_neg e, jlea_m (by omega) (by omega), show 69 + 2 * k + 2 = 69 + 2 * (k + 1) by omega]
    · by_cases e : k < i
      · rw [if_pos e, jlea_o (by omega) (by omega)]
      · rw [if_neg e, jlea_m (by omega) (by omega), show 70 + 2 * k + 2 = 70 + 2 * (k + 1) by omega]
theorem jstr_o {i j : Nat} (h : j ≠ 0) (h2 : j < 21 + 6 * i ∧ j < 63 ∨ 69 ≤ j) : jstr w i j = w j := by
  unfold jstr
  rw [jn0_o h, if_neg (by omega), if_neg (by omega)]
theorem jstr_m {i j : Nat} (h : 21 + 6 * i ≤ j) (h2 : j < 63) : jstr w i j = w (j + 6) := by
  unfold jstr
  rw [jn0_o (by omega), if_pos ⟨h, h2⟩]
theorem jstr_0 {i : Nat} : jstr w i 0 = w 0 - 1 := jn0_s _ _ _
theorem jstr_k {i k j : Nat} (hk : k < 7) (hj : j < 6) : jstr w i (21 + 6 * k + j) = w (21 + 6 * (if k < i then k else k + 1) + j) := by
  by_cases e : k < i
  · rw [if_pos e, jstr_o (by omega) (by omega)]
  · rw [if_neg e, jstr_m (by omega) (by omega), show 21 + 6 * k + j + 6 = 21 + 6 * (k + 1) + j by omega]
theorem jstr_s {i k : Nat} (hk : k < 7) : jspl (jstr w i) k = jspl w (if k < i then k else k + 1) := jspl_eq (fun j hj => by
  have := jstr_k (w := w) (i := i) hk (show j + 1 < 6 by omega)
  rw [show 21 + 6 * k + (j + 1) = 22 + 6 * k + j by omega] at this
  rw [this]
  congr 1
  omega)
theorem jInv_str (hw : jInv w) {i : Nat} (hi : i < w 0) : jInv (jstr w i) := by
  have h0 := hw.b0
  obtain ⟨k1, k2, k3⟩ := hw.2.1
  refine ⟨hw.1.fr (fun j hj => jstr_o (by omega) (by omega)), ⟨by rw [jstr_0]; omega, fun k hk => ?_, fun k l hk hl he => ?_⟩, hw.2.2.1.fr (fun j hj => jstr_o (by omega) (by omega)), hw.2.2.2.fr (fun j hj => jstr_o (by omega) (by omega))⟩
  · rw [jstr_0] at hk
    have e : ∀ j, j < 6 → jstr w i (21 + 6 * k + j) = w (21 + 6 * (if k < i then k else k + 1) + j) := fun j hj => jstr_k (by omega) hj
    have hm : (if k < i then k else k + 1) < w 0 := by split <;> omega
    generalize (if k < i then k else k + 1) = m at e hm
    obtain ⟨a1, a2, a3, a4, a5, a6⟩ := k2 m hm
    have e0 : jstr w i (21 + 6 * k) = w (21 + 6 * m) := e 0 (by omega)
    have e1 : jstr w i (22 + 6 * k) = w (22 + 6 * m) := by
      have := e 1 (by omega)
      rw [show 21 + 6 * k + 1 = 22 + 6 * k by omega, show 21 + 6 * m + 1 = 22 + 6 * m by omega] at this
      exact this
    have e2 : ∀ j, j < 4 → jstr w i (23 + 6 * k + j) = w (23 + 6 * m + j) := fun j hj => by
      have := e (j + 2) (by omega)
      rw [show 21 + 6 * k + (j + 2) = 23 + 6 * k + j by omega, show 21 + 6 * m + (j + 2) = 23 + 6 * m + j by omega] at this
      exact this
    rw [e0, e1]
    refine ⟨a1, a2, a3, fun j hj => ?_, ?_, ?_⟩
    · rw [e2 j (by omega)]
      exact a4 j hj
    · have := e2 0 (by omega)
      rw [Nat.add_zero, Nat.add_zero] at this
      rw [this]
      exact a5
    · rw [e2 _ (by omega)]
      exact a6
  · rw [jstr_0] at hk hl
    rw [jstr_s (by omega), jstr_s (by omega)] at he
    have := k3 _ _ (by split <;> omega) (by split <;> omega) he
    split at this <;> split at this <;> omega
theorem cBook_remove (hV : jV σ 1 w) (hw : jInv w) {i : Nat} (hi : i < w 0) : jCO σ (qstr w i) (jb_Ev 125 [.ref (9 : Nat), .int (jI i)] (jm_hp σ)) := by
  unfold qstr
  have hb := hw.b0
  obtain ⟨h1, h2, h3⟩ := hV.k
  obtain ⟨τ, e1, a1, f1⟩ := jR_remove h1 hi
  obtain ⟨υ, e2, a2, f2⟩ := jR_remove (h2.fr f1 (by omega)) hi
  obtain ⟨ρ, e3, a3, f3⟩ := jR_remove ((h3.fr f1 (by omega)).fr f2 (by omega)) hi
  have a1' : jRn ρ 10 (w 0 - 1) _ := (a1.fr f2 (by omega)).fr f3 (by omega)
  have a2' : jRn ρ 12 (w 0 - 1) _ := a2.fr f3 (by omega)
  have hF : ∀ q j, ¬ (10 ≤ q ∧ q < 16) → ρ q j = σ q j := fun q j z => (f3 q j (by omega) (by omega)).trans ((f2 q j (by omega) (by omega)).trans (f1 q j (by omega) (by omega)))
  obtain ⟨v1, v2, v3, v4, v5⟩ := jV1.mp hV
  refine ⟨by omega, jInv_str hw hi, ρ, ?_, ?_, fun q j z => hF q j (by omega)⟩
  · simp (disch := omega) only [jb_K_n, jb_K_v, ↓reduceIte, jT_lt, jF_lt, jT_le, jF_le, jT_eq, jF_eq, jT_z, jF_z, jF_neg, jT_nn, jT_pos, jF_pos, jT_le0, jF_le0, jT_x, jF_m1, jF_m1r, jT_tt, jI_add, jI_mul, jI_sub, jI_cl, jm_up_same, jm_up_o, jm_up_j, jbR_T, jbR_F, jt_Book_remove_0, jt_Book_remove_8, jt_Book_remove_21, jt_Book_remove_29, jt_Book_remove_37, jt_Book_remove_44, jR_hasY h1 hi, e1, e2, e3, jR_size a1']
  · refine jV1.mpr ⟨v1.fr (fun q j z1 z2 => hF q j (by omega)) (fun j z1 z2 => jstr_o (by omega) (by omega)), ⟨a1'.congr jstr_0.symm (fun k hk => ?_), a2'.congr jstr_0.symm (fun k hk => ?_), a3.congr jstr_0.symm (fun k hk => ?_)⟩, v3.fr hw.b1 (fun q j z1 z2 => hF q j (by omega)) (fun j z => jstr_o (by omega) (by omega)), v4.fr hw.2.2.2 (fun q j z1 z2 => hF q j (by omega)) (fun j z => jstr_o (by omega) (by omega)), v5.fr (fun j z1 z2 => hF _ j (by omega)) (fun j z1 z2 => jstr_o (by omega) (by omega))⟩
    · have := jstr_k (w := w) (i := i) (k := k) (j := 0) (by omega) (by omega)
      rw [Nat.add_zero, Nat.add_zero] at this
      rw [this]
      split <;> rfl
    · have := jstr_k (w := w) (i := i) (k := k) (j := 1) (by omega) (by omega)
      rw [show 21 + 6 * k + 1 = 22 + 6 * k by omega] at this
      rw [this]
      split <;> (congr 1; omega)
    · rw [jstr_s (by omega)]
      split <;> rfl
end CI
section OC
variable {σ : jm_S} {S : jSt}
theorem jneg1 : (-1 : Int32) < 0 := by decide
theorem jneg2 : (-2 : Int32) < 0 := by decide
theorem jqbec_y {w : Nat → Nat} {k d y z : Nat} (h : qbec w k d = .inr (y, z)) : y ≠ 0 ∧ y ≤ 7 := by
  unfold qbec at h
  split at h
  · cases h; omega
  · cases h
theorem jqren_y {w : Nat → Nat} {b y z : Nat} (h : qren w b = .inr (y, z)) : y ≠ 0 ∧ y ≤ 7 := by
  unfold qren at h
  split at h
  · cases h; omega
  · cases h
theorem jqcom_y {w : Nat → Nat} {d r y z : Nat} (h : qcom w d r = .inr (y, z)) : y ≠ 0 ∧ y ≤ 7 := by
  unfold qcom at h
  split at h
  · cases h; omega
  · cases h
/-- the village's own number goes with it -/
theorem jCO_w {σ : jm_S} {q : jRes} {e : Option jb_Res} (h : jCO σ q e) : ∀ a w, q = .inl (a, w) → jInv w := fun a w hq => by
  subst hq
  exact h.2.1
theorem o_hang (hC : JC σ S) (hM : JM σ S) (hI : JI S) (x1 x2 : Int32) : jOp σ 215 183 [.int x1, .int x2] := by
  obtain ⟨σ0, e0, v0, A0⟩ := jV_take (v := 26) (u := 1) jc_26 jc_1 (by omega) hC.1
  have V0 := hC.1.A A0 (by omega)
  by_cases h1 : jlt x1 5
  · obtain ⟨b, hb, rfl⟩ := h1
    by_cases h2 : jbt x2 1 9
    · obtain ⟨d, hd, hd9, rfl⟩ := h2
      have hq := cBells_moveTo V0 hI.1 hb hd hd9
      obtain ⟨σ1, σ2, e1, e2, c2, f2⟩ := jC_end hC hI A0 v0 hq
      refine jOp_of (v := .int (jGa (qbec (S 0) (6 + 3 * b) d))) hM ⟨σ2, ?_, c2, f2⟩ (fun τ hτ => ?_) (jGo_I hI (jCO_w hq) (fun y z h => (jqbec_y h).2))
      · rw [jt_D_hang_0, e0, jb_K_n, jt_D_hang_11, e1, jb_K_v, jt_D_hang_28, e2, jb_K_v, jt_D_hang_31]
      · obtain ⟨τ0, e3, b3, s3, f3⟩ := jM_starts hτ.1
        have hB := hI.1.1.1 b hb
        obtain ⟨x, τ1, τ2, e4, e5, m5, l5⟩ := jM_end hτ hI f3 b3 (mM_becomes (k := 6 + 3 * b) (d := d) (w := S 0) (fun j hj => (f3 _ _ (by omega)).trans (hτ.1 j hj)) s3 (by omega) (by omega) (by omega)) (fun y z h => jqbec_y h)
        refine ⟨τ2, ?_, m5, l5⟩
        simp (disch := omega) only [jb_K_n, jb_K_v, ↓reduceIte, jT_lt, jF_lt, jT_le, jF_le, jT_eq, jF_eq, jT_z, jF_z, jF_neg, jT_nn, jT_pos, jF_pos, jT_le0, jF_le0, jT_x, jF_m1, jF_m1r, jT_tt, jI_add, jI_mul, jI_sub, jI_cl, jm_up_same, jm_up_o, jm_up_j, jbR_T, jbR_F, jt_M_hang_0, jt_M_hang_4, jt_M_hang_11, jt_M_hang_18, jt_M_hang_32, jt_M_hang_38, jt_M_hang_44, jt_M_hang_47, jM_bellY hb, jM_depthY hd hd9, jt_M_bellAt_0, e3, Nat.add_zero, e4, e5]
    · refine jOp_q (v := .int (-2)) hC hM hI ⟨σ0, ?_, A0.cS (by omega)⟩ (fun τ hτ => ⟨τ, ?_, jmS.rf⟩)
      · have e1 := jR_hasY V0.b.1 hb
        have e2 := jsettled_no (σ := σ0) jneg2
        simp (disch := omega) only [jb_K_n, jb_K_v, ↓reduceIte, jT_lt, jF_lt, jT_le, jF_le, jT_eq, jF_eq, jT_z, jF_z, jF_neg, jT_nn, jT_pos, jF_pos, jT_le0, jF_le0, jT_x, jF_m1, jF_m1r, jT_tt, jI_add, jI_mul, jI_sub, jI_cl, jm_up_same, jm_up_o, jm_up_j, jbR_T, jbR_F, jt_D_hang_0, jt_D_hang_11, jt_D_hang_28, jt_D_hang_31, e0, jt_Bells_moveTo_0, jt_Bells_moveTo_8, jt_Bells_moveTo_17, jt_Bells_moveTo_31, jt_Bells_moveTo_45, jt_Bells_moveTo_55, e1, jD_depthN h2, e2]
      · simp (disch := omega) only [jb_K_n, jb_K_v, ↓reduceIte, jT_lt, jF_lt, jT_le, jF_le, jT_eq, jF_eq, jT_z, jF_z, jF_neg, jT_nn, jT_pos, jF_pos, jT_le0, jF_le0, jT_x, jF_m1, jF_m1r, jT_tt, jI_add, jI_mul, jI_sub, jI_cl, jm_up_same, jm_up_o, jm_up_j, jbR_T, jbR_F, jt_M_hang_0, jt_M_hang_4, jt_M_hang_11, jt_M_hang_18, jt_M_hang_32, jt_M_hang_38, jt_M_hang_44, jt_M_hang_47, jM_bellY hb, jM_depthN h2]
  · refine jOp_q (v := .int (-1)) hC hM hI ⟨σ0, ?_, A0.cS (by omega)⟩ (fun τ hτ => ⟨τ, ?_, jmS.rf⟩)
    · have e1 := jR_hasN V0.b.1 h1
      have e2 := jsettled_no (σ := σ0) jneg1
      simp (disch := omega) only [jb_K_n, jb_K_v, ↓reduceIte, jT_lt, jF_lt, jT_le, jF_le, jT_eq, jF_eq, jT_z, jF_z, jF_neg, jT_nn, jT_pos, jF_pos, jT_le0, jF_le0, jT_x, jF_m1, jF_m1r, jT_tt, jI_add, jI_mul, jI_sub, jI_cl, jm_up_same, jm_up_o, jm_up_j, jbR_T, jbR_F, jt_D_hang_0, jt_D_hang_11, jt_D_hang_28, jt_D_hang_31, e0, jt_Bells_moveTo_0, jt_Bells_moveTo_8, jt_Bells_moveTo_17, jt_Bells_moveTo_31, jt_Bells_moveTo_45, jt_Bells_moveTo_55, e1, e2]
    · simp (disch := omega) only [jb_K_n, jb_K_v, ↓reduceIte, jT_lt, jF_lt, jT_le, jF_le, jT_eq, jF_eq, jT_z, jF_z, jF_neg, jT_nn, jT_pos, jF_pos, jT_le0, jF_le0, jT_x, jF_m1, jF_m1r, jT_tt, jI_add, jI_mul, jI_sub, jI_cl, jm_up_same, jm_up_o, jm_up_j, jbR_T, jbR_F, jt_M_hang_0, jt_M_hang_4, jt_M_hang_11, jt_M_hang_18, jt_M_hang_32, jt_M_hang_38, jt_M_hang_44, jt_M_hang_47, jM_bellN h1]
theorem o_splice (hC : JC σ S) (hM : JM σ S) (hI : JI S) (x1 : Int32) : jOp σ 216 184 [.int x1] := by
  obtain ⟨σ0, e0, v0, A0⟩ := jV_take (v := 26) (u := 1) jc_26 jc_1 (by omega) hC.1
  have V0 := hC.1.A A0 (by omega)
  by_cases h1 : jlt x1 5
  · obtain ⟨b, hb, rfl⟩ := h1
    have hq := cBells_mend V0 hI.1 hb
    obtain ⟨σ1, σ2, e1, e2, c2, f2⟩ := jC_end hC hI A0 v0 hq
    refine jOp_of (v := .int (jGa (qren (S 0) b))) hM ⟨σ2, ?_, c2, f2⟩ (fun τ hτ => ?_) (jGo_I hI (jCO_w hq) (fun y z h => (jqren_y h).2))
    · rw [jt_D_splice_0, e0, jb_K_n, jt_D_splice_11, e1, jb_K_v, jt_D_splice_27, e2, jb_K_v, jt_D_splice_30]
    · obtain ⟨τ0, e3, b3, s3, f3⟩ := jM_starts hτ.1
      have hB := hI.1.1.1 b hb
      obtain ⟨x, τ1, τ2, e4, e5, m5, l5⟩ := jM_end hτ hI f3 b3 (mM_renews (b := b) (w := S 0) (fun j hj => (f3 _ _ (by omega)).trans (hτ.1 j hj)) s3 (by omega) (by omega)) (fun y z h => jqren_y h)
      refine ⟨τ2, ?_, m5, l5⟩
      simp (disch := omega) only [jb_K_n, jb_K_v, ↓reduceIte, jT_lt, jF_lt, jT_le, jF_le, jT_eq, jF_eq, jT_z, jF_z, jF_neg, jT_nn, jT_pos, jF_pos, jT_le0, jF_le0, jT_x, jF_m1, jF_m1r, jT_tt, jI_add, jI_mul, jI_sub, jI_cl, jm_up_same, jm_up_o, jm_up_j, jbR_T, jbR_F, jt_M_splice_0, jt_M_splice_4, jt_M_splice_13, jt_M_splice_19, jt_M_splice_22, jM_bellY hb, e3, e4, e5]
  · refine jOp_q (v := .int (-1)) hC hM hI ⟨σ0, ?_, A0.cS (by omega)⟩ (fun τ hτ => ⟨τ, ?_, jmS.rf⟩)
    · have e1 := jR_hasN V0.b.2.1 h1
      have e2 := jsettled_no (σ := σ0) jneg1
      simp (disch := omega) only [jb_K_n, jb_K_v, ↓reduceIte, jT_lt, jF_lt, jT_le, jF_le, jT_eq, jF_eq, jT_z, jF_z, jF_neg, jT_nn, jT_pos, jF_pos, jT_le0, jF_le0, jT_x, jF_m1, jF_m1r, jT_tt, jI_add, jI_mul, jI_sub, jI_cl, jm_up_same, jm_up_o, jm_up_j, jbR_T, jbR_F, jt_D_splice_0, jt_D_splice_11, jt_D_splice_27, jt_D_splice_30, e0, jt_Bells_mend_0, jt_Bells_mend_8, jt_Bells_mend_21, jt_Bells_mend_32, jt_Bells_mend_42, e1, e2]
    · simp (disch := omega) only [jb_K_n, jb_K_v, ↓reduceIte, jT_lt, jF_lt, jT_le, jF_le, jT_eq, jF_eq, jT_z, jF_z, jF_neg, jT_nn, jT_pos, jF_pos, jT_le0, jF_le0, jT_x, jF_m1, jF_m1r, jT_tt, jI_add, jI_mul, jI_sub, jI_cl, jm_up_same, jm_up_o, jm_up_j, jbR_T, jbR_F, jt_M_splice_0, jt_M_splice_4, jt_M_splice_13, jt_M_splice_19, jt_M_splice_22, jM_bellN h1]
theorem o_swim (hC : JC σ S) (hM : JM σ S) (hI : JI S) (x1 x2 : Int32) : jOp σ 219 187 [.int x1, .int x2] := by
  obtain ⟨σ0, e0, v0, A0⟩ := jV_take (v := 26) (u := 1) jc_26 jc_1 (by omega) hC.1
  have V0 := hC.1.A A0 (by omega)
  by_cases h1 : jbt x1 1 9
  · obtain ⟨d, hd, hd9, rfl⟩ := h1
    by_cases h2 : jbt x2 0 9
    · obtain ⟨r, hr0, hr, rfl⟩ := h2
      have hq := cSwimmers_come V0 hI.1 hd hd9 hr
      obtain ⟨σ1, σ2, e1, e2, c2, f2⟩ := jC_end hC hI A0 v0 hq
      refine jOp_of (v := .int (jGa (qcom (S 0) d r))) hM ⟨σ2, ?_, c2, f2⟩ (fun τ hτ => ?_) (jGo_I hI (jCO_w hq) (fun y z h => (jqcom_y h).2))
      · rw [jt_D_swim_0, e0, jb_K_n, jt_D_swim_11, e1, jb_K_v, jt_D_swim_28, e2, jb_K_v, jt_D_swim_31]
      · obtain ⟨τ0, e3, b3, s3, f3⟩ := jM_starts hτ.1
        obtain ⟨x, τ1, τ2, e4, e5, m5, l5⟩ := jM_end hτ hI f3 b3 (mM_comes (d := d) (r := r) (w := S 0) (fun j hj => (f3 _ _ (by omega)).trans (hτ.1 j hj)) s3 hI.1.b1) (fun y z h => jqcom_y h)
        refine ⟨τ2, ?_, m5, l5⟩
        simp (disch := omega) only [jb_K_n, jb_K_v, ↓reduceIte, jT_lt, jF_lt, jT_le, jF_le, jT_eq, jF_eq, jT_z, jF_z, jF_neg, jT_nn, jT_pos, jF_pos, jT_le0, jF_le0, jT_x, jF_m1, jF_m1r, jT_tt, jI_add, jI_mul, jI_sub, jI_cl, jm_up_same, jm_up_o, jm_up_j, jbR_T, jbR_F, jt_M_swim_0, jt_M_swim_4, jt_M_swim_11, jt_M_swim_21, jt_M_swim_28, jt_M_swim_31, jM_depthY hd hd9, jM_reachY hr, e3, e4, e5]
    · refine jOp_q (v := .int (-2)) hC hM hI ⟨σ0, ?_, A0.cS (by omega)⟩ (fun τ hτ => ⟨τ, ?_, jmS.rf⟩)
      · have e2 := jsettled_no (σ := σ0) jneg2
        rcases jI_cases x2 with z | ⟨a, z, rfl⟩
        · simp (disch := omega) only [jb_K_n, jb_K_v, ↓reduceIte, jT_lt, jF_lt, jT_le, jF_le, jT_eq, jF_eq, jT_z, jF_z, jF_neg, jT_nn, jT_pos, jF_pos, jT_le0, jF_le0, jT_x, jF_m1, jF_m1r, jT_tt, jI_add, jI_mul, jI_sub, jI_cl, jm_up_same, jm_up_o, jm_up_j, jbR_T, jbR_F, jt_D_swim_0, jt_D_swim_11, jt_D_swim_28, jt_D_swim_31, e0, jt_Swimmers_come_0, jt_Swimmers_come_4, jt_Swimmers_come_27, jt_Swimmers_come_37, jt_Swimmers_come_46, jt_Swimmers_come_54, jt_Swimmers_come_61, jD_depthY hd hd9, z, e2]
        · have z2 : 9 < a := by
            rcases Nat.lt_or_ge 9 a with q | q
            · exact q
            · exact absurd ⟨a, by omega, q, rfl⟩ h2
          simp (disch := omega) only [jb_K_n, jb_K_v, ↓reduceIte, jT_lt, jF_lt, jT_le, jF_le, jT_eq, jF_eq, jT_z, jF_z, jF_neg, jT_nn, jT_pos, jF_pos, jT_le0, jF_le0, jT_x, jF_m1, jF_m1r, jT_tt, jI_add, jI_mul, jI_sub, jI_cl, jm_up_same, jm_up_o, jm_up_j, jbR_T, jbR_F, jt_D_swim_0, jt_D_swim_11, jt_D_swim_28, jt_D_swim_31, e0, jt_Swimmers_come_0, jt_Swimmers_come_4, jt_Swimmers_come_27, jt_Swimmers_come_37, jt_Swimmers_come_46, jt_Swimmers_come_54, jt_Swimmers_come_61, jD_depthY hd hd9, e2]
      · simp (disch := omega) only [jb_K_n, jb_K_v, ↓reduceIte, jT_lt, jF_lt, jT_le, jF_le, jT_eq, jF_eq, jT_z, jF_z, jF_neg, jT_nn, jT_pos, jF_pos, jT_le0, jF_le0, jT_x, jF_m1, jF_m1r, jT_tt, jI_add, jI_mul, jI_sub, jI_cl, jm_up_same, jm_up_o, jm_up_j, jbR_T, jbR_F, jt_M_swim_0, jt_M_swim_4, jt_M_swim_11, jt_M_swim_21, jt_M_swim_28, jt_M_swim_31, jM_depthY hd hd9, jM_reachN h2]
  · refine jOp_q (v := .int (-2)) hC hM hI ⟨σ0, ?_, A0.cS (by omega)⟩ (fun τ hτ => ⟨τ, ?_, jmS.rf⟩)
    · have e2 := jsettled_no (σ := σ0) jneg2
      simp (disch := omega) only [jb_K_n, jb_K_v, ↓reduceIte, jT_lt, jF_lt, jT_le, jF_le, jT_eq, jF_eq, jT_z, jF_z, jF_neg, jT_nn, jT_pos, jF_pos, jT_le0, jF_le0, jT_x, jF_m1, jF_m1r, jT_tt, jI_add, jI_mul, jI_sub, jI_cl, jm_up_same, jm_up_o, jm_up_j, jbR_T, jbR_F, jt_D_swim_0, jt_D_swim_11, jt_D_swim_28, jt_D_swim_31, e0, jt_Swimmers_come_0, jt_Swimmers_come_4, jt_Swimmers_come_27, jt_Swimmers_come_37, jt_Swimmers_come_46, jt_Swimmers_come_54, jt_Swimmers_come_61, jD_depthN h1, e2]
    · simp (disch := omega) only [jb_K_n, jb_K_v, ↓reduceIte, jT_lt, jF_lt, jT_le, jF_le, jT_eq, jF_eq, jT_z, jF_z, jF_neg, jT_nn, jT_pos, jF_pos, jT_le0, jF_le0, jT_x, jF_m1, jF_m1r, jT_tt, jI_add, jI_mul, jI_sub, jI_cl, jm_up_same, jm_up_o, jm_up_j, jbR_T, jbR_F, jt_M_swim_0, jt_M_swim_4, jt_M_swim_11, jt_M_swim_21, jt_M_swim_28, jt_M_swim_31, jM_depthN h1]
theorem o_dive (hC : JC σ S) (hM : JM σ S) (hI : JI S) (x1 x2 : Int32) : jOp σ 220 188 [.int x1, .int x2] := by
  obtain ⟨σ0, e0, v0, A0⟩ := jV_take (v := 26) (u := 1) jc_26 jc_1 (by omega) hC.1
  have V0 := hC.1.A A0 (by omega)
  have hb1 := hI.1.b1
  by_cases h1 : jlt x1 (S 0 1)
  · obtain ⟨i, hi, rfl⟩ := h1
    by_cases h2 : jbt x2 1 9
    · obtain ⟨d, hd, hd9, rfl⟩ := h2
      have hq := cSwimmers_moveTo V0 hI.1 hi hd hd9
      obtain ⟨σ1, σ2, e1, e2, c2, f2⟩ := jC_end hC hI A0 v0 hq
      refine jOp_of (v := .int (jGa (qbec (S 0) (69 + 2 * i) d))) hM ⟨σ2, ?_, c2, f2⟩ (fun τ hτ => ?_) (jGo_I hI (jCO_w hq) (fun y z h => (jqbec_y h).2))
      · rw [jt_D_dive_0, e0, jb_K_n, jt_D_dive_11, e1, jb_K_v, jt_D_dive_28, e2, jb_K_v, jt_D_dive_31]
      · obtain ⟨τ0, e3, b3, s3, f3⟩ := jM_starts hτ.1
        have hB := hI.1.2.2.1.2 i hi
        obtain ⟨x, τ1, τ2, e4, e5, m5, l5⟩ := jM_end hτ hI f3 b3 (mM_becomes (k := 69 + 2 * i) (d := d) (w := S 0) (fun j hj => (f3 _ _ (by omega)).trans (hτ.1 j hj)) s3 (by omega) (by omega) (by omega)) (fun y z h => jqbec_y h)
        refine ⟨τ2, ?_, m5, l5⟩
        have hs := jM_swimY (σ := τ) (hτ.1 1 (by omega)) hi (by omega)
        simp (disch := omega) only [jb_K_n, jb_K_v, ↓reduceIte, jT_lt, jF_lt, jT_le, jF_le, jT_eq, jF_eq, jT_z, jF_z, jF_neg, jT_nn, jT_pos, jF_pos, jT_le0, jF_le0, jT_x, jF_m1, jF_m1r, jT_tt, jI_add, jI_mul, jI_sub, jI_cl, jm_up_same, jm_up_o, jm_up_j, jbR_T, jbR_F, jt_M_dive_0, jt_M_dive_5, jt_M_dive_12, jt_M_dive_20, jt_M_dive_34, jt_M_dive_40, jt_M_dive_46, jt_M_dive_49, hs, jM_depthY hd hd9, jt_M_swimmerAt_0, e3, Nat.add_zero, e4, e5]
    · refine jOp_q (v := .int (-2)) hC hM hI ⟨σ0, ?_, A0.cS (by omega)⟩ (fun τ hτ => ⟨τ, ?_, jmS.rf⟩)
      · have e1 := jR_hasY V0.s.1 hi
        have e2 := jsettled_no (σ := σ0) jneg2
        simp (disch := omega) only [jb_K_n, jb_K_v, ↓reduceIte, jT_lt, jF_lt, jT_le, jF_le, jT_eq, jF_eq, jT_z, jF_z, jF_neg, jT_nn, jT_pos, jF_pos, jT_le0, jF_le0, jT_x, jF_m1, jF_m1r, jT_tt, jI_add, jI_mul, jI_sub, jI_cl, jm_up_same, jm_up_o, jm_up_j, jbR_T, jbR_F, jt_D_dive_0, jt_D_dive_11, jt_D_dive_28, jt_D_dive_31, e0, jt_Swimmers_moveTo_0, jt_Swimmers_moveTo_8, jt_Swimmers_moveTo_17, jt_Swimmers_moveTo_31, jt_Swimmers_moveTo_45, jt_Swimmers_moveTo_55, e1, jD_depthN h2, e2]
      · have hs := jM_swimY (σ := τ) (hτ.1 1 (by omega)) hi (by omega)
        simp (disch := omega) only [jb_K_n, jb_K_v, ↓reduceIte, jT_lt, jF_lt, jT_le, jF_le, jT_eq, jF_eq, jT_z, jF_z, jF_neg, jT_nn, jT_pos, jF_pos, jT_le0, jF_le0, jT_x, jF_m1, jF_m1r, jT_tt, jI_add, jI_mul, jI_sub, jI_cl, jm_up_same, jm_up_o, jm_up_j, jbR_T, jbR_F, jt_M_dive_0, jt_M_dive_5, jt_M_dive_12, jt_M_dive_20, jt_M_dive_34, jt_M_dive_40, jt_M_dive_46, jt_M_dive_49, hs, jM_depthN h2]
  · refine jOp_q (v := .int (-1)) hC hM hI ⟨σ0, ?_, A0.cS (by omega)⟩ (fun τ hτ => ⟨τ, ?_, jmS.rf⟩)
    · have e1 := jR_hasN V0.s.1 h1
      have e2 := jsettled_no (σ := σ0) jneg1
      simp (disch := omega) only [jb_K_n, jb_K_v, ↓reduceIte, jT_lt, jF_lt, jT_le, jF_le, jT_eq, jF_eq, jT_z, jF_z, jF_neg, jT_nn, jT_pos, jF_pos, jT_le0, jF_le0, jT_x, jF_m1, jF_m1r, jT_tt, jI_add, jI_mul, jI_sub, jI_cl, jm_up_same, jm_up_o, jm_up_j, jbR_T, jbR_F, jt_D_dive_0, jt_D_dive_11, jt_D_dive_28, jt_D_dive_31, e0, jt_Swimmers_moveTo_0, jt_Swimmers_moveTo_8, jt_Swimmers_moveTo_17, jt_Swimmers_moveTo_31, jt_Swimmers_moveTo_45, jt_Swimmers_moveTo_55, e1, e2]
    · have hs := jM_swimN (σ := τ) (hτ.1 1 (by omega)) h1 (by omega)
      simp (disch := omega) only [jb_K_n, jb_K_v, ↓reduceIte, jT_lt, jF_lt, jT_le, jF_le, jT_eq, jF_eq, jT_z, jF_z, jF_neg, jT_nn, jT_pos, jF_pos, jT_le0, jF_le0, jT_x, jF_m1, jF_m1r, jT_tt, jI_add, jI_mul, jI_sub, jI_cl, jm_up_same, jm_up_o, jm_up_j, jbR_T, jbR_F, jt_M_dive_0, jt_M_dive_5, jt_M_dive_12, jt_M_dive_20, jt_M_dive_34, jt_M_dive_40, jt_M_dive_46, jt_M_dive_49, hs]
theorem o_strike (hC : JC σ S) (hM : JM σ S) (hI : JI S) (x1 : Int32) : jOp σ 218 186 [.int x1] := by
  obtain ⟨σ0, e0, v0, A0⟩ := jV_take (v := 26) (u := 1) jc_26 jc_1 (by omega) hC.1
  have V0 := hC.1.A A0 (by omega)
  have hb1 := hI.1.b0
  by_cases h1 : jlt x1 (S 0 0)
  · obtain ⟨i, hi, rfl⟩ := h1
    have hq := cBook_remove V0 hI.1 hi
    obtain ⟨σ1, σ2, e1, e2, c2, f2⟩ := jC_end hC hI A0 v0 hq
    refine jOp_of (v := .int (jGa (qstr (S 0) i))) hM ⟨σ2, ?_, c2, f2⟩ (fun τ hτ => ?_) (jGo_I hI (jCO_w hq) (fun y z h => by cases h))
    · rw [jt_D_strike_0, e0, jb_K_n, jt_D_strike_11, e1, jb_K_v, jt_D_strike_23, e2, jb_K_v, jt_D_strike_26]
    · obtain ⟨τ0, e3, b3, s3, f3⟩ := jM_starts hτ.1
      obtain ⟨x, τ1, τ2, e4, e5, m5, l5⟩ := jM_end hτ hI f3 b3 (mM_strikes (w := S 0) (fun j hj => (f3 _ _ (by omega)).trans (hτ.1 j hj)) s3 hi hb1) (fun y z h => by cases h)
      refine ⟨τ2, ?_, m5, l5⟩
      have hs := jM_wordY (σ := τ) (hτ.1 0 (by omega)) hi (by omega)
      simp (disch := omega) only [jb_K_n, jb_K_v, ↓reduceIte, jT_lt, jF_lt, jT_le, jF_le, jT_eq, jF_eq, jT_z, jF_z, jF_neg, jT_nn, jT_pos, jF_pos, jT_le0, jF_le0, jT_x, jF_m1, jF_m1r, jT_tt, jI_add, jI_mul, jI_sub, jI_cl, jm_up_same, jm_up_o, jm_up_j, jbR_T, jbR_F, jt_M_strike_0, jt_M_strike_5, jt_M_strike_14, jt_M_strike_20, jt_M_strike_23, hs, e3, e4, e5]
  · refine jOp_q (v := .int (-1)) hC hM hI ⟨σ0, ?_, A0.cS (by omega)⟩ (fun τ hτ => ⟨τ, ?_, jmS.rf⟩)
    · have e1 := jR_hasN V0.k.1 h1
      have e2 := jsettled_no (σ := σ0) jneg1
      simp (disch := omega) only [jb_K_n, jb_K_v, ↓reduceIte, jT_lt, jF_lt, jT_le, jF_le, jT_eq, jF_eq, jT_z, jF_z, jF_neg, jT_nn, jT_pos, jF_pos, jT_le0, jF_le0, jT_x, jF_m1, jF_m1r, jT_tt, jI_add, jI_mul, jI_sub, jI_cl, jm_up_same, jm_up_o, jm_up_j, jbR_T, jbR_F, jt_D_strike_0, jt_D_strike_11, jt_D_strike_23, jt_D_strike_26, e0, jt_Book_remove_0, jt_Book_remove_8, jt_Book_remove_21, jt_Book_remove_29, jt_Book_remove_37, jt_Book_remove_44, e1, e2]
    · have hs := jM_wordN (σ := τ) (hτ.1 0 (by omega)) h1 (by omega)
      simp (disch := omega) only [jb_K_n, jb_K_v, ↓reduceIte, jT_lt, jF_lt, jT_le, jF_le, jT_eq, jF_eq, jT_z, jF_z, jF_neg, jT_nn, jT_pos, jF_pos, jT_le0, jF_le0, jT_x, jF_m1, jF_m1r, jT_tt, jI_add, jI_mul, jI_sub, jI_cl, jm_up_same, jm_up_o, jm_up_j, jbR_T, jbR_F, jt_M_strike_0, jt_M_strike_5, jt_M_strike_14, jt_M_strike_20, jt_M_strike_23, hs]
theorem o_go (hC : JC σ S) (hM : JM σ S) (hI : JI S) (x1 : Int32) : jOp σ 221 189 [.int x1] := by
  obtain ⟨σ0, e0, v0, A0⟩ := jV_take (v := 26) (u := 1) jc_26 jc_1 (by omega) hC.1
  have V0 := hC.1.A A0 (by omega)
  have hb1 := hI.1.b1
  by_cases h1 : jlt x1 (S 0 1)
  · obtain ⟨i, hi, rfl⟩ := h1
    have hq := cSwimmers_leave V0 hI.1 hi
    obtain ⟨σ1, σ2, e1, e2, c2, f2⟩ := jC_end hC hI A0 v0 hq
    refine jOp_of (v := .int (jGa (qlea (S 0) i))) hM ⟨σ2, ?_, c2, f2⟩ (fun τ hτ => ?_) (jGo_I hI (jCO_w hq) (fun y z h => by cases h))
    · rw [jt_D_go_0, e0, jb_K_n, jt_D_go_11, e1, jb_K_v, jt_D_go_23, e2, jb_K_v, jt_D_go_26]
    · obtain ⟨τ0, e3, b3, s3, f3⟩ := jM_starts hτ.1
      obtain ⟨x, τ1, τ2, e4, e5, m5, l5⟩ := jM_end hτ hI f3 b3 (mM_leaves (w := S 0) (fun j hj => (f3 _ _ (by omega)).trans (hτ.1 j hj)) s3 hi hb1) (fun y z h => by cases h)
      refine ⟨τ2, ?_, m5, l5⟩
      have hs := jM_swimY (σ := τ) (hτ.1 1 (by omega)) hi (by omega)
      simp (disch := omega) only [jb_K_n, jb_K_v, ↓reduceIte, jT_lt, jF_lt, jT_le, jF_le, jT_eq, jF_eq, jT_z, jF_z, jF_neg, jT_nn, jT_pos, jF_pos, jT_le0, jF_le0, jT_x, jF_m1, jF_m1r, jT_tt, jI_add, jI_mul, jI_sub, jI_cl, jm_up_same, jm_up_o, jm_up_j, jbR_T, jbR_F, jt_M_go_0, jt_M_go_5, jt_M_go_14, jt_M_go_20, jt_M_go_23, hs, e3, e4, e5]
  · refine jOp_q (v := .int (-1)) hC hM hI ⟨σ0, ?_, A0.cS (by omega)⟩ (fun τ hτ => ⟨τ, ?_, jmS.rf⟩)
    · have e1 := jR_hasN V0.s.1 h1
      have e2 := jsettled_no (σ := σ0) jneg1
      simp (disch := omega) only [jb_K_n, jb_K_v, ↓reduceIte, jT_lt, jF_lt, jT_le, jF_le, jT_eq, jF_eq, jT_z, jF_z, jF_neg, jT_nn, jT_pos, jF_pos, jT_le0, jF_le0, jT_x, jF_m1, jF_m1r, jT_tt, jI_add, jI_mul, jI_sub, jI_cl, jm_up_same, jm_up_o, jm_up_j, jbR_T, jbR_F, jt_D_go_0, jt_D_go_11, jt_D_go_23, jt_D_go_26, e0, jt_Swimmers_leave_0, jt_Swimmers_leave_8, jt_Swimmers_leave_21, jt_Swimmers_leave_29, jt_Swimmers_leave_36, e1, e2]
    · have hs := jM_swimN (σ := τ) (hτ.1 1 (by omega)) h1 (by omega)
      simp (disch := omega) only [jb_K_n, jb_K_v, ↓reduceIte, jT_lt, jF_lt, jT_le, jF_le, jT_eq, jF_eq, jT_z, jF_z, jF_neg, jT_nn, jT_pos, jF_pos, jT_le0, jF_le0, jT_x, jF_m1, jF_m1r, jT_tt, jI_add, jI_mul, jI_sub, jI_cl, jm_up_same, jm_up_o, jm_up_j, jbR_T, jbR_F, jt_M_go_0, jt_M_go_5, jt_M_go_14, jt_M_go_20, jt_M_go_23, hs]
end OC
