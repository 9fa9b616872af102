/-! ===== a word comes into the book ===== -/
theorem jn_11 : jm_ln 11 = 8 := by decide +kernel
theorem jn_13 : jm_ln 13 = 8 := by decide +kernel
theorem jn_15 : jm_ln 15 = 8 := by decide +kernel
def jtw (w : Nat → Nat) (n : Nat) (f : Nat → Nat) : Nat := jfd (fun i => decide (jspl w i = jspf n f)) (w 0) 0
def jent (w : Nat → Nat) (kd n : Nat) (f : Nat → Nat) : Nat → Nat := jn0 (fun j => if j = 21 + 6 * w 0 then kd else if j = 22 + 6 * w 0 then n else if 23 + 6 * w 0 ≤ j ∧ j < 27 + 6 * w 0 then (if j - (23 + 6 * w 0) < n then f (j - (23 + 6 * w 0)) else 0) else w j) 0 (w 0 + 1)
def qent (w : Nat → Nat) (kd n : Nat) (f : Nat → Nat) : jRes := if n < 1 ∨ 4 < n then .inr (4, n) else if f 0 = 5 then .inr (5, 0) else if f (n - 1) = 5 then .inr (5, n - 1) else if jtw w n f < w 0 then .inr (2, jtw w n f) else if w 0 = 8 then .inr (1, 8) else .inl (w 0, jent w kd n f)
theorem jqent_y {w : Nat → Nat} {kd n y z : Nat} {f : Nat → Nat} (h : qent w kd n f = .inr (y, z)) : y ≠ 0 ∧ y ≤ 7 := by
  unfold qent at h
  repeat' split at h
  all_goals first | (cases h; omega) | cases h
section EN
variable {σ : jm_S} {w : Nat → Nat}
theorem jtw_le {n : Nat} {f : Nat → Nat} : jtw w n f ≤ w 0 := by
  have := (jfd_le (fun i => decide (jspl w i = jspf n f)) (w 0) 0).2
  rw [Nat.zero_add] at this
  exact this
theorem jtw_is {n : Nat} {f : Nat → Nat} (h : jtw w n f < w 0) : jspl w (jtw w n f) = jspf n f := by
  have := jfd_is (P := fun i => decide (jspl w i = jspf n f)) (m := w 0) (k := 0) (by rw [Nat.zero_add]; exact h)
  exact of_decide_eq_true this
theorem jtw_un (hw : jInv w) {n i : Nat} {f : Nat → Nat} (hi : i < w 0) (h : jspl w i = jspf n f) : jtw w n f = i := by
  have hlt : jtw w n f < w 0 := by
    rcases Nat.lt_or_ge (jtw w n f) (w 0) with z | z
    · exact z
    · have := jfd_no (P := fun i => decide (jspl w i = jspf n f)) (m := w 0) (k := 0) (j := i) (Nat.zero_le _) (Nat.lt_of_lt_of_le hi z)
      exact absurd h (of_decide_eq_false this)
  exact hw.2.1.2.2 _ _ hlt hi ((jtw_is hlt).trans h.symm)
theorem cBook_speltL (hV : jV σ 1 w) (hw : jInv w) {x : Nat} (hx : x < 4096) : ∀ (m k : Nat), k + m = w 0 → jb_Ex 61 (2, [.ref (9 : Nat), .int (jI x), .int (jI k)], [], jm_hp σ) = some (some (.int (if jfd (fun i => decide (jspl w i = x)) m k < w 0 then jI (jfd (fun i => decide (jspl w i = x)) m k) else -1)), jm_hp σ)
  | 0, k, hm => by
    have := hw.b0
    rw [if_neg (by unfold jfd; omega), jt_Book_wordSpelt_2, hV.sn, jb_K_v, jt_Book_wordSpelt_10, if_pos (by rw [jI_le (by omega) (by omega)]; omega)]
  | m + 1, k, hm => by
    have := hw.b0
    have hl : jspl w k < 4096 := by
      rw [jspl_jspf]
      exact jspf_lt (hw.2.1.2.1 k (by omega)).2.2.2.1
    rw [jt_Book_wordSpelt_2, hV.sn, jb_K_v, jt_Book_wordSpelt_10, if_neg (by rw [jI_le (by omega) (by omega)]; omega), hV.sp (show k < w 0 by omega), jb_K_v, jt_Book_wordSpelt_21]
    unfold jfd
    by_cases e : jspl w k = x
    · rw [if_pos (by rw [e]), if_pos (decide_eq_true e), if_pos (by omega)]
    · rw [if_neg (by rw [jI_eq (by omega) (by omega)]; exact e), if_neg (fun z => e (of_decide_eq_true z)), jI_add]
      exact cBook_speltL hV hw hx m (k + 1) (by omega)
theorem cBook_spelt (hV : jV σ 1 w) (hw : jInv w) {n : Nat} {f : Nat → Nat} (hf : ∀ k, k < n → f k ≤ 5) : jb_Ev 61 [.ref (9 : Nat), .int (jI (jspf n f))] (jm_hp σ) = some (some (.int (if jtw w n f < w 0 then jI (jtw w n f) else -1)), jm_hp σ) := by
  rw [jt_Book_wordSpelt_0]
  exact cBook_speltL hV hw (jspf_lt hf) (w 0) 0 (Nat.zero_add _)
theorem cBook_spell1 {r n a k : Nat} {f : Nat → Nat} (hr : jRn σ r n f) (hf : ∀ k, k < n → f k ≤ 5) (hk : k < 4) (u : Value) : jb_Ex 60 (4, [.ref r, .int (jI a), .int (jI k), u], [], jm_hp σ) = jb_Ex 60 (4, [.ref r, .int (jI (a * 8 + jdf n f k)), .int (jI (k + 1)), .int (jI (jdf n f k))], [], jm_hp σ) := by
  have hb := jR.bd hr
  unfold jdf
  by_cases e : k < n
  · have h5 := hf k e
    rw [if_pos e, jt_Book_spell_4 hr.1]
    by_cases e2 : f k = 5
    · rw [if_pos e2]
      simp (disch := omega) only [jb_K_n, jb_K_v, ↓reduceIte, jT_lt, jF_lt, jT_le, jF_le, jT_eq, jF_eq, jT_z, jF_z, jF_neg, jT_nn, jT_pos, jF_pos, jT_le0, jF_le0, jT_x, jF_m1, jF_m1r, jT_tt, jI_add, jI_mul, jI_sub, jI_cl, jm_up_same, jm_up_o, jm_up_j, jbR_T, jbR_F, jR_hasY hr e, jt_Book_spell_16 hr.1, jRn_at hr e, e2, jt_Book_spell_24 hr.1]
    · rw [if_neg e2]
      simp (disch := omega) only [jb_K_n, jb_K_v, ↓reduceIte, jT_lt, jF_lt, jT_le, jF_le, jT_eq, jF_eq, jT_z, jF_z, jF_neg, jT_nn, jT_pos, jF_pos, jT_le0, jF_le0, jT_x, jF_m1, jF_m1r, jT_tt, jI_add, jI_mul, jI_sub, jI_cl, jm_up_same, jm_up_o, jm_up_j, jbR_T, jbR_F, jR_hasY hr e, jt_Book_spell_16 hr.1, jRn_at hr e, jt_Book_spell_24 hr.1, jt_Book_spell_37 hr.1]
  · have hN := jR_hasN hr (x := jI k) (fun ⟨j, z1, z2⟩ => e (by rw [(jI_eq (by omega) (by omega)).mp z2]; exact z1))
    rw [if_neg e, jt_Book_spell_4 hr.1]
    simp (disch := omega) only [jb_K_n, jb_K_v, ↓reduceIte, jT_lt, jF_lt, jT_le, jF_le, jT_eq, jF_eq, jT_z, jF_z, jF_neg, jT_nn, jT_pos, jF_pos, jT_le0, jF_le0, jT_x, jF_m1, jF_m1r, jT_tt, jI_add, jI_mul, jI_sub, jI_cl, jm_up_same, jm_up_o, jm_up_j, jbR_T, jbR_F, hN, jt_Book_spell_16 hr.1]
theorem cBook_spell {r n : Nat} {f : Nat → Nat} (hr : jRn σ r n f) (hf : ∀ k, k < n → f k ≤ 5) : jb_Ev 60 [.ref r] (jm_hp σ) = some (some (.int (jI (jspf n f))), jm_hp σ) := by
  rw [jt_Book_spell_0 hr.1, cBook_spell1 hr hf (by omega), cBook_spell1 hr hf (by omega), cBook_spell1 hr hf (by omega), cBook_spell1 hr hf (by omega), jt_Book_spell_4 hr.1, if_pos (by rw [jI_le (by omega) (by omega)]; omega), Nat.zero_mul, Nat.zero_add]
  rfl
theorem jent_o {kd n j : Nat} {f : Nat → Nat} (h : j ≠ 0) (h2 : j < 21 + 6 * w 0 ∨ 27 + 6 * w 0 ≤ j) : jent w kd n f j = w j := by
  unfold jent
  rw [jn0_o h, if_neg (by omega), if_neg (by omega), if_neg (by omega)]
theorem jent_0 {kd n : Nat} {f : Nat → Nat} : jent w kd n f 0 = w 0 + 1 := jn0_s _ _ _
theorem jent_k {kd n : Nat} {f : Nat → Nat} : jent w kd n f (21 + 6 * w 0) = kd := by
  unfold jent
  rw [jn0_o (by omega), if_pos rfl]
theorem jent_n {kd n : Nat} {f : Nat → Nat} : jent w kd n f (22 + 6 * w 0) = n := by
  unfold jent
  rw [jn0_o (by omega), if_neg (by omega), if_pos rfl]
theorem jent_s {kd n k : Nat} {f : Nat → Nat} (hk : k < n) (hn : n ≤ 4) : jent w kd n f (23 + 6 * w 0 + k) = f k := by
  unfold jent
  rw [jn0_o (by omega), if_neg (by omega), if_neg (by omega), if_pos (by omega), Nat.add_sub_cancel_left, if_pos hk]
theorem jent_sp {kd n : Nat} {f : Nat → Nat} (hf : ∀ k, k < n → f k ≤ 5) (hn : n ≤ 4) : jspl (jent w kd n f) (w 0) = jspf n f := by
  rw [jspl_jspf, jent_n]
  exact (jspf_inj (fun k hk => by rw [jent_s hk hn]; exact hf k hk) hf hn hn).mpr ⟨rfl, fun k hk => jent_s hk hn⟩
theorem jent_so {kd n i : Nat} {f : Nat → Nat} (hi : i < w 0) : jspl (jent w kd n f) i = jspl w i := jspl_eq (fun k hk => jent_o (by omega) (by omega))
theorem jInv_ent (hw : jInv w) {kd n : Nat} {f : Nat → Nat} (hk : kd ≤ 2) (h1 : 1 ≤ n) (h4 : n ≤ 4) (hf : ∀ k, k < n → f k ≤ 5) (ha : f 0 ≠ 5) (hb : f (n - 1) ≠ 5) (ht : ¬ jtw w n f < w 0) (h8 : w 0 ≠ 8) : jInv (jent w kd n f) := by
  have b0 := hw.b0
  obtain ⟨k1, k2, k3⟩ := hw.2.1
  have hno : ∀ i, i < w 0 → jspl w i ≠ jspf n f := fun i hi he => by
    have := jtw_un hw hi he
    omega
  refine ⟨hw.1.fr (fun j hj => jent_o (by omega) (by omega)), ⟨by rw [jent_0]; omega, fun i hi => ?_, fun i j hi hj he => ?_⟩, hw.2.2.1.fr (fun j hj => jent_o (by omega) (by omega)), hw.2.2.2.fr (fun j hj => jent_o (by omega) (by omega))⟩
  · rw [jent_0] at hi
    by_cases e : i = w 0
    · subst e
      rw [jent_k, jent_n]
      refine ⟨hk, h1, h4, fun k hk => by rw [jent_s hk h4]; exact hf k hk, ?_, ?_⟩
      · have := jent_s (w := w) (kd := kd) (f := f) (show 0 < n by omega) h4
        rw [Nat.add_zero] at this
        rw [this]
        exact ha
      · rw [jent_s (by omega) h4]
        exact hb
    · obtain ⟨a1, a2, a3, a4, a5, a6⟩ := k2 i (by omega)
      rw [jent_o (by omega) (by omega), jent_o (j := 22 + 6 * i) (by omega) (by omega), jent_o (j := 23 + 6 * i) (by omega) (by omega), jent_o (j := 23 + 6 * i + (w (22 + 6 * i) - 1)) (by omega) (by omega)]
      exact ⟨a1, a2, a3, fun k hk => by rw [jent_o (by omega) (by omega)]; exact a4 k hk, a5, a6⟩
  · rw [jent_0] at hi hj
    by_cases e : i = w 0
    · by_cases e2 : j = w 0
      · omega
      · rw [e, jent_sp hf h4, jent_so (by omega)] at he
        exact absurd he.symm (hno j (by omega))
    · by_cases e2 : j = w 0
      · rw [e2, jent_sp hf h4, jent_so (by omega)] at he
        exact absurd he (hno i (by omega))
      · rw [jent_so (by omega), jent_so (by omega)] at he
        exact k3 i j (by omega) (by omega) he
theorem cBook_enter (hV : jV σ 1 w) (hw : jInv w) {r kd n : Nat} {f : Nat → Nat} (hr : jRn σ r n f) (hf : ∀ k, k < n → f k ≤ 5) (hk : kd ≤ 2) : jCO σ (qent w kd n f) (jb_Ev 124 [.ref (9 : Nat), .int (jI kd), .ref r, .ref (278 : Nat)] (jm_hp σ)) := by
  unfold qent
  have hb := jR.bd hr
  have b0 := hw.b0
  by_cases c1 : n < 1 ∨ 4 < n
  · rw [if_pos c1]
    refine ⟨⟨by omega, by omega⟩, ?_⟩
    rw [jt_Book_enter_0 hr.1]
    rcases c1 with c1 | c1
    · simp (disch := omega) only [jb_K_n, jb_K_v, ↓reduceIte, jT_lt, jF_lt, jT_le, jF_le, jT_eq, jF_eq, jT_z, jF_z, jF_neg, jT_nn, jT_pos, jF_pos, jT_le0, jF_le0, jT_x, jF_m1, jF_m1r, jT_tt, jI_add, jI_mul, jI_sub, jI_cl, jm_up_same, jm_up_o, jm_up_j, jbR_T, jbR_F, jR_size hr, jt_Book_enter_16 hr.1, jt_Reasons_refuse_0, jt_Book_enter_37 hr.1, jrs]
    · simp (disch := omega) only [jb_K_n, jb_K_v, ↓reduceIte, jT_lt, jF_lt, jT_le, jF_le, jT_eq, jF_eq, jT_z, jF_z, jF_neg, jT_nn, jT_pos, jF_pos, jT_le0, jF_le0, jT_x, jF_m1, jF_m1r, jT_tt, jI_add, jI_mul, jI_sub, jI_cl, jm_up_same, jm_up_o, jm_up_j, jbR_T, jbR_F, jR_size hr, jt_Book_enter_16 hr.1, jt_Reasons_refuse_0, jt_Book_enter_37 hr.1, jrs]
  rw [if_neg c1]
  have f0 := hf 0 (by omega)
  have f1 := hf (n - 1) (by omega)
  by_cases c2 : f 0 = 5
  · rw [if_pos c2]
    refine ⟨⟨by omega, by omega⟩, ?_⟩
    have ha := jRn_at hr (show 0 < n by omega)
    rw [jt_Book_enter_0 hr.1]
    simp (disch := omega) only [jb_K_n, jb_K_v, ↓reduceIte, jT_lt, jF_lt, jT_le, jF_le, jT_eq, jF_eq, jT_z, jF_z, jF_neg, jT_nn, jT_pos, jF_pos, jT_le0, jF_le0, jT_x, jF_m1, jF_m1r, jT_tt, jI_add, jI_mul, jI_sub, jI_cl, jm_up_same, jm_up_o, jm_up_j, jbR_T, jbR_F, jR_size hr, jt_Book_enter_16 hr.1, ha, c2, jt_Book_enter_43 hr.1, jt_Reasons_refuse_0, jt_Book_enter_53 hr.1, jrs]
  rw [if_neg c2]
  have ha := jRn_at hr (show 0 < n by omega)
  have hz := jRn_at hr (show n - 1 < n by omega)
  by_cases c3 : f (n - 1) = 5
  · rw [if_pos c3]
    refine ⟨⟨by omega, by omega⟩, ?_⟩
    rw [jt_Book_enter_0 hr.1]
    simp (disch := omega) only [jb_K_n, jb_K_v, ↓reduceIte, jT_lt, jF_lt, jT_le, jF_le, jT_eq, jF_eq, jT_z, jF_z, jF_neg, jT_nn, jT_pos, jF_pos, jT_le0, jF_le0, jT_x, jF_m1, jF_m1r, jT_tt, jI_add, jI_mul, jI_sub, jI_cl, jm_up_same, jm_up_o, jm_up_j, jbR_T, jbR_F, jR_size hr, jt_Book_enter_16 hr.1, ha, jt_Book_enter_43 hr.1, hz, c3, jt_Book_enter_62 hr.1, jt_Reasons_refuse_0, jt_Book_enter_75 hr.1, jrs]
  rw [if_neg c3]
  have hs := cBook_spell hr hf
  have ht := cBook_spelt hV hw hf
  by_cases c4 : jtw w n f < w 0
  · rw [if_pos c4] at ht ⊢
    refine ⟨⟨by omega, by omega⟩, ?_⟩
    rw [jt_Book_enter_0 hr.1]
    simp (disch := omega) only [jb_K_n, jb_K_v, ↓reduceIte, jT_lt, jF_lt, jT_le, jF_le, jT_eq, jF_eq, jT_z, jF_z, jF_neg, jT_nn, jT_pos, jF_pos, jT_le0, jF_le0, jT_x, jF_m1, jF_m1r, jT_tt, jI_add, jI_mul, jI_sub, jI_cl, jm_up_same, jm_up_o, jm_up_j, jbR_T, jbR_F, jR_size hr, jt_Book_enter_16 hr.1, ha, jt_Book_enter_43 hr.1, hz, jt_Book_enter_62 hr.1, hs, jt_Book_enter_80 hr.1, ht, jt_Book_enter_88 hr.1, jt_Reasons_refuse_0, jt_Book_enter_103 hr.1, jrs]
  rw [if_neg c4] at ht ⊢
  by_cases c5 : w 0 = 8
  · rw [if_pos c5]
    refine ⟨⟨by omega, by omega⟩, ?_⟩
    have hfu := jR_fullY hV.k.1 (by rw [show (10 : Nat) + 1 = 11 from rfl, jn_11]; omega)
    rw [jt_Book_enter_0 hr.1]
    simp (disch := omega) only [jb_K_n, jb_K_v, ↓reduceIte, jT_lt, jF_lt, jT_le, jF_le, jT_eq, jF_eq, jT_z, jF_z, jF_neg, jT_nn, jT_pos, jF_pos, jT_le0, jF_le0, jT_x, jF_m1, jF_m1r, jT_tt, jI_add, jI_mul, jI_sub, jI_cl, jm_up_same, jm_up_o, jm_up_j, jbR_T, jbR_F, jR_size hr, jt_Book_enter_16 hr.1, ha, jt_Book_enter_43 hr.1, hz, jt_Book_enter_62 hr.1, hs, jt_Book_enter_80 hr.1, ht, jt_Book_enter_88 hr.1, hfu, jt_Book_enter_111 hr.1, jt_Reasons_refuse_0, jt_Book_enter_121 hr.1, jrs]
  rw [if_neg c5]
  obtain ⟨h1, h2, h3⟩ := hV.k
  have n1 : w 0 < jm_ln (10 + 1) := by rw [show (10 : Nat) + 1 = 11 from rfl, jn_11]; omega
  have n2 : w 0 < jm_ln (12 + 1) := by rw [show (12 : Nat) + 1 = 13 from rfl, jn_13]; omega
  have n3 : w 0 < jm_ln (14 + 1) := by rw [show (14 : Nat) + 1 = 15 from rfl, jn_15]; omega
  have hfu := jR_fullN h1 n1
  have f1 := jF_add (r := 10) (σ := σ) (w 0) (jI kd) (jI (w 0 + 1))
  have a1 := jRn_add h1 n1 kd
  have e1 := jR_add h1 n1 (jI kd)
  generalize hτ : jm_up (jm_up σ (10 + 1) (w 0) (jI kd)) 10 1 (jI (w 0 + 1)) = τ at f1 a1 e1
  have h2' : jRn τ 12 (w 0) _ := h2.fr f1 (by omega)
  have f2 := jF_add (r := 12) (σ := τ) (w 0) (jI n) (jI (w 0 + 1))
  have a2 := jRn_add h2' n2 n
  have e2 := jR_add h2' n2 (jI n)
  generalize hυ : jm_up (jm_up τ (12 + 1) (w 0) (jI n)) 12 1 (jI (w 0 + 1)) = υ at f2 a2 e2
  have h3' : jRn υ 14 (w 0) _ := (h3.fr f1 (by omega)).fr f2 (by omega)
  have f3 := jF_add (r := 14) (σ := υ) (w 0) (jI (jspf n f)) (jI (w 0 + 1))
  have a3 := jRn_add h3' n3 (jspf n f)
  have e3 := jR_add h3' n3 (jI (jspf n f))
  generalize hρ : jm_up (jm_up υ (14 + 1) (w 0) (jI (jspf n f))) 14 1 (jI (w 0 + 1)) = ρ at f3 a3 e3
  have a1' : jRn ρ 10 (w 0 + 1) _ := (a1.fr f2 (by omega)).fr f3 (by omega)
  have a2' : jRn ρ 12 (w 0 + 1) _ := a2.fr f3 (by omega)
  have hF : ∀ q j, ¬ (10 ≤ q ∧ q < 16) → ρ q j = σ q j := fun q j z => (f3 q j (by omega) (by omega)).trans ((f2 q j (by omega) (by omega)).trans (f1 q j (by omega) (by omega)))
  obtain ⟨v1, v2, v3, v4, v5⟩ := jV1.mp hV
  refine ⟨by omega, jInv_ent hw hk (by omega) (by omega) hf c2 c3 c4 c5, ρ, ?_, ?_, fun q j z => hF q j (by omega)⟩
  · rw [jt_Book_enter_0 hr.1]
    simp (disch := omega) only [jb_K_n, jb_K_v, ↓reduceIte, jT_lt, jF_lt, jT_le, jF_le, jT_eq, jF_eq, jT_z, jF_z, jF_neg, jT_nn, jT_pos, jF_pos, jT_le0, jF_le0, jT_x, jF_m1, jF_m1r, jT_tt, jI_add, jI_mul, jI_sub, jI_cl, jm_up_same, jm_up_o, jm_up_j, jbR_T, jbR_F, jR_size hr, jt_Book_enter_16 hr.1, ha, jt_Book_enter_43 hr.1, hz, jt_Book_enter_62 hr.1, hs, jt_Book_enter_80 hr.1, ht, jt_Book_enter_88 hr.1, hfu, jt_Book_enter_111 hr.1, e1, jt_Book_enter_130 hr.1, e2, jt_Book_enter_139 hr.1, e3, jt_Book_enter_148 hr.1, jR_size a1', jt_Book_enter_155 hr.1, Nat.add_sub_cancel]
  · refine jV1.mpr ⟨v1.fr (fun q j z1 z2 => hF q j (by omega)) (fun j z1 z2 => jent_o (by omega) (by omega)), ⟨a1'.congr jent_0.symm (fun i hi => ?_), a2'.congr jent_0.symm (fun i hi => ?_), a3.congr jent_0.symm (fun i hi => ?_)⟩, v3.fr hw.b1 (fun q j z1 z2 => hF q j (by omega)) (fun j z => jent_o (by omega) (by omega)), v4.fr hw.2.2.2 (fun q j z1 z2 => hF q j (by omega)) (fun j z => jent_o (by omega) (by omega)), v5.fr (fun j z1 z2 => hF _ j (by omega)) (fun j z1 z2 => jent_o (by omega) (by omega))⟩
    · by_cases e : i = w 0
      · rw [jn0_e e, e, jent_k]
      · rw [jn0_o e, jent_o (by omega) (by omega)]
    · by_cases e : i = w 0
      · rw [jn0_e e, e, jent_n]
      · rw [jn0_o e, jent_o (by omega) (by omega)]
    · by_cases e : i = w 0
      · rw [jn0_e e, e, jent_sp hf (by omega)]
      · rw [jn0_o e, jent_so (by omega)]
end EN
