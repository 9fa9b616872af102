/-! ===== the plain form: what stands behind a word ===== -/
section MR
variable {σ : jm_S} {n p : Nat} {t : Nat → Nat}
def jMx (σ : jm_S) (n : Nat) (t : Nat → Nat) (p : Nat) : Prop := σ 307 26 = jI n ∧ σ 307 27 = jI p ∧ jAr σ 313 n t
theorem jMt.x (h : jMt σ n t p) : jMx σ n t p := ⟨h.1, h.2.1, h.2.2.2⟩
/-- what reading may change: the place, the fault, the numbers of the command -/
def jtF (k : Nat) (σ σ' : jm_S) : Prop := ∀ q j, ¬ (q = 320 ∧ (j = 4 * k + 2 ∨ j = 4 * k + 3) ∨ q = 307 ∧ (j = 27 ∨ j = 28)) → σ' q j = σ q j
theorem jtF.rf {k : Nat} {σ : jm_S} : jtF k σ σ := fun _ _ _ => rfl
theorem jtF.tr {k : Nat} {σ σ' σ'' : jm_S} (h : jtF k σ σ') (h' : jtF k σ' σ'') : jtF k σ σ'' := fun q j x => (h' q j x).trans (h q j x)
theorem jtF.u {k : Nat} {σ σ' : jm_S} (h : jtF k σ σ') {q j : Nat} {x : Int32} (hq : q = 320 ∧ (j = 4 * k + 2 ∨ j = 4 * k + 3) ∨ q = 307 ∧ (j = 27 ∨ j = 28)) : jtF k σ (jm_up σ' q j x) := by
  intro a b hab
  unfold jm_up
  rw [if_neg (fun z => hab (by rw [z.1, z.2]; exact hq))]
  exact h a b hab
theorem jm_up_id_of {σ : jm_S} {r j : Nat} {x : Int32} (h : σ r j = x) : jm_up σ r j x = σ := by subst h; exact jm_up_id r j
theorem jup_1 (σ : jm_S) (r j : Nat) (x : Int32) : jm_up σ r j x r j = x := jm_up_same _ _ _ _
theorem jMx.u (h : jMx σ n t p) {q j : Nat} {x : Int32} (hq : q = 320 ∨ q = 307 ∧ j = 28) : jMx (jm_up σ q j x) n t p := by
  obtain ⟨h1, h2, h3⟩ := h
  refine ⟨?_, ?_, fun k hk => ?_⟩
  · unfold jm_up; rw [if_neg (by omega)]; exact h1
  · unfold jm_up; rw [if_neg (by omega)]; exact h2
  · unfold jm_up; rw [if_neg (by omega)]; exact h3 k hk
theorem jMt.u (h : jMt σ n t p) {j : Nat} {x : Int32} : jMt (jm_up σ 320 j x) n t p := by
  obtain ⟨h1, h2, h4, h3⟩ := h
  refine ⟨?_, ?_, ?_, fun k hk => ?_⟩
  · unfold jm_up; rw [if_neg (by omega)]; exact h1
  · unfold jm_up; rw [if_neg (by omega)]; exact h2
  · unfold jm_up; rw [if_neg (by omega)]; exact h4
  · unfold jm_up; rw [if_neg (by omega)]; exact h3 k hk
theorem jMt.nx (h : jMt σ n t p) (x : Nat) : jMt (jm_up σ 307 27 (jI x)) n t x := by
  obtain ⟨h1, h2, h4, h3⟩ := h
  refine ⟨?_, jm_up_same _ _ _ _, ?_, fun k hk => ?_⟩
  · unfold jm_up; rw [if_neg (by omega)]; exact h1
  · unfold jm_up; rw [if_neg (by omega)]; exact h4
  · unfold jm_up; rw [if_neg (by omega)]; exact h3 k hk
theorem jM_letter (h : jMx σ n t p) (ht : jtx n t) (hp : p ≤ 100) : jb_Ev 46 [.ref (307 : Nat)] (jm_hp σ) = some (some (.int (jtc n t p)), jm_hp σ) := by
  have h60 := ht.1
  rw [jt_M_letterHere_0, h.1, h.2.1]
  unfold jtc
  by_cases e : p < n
  · rw [if_pos e, if_neg (by rw [jI_le (by omega) (by omega)]; omega), if_pos ((jx_I (by omega)).mpr (by omega)), jI_cl (by omega), h.2.2 p e]
  · rw [if_neg e, if_pos ((jI_le (by omega) (by omega)).mpr (by omega))]
theorem jM_inC (ht : jtx n t) {l h : Nat} (hl : 0 < l ∧ l ≤ 200 ∧ h ≤ 200) (p : Nat) : jb_Ev 31 [.int (jtc n t p), .int (jI l), .int (jI h)] (jm_hp σ) = some (some (.int (jBI (decide (l ≤ jtu n t p ∧ jtu n t p ≤ h)))), jm_hp σ) := by
  rw [jt_M_isIn_0]
  unfold jtc jtu
  by_cases e : p < n
  · have := ht.2 p e
    rw [if_pos e, if_pos e]
    by_cases h1 : t p < l
    · rw [if_pos ((jI_lt (by omega) (by omega)).mpr h1), decide_eq_false (by omega)]; rfl
    · rw [if_neg (by rw [jI_lt (by omega) (by omega)]; exact h1)]
      by_cases h2 : h < t p
      · rw [if_pos ((jI_lt (by omega) (by omega)).mpr h2), decide_eq_false (by omega)]; rfl
      · rw [if_neg (by rw [jI_lt (by omega) (by omega)]; exact h2), decide_eq_true (by omega)]; rfl
  · rw [if_neg e, if_neg e, decide_eq_false (by omega), if_pos]
    · rfl
    · exact Int32.lt_of_lt_of_le jneg1 ((jI_nn (by omega)).mpr trivial)
theorem jM_readsD {q : Nat} (hq : q < 1000) (h : σ 307 28 = jI q) (l h' : Int32) : jb_Ev 119 [.ref (307 : Nat), .int l, .int h'] (jm_hp σ) = some (some (.int (jI 0)), jm_hp σ) := by
  rw [jt_M_reads_0, if_neg (by rw [h]; exact fun z => (jI_m1 (by omega)).mp z), jm_up_id]
theorem jM_reads (hM : jMt σ n t p) (ht : jtx n t) (hp : p ≤ 100) {l h : Nat} (hl : 0 < l ∧ l ≤ 200 ∧ h ≤ 200) : (p < n ∧ l ≤ jtu n t p ∧ jtu n t p ≤ h ∧ jb_Ev 119 [.ref (307 : Nat), .int (jI l), .int (jI h)] (jm_hp σ) = some (some (.int (jI (jtu n t p - l))), jm_hp (jm_up σ 307 27 (jI (p + 1))))) ∨ (¬ (l ≤ jtu n t p ∧ jtu n t p ≤ h) ∧ jb_Ev 119 [.ref (307 : Nat), .int (jI l), .int (jI h)] (jm_hp σ) = some (some (.int (jI 0)), jm_hp (jm_up σ 307 28 (jI p)))) := by
  have h60 := ht.1
  have hb : jb_Ev 119 [.ref (307 : Nat), .int (jI l), .int (jI h)] (jm_hp σ) = jb_Ex 119 (17, [.ref (307 : Nat), .int (jI l), .int (jI h)], [.int (jBI (decide (l ≤ jtu n t p ∧ jtu n t p ≤ h)))], jm_hp σ) := by
    rw [jt_M_reads_0, if_pos hM.2.2.1, jM_letter hM.x ht hp, jb_K_v]
    refine Eq.trans jt_M_reads_12 ?_
    rw [jM_inC ht hl, jb_K_v]
  rw [hb, jt_M_reads_17]
  by_cases c : l ≤ jtu n t p ∧ jtu n t p ≤ h
  · left
    have e : p < n := by
      rcases Nat.lt_or_ge p n with z | z
      · exact z
      · exfalso
        have : jtu n t p = 0 := if_neg (by omega)
        omega
    have htp : jtu n t p = t p := if_pos e
    have h3 := hM.2.2.2 p e
    refine ⟨e, c.1, c.2, ?_⟩
    rw [decide_eq_true c, if_neg (by decide +kernel), jm_up_same, hM.2.1, jI_add, jI_sub (by omega), if_pos ((jx_I (by omega)).mpr (by omega)), jI_cl (by omega), Nat.add_sub_cancel, jm_up_o _ _ (by omega), h3, jI_sub (by omega), htp]
  · right
    refine ⟨c, ?_⟩
    rw [decide_eq_false c, if_pos (by decide +kernel), if_pos hM.2.2.1, hM.2.1]
theorem jM_blank (hM : jMt σ n t p) (ht : jtx n t) (hp : p ≤ 100) : (jtu n t p = 32 ∧ jb_Ev 162 [.ref (307 : Nat)] (jm_hp σ) = some (none, jm_hp (jm_up σ 307 27 (jI (p + 1))))) ∨ (jtu n t p ≠ 32 ∧ jb_Ev 162 [.ref (307 : Nat)] (jm_hp σ) = some (none, jm_hp (jm_up σ 307 28 (jI p)))) := by
  rw [jt_M_blank_0]
  rcases jM_reads hM ht hp (l := 32) (h := 32) (by omega) with ⟨h0, h1, h2, h3⟩ | ⟨h1, h3⟩
  · exact Or.inl ⟨by omega, by rw [h3, jb_K_v]; exact jt_M_blank_8⟩
  · exact Or.inr ⟨by omega, by rw [h3, jb_K_v]; exact jt_M_blank_8⟩
theorem jM_blankD {q : Nat} (hq : q < 1000) (h : σ 307 28 = jI q) : jb_Ev 162 [.ref (307 : Nat)] (jm_hp σ) = some (none, jm_hp σ) := by
  rw [jt_M_blank_0, jM_readsD hq h, jb_K_v]; exact jt_M_blank_8
theorem jM_digit (hM : jMt σ n t p) (ht : jtx n t) (hp : p ≤ 100) : (48 ≤ jtu n t p ∧ jtu n t p ≤ 57 ∧ jb_Ev 163 [.ref (307 : Nat)] (jm_hp σ) = some (some (.int (jI (jtu n t p - 48))), jm_hp (jm_up σ 307 27 (jI (p + 1))))) ∨ (¬ (48 ≤ jtu n t p ∧ jtu n t p ≤ 57) ∧ jb_Ev 163 [.ref (307 : Nat)] (jm_hp σ) = some (some (.int (jI 0)), jm_hp (jm_up σ 307 28 (jI p)))) := by
  rw [jt_M_digit_0]
  rcases jM_reads hM ht hp (l := 48) (h := 57) (by omega) with ⟨h0, h1, h2, h3⟩ | ⟨h1, h3⟩
  · exact Or.inl ⟨h1, h2, by rw [h3, jb_K_v]; exact jt_M_digit_8⟩
  · exact Or.inr ⟨h1, by rw [h3, jb_K_v]; exact jt_M_digit_8⟩
theorem jM_digitD {q : Nat} (hq : q < 1000) (h : σ 307 28 = jI q) : jb_Ev 163 [.ref (307 : Nat)] (jm_hp σ) = some (some (.int (jI 0)), jm_hp σ) := by
  rw [jt_M_digit_0, jM_readsD hq h, jb_K_v]; exact jt_M_digit_8
theorem jM_isSign (h : jMx σ n t p) (ht : jtx n t) (hp : p ≤ 100) : jb_Ev 120 [.ref (307 : Nat)] (jm_hp σ) = some (some (.int (jBI (jgn (jtu n t p)))), jm_hp σ) := by
  have h46 : jtc n t p = jI 46 ↔ jtu n t p = 46 := by
    unfold jtc jtu
    by_cases e : p < n
    · have := ht.2 p e
      rw [if_pos e, if_pos e]; exact jI_eq (by omega) (by omega)
    · rw [if_neg e, if_neg e]; exact ⟨fun z => absurd z (by decide +kernel), fun z => by omega⟩
  rw [jt_M_isSign_0, jM_letter h ht hp, jb_K_v]
  refine Eq.trans jt_M_isSign_4 ?_
  unfold jgn
  by_cases c : jtu n t p = 46
  · rw [if_pos (h46.mpr c), decide_eq_true (Or.inl c)]; rfl
  · rw [if_neg (fun z => c (h46.mp z)), jM_letter h ht hp, jb_K_v]
    refine Eq.trans jt_M_isSign_13 ?_
    rw [jM_inC ht (by omega), jb_K_v]
    refine Eq.trans jt_M_isSign_20 ?_
    by_cases d : 97 ≤ jtu n t p ∧ jtu n t p ≤ 101
    · rw [decide_eq_true d, decide_eq_true (Or.inr d), if_neg (by decide +kernel)]; rfl
    · rw [decide_eq_false d, decide_eq_false (by omega), if_pos (by decide +kernel)]; rfl
theorem jM_signsL (ht : jtx n t) {k : Nat} (hk : k < 30) : ∀ (m p : Nat) (σ : jm_S), p + m = n → jMt σ n t p → ∃ σ', jb_Ex 165 (42, [.ref (307 : Nat), .int (jI (4 * k))], [], jm_hp σ) = some (none, jm_hp σ') ∧ jtF k σ σ' ∧ σ' 307 28 = -1 ∧ σ' 307 27 = jI (jse (jtu n t) m p) ∧ σ' 320 (4 * k + 2) = σ 320 (4 * k + 2) ∧ σ' 320 (4 * k + 3) = jI (jse (jtu n t) m p)
  | 0, p, σ, hp, hM => by
    have h60 := ht.1
    have hs := jM_isSign hM.x ht (by omega)
    have hu : jtu n t p = 0 := if_neg (by omega)
    refine ⟨jm_up σ 320 (4 * k + 3) (jI p), ?_, jtF.rf.u (by omega), ?_, ?_, ?_, jm_up_same _ _ _ _⟩
    · rw [jt_M_readsSigns_42, if_pos hM.2.2.1, hs, jb_K_v]
      refine Eq.trans jt_M_readsSigns_54 ?_
      rw [hu, if_pos (by decide +kernel), jI_add, if_pos ((jx_I (by omega)).mpr (by omega)), jI_cl (by omega), hM.2.1]
    · rw [jm_up_o _ _ (by omega)]; exact hM.2.2.1
    · rw [jm_up_o _ _ (by omega)]; exact hM.2.1
    · rw [jm_up_j _ _ (by omega)]
  | m + 1, p, σ, hp, hM => by
    have h60 := ht.1
    have hs := jM_isSign hM.x ht (by omega)
    have h0 : jb_Ex 165 (42, [.ref (307 : Nat), .int (jI (4 * k))], [], jm_hp σ) = jb_Ex 165 (54, [.ref (307 : Nat), .int (jI (4 * k))], [.int (jBI (jgn (jtu n t p)))], jm_hp σ) := by
      rw [jt_M_readsSigns_42, if_pos hM.2.2.1, hs, jb_K_v]
    rw [h0, jt_M_readsSigns_54, jse]
    cases hg : jgn (jtu n t p) with
    | true =>
      obtain ⟨σ', e, f1, f2, f3, f4, f5⟩ := jM_signsL ht hk m (p + 1) (jm_up σ 307 27 (jI (p + 1))) (by omega) (hM.nx (p + 1))
      refine ⟨σ', ?_, (jtF.rf.u (by omega)).tr f1, f2, f3, ?_, f5⟩
      · rw [if_neg (by decide +kernel), hM.2.1, jI_add]; exact e
      · rw [f4, jm_up_o _ _ (by omega)]
    | false =>
      simp only [Bool.false_eq_true, ↓reduceIte]
      refine ⟨jm_up σ 320 (4 * k + 3) (jI p), ?_, jtF.rf.u (by omega), ?_, ?_, ?_, jm_up_same _ _ _ _⟩
      · rw [if_pos (by decide +kernel), jI_add, if_pos ((jx_I (by omega)).mpr (by omega)), jI_cl (by omega), hM.2.1]
      · rw [jm_up_o _ _ (by omega)]; exact hM.2.2.1
      · rw [jm_up_o _ _ (by omega)]; exact hM.2.1
      · rw [jm_up_j _ _ (by omega)]
theorem jM_signs (hM : jMt σ n t p) (ht : jtx n t) (hp : p ≤ n) {k : Nat} (hk : k < 30) : ∃ σ', jb_Ev 165 [.ref (307 : Nat), .int (jI (4 * k))] (jm_hp σ) = some (none, jm_hp σ') ∧ jtF k σ σ' ∧ ((jgn (jtu n t p) = true ∧ σ' 307 28 = -1 ∧ σ' 307 27 = jI (jse (jtu n t) (n - (p + 1)) (p + 1)) ∧ σ' 320 (4 * k + 2) = jI p ∧ σ' 320 (4 * k + 3) = jI (jse (jtu n t) (n - (p + 1)) (p + 1))) ∨ (jgn (jtu n t p) = false ∧ σ' 307 28 = jI p)) := by
  have h60 := ht.1
  have hM1 : jMt (jm_up σ 320 (4 * k + 2) (jI p)) n t p := hM.u
  have hs := jM_isSign hM1.x ht (by omega)
  rw [jt_M_readsSigns_0, jI_add, if_pos ((jx_I (by omega)).mpr (by omega)), jI_cl (by omega), hM.2.1, hs, jb_K_v]
  cases hg : jgn (jtu n t p) with
  | true =>
    have hpn : p < n := by
      rcases Nat.lt_or_ge p n with z | z
      · exact z
      · exfalso
        have : jtu n t p = 0 := if_neg (by omega)
        rw [this] at hg
        exact absurd hg (by decide)
    obtain ⟨σ', e, f1, f2, f3, f4, f5⟩ := jM_signsL ht hk (n - (p + 1) + 1) p _ (by omega) hM1
    rw [jse, if_pos hg] at f3 f5
    refine ⟨σ', ?_, (jtF.rf.u (by omega)).tr f1, Or.inl ⟨rfl, f2, f3, ?_, f5⟩⟩
    · refine Eq.trans jt_M_readsSigns_16 ?_
      rw [if_neg (by decide +kernel)]; exact e
    · rw [f4, jm_up_same]
  | false =>
    refine ⟨jm_up (jm_up (jm_up σ 320 (4 * k + 2) (jI p)) 307 28 (jI p)) 320 (4 * k + 3) (jI p), ?_, ((jtF.rf.u (by omega)).u (by omega)).u (by omega), Or.inr ⟨rfl, ?_⟩⟩
    · refine Eq.trans jt_M_readsSigns_16 ?_
      rw [if_pos (by decide +kernel), if_pos hM1.2.2.1, hM1.2.1, jt_M_readsSigns_42, jm_up_same, if_neg (fun z => (jI_m1 (by omega)).mp z), jI_add, if_pos ((jx_I (by omega)).mpr (by omega)), jI_cl (by omega), jm_up_j _ _ (show (27 : Nat) ≠ 28 by decide), hM1.2.1]
    · rw [jm_up_o _ _ (by omega), jm_up_same]
theorem jM_signsD (hM : jMx σ n t p) (ht : jtx n t) (hp : p ≤ 100) {k q : Nat} (hk : k < 30) (hq : q < 1000) (h : σ 307 28 = jI q) : ∃ σ', jb_Ev 165 [.ref (307 : Nat), .int (jI (4 * k))] (jm_hp σ) = some (none, jm_hp σ') ∧ jtF k σ σ' ∧ σ' 307 28 = jI q := by
  have h60 := ht.1
  have hM1 : jMx (jm_up σ 320 (4 * k + 2) (jI p)) n t p := hM.u (Or.inl rfl)
  have h1 : (jm_up σ 320 (4 * k + 2) (jI p)) 307 28 = jI q := by rw [jm_up_o _ _ (by omega)]; exact h
  have hs := jM_isSign hM1 ht hp
  have hx : jb_Ex 165 (42, [.ref (307 : Nat), .int (jI (4 * k))], [], jm_hp (jm_up σ 320 (4 * k + 2) (jI p))) = some (none, jm_hp (jm_up (jm_up σ 320 (4 * k + 2) (jI p)) 320 (4 * k + 3) (jI p))) := by
    rw [jt_M_readsSigns_42, h1, if_neg (fun z => (jI_m1 (by omega)).mp z), jI_add, if_pos ((jx_I (by omega)).mpr (by omega)), jI_cl (by omega), hM1.2.1]
  refine ⟨jm_up (jm_up σ 320 (4 * k + 2) (jI p)) 320 (4 * k + 3) (jI p), ?_, (jtF.rf.u (by omega)).u (by omega), ?_⟩
  · rw [jt_M_readsSigns_0, jI_add, if_pos ((jx_I (by omega)).mpr (by omega)), jI_cl (by omega), hM.2.1, hs, jb_K_v]
    refine Eq.trans jt_M_readsSigns_16 ?_
    rw [h1, jm_up_id_of h1]
    rw [if_neg (fun z => (jI_m1 (by omega)).mp z)]
    by_cases c : jBI (jgn (jtu n t p)) = 0
    · rw [if_pos c]; exact hx
    · rw [if_neg c]; exact hx
  · rw [jm_up_o _ _ (by omega)]; exact h1
theorem jM_kind (hM : jMt σ n t p) (ht : jtx n t) (hp : p ≤ 100) : (∃ k, k ≤ 2 ∧ (jtu n t p = 110 ∧ k = 0 ∨ jtu n t p = 100 ∧ k = 1 ∨ jtu n t p = 116 ∧ k = 2) ∧ jb_Ev 164 [.ref (307 : Nat)] (jm_hp σ) = some (some (.int (jI k)), jm_hp (jm_up σ 307 27 (jI (p + 1))))) ∨ (¬ (jtu n t p = 110 ∨ jtu n t p = 100 ∨ jtu n t p = 116) ∧ jb_Ev 164 [.ref (307 : Nat)] (jm_hp σ) = some (some (.int (jI 2)), jm_hp (jm_up σ 307 28 (jI p)))) := by
  have hx : ∀ c, 0 < c → c ≤ 200 → (jtc n t p = jI c ↔ jtu n t p = c) := by
    intro c h1 h2
    unfold jtc jtu
    by_cases e : p < n
    · have := ht.2 p e
      rw [if_pos e, if_pos e]; exact jI_eq (by omega) (by omega)
    · rw [if_neg e, if_neg e]; exact ⟨fun z => absurd z.symm (fun y => (jI_m1 (by omega)).mp y), fun z => by omega⟩
  rw [jt_M_readsKind_0, jM_letter hM.x ht hp, jb_K_v]
  have h0 : jb_Ex 164 (4, [.ref (307 : Nat), .retAddr 0, .retAddr 0, .retAddr 0], [.int (jtc n t p)], jm_hp σ) = _ := jt_M_readsKind_4
  by_cases c1 : jtu n t p = 110
  · left
    rw [if_pos ((hx 110 (by omega) (by omega)).mpr c1), (hx 110 (by omega) (by omega)).mpr c1] at h0
    rcases jM_reads hM ht hp (l := 110) (h := 110) (by omega) with ⟨g0, g1, g2, g3⟩ | ⟨g1, g3⟩
    · rw [g3, jb_K_v] at h0
      refine ⟨0, by omega, by omega, ?_⟩
      rw [(hx 110 (by omega) (by omega)).mpr c1]
      exact h0.trans (Eq.trans jt_M_readsKind_45 jt_M_readsKind_56)
    · omega
  · rw [if_neg (fun z => c1 ((hx 110 (by omega) (by omega)).mp z))] at h0
    by_cases c2 : jtu n t p = 100
    · left
      rw [if_pos ((hx 100 (by omega) (by omega)).mpr c2), (hx 100 (by omega) (by omega)).mpr c2] at h0
      rcases jM_reads hM ht hp (l := 100) (h := 100) (by omega) with ⟨g0, g1, g2, g3⟩ | ⟨g1, g3⟩
      · rw [g3, jb_K_v] at h0
        refine ⟨1, by omega, by omega, ?_⟩
        rw [(hx 100 (by omega) (by omega)).mpr c2]
        exact h0.trans (Eq.trans jt_M_readsKind_45 jt_M_readsKind_56)
      · omega
    · rw [if_neg (fun z => c2 ((hx 100 (by omega) (by omega)).mp z))] at h0
      rcases jM_reads hM ht hp (l := 116) (h := 116) (by omega) with ⟨g0, g1, g2, g3⟩ | ⟨g1, g3⟩
      · left
        rw [g3, jb_K_v] at h0
        exact ⟨2, by omega, by omega, h0.trans jt_M_readsKind_56⟩
      · right
        rw [g3, jb_K_v] at h0
        exact ⟨by omega, h0.trans jt_M_readsKind_56⟩
end MR
