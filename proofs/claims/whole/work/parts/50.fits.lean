/-! ===== what fits where: of the text alone ===== -/
def jft (f x : Nat) : Bool := if f = 66 then decide (97 ≤ x ∧ x ≤ 101) else if f = 68 then decide (48 ≤ x ∧ x ≤ 57) else if f = 75 then decide (x = 110 ∨ x = 100 ∨ x = 116) else if f = 83 then decide (x = 46 ∨ 97 ≤ x ∧ x ≤ 101) else decide (x = f)
/-- a text of n characters; beyond it 0 -/
def jtu (n : Nat) (t : Nat → Nat) : Nat → Nat := fun i => if i < n then t i else 0
/-- how many characters of a form stand at a place -/
def jmt : List Nat → (Nat → Nat) → Nat → Nat
  | [], _, _ => 0
  | f :: l, u, s => if jft f (u s) = true then jmt l u (s + 1) + 1 else 0
theorem jmt_le : ∀ (l : List Nat) (u : Nat → Nat) (s : Nat), jmt l u s ≤ l.length
  | [], _, _ => Nat.le_refl _
  | f :: l, u, s => by
    unfold jmt
    have := jmt_le l u (s + 1)
    split
    · simp only [List.length_cons]; omega
    · exact Nat.zero_le _
theorem jmt_app : ∀ (a b : List Nat) (u : Nat → Nat) (s : Nat), jmt (a ++ b) u s = if jmt a u s = a.length then a.length + jmt b u (s + a.length) else jmt a u s
  | [], b, u, s => by
    simp only [List.nil_append, jmt, List.length_nil, Nat.zero_add, Nat.add_zero, ↓reduceIte]
  | f :: a, b, u, s => by
    rw [List.cons_append, jmt, jmt]
    have h := jmt_app a b u (s + 1)
    have h2 := jmt_le a u (s + 1)
    by_cases hf : jft f (u s) = true
    · rw [if_pos hf, if_pos hf, h]
      simp only [List.length_cons]
      by_cases e : jmt a u (s + 1) = a.length
      · rw [if_pos e, if_pos (by omega)]
        have e2 : s + 1 + a.length = s + (a.length + 1) := by omega
        rw [e2]; omega
      · rw [if_neg e, if_neg (by omega)]
    · rw [if_neg hf, if_neg hf]
      simp only [List.length_cons]
      rw [if_neg (by omega)]
/-- the least command that stands at a place, 8 if there is none; the longest beginning of one -/
def jcm (u : Nat → Nat) (s : Nat) : Nat := if jmt (jfm 0) u s = 8 then 0 else if jmt (jfm 1) u s = 8 then 1 else if jmt (jfm 2) u s = 8 then 2 else if jmt (jfm 3) u s = 8 then 3 else if jmt (jfm 4) u s = 8 then 4 else if jmt (jfm 5) u s = 8 then 5 else if jmt (jfm 6) u s = 4 then 6 else if jmt (jfm 7) u s = 6 then 7 else 8
def jmx (a b : Nat) : Nat := if a < b then b else a
def jlm (u : Nat → Nat) (s : Nat) : Nat := jmx (jmx (jmx (jmx (jmx (jmx (jmx (jmx 0 (jmt (jfm 0) u s)) (jmt (jfm 1) u s)) (jmt (jfm 2) u s)) (jmt (jfm 3) u s)) (jmt (jfm 4) u s)) (jmt (jfm 5) u s)) (jmt (jfm 6) u s)) (jmt (jfm 7) u s)
theorem jfm_len : ∀ c < 8, (jfm c).length = if c = 6 then 4 else if c = 7 then 6 else 8 := by decide +kernel
def jln (c : Nat) : Nat := if c = 6 then 4 else if c = 7 then 6 else 8
def jgn (x : Nat) : Bool := decide (x = 46 ∨ 97 ≤ x ∧ x ≤ 101)
/-- where the signs end -/
def jse (u : Nat → Nat) : Nat → Nat → Nat
  | 0, i => i
  | k + 1, i => if jgn (u i) = true then jse u k (i + 1) else i
theorem jse_ge (u : Nat → Nat) : ∀ k i, i ≤ jse u k i ∧ jse u k i ≤ i + k
  | 0, i => ⟨Nat.le_refl _, Nat.le_refl _⟩
  | k + 1, i => by
    unfold jse
    have := jse_ge u k (i + 1)
    split <;> omega
theorem jse_all (u : Nat → Nat) : ∀ k i j, i ≤ j → j < jse u k i → jgn (u j) = true
  | 0, i, j, h1, h2 => by unfold jse at h2; omega
  | k + 1, i, j, h1, h2 => by
    unfold jse at h2
    by_cases h : jgn (u i) = true
    · rw [if_pos h] at h2
      by_cases e : j = i
      · rw [e]; exact h
      · exact jse_all u k (i + 1) j (by omega) h2
    · rw [if_neg h] at h2; omega
def jen (u : Nat → Nat) (n s c : Nat) : Nat := if c = 2 ∨ c = 7 then jse u (n - (s + jln c)) (s + jln c) else s + jln c
/-- the text's commands, each with its start and its end; the fault's place -/
def jpZ (u : Nat → Nat) (n : Nat) : Nat → Nat → Option Nat × List (Nat × Nat × Nat)
  | 0, s => (some s, [])
  | k + 1, s => if jcm u s = 8 then (some (s + jlm u s), []) else if n ≤ jen u n s (jcm u s) then (none, [(jcm u s, s, jen u n s (jcm u s))]) else if u (jen u n s (jcm u s)) = 59 then ((jpZ u n k (jen u n s (jcm u s) + 1)).1, (jcm u s, s, jen u n s (jcm u s)) :: (jpZ u n k (jen u n s (jcm u s) + 1)).2) else (some (jen u n s (jcm u s)), [(jcm u s, s, jen u n s (jcm u s))])
/-- the text -/
def jtx (n : Nat) (t : Nat → Nat) : Prop := n ≤ 60 ∧ ∀ k, k < n → 32 ≤ t k ∧ t k ≤ 126
section FT
variable {σ : jm_S} {n : Nat} {t : Nat → Nat}
def jtc (n : Nat) (t : Nat → Nat) (i : Nat) : Int32 := if i < n then jI (t i) else -1
theorem jtc_at (h : jRn σ 283 n t) {i : Nat} (hi : i < 2147483648) : jb_Ev 6 [.ref (283 : Nat), .int (jI i)] (jm_hp σ) = some (some (.int (jtc n t i)), jm_hp σ) := by
  unfold jtc
  by_cases e : i < n
  · rw [if_pos e]; exact jRn_at h e
  · rw [if_neg e]; exact jR_ato h (by omega) hi
theorem jtc_sign (h : jtx n t) (i : Nat) : (jgn (jtu n t i) = true ∧ ∃ k, k ≤ 5 ∧ (jtu n t i = 46 ∧ k = 5 ∨ jtu n t i ≠ 46 ∧ k < 5 ∧ jtu n t i = 97 + k) ∧ jb_Ev 10 [.int (jtc n t i)] (jm_hp σ) = some (some (.int (jI k)), jm_hp σ)) ∨ (jgn (jtu n t i) = false ∧ jb_Ev 10 [.int (jtc n t i)] (jm_hp σ) = some (some (.int (-1)), jm_hp σ)) := by
  unfold jtc jtu jgn
  by_cases e : i < n
  · rw [if_pos e, if_pos e]
    have := h.2 i e
    rcases jD_sign (σ := σ) (x := t i) (by omega) with ⟨k, k1, k2, k3⟩ | ⟨k1, k2, k3⟩
    · exact Or.inl ⟨decide_eq_true (by omega), k, k1, k2, k3⟩
    · exact Or.inr ⟨decide_eq_false (by omega), k3⟩
  · rw [if_neg e, if_neg e]
    refine Or.inr ⟨by decide, ?_⟩
    rw [jt_D_signOfCharacter_0, if_neg (by decide +kernel), if_pos (by decide +kernel)]
theorem jtc_kind (h : jtx n t) (i : Nat) : (∃ k, k ≤ 2 ∧ (jtu n t i = 110 ∧ k = 0 ∨ jtu n t i = 100 ∧ k = 1 ∨ jtu n t i = 116 ∧ k = 2) ∧ jb_Ev 24 [.int (jtc n t i)] (jm_hp σ) = some (some (.int (jI k)), jm_hp σ)) ∨ (¬ (jtu n t i = 110 ∨ jtu n t i = 100 ∨ jtu n t i = 116) ∧ jb_Ev 24 [.int (jtc n t i)] (jm_hp σ) = some (some (.int (-1)), jm_hp σ)) := by
  unfold jtc jtu
  by_cases e : i < n
  · rw [if_pos e, if_pos e]
    have := h.2 i e
    rw [jt_D_kindOfCharacter_0]
    by_cases h1 : t i = 110
    · exact Or.inl ⟨0, by omega, by omega, by simp (disch := omega) only [jb_K_n, jb_K_v, ↓reduceIte, jT_lt, jF_lt, jT_le, jF_le, jT_eq, jF_eq, jT_z, jF_z, jF_neg, jT_nn, jT_pos, jF_pos, jT_le0, jF_le0, jT_x, jF_m1, jF_m1r, jT_tt, jI_add, jI_mul, jI_sub, jI_cl, jm_up_same, jm_up_o, jm_up_j, jbR_T, jbR_F]⟩
    by_cases h2 : t i = 100
    · exact Or.inl ⟨1, by omega, by omega, by simp (disch := omega) only [jb_K_n, jb_K_v, ↓reduceIte, jT_lt, jF_lt, jT_le, jF_le, jT_eq, jF_eq, jT_z, jF_z, jF_neg, jT_nn, jT_pos, jF_pos, jT_le0, jF_le0, jT_x, jF_m1, jF_m1r, jT_tt, jI_add, jI_mul, jI_sub, jI_cl, jm_up_same, jm_up_o, jm_up_j, jbR_T, jbR_F]⟩
    by_cases h3 : t i = 116
    · exact Or.inl ⟨2, by omega, by omega, by simp (disch := omega) only [jb_K_n, jb_K_v, ↓reduceIte, jT_lt, jF_lt, jT_le, jF_le, jT_eq, jF_eq, jT_z, jF_z, jF_neg, jT_nn, jT_pos, jF_pos, jT_le0, jF_le0, jT_x, jF_m1, jF_m1r, jT_tt, jI_add, jI_mul, jI_sub, jI_cl, jm_up_same, jm_up_o, jm_up_j, jbR_T, jbR_F]⟩
    exact Or.inr ⟨by omega, by simp (disch := omega) only [jb_K_n, jb_K_v, ↓reduceIte, jT_lt, jF_lt, jT_le, jF_le, jT_eq, jF_eq, jT_z, jF_z, jF_neg, jT_nn, jT_pos, jF_pos, jT_le0, jF_le0, jT_x, jF_m1, jF_m1r, jT_tt, jI_add, jI_mul, jI_sub, jI_cl, jm_up_same, jm_up_o, jm_up_j, jbR_T, jbR_F]⟩
  · rw [if_neg e, if_neg e]
    refine Or.inr ⟨by decide, ?_⟩
    rw [jt_D_kindOfCharacter_0, if_neg (by decide +kernel), if_neg (by decide +kernel), if_neg (by decide +kernel)]
def jBI (b : Bool) : Int32 := if b = true then jI 1 else jI 0
theorem jisFit (h : jtx n t) {f : Nat} (hf : f < 256) (h5 : f ≠ 0) (i : Nat) : jb_Ev 84 [.int (jI f), .int (jtc n t i)] (jm_hp σ) = some (some (.int (jBI (jft f (jtu n t i)))), jm_hp σ) := by
  rw [jt_Text_isFit_0]
  unfold jft
  have hs := jtc_sign (σ := σ) h i
  have hk := jtc_kind (σ := σ) h i
  have hx : (jtc n t i = jI 46 ↔ jtu n t i = 46) ∧ (jtc n t i < jI 48 ↔ jtu n t i < 48) ∧ (jI 57 < jtc n t i ↔ 57 < jtu n t i) ∧ (f ≠ 0 → (jtc n t i = jI f ↔ jtu n t i = f)) := by
    unfold jtc jtu
    by_cases e : i < n
    · rw [if_pos e, if_pos e]
      have := h.2 i e
      exact ⟨jI_eq (by omega) (by omega), jI_lt (by omega) (by omega), jI_lt (by omega) (by omega), fun _ => jI_eq (by omega) (by omega)⟩
    · rw [if_neg e, if_neg e]
      refine ⟨⟨fun z => absurd z (by decide +kernel), fun z => by omega⟩, ⟨fun _ => by omega, fun _ => by decide +kernel⟩, ⟨fun z => absurd z (by decide +kernel), fun z => by omega⟩, fun hf0 => ⟨fun z => ?_, fun z => by omega⟩⟩
      exact absurd z.symm (fun y => (jI_m1 (by omega)).mp y)
  by_cases h1 : f = 66
  · subst h1
    rw [if_pos rfl, if_pos rfl]
    by_cases h2 : jtu n t i = 46
    · rw [if_pos (hx.1.mpr h2), h2]; rfl
    · rw [if_neg (fun z => h2 (hx.1.mp z))]
      rcases hs with ⟨s1, k, k1, k2, k3⟩ | ⟨s1, k3⟩
      · rw [k3]
        have : decide (97 ≤ jtu n t i ∧ jtu n t i ≤ 101) = true := decide_eq_true (by omega)
        rw [this]
        simp (disch := omega) only [jb_K_n, jb_K_v, ↓reduceIte, jT_lt, jF_lt, jT_le, jF_le, jT_eq, jF_eq, jT_z, jF_z, jF_neg, jT_nn, jT_pos, jF_pos, jT_le0, jF_le0, jT_x, jF_m1, jF_m1r, jT_tt, jI_add, jI_mul, jI_sub, jI_cl, jm_up_same, jm_up_o, jm_up_j, jbR_T, jbR_F, jt_Text_isFit_54]
        rfl
      · rw [k3]
        have : decide (97 ≤ jtu n t i ∧ jtu n t i ≤ 101) = false := decide_eq_false (by have := of_decide_eq_false s1; omega)
        rw [this]
        simp (disch := omega) only [jb_K_n, jb_K_v, ↓reduceIte, jT_lt, jF_lt, jT_le, jF_le, jT_eq, jF_eq, jT_z, jF_z, jF_neg, jT_nn, jT_pos, jF_pos, jT_le0, jF_le0, jT_x, jF_m1, jF_m1r, jT_tt, jI_add, jI_mul, jI_sub, jI_cl, jm_up_same, jm_up_o, jm_up_j, jbR_T, jbR_F, jt_Text_isFit_54]
        rfl
  · rw [if_neg (by rw [jI_eq (by omega) (by omega)]; exact h1), if_neg h1]
    by_cases h2 : f = 68
    · subst h2
      rw [if_pos rfl, if_pos rfl]
      by_cases h3 : jtu n t i < 48
      · rw [if_pos (hx.2.1.mpr h3), decide_eq_false (by omega)]; rfl
      · rw [if_neg (fun z => h3 (hx.2.1.mp z))]
        by_cases h4 : 57 < jtu n t i
        · rw [if_pos (hx.2.2.1.mpr h4), decide_eq_false (by omega)]; rfl
        · rw [if_neg (fun z => h4 (hx.2.2.1.mp z)), decide_eq_true (by omega)]; rfl
    · rw [if_neg (by rw [jI_eq (by omega) (by omega)]; exact h2), if_neg h2]
      by_cases h3 : f = 75
      · subst h3
        rw [if_pos rfl, if_pos rfl]
        rcases hk with ⟨k, k1, k2, k3⟩ | ⟨k2, k3⟩
        · rw [k3, decide_eq_true (by omega)]
          simp (disch := omega) only [jb_K_n, jb_K_v, ↓reduceIte, jT_lt, jF_lt, jT_le, jF_le, jT_eq, jF_eq, jT_z, jF_z, jF_neg, jT_nn, jT_pos, jF_pos, jT_le0, jF_le0, jT_x, jF_m1, jF_m1r, jT_tt, jI_add, jI_mul, jI_sub, jI_cl, jm_up_same, jm_up_o, jm_up_j, jbR_T, jbR_F, jt_Text_isFit_86]
          rfl
        · rw [k3, decide_eq_false (by omega)]
          simp (disch := omega) only [jb_K_n, jb_K_v, ↓reduceIte, jT_lt, jF_lt, jT_le, jF_le, jT_eq, jF_eq, jT_z, jF_z, jF_neg, jT_nn, jT_pos, jF_pos, jT_le0, jF_le0, jT_x, jF_m1, jF_m1r, jT_tt, jI_add, jI_mul, jI_sub, jI_cl, jm_up_same, jm_up_o, jm_up_j, jbR_T, jbR_F, jt_Text_isFit_86]
          rfl
      · rw [if_neg (by rw [jI_eq (by omega) (by omega)]; exact h3), if_neg h3]
        by_cases h4 : f = 83
        · subst h4
          rw [if_pos rfl, if_pos rfl]
          rcases hs with ⟨s1, k, k1, k2, k3⟩ | ⟨s1, k3⟩
          · rw [k3, decide_eq_true (of_decide_eq_true s1)]
            simp (disch := omega) only [jb_K_n, jb_K_v, ↓reduceIte, jT_lt, jF_lt, jT_le, jF_le, jT_eq, jF_eq, jT_z, jF_z, jF_neg, jT_nn, jT_pos, jF_pos, jT_le0, jF_le0, jT_x, jF_m1, jF_m1r, jT_tt, jI_add, jI_mul, jI_sub, jI_cl, jm_up_same, jm_up_o, jm_up_j, jbR_T, jbR_F, jt_Text_isFit_100]
            rfl
          · rw [k3, decide_eq_false (of_decide_eq_false s1)]
            simp (disch := omega) only [jb_K_n, jb_K_v, ↓reduceIte, jT_lt, jF_lt, jT_le, jF_le, jT_eq, jF_eq, jT_z, jF_z, jF_neg, jT_nn, jT_pos, jF_pos, jT_le0, jF_le0, jT_x, jF_m1, jF_m1r, jT_tt, jI_add, jI_mul, jI_sub, jI_cl, jm_up_same, jm_up_o, jm_up_j, jbR_T, jbR_F, jt_Text_isFit_100]
            rfl
        · rw [if_neg (by rw [jI_eq (by omega) (by omega)]; exact h4), if_neg h4]
          by_cases h6 : jtu n t i = f
          · rw [if_pos ((hx.2.2.2 h5).mpr h6), decide_eq_true h6]; rfl
          · rw [if_neg (fun z => h6 ((hx.2.2.2 h5).mp z)), decide_eq_false h6]; rfl
end FT
