/-! ===== the plain form's rows of numbers: copying, starting, ending ===== -/
theorem jc_309 : jm_c 309 = 12 := by decide +kernel
theorem jn_309 : jm_ln 309 = 146 := by decide +kernel
theorem jI_div {a b : Nat} (ha : a < 2147483648) (hb : b < 2147483648) : jI a / jI b = jI (a / b) := (Int32.ofNat_div ha hb).symm
theorem jI_mod8 {m : Nat} (hm : m < 2147483648) : jI m - jI m / jI 8 * jI 8 = jI (m % 8) := by
  rw [jI_div hm (by omega), jI_mul, jI_sub (by omega)]
  congr 1
  omega
def jAr (σ : jm_S) (q n : Nat) (f : Nat → Nat) : Prop := ∀ j, j < n → σ q j = jI (f j)
section MOD
variable {σ : jm_S}
theorem jM_copiesL {a0 a2 a b : Nat} (h0 : jm_c a0 = 12) (h2 : jm_c a2 = 12) (hne : a0 ≠ a2) (ha : a + 146 ≤ jm_ln a0) (hb : b + 146 ≤ jm_ln a2) : ∀ (m k : Nat) (τ : jm_S), k + m = 146 → (∀ q j, q ≠ a2 → τ q j = σ q j) → (∀ j, j < k → τ a2 (b + j) = σ a0 (a + j)) → (∀ j, ¬ (b ≤ j ∧ j < b + k) → τ a2 j = σ a2 j) → ∃ σ', jb_Ex 32 (3, [.ref a0, .int (jI a), .ref a2, .int (jI b), .int (jI k)], [], jm_hp τ) = some (none, jm_hp σ') ∧ (∀ q j, q ≠ a2 → σ' q j = σ q j) ∧ (∀ j, j < 146 → σ' a2 (b + j) = σ a0 (a + j)) ∧ (∀ j, ¬ (b ≤ j ∧ j < b + 146) → σ' a2 j = σ a2 j)
  | 0, k, τ, hm, f1, f2, f3 => by
    obtain rfl : k = 146 := by omega
    refine ⟨τ, ?_, f1, f2, f3⟩
    rw [jt_M_copies_3 h0 h2, if_pos (by rw [jI_le (by omega) (by omega)]; exact Nat.le_refl _)]
  | m + 1, k, τ, hm, f1, f2, f3 => by
    have l0 := jm_ln_le a0
    have l2 := jm_ln_le a2
    rw [jt_M_copies_3 h0 h2]
    simp (disch := omega) only [jI_le, jI_add, jx_I, jI_cl]
    rw [if_neg (by omega), if_pos (by omega), if_pos (by omega)]
    refine jM_copiesL h0 h2 hne ha hb m (k + 1) _ (by omega) (fun q j hq => ?_) (fun j hj => ?_) (fun j hj => ?_)
    · rw [jm_up_o _ _ hq]
      exact f1 q j hq
    · by_cases e : j = k
      · subst e
        rw [jm_up_same]
        exact f1 _ _ hne
      · rw [jm_up_j _ _ (by omega)]
        exact f2 j (by omega)
    · rw [jm_up_j _ _ (by omega)]
      exact f3 j (by omega)
theorem jM_copies {a0 a2 a b : Nat} (h0 : jm_c a0 = 12) (h2 : jm_c a2 = 12) (hne : a0 ≠ a2) (ha : a + 146 ≤ jm_ln a0) (hb : b + 146 ≤ jm_ln a2) : ∃ σ', jb_Ev 32 [.ref a0, .int (jI a), .ref a2, .int (jI b)] (jm_hp σ) = some (none, jm_hp σ') ∧ (∀ q j, q ≠ a2 → σ' q j = σ q j) ∧ (∀ j, j < 146 → σ' a2 (b + j) = σ a0 (a + j)) ∧ (∀ j, ¬ (b ≤ j ∧ j < b + 146) → σ' a2 j = σ a2 j) := by
  rw [jt_M_copies_0 h0 h2]
  exact jM_copiesL h0 h2 hne ha hb 146 0 σ (by omega) (fun _ _ _ => rfl) (fun j hj => absurd hj (Nat.not_lt_zero _)) (fun _ _ => rfl)
theorem jM_starts {w : Nat → Nat} (h : jAr σ 308 146 w) : ∃ σ', jb_Ev 93 [.ref (307 : Nat)] (jm_hp σ) = some (none, jm_hp σ') ∧ jAr σ' 309 146 w ∧ σ' 307 17 = jI 0 ∧ (∀ q j, ¬ (q = 309 ∨ (q = 307 ∧ j = 17)) → σ' q j = σ q j) := by
  obtain ⟨σ1, e1, f1, f2, -⟩ := jM_copies (σ := σ) (a0 := 308) (a2 := 309) (a := 0) (b := 0) jc_308 jc_309 (by omega) (by rw [jn_308]; omega) (by rw [jn_309]; omega)
  refine ⟨jm_up σ1 307 17 (jI 0), ?_, fun j hj => ?_, jm_up_same _ _ _ _, fun q j hq => ?_⟩
  · rw [jt_M_starts_0, e1, jb_K_n, jt_M_starts_13]
  · rw [jm_up_o _ _ (by omega)]
    have := f2 j hj
    rw [Nat.zero_add] at this
    rw [this]
    exact h j hj
  · by_cases e : q = 307
    · subst e
      rw [jm_up_j _ _ (by omega), f1 _ _ (by omega)]
    · rw [jm_up_o _ _ e, f1 _ _ (by omega)]
/-- the history as the plain form has it -/
def jMH (σ : jm_S) (n : Nat) (H : Nat → Nat → Nat) : Prop := σ 307 5 = jI n ∧ ∀ k j, k < n → j < 146 → σ 311 (146 * k + j) = jI (H k j)
def jpn (n : Nat) : Nat := if n = 8 then 8 else n + 1
def jpH (n : Nat) (H : Nat → Nat → Nat) (w : Nat → Nat) : Nat → Nat → Nat := fun k => if n = 8 then (if k = 7 then w else H (k + 1)) else (if k = n then w else H k)
theorem jM_shiftL : ∀ (m k : Nat) (τ : jm_S), k + m = 1022 → (∀ q j, q ≠ 311 → τ q j = σ q j) → (∀ j, j < k → τ 311 j = σ 311 (j + 146)) → (∀ j, k ≤ j → τ 311 j = σ 311 j) → ∃ τ', (∀ q j, q ≠ 311 → τ' q j = σ q j) ∧ (∀ j, j < 1022 → τ' 311 j = σ 311 (j + 146)) ∧ jb_Ex 96 (11, [.ref (307 : Nat), .int (jI k)], [], jm_hp τ) = jb_Ex 96 (11, [.ref (307 : Nat), .int (jI 1022)], [], jm_hp τ')
  | 0, k, τ, hm, f1, f2, f3 => by
    obtain rfl : k = 1022 := by omega
    exact ⟨τ, f1, f2, rfl⟩
  | m + 1, k, τ, hm, f1, f2, f3 => by
    obtain ⟨τ', g1, g2, g3⟩ := jM_shiftL m (k + 1) (jm_up τ 311 k (σ 311 (k + 146))) (by omega) (fun q j hq => by rw [jm_up_o _ _ hq]; exact f1 q j hq) (fun j hj => by
      by_cases e : j = k
      · subst e
        rw [jm_up_same]
      · rw [jm_up_j _ _ e]
        exact f2 j (by omega)) (fun j hj => by rw [jm_up_j _ _ (by omega)]; exact f3 j (by omega))
    refine ⟨τ', g1, g2, ?_⟩
    rw [jt_M_remembers_11]
    simp (disch := omega) only [jI_le, jI_add, jx_I, jI_cl]
    rw [if_neg (by omega), if_pos (by omega), if_pos (by omega), f3 (k + 146) (by omega)]
    exact g3
theorem jM_remembers {n : Nat} {H : Nat → Nat → Nat} {w : Nat → Nat} (hn : n ≤ 8) (hH : jMH σ n H) (hw : jAr σ 309 146 w) : ∃ σ', jb_Ev 96 [.ref (307 : Nat)] (jm_hp σ) = some (none, jm_hp σ') ∧ jMH σ' (jpn n) (jpH n H w) ∧ (∀ q j, ¬ (q = 311 ∨ (q = 307 ∧ j = 5)) → σ' q j = σ q j) := by
  obtain ⟨h1, h2⟩ := hH
  rw [jt_M_remembers_0, h1]
  simp (disch := omega) only [jI_eq]
  by_cases e : n = 8
  · subst e
    rw [if_pos rfl]
    obtain ⟨τ, g1, g2, g3⟩ := jM_shiftL (σ := σ) 1022 0 σ (by omega) (fun _ _ _ => rfl) (fun j hj => absurd hj (Nat.not_lt_zero _)) (fun _ _ => rfl)
    rw [g3, jt_M_remembers_11, if_pos (by rw [jI_le (by omega) (by omega)]; exact Nat.le_refl _), jm_up_same, g1 307 5 (by omega), h1, jI_sub (by omega), jI_mul]
    obtain ⟨σ1, e1, f1, f2, f3⟩ := jM_copies (σ := jm_up τ 307 5 (jI (8 - 1))) (a0 := 309) (a2 := 311) (a := 0) (b := 1022) jc_309 jc_311 (by omega) (by rw [jn_309]; omega) (by rw [jn_311]; omega)
    rw [show (8 - 1) * 146 = 1022 from rfl, e1, jb_K_n, jt_M_remembers_70, f1 307 5 (by omega), jm_up_same, jI_add]
    refine ⟨_, rfl, ⟨?_, fun k j hk hj => ?_⟩, fun q j hq => ?_⟩
    · rw [jm_up_same]
      rfl
    · rw [jm_up_o _ _ (by omega)]
      unfold jpH
      rw [if_pos rfl]
      have hk : k < 8 := hk
      by_cases e : k = 7
      · subst e
        rw [if_pos rfl, show 146 * 7 + j = 1022 + j from rfl, f2 j hj, jm_up_o _ _ (by omega), g1 _ _ (by omega), Nat.zero_add]
        exact hw j hj
      · rw [if_neg e, f3 _ (by omega), jm_up_o _ _ (by omega), g2 _ (by omega), show 146 * k + j + 146 = 146 * (k + 1) + j by omega]
        exact h2 (k + 1) j (by omega) hj
    · by_cases e : q = 307
      · subst e
        rw [jm_up_j _ _ (by omega), f1 _ _ (by omega), jm_up_j _ _ (by omega), g1 _ _ (by omega)]
      · rw [jm_up_o _ _ e, f1 _ _ (by omega), jm_up_o _ _ e, g1 _ _ (by omega)]
  · rw [if_neg e, jI_mul]
    obtain ⟨σ1, e1, f1, f2, f3⟩ := jM_copies (σ := σ) (a0 := 309) (a2 := 311) (a := 0) (b := n * 146) jc_309 jc_311 (by omega) (by rw [jn_309]; omega) (by rw [jn_311]; omega)
    rw [e1, jb_K_n, jt_M_remembers_70, f1 307 5 (by omega), h1, jI_add]
    refine ⟨_, rfl, ⟨?_, fun k j hk hj => ?_⟩, fun q j hq => ?_⟩
    · rw [jm_up_same]
      unfold jpn
      rw [if_neg e]
    · rw [jm_up_o _ _ (by omega)]
      unfold jpn at hk
      unfold jpH
      rw [if_neg e] at hk ⊢
      by_cases e : k = n
      · subst e
        rw [if_pos rfl, show 146 * k + j = k * 146 + j by omega, f2 j hj, Nat.zero_add]
        exact hw j hj
      · rw [if_neg e, f3 _ (by omega)]
        exact h2 k j (by omega) hj
    · by_cases e : q = 307
      · subst e
        rw [jm_up_j _ _ (by omega), f1 _ _ (by omega)]
      · rw [jm_up_o _ _ e, f1 _ _ (by omega)]
theorem jM_refuses {w : Nat → Nat} (hw : jAr σ 309 146 w) (a b c d : Int32) : ∃ σ', jb_Ev 95 [.ref (307 : Nat), .int a, .int b, .int c, .int d] (jm_hp σ) = some (some (.int (-5)), jm_hp σ') ∧ jAr σ' 308 146 w ∧ (σ' 307 6 = a ∧ σ' 307 7 = b ∧ σ' 307 8 = c ∧ σ' 307 9 = d) ∧ (∀ q j, ¬ (q = 308 ∨ (q = 307 ∧ 6 ≤ j ∧ j ≤ 9)) → σ' q j = σ q j) := by
  rw [jt_M_refuses_0]
  obtain ⟨σ1, e1, f1, f2, f3⟩ := jM_copies (σ := jm_up (jm_up (jm_up (jm_up σ 307 6 a) 307 7 b) 307 8 c) 307 9 d) (a0 := 309) (a2 := 308) (a := 0) (b := 0) jc_309 jc_308 (by omega) (by rw [jn_309]; omega) (by rw [jn_308]; omega)
  rw [e1, jb_K_n, jt_M_refuses_34]
  refine ⟨_, rfl, fun j hj => ?_, ⟨?_, ?_, ?_, ?_⟩, fun q j hq => ?_⟩
  · have := f2 j hj
    rw [Nat.zero_add] at this
    rw [this, jm_up_o _ _ (by omega), jm_up_o _ _ (by omega), jm_up_o _ _ (by omega), jm_up_o _ _ (by omega)]
    exact hw j hj
  · rw [f1 _ _ (by omega), jm_up_j _ _ (by omega), jm_up_j _ _ (by omega), jm_up_j _ _ (by omega), jm_up_same]
  · rw [f1 _ _ (by omega), jm_up_j _ _ (by omega), jm_up_j _ _ (by omega), jm_up_same]
  · rw [f1 _ _ (by omega), jm_up_j _ _ (by omega), jm_up_same]
  · rw [f1 _ _ (by omega), jm_up_same]
  · rw [f1 _ _ (by omega)]
    by_cases e : q = 307
    · subst e
      rw [jm_up_j _ _ (by omega), jm_up_j _ _ (by omega), jm_up_j _ _ (by omega), jm_up_j _ _ (by omega)]
    · rw [jm_up_o _ _ e, jm_up_o _ _ e, jm_up_o _ _ e, jm_up_o _ _ e]
theorem jM_ends_ok {n : Nat} {H : Nat → Nat → Nat} {w : Nat → Nat} (hn : n ≤ 8) (hH : jMH σ n H) (hw : jAr σ 309 146 w) (h17 : σ 307 17 = jI 0) (x : Int32) : ∃ σ', jb_Ev 149 [.ref (307 : Nat), .int x] (jm_hp σ) = some (some (.int x), jm_hp σ') ∧ jMH σ' (jpn n) (jpH n H w) ∧ (∀ q j, ¬ (q = 311 ∨ (q = 307 ∧ j = 5)) → σ' q j = σ q j) := by
  obtain ⟨σ1, e1, f1, f2⟩ := jM_remembers hn hH hw
  refine ⟨σ1, ?_, f1, f2⟩
  rw [jt_M_ends_0, h17, if_pos jI_zero, e1, jb_K_n, jt_M_ends_26]
theorem jM_ends_no {w : Nat → Nat} {y : Nat} (hw : jAr σ 309 146 w) (h17 : σ 307 17 = jI y) (hy : y ≠ 0 ∧ y < 2147483648) (x : Int32) : ∃ σ', jb_Ev 149 [.ref (307 : Nat), .int x] (jm_hp σ) = some (some (.int (-5)), jm_hp σ') ∧ jAr σ' 308 146 w ∧ (σ' 307 6 = jI y ∧ σ' 307 7 = σ 307 18 ∧ σ' 307 8 = jI 0 ∧ σ' 307 9 = jI 0) ∧ (∀ q j, ¬ (q = 308 ∨ (q = 307 ∧ 6 ≤ j ∧ j ≤ 9)) → σ' q j = σ q j) := by
  obtain ⟨σ1, e1, f1, f2, f3⟩ := jM_refuses hw (jI y) (σ 307 18) (jI 0) (jI 0)
  refine ⟨σ1, ?_, f1, f2, f3⟩
  rw [jt_M_ends_0, h17, if_neg (by rw [jI_eq0 hy.2]; exact hy.1), e1, jb_K_v, jt_M_ends_21]
end MOD
/-! ===== the class's history ===== -/
def jpg (w g : Nat → Nat) : Prop := ∀ p j, p < w 2 → j < w (81 + 13 * p) → g (12 * p + j) = w (82 + 13 * p + j)
def jV (σ : jm_S) (v : Nat) (w : Nat → Nat) : Prop := ∃ g, jCV σ v w g ∧ jpg w g
theorem jV.A {σ σ' : jm_S} {a b v : Nat} {w : Nat → Nat} (h : jV σ v w) (hA : jA a b σ σ') (hd : v + 25 ≤ a ∨ b ≤ v) : jV σ' v w := by
  obtain ⟨g, h1, h2⟩ := h
  exact ⟨g, h1.A hA hd, h2⟩
theorem jV_take {σ : jm_S} {v u : Nat} {w : Nat → Nat} (hv : jm_c v = 9) (hu : jm_c u = 9) (hd : v + 25 ≤ u ∨ u + 25 ≤ v) (h : jV σ u w) : ∃ σ', jb_Ev 123 [.ref v, .ref u] (jm_hp σ) = some (none, jm_hp σ') ∧ jV σ' v w ∧ jA v (v + 25) σ σ' := by
  obtain ⟨g, h1, h2⟩ := h
  obtain ⟨σ', e, a, b⟩ := jVillage_take hv hu hd h1
  exact ⟨σ', e, ⟨g, a, h2⟩, b⟩
def jCH (σ : jm_S) (n : Nat) (H : Nat → Nat → Nat) : Prop := σ 76 2 = jI n ∧ ∃ o, o < 8 ∧ σ 76 1 = jI o ∧ ∀ k, k < n → jV σ (78 + 25 * ((o + k) % 8)) (H k)
theorem jc_slot : ∀ j, j < 8 → jm_c (78 + 25 * j) = 9 := by decide +kernel
theorem jslot {σ : jm_S} {o m : Nat} (ho : o < 8) (hm : m < 100) (h1 : σ 76 1 = jI o) : jb_Ev 9 [.ref (76 : Nat), .int (jI m)] (jm_hp σ) = some (some (.ref (78 + 25 * ((o + m) % 8) : Nat)), jm_hp σ) := by
  rw [jt_History_slotOf_0, h1, jI_add, jI_mod8 (by omega)]
  simp (disch := omega) only [jI_neg, if_false, jI_lt, jx_I, jI_cl]
  rw [if_pos (by omega), if_pos (by omega)]
theorem jkeep {σ : jm_S} {n : Nat} {H : Nat → Nat → Nat} {w : Nat → Nat} (hn : n ≤ 8) (hH : jCH σ n H) (hw : jV σ 26 w) : ∃ σ', jb_Ev 168 [.ref (76 : Nat), .ref (26 : Nat)] (jm_hp σ) = some (none, jm_hp σ') ∧ jCH σ' (jpn n) (jpH n H w) ∧ jA 76 278 σ σ' := by
  obtain ⟨h1, o, ho, h2, h3⟩ := hH
  rw [jt_History_keep_0 jc_26, h1]
  simp (disch := omega) only [jI_lt]
  by_cases e : n = 8
  · subst e
    rw [if_neg (by omega), jm_up_same, h2, jI_add, jI_mod8 (by omega)]
    have hA1 : jA 76 77 σ (jm_up (jm_up σ 76 1 (jI ((o + 1) % 8))) 76 2 (jI 7)) := jA_ups (jA_up (by omega) (by omega)) (by omega) (by omega)
    have hs1 : (jm_up (jm_up σ 76 1 (jI ((o + 1) % 8))) 76 2 (jI 7)) 76 1 = jI ((o + 1) % 8) := by rw [jm_up_j _ _ (by omega), jm_up_same]
    have hs2 : (jm_up (jm_up σ 76 1 (jI ((o + 1) % 8))) 76 2 (jI 7)) 76 2 = jI 7 := jm_up_same _ _ _ _
    generalize jm_up (jm_up σ 76 1 (jI ((o + 1) % 8))) 76 2 (jI 7) = τ at hA1 hs1 hs2 ⊢
    have hsl : ((o + 1) % 8 + 7) % 8 = o := by omega
    obtain ⟨σ1, e1, f1, f2⟩ := jV_take (jc_slot o ho) jc_26 (by omega) (hw.A hA1 (by omega))
    rw [jslot (by omega) (by omega) hs1, jb_K_v, hsl, jt_History_keep_36 jc_26 (jc_slot o ho), e1, jb_K_n, jt_History_keep_47 jc_26 (jc_slot o ho), f2 76 2 (by omega), hs2, jI_add]
    refine ⟨_, rfl, ⟨jm_up_same _ _ _ _, (o + 1) % 8, by omega, ?_, fun k hk => ?_⟩, ?_⟩
    · rw [jm_up_j _ _ (by omega), f2 76 1 (by omega)]
      exact hs1
    · have hk : k < 8 := hk
      unfold jpH
      rw [if_pos rfl]
      by_cases e : k = 7
      · subst e
        rw [if_pos rfl, hsl]
        exact f1.A (jA_up (a := 76) (b := 77) (by omega) (by omega)) (by omega)
      · rw [if_neg e, show ((o + 1) % 8 + k) % 8 = (o + (k + 1)) % 8 by omega]
        exact (((h3 (k + 1) (by omega)).A hA1 (by omega)).A f2 (by omega)).A (jA_up (a := 76) (b := 77) (by omega) (by omega)) (by omega)
    · exact ((hA1.mono (by omega) (by omega)).tr (f2.mono (by omega) (by omega))).tr (jA_up (by omega) (by omega))
  · rw [if_pos (by omega)]
    obtain ⟨σ1, e1, f1, f2⟩ := jV_take (jc_slot ((o + n) % 8) (by omega)) jc_26 (by omega) hw
    rw [jslot ho (by omega) h2, jb_K_v, jt_History_keep_36 jc_26 (jc_slot ((o + n) % 8) (by omega)), e1, jb_K_n, jt_History_keep_47 jc_26 (jc_slot ((o + n) % 8) (by omega)), f2 76 2 (by omega), h1, jI_add]
    refine ⟨_, rfl, ⟨?_, o, ho, ?_, fun k hk => ?_⟩, ?_⟩
    · rw [jm_up_same]
      unfold jpn
      rw [if_neg e]
    · rw [jm_up_j _ _ (by omega), f2 76 1 (by omega)]
      exact h2
    · unfold jpn at hk
      unfold jpH
      rw [if_neg e] at hk ⊢
      by_cases e : k = n
      · subst e
        rw [if_pos rfl]
        exact f1.A (jA_up (a := 76) (b := 77) (by omega) (by omega)) (by omega)
      · rw [if_neg e]
        exact ((h3 k (by omega)).A f2 (by omega)).A (jA_up (a := 76) (b := 77) (by omega) (by omega)) (by omega)
    · exact (f2.mono (by omega) (by omega)).tr (jA_up (by omega) (by omega))
