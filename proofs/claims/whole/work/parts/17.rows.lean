/-! ===== numbers that aren't negative ===== -/
theorem jI_toInt {a : Nat} (ha : a < 2147483648) : (jI a).toInt = a := Int32.toInt_ofNat_of_lt ha
theorem jI_lt {a b : Nat} (ha : a < 2147483648) (hb : b < 2147483648) : (jI a < jI b) ↔ a < b := by
  rw [Int32.lt_iff_toInt_lt, jI_toInt ha, jI_toInt hb]; omega
theorem jI_le {a b : Nat} (ha : a < 2147483648) (hb : b < 2147483648) : (jI a ≤ jI b) ↔ a ≤ b := by
  rw [Int32.le_iff_toInt_le, jI_toInt ha, jI_toInt hb]; omega
theorem jI_eq {a b : Nat} (ha : a < 2147483648) (hb : b < 2147483648) : (jI a = jI b) ↔ a = b := by
  rw [← Int32.toInt_inj, jI_toInt ha, jI_toInt hb]; omega
theorem jI_neg {a : Nat} (ha : a < 2147483648) : (jI a < 0) ↔ False := by
  rw [Int32.lt_iff_toInt_lt, jI_toInt ha, Int32.toInt_zero]; exact ⟨fun h => by omega, fun h => h.elim⟩
theorem jI_nn {a : Nat} (ha : a < 2147483648) : (0 ≤ jI a) ↔ True := by
  rw [Int32.le_iff_toInt_le, jI_toInt ha, Int32.toInt_zero]; exact ⟨fun _ => trivial, fun _ => by omega⟩
theorem jI_le0 {a : Nat} (ha : a < 2147483648) : (jI a ≤ 0) ↔ a = 0 := by
  rw [Int32.le_iff_toInt_le, jI_toInt ha, Int32.toInt_zero]; omega
theorem jI_pos {a : Nat} (ha : a < 2147483648) : (0 < jI a) ↔ 0 < a := by
  rw [Int32.lt_iff_toInt_lt, jI_toInt ha, Int32.toInt_zero]; omega
theorem jI_eq0 {a : Nat} (ha : a < 2147483648) : (jI a = 0) ↔ a = 0 := by
  rw [← Int32.toInt_inj, jI_toInt ha, Int32.toInt_zero]; omega
theorem jI_cl {a : Nat} (ha : a < 2147483648) : (jI a).toNatClampNeg = a := Int32.toNatClampNeg_ofNat_of_lt ha
theorem jI_add {a b : Nat} : jI a + jI b = jI (a + b) := (Int32.ofNat_add a b).symm
theorem jI_mul {a b : Nat} : jI a * jI b = jI (a * b) := (Int32.ofNat_mul a b).symm
theorem jI_sub {a b : Nat} (h : b ≤ a) : jI a - jI b = jI (a - b) := (Int32.ofNat_sub a b h).symm
theorem jI_dec {a : Nat} (h : 0 < a) : jI a + (-1 : Int32) = jI (a - 1) := by
  rw [← jI_sub h, Int32.sub_eq_add_neg]; rfl
theorem jI_m1 {a : Nat} (ha : a < 2147483648) : (jI a = (-1 : Int32)) ↔ False := by
  rw [← Int32.toInt_inj, jI_toInt ha, show ((-1 : Int32)).toInt = -1 by decide]; exact ⟨fun h => by omega, fun h => h.elim⟩
theorem jI_m1' {a : Nat} (ha : a < 2147483648) : ((-1 : Int32) = jI a) ↔ False := by
  rw [← Int32.toInt_inj, jI_toInt ha, show ((-1 : Int32)).toInt = -1 by decide]; exact ⟨fun h => by omega, fun h => h.elim⟩
theorem jI_zero : jI 0 = 0 := rfl
theorem jx_I {a n : Nat} (ha : a < 2147483648) : jx (jI a) n ↔ a < n := by
  unfold jx
  rw [jI_neg ha, jI_cl ha, false_or]
  omega
theorem jI_of {x : Int32} (h : ¬ x < 0) : ∃ a, a < 2147483648 ∧ x = jI a := by
  have h0 : 0 ≤ x := by
    rw [Int32.lt_iff_toInt_lt, Int32.toInt_zero] at h
    rw [Int32.le_iff_toInt_le, Int32.toInt_zero]
    omega
  exact ⟨x.toNatClampNeg, Int32.toNatClampNeg_lt x, (Int32.ofNat_toNatClampNeg x h0).symm⟩
/-- every int: below 0, or such a number -/
theorem jI_cases (x : Int32) : x < 0 ∨ ∃ a, a < 2147483648 ∧ x = jI a := by
  by_cases h : x < 0
  · exact Or.inl h
  · exact Or.inr (jI_of h)
theorem jI_ltneg {a : Nat} {x : Int32} (ha : a < 2147483648) (h : x < 0) : ¬ jI a ≤ x := by
  rw [Int32.lt_iff_toInt_lt, Int32.toInt_zero] at h
  rw [Int32.le_iff_toInt_le, jI_toInt ha]
  omega
theorem jI_neneg {a : Nat} {x : Int32} (ha : a < 2147483648) (h : x < 0) : ¬ x = jI a := by
  rw [Int32.lt_iff_toInt_lt, Int32.toInt_zero] at h
  rw [← Int32.toInt_inj, jI_toInt ha]
  omega
theorem jI_ltneg' {a : Nat} {x : Int32} (ha : a < 2147483648) (h : x < 0) : x < jI a := by
  rw [Int32.lt_iff_toInt_lt, Int32.toInt_zero] at h
  rw [Int32.lt_iff_toInt_lt, jI_toInt ha]
  omega
/-! ===== rows ===== -/
theorem jm_ln_le (r : Nat) : jm_ln r ≤ 1168 := by
  have key : ∀ a, a < 321 → jm_ln a ≤ 1168 := by decide +kernel
  rcases Nat.lt_or_ge r 321 with z | z
  · exact key r z
  · have h321 : jm_sh.length = 321 := by decide +kernel
    unfold jm_ln
    rw [List.getElem?_eq_none (by omega)]
    show 0 ≤ 1168
    omega
/-- a row of n numbers -/
def jR (σ : jm_S) (r n : Nat) (f : Nat → Int32) : Prop := jm_c r = 6 ∧ n ≤ jm_ln (r + 1) ∧ σ r 1 = jI n ∧ ∀ k, k < n → σ (r + 1) k = f k
/-- nothing changed but a row -/
def jF (r : Nat) (σ σ' : jm_S) : Prop := ∀ q j, q ≠ r → q ≠ r + 1 → σ' q j = σ q j
theorem jF.rf {r : Nat} {σ : jm_S} : jF r σ σ := fun _ _ _ _ => rfl
theorem jF.tr {r : Nat} {σ σ' σ'' : jm_S} (h : jF r σ σ') (h' : jF r σ' σ'') : jF r σ σ'' := fun q j a b => (h' q j a b).trans (h q j a b)
theorem jR.frame {σ σ' : jm_S} {r q n : Nat} {f : Nat → Int32} (h : jR σ q n f) (hf : jF r σ σ') (h1 : q ≠ r) (h2 : q ≠ r + 1) (h3 : q + 1 ≠ r) : jR σ' q n f := by
  obtain ⟨a, b, c, d⟩ := h
  exact ⟨a, b, by rw [hf q 1 h1 h2]; exact c, fun k hk => by rw [hf (q + 1) k h3 (by omega)]; exact d k hk⟩
theorem jR.congr {σ : jm_S} {r n : Nat} {f g : Nat → Int32} (h : jR σ r n f) (hg : ∀ k, k < n → f k = g k) : jR σ r n g := ⟨h.1, h.2.1, h.2.2.1, fun k hk => (h.2.2.2 k hk).trans (hg k hk)⟩
theorem jR.eq {σ σ' : jm_S} {r n : Nat} {f : Nat → Int32} (h : jR σ r n f) (h1 : σ' r 1 = σ r 1) (h2 : ∀ k, k < n → σ' (r + 1) k = σ (r + 1) k) : jR σ' r n f := ⟨h.1, h.2.1, h1.trans h.2.2.1, fun k hk => (h2 k hk).trans (h.2.2.2 k hk)⟩
section ROW
variable {σ : jm_S} {r n : Nat} {f : Nat → Int32}
theorem jR.bd (h : jR σ r n f) : n ≤ 1168 := Nat.le_trans h.2.1 (jm_ln_le _)
theorem jR_size (h : jR σ r n f) : jb_Ev 12 [.ref r] (jm_hp σ) = some (some (.int (jI n)), jm_hp σ) := by
  rw [jt_Row_size_0 h.1, h.2.2.1]
theorem jR_full (h : jR σ r n f) : jb_Ev 11 [.ref r] (jm_hp σ) = some (some (.int (if n < jm_ln (r + 1) then jI 0 else jI 1)), jm_hp σ) := by
  have h1 := jm_ln_le (r + 1)
  have h2 := h.bd
  rw [jt_Row_isFull_0 h.1, h.2.2.1]
  simp (disch := omega) only [jI_lt]
  split <;> rfl
theorem jR_has (h : jR σ r n f) {k : Nat} (hk : k < 2147483648) : jb_Ev 4 [.ref r, .int (jI k)] (jm_hp σ) = some (some (.int (if k < n then jI 1 else jI 0)), jm_hp σ) := by
  have h1 := jm_ln_le (r + 1)
  have h2 := h.bd
  have h3 := h.2.1
  rw [jt_Row_has_0 h.1, h.2.2.1]
  simp (disch := omega) only [jI_neg, jI_le, if_false]
  by_cases h4 : k < n
  · rw [if_neg (by omega), if_neg (by omega), if_pos h4]
  · rw [if_pos (by omega), if_neg h4]
theorem jR_hasn (h : jR σ r n f) {x : Int32} (hx : x < 0) : jb_Ev 4 [.ref r, .int x] (jm_hp σ) = some (some (.int (jI 0)), jm_hp σ) := by
  rw [jt_Row_has_0 h.1, if_pos hx]
theorem jR_at (h : jR σ r n f) {k : Nat} (hk : k < n) : jb_Ev 6 [.ref r, .int (jI k)] (jm_hp σ) = some (some (.int (f k)), jm_hp σ) := by
  have h1 := jm_ln_le (r + 1)
  have h2 := h.bd
  have h3 := h.2.1
  rw [jt_Row_at_0 h.1, h.2.2.1]
  simp (disch := omega) only [jI_neg, jI_le, jI_lt, jx_I, jI_cl, if_false]
  rw [if_neg (by omega), if_pos (by omega), if_pos (by omega), h.2.2.2 k hk]
theorem jR_atn (h : jR σ r n f) {x : Int32} (hx : x < 0) : jb_Ev 6 [.ref r, .int x] (jm_hp σ) = some (some (.int (-1)), jm_hp σ) := by
  rw [jt_Row_at_0 h.1, if_pos hx]
theorem jR_ato (h : jR σ r n f) {k : Nat} (hk : n ≤ k) (hk2 : k < 2147483648) : jb_Ev 6 [.ref r, .int (jI k)] (jm_hp σ) = some (some (.int (-1)), jm_hp σ) := by
  have h1 := jm_ln_le (r + 1)
  have h2 := h.bd
  rw [jt_Row_at_0 h.1, h.2.2.1]
  simp (disch := omega) only [jI_neg, jI_le, if_false]
  rw [if_pos hk]
theorem jR_put (h : jR σ r n f) {k : Nat} (hk : k < n) (x : Int32) : jb_Ev 8 [.ref r, .int (jI k), .int x] (jm_hp σ) = some (none, jm_hp (jm_up σ (r + 1) k x)) := by
  have h1 := jm_ln_le (r + 1)
  have h2 := h.bd
  have h3 := h.2.1
  rw [jt_Row_put_0 h.1, h.2.2.1]
  simp (disch := omega) only [jI_neg, jI_le, jI_lt, jx_I, jI_cl, if_false]
  rw [if_neg (by omega), if_pos (by omega), if_pos (by omega)]
theorem jR.put (h : jR σ r n f) (k : Nat) (x : Int32) : jR (jm_up σ (r + 1) k x) r n (fun j => if j = k then x else f j) := by
  refine ⟨h.1, h.2.1, by rw [jm_up_o _ _ (by omega)]; exact h.2.2.1, fun j hj => ?_⟩
  by_cases e : j = k
  · subst e
    dsimp only
    rw [jm_up_same, if_pos rfl]
  · dsimp only
    rw [jm_up_j _ _ e, if_neg e, h.2.2.2 j hj]
theorem jF_put (k : Nat) (x : Int32) : jF r σ (jm_up σ (r + 1) k x) := fun q j _ h => jm_up_o _ _ h
theorem jR_add (h : jR σ r n f) (hn : n < jm_ln (r + 1)) (x : Int32) : jb_Ev 1 [.ref r, .int x] (jm_hp σ) = some (none, jm_hp (jm_up (jm_up σ (r + 1) n x) r 1 (jI (n + 1)))) := by
  have h1 := jm_ln_le (r + 1)
  have h2 := h.bd
  rw [jt_Row_add_0 h.1, h.2.2.1, jm_up_o _ _ (by omega), h.2.2.1]
  simp (disch := omega) only [jI_neg, jI_lt, jx_I, jI_cl, if_false, jI_add]
  rw [if_pos hn, if_pos hn]
theorem jR.add (h : jR σ r n f) (hn : n < jm_ln (r + 1)) (x : Int32) : jR (jm_up (jm_up σ (r + 1) n x) r 1 (jI (n + 1))) r (n + 1) (fun j => if j = n then x else f j) := by
  refine ⟨h.1, hn, jm_up_same _ _ _ _, fun j hj => ?_⟩
  rw [jm_up_o _ _ (by omega)]
  by_cases e : j = n
  · subst e
    dsimp only
    rw [jm_up_same, if_pos rfl]
  · dsimp only
    rw [jm_up_j _ _ e, if_neg e, h.2.2.2 j (by omega)]
theorem jF_add (k : Nat) (x y : Int32) : jF r σ (jm_up (jm_up σ (r + 1) k x) r 1 y) := fun q j h1 h2 => by rw [jm_up_o _ _ h1, jm_up_o _ _ h2]
theorem jR_addo (h : jR σ r n f) (hn : ¬ n < jm_ln (r + 1)) (x : Int32) : jb_Ev 1 [.ref r, .int x] (jm_hp σ) = some (none, jm_hp σ) := by
  have h1 := jm_ln_le (r + 1)
  have h2 := h.bd
  rw [jt_Row_add_0 h.1, h.2.2.1]
  simp (disch := omega) only [jI_neg, jI_lt, if_false]
  rw [if_neg hn]
theorem jR_clear (h : jR σ r n f) : jb_Ev 13 [.ref r] (jm_hp σ) = some (none, jm_hp (jm_up σ r 1 (jI 0))) := jt_Row_clear_0 h.1
theorem jR.clear (h : jR σ r n f) (g : Nat → Int32) : jR (jm_up σ r 1 (jI 0)) r 0 g := ⟨h.1, Nat.zero_le _, jm_up_same _ _ _ _, fun k hk => absurd hk (Nat.not_lt_zero _)⟩
theorem jF_clear (x : Int32) : jF r σ (jm_up σ r 1 x) := fun q j h1 h2 => jm_up_o _ _ h1
theorem jR_raise (h : jR σ r n f) {k : Nat} (hk : k < n) (x m : Int32) : jb_Ev 16 [.ref r, .int (jI k), .int x, .int m] (jm_hp σ) = some (none, jm_hp (jm_up σ (r + 1) k (if m < f k + x then m else f k + x))) := by
  have h1 := jm_ln_le (r + 1)
  have h2 := h.bd
  have h3 := h.2.1
  rw [jt_Row_raise_0 h.1, h.2.2.1]
  simp (disch := omega) only [jI_neg, jI_le, jI_lt, jx_I, jI_cl, if_false]
  rw [if_neg (by omega), if_pos (by omega), if_pos (by omega), if_pos (by omega), h.2.2.2 k hk]
/-- take: the other's numbers -/
theorem jR_takeL {r0 n0 : Nat} (h : jR σ r n f) (hc : jm_c r0 = 6) (hn : n ≤ jm_ln (r0 + 1)) (hd : r0 ≠ r ∧ r0 ≠ r + 1 ∧ r0 + 1 ≠ r) : ∀ (m k : Nat) (τ : jm_S), k + m = n → jF r0 σ τ → τ r0 1 = jI k → (∀ j, j < k → τ (r0 + 1) j = f j) → ∃ σ', jb_Ex 3 (7, [.ref r0, .ref r, .int (jI k)], [], jm_hp τ) = some (none, jm_hp σ') ∧ jR σ' r0 n f ∧ jF r0 σ σ'
  | 0, k, τ, hm, hF, hs, hv => by
    have h2 := h.bd
    have e : k = n := by omega
    subst e
    refine ⟨τ, ?_, ⟨hc, hn, hs, hv⟩, hF⟩
    rw [jt_Row_take_7 hc h.1, hF r 1 (by omega) (by omega), h.2.2.1, if_pos (by rw [jI_le (by omega) (by omega)]; exact Nat.le_refl _)]
  | m + 1, k, τ, hm, hF, hs, hv => by
    have h1 := jm_ln_le (r0 + 1)
    have h1' := jm_ln_le (r + 1)
    have h2 := h.bd
    have h3 := h.2.1
    rw [jt_Row_take_7 hc h.1, hF r 1 (by omega) (by omega), h.2.2.1, jm_up_o _ _ (show r0 ≠ r0 + 1 by omega), hs]
    simp (disch := omega) only [jI_le, jx_I, jI_cl, jI_add]
    rw [if_neg (by omega), if_neg (by omega), if_neg (by omega), if_pos (by omega), if_pos (by omega)]
    refine jR_takeL (n0 := n0) h hc hn hd m (k + 1) _ (by omega) ?_ (jm_up_same _ _ _ _) (fun j hj => ?_)
    · intro q j h4 h5
      rw [jm_up_o _ _ h4, jm_up_o _ _ h5]
      exact hF q j h4 h5
    · rw [jm_up_o _ _ (by omega)]
      by_cases e : j = k
      · subst e
        rw [jm_up_same, hF (r + 1) j (by omega) (by omega)]
        exact h.2.2.2 j (by omega)
      · rw [jm_up_j _ _ e]
        exact hv j (by omega)
theorem jR_take {r0 : Nat} (h : jR σ r n f) (hc : jm_c r0 = 6) (hn : n ≤ jm_ln (r0 + 1)) (hd : r0 ≠ r ∧ r0 ≠ r + 1 ∧ r0 + 1 ≠ r) : ∃ σ', jb_Ev 3 [.ref r0, .ref r] (jm_hp σ) = some (none, jm_hp σ') ∧ jR σ' r0 n f ∧ jF r0 σ σ' := by
  rw [jt_Row_take_0 hc h.1]
  exact jR_takeL (n0 := 0) h hc hn hd n 0 _ (by omega) (jF_clear _) (jm_up_same _ _ _ _) (fun j hj => absurd hj (Nat.not_lt_zero _))
end ROW
