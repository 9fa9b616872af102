/-! ===== partings, in plain numbers ===== -/
def jnk (k : Nat) : Nat := if k = 0 then 1 else 2
def jWs (w : Nat → Nat) (n : Nat) (f : Nat → Nat) : Nat → Nat → Nat → Nat
  | 0 => fun _ k => if k = 2 then 1 else 0
  | d + 1 => fun m k => if m ≤ d then jWs w n f d m k else if f (n - (d + 1)) = 5 then (if k = 0 then 0 else jWs w n f d d k) else jsum (fun i => if w (21 + 6 * i) = k ∧ jst w n f i (n - (d + 1)) = true then jWs w n f d (d + 1 - w (22 + 6 * i)) (jnk k) else 0) (w 0)
/-- the ways from a place on, where such a stage is waited for -/
def jW (w : Nat → Nat) (n : Nat) (f : Nat → Nat) (p k : Nat) : Nat := jWs w n f (n - p) (n - p) k
def jg (w : Nat → Nat) (n : Nat) (f : Nat → Nat) (p k i : Nat) : Nat := if w (21 + 6 * i) = k ∧ jst w n f i p = true then jW w n f (p + w (22 + 6 * i)) (jnk k) else 0
def jP (w : Nat → Nat) (n : Nat) (f : Nat → Nat) : Nat := if n = 0 ∨ f (n - 1) = 5 then 0 else jW w n f 0 0
theorem jsum_congr {f g : Nat → Nat} : ∀ {n : Nat}, (∀ i, i < n → f i = g i) → jsum f n = jsum g n
  | 0, _ => rfl
  | n + 1, h => by
    unfold jsum
    rw [jsum_congr (n := n) (fun i hi => h i (by omega)), h n (by omega)]
theorem jsum_z {f : Nat → Nat} : ∀ {n : Nat}, (∀ i, i < n → f i = 0) → jsum f n = 0
  | 0, _ => rfl
  | n + 1, h => by
    unfold jsum
    rw [jsum_z (n := n) (fun i hi => h i (by omega)), h n (by omega)]
theorem jsum_up {f : Nat → Nat} {a x : Nat} : ∀ {n : Nat}, a < n → jsum (jn0 f a (f a + x)) n = jsum f n + x
  | 0, h => absurd h (Nat.not_lt_zero _)
  | n + 1, h => by
    unfold jsum
    by_cases e : a = n
    · subst e
      rw [jn0_s, show jsum (jn0 f a (f a + x)) a = jsum f a from jsum_congr (fun i hi => jn0_o (by omega))]
      omega
    · rw [jsum_up (n := n) (by omega), jn0_o (fun z => e z.symm)]
      omega
theorem jsum_add {f g : Nat → Nat} : ∀ {n : Nat}, jsum (fun i => f i + g i) n = jsum f n + jsum g n
  | 0 => rfl
  | n + 1 => by
    unfold jsum
    rw [jsum_add (n := n)]
    omega
theorem jsum_le1 {f : Nat → Nat} : ∀ {n i : Nat}, i < n → f i ≤ jsum f n
  | 0, i, h => absurd h (Nat.not_lt_zero _)
  | n + 1, i, h => by
    unfold jsum
    by_cases e : i = n
    · rw [e]; omega
    · have := jsum_le1 (f := f) (n := n) (i := i) (by omega)
      omega
theorem jsum_mono {f : Nat → Nat} : ∀ {n m : Nat}, jsum f n ≤ jsum f (n + m)
  | n, 0 => Nat.le_refl _
  | n, m + 1 => by
    show jsum f n ≤ jsum f (n + m) + f (n + m)
    have := jsum_mono (f := f) (n := n) (m := m)
    omega
/-- a sum that is one has one summand alone -/
theorem jsum_1 {f : Nat → Nat} : ∀ {n : Nat}, jsum f n = 1 → ∃ i, i < n ∧ f i = 1 ∧ ∀ j, j < n → j ≠ i → f j = 0
  | 0, h => by cases h
  | n + 1, h => by
    unfold jsum at h
    by_cases e : f n = 0
    · obtain ⟨i, h1, h2, h3⟩ := jsum_1 (n := n) (f := f) (by omega)
      exact ⟨i, by omega, h2, fun j hj hne => by
        by_cases e2 : j = n
        · rw [e2]; exact e
        · exact h3 j (by omega) hne⟩
    · have h0 : jsum f n = 0 := by omega
      exact ⟨n, by omega, by omega, fun j hj hne => by
        have := jsum_le1 (f := f) (n := n) (i := j) (by omega)
        omega⟩
section PW
variable {w f : Nat → Nat} {n : Nat}
theorem jWs_st {m : Nat} : ∀ {d : Nat}, m ≤ d → ∀ k, jWs w n f d m k = jWs w n f m m k
  | 0, h, k => by
    obtain rfl : m = 0 := by omega
    rfl
  | d + 1, h, k => by
    by_cases e : m = d + 1
    · rw [e]
    · show (if m ≤ d then _ else _) = _
      rw [if_pos (by omega)]
      exact jWs_st (by omega) k
theorem jWs_succ {d k : Nat} : jWs w n f (d + 1) (d + 1) k = if f (n - (d + 1)) = 5 then (if k = 0 then 0 else jWs w n f d d k) else jsum (fun i => if w (21 + 6 * i) = k ∧ jst w n f i (n - (d + 1)) = true then jWs w n f d (d + 1 - w (22 + 6 * i)) (jnk k) else 0) (w 0) := by
  show (if d + 1 ≤ d then _ else _) = _
  rw [if_neg (by omega)]
theorem jW_end {k : Nat} : jW w n f n k = if k = 2 then 1 else 0 := by
  unfold jW
  rw [Nat.sub_self]
  rfl
theorem jW_sil {p k : Nat} (hp : p < n) (h : f p = 5) : jW w n f p k = if k = 0 then 0 else jW w n f (p + 1) k := by
  unfold jW
  obtain ⟨d, hd⟩ : ∃ d, n - p = d + 1 := ⟨n - p - 1, by omega⟩
  rw [hd, jWs_succ, show n - (d + 1) = p by omega, if_pos h, show n - (p + 1) = d by omega]
theorem jW_wd (hw : jInv w) {p k : Nat} (hp : p < n) (h : f p ≠ 5) : jW w n f p k = jsum (jg w n f p k) (w 0) := by
  have e0 : jW w n f p k = jWs w n f (n - p) (n - p) k := rfl
  obtain ⟨d, hd⟩ : ∃ d, n - p = d + 1 := ⟨n - p - 1, by omega⟩
  rw [e0, hd, jWs_succ, show n - (d + 1) = p by omega, if_neg h]
  refine jsum_congr (fun i hi => ?_)
  unfold jg
  by_cases e : w (21 + 6 * i) = k ∧ jst w n f i p = true
  · rw [if_pos e, if_pos e]
    obtain ⟨a1, a2, a3, a4, a5, a6⟩ := hw.2.1.2.1 i hi
    have h1 := (jst_t.mp e.2).1
    rw [jWs_st (by omega)]
    unfold jW
    rw [show n - (p + w (22 + 6 * i)) = d + 1 - w (22 + 6 * i) by omega]
  · rw [if_neg e, if_neg e]
theorem jst_ne (hw : jInv w) {i p : Nat} (hi : i < w 0) (h : jst w n f i p = true) : p < n ∧ f p ≠ 5 ∧ f (p + w (22 + 6 * i) - 1) ≠ 5 ∧ p + w (22 + 6 * i) ≤ n := by
  obtain ⟨a1, a2, a3, a4, a5, a6⟩ := hw.2.1.2.1 i hi
  obtain ⟨h1, h2⟩ := jst_t.mp h
  have e0 := h2 0 (by omega)
  have e1 := h2 (w (22 + 6 * i) - 1) (by omega)
  rw [Nat.add_zero, Nat.add_zero] at e0
  rw [show p + (w (22 + 6 * i) - 1) = p + w (22 + 6 * i) - 1 by omega] at e1
  exact ⟨by omega, by rw [e0]; exact a5, by rw [e1]; exact a6, h1⟩
theorem jst_un (hw : jInv w) {i j p : Nat} (hi : i < w 0) (hj : j < w 0) (h : jst w n f i p = true) (h' : jst w n f j p = true) (hs : w (22 + 6 * i) = w (22 + 6 * j)) : i = j := by
  obtain ⟨a1, a2, a3, a4, a5, a6⟩ := hw.2.1.2.1 i hi
  obtain ⟨b1, b2, b3, b4, b5, b6⟩ := hw.2.1.2.1 j hj
  refine hw.2.1.2.2 i j hi hj ?_
  rw [jspl_jspf, jspl_jspf]
  refine (jspf_inj a4 b4 a3 b3).mpr ⟨hs, fun k hk => ?_⟩
  rw [← (jst_t.mp h).2 k hk, (jst_t.mp h').2 k (by omega)]
theorem jsum_len {g s c : Nat → Nat} : ∀ {N : Nat}, (∀ i, i < N → g i ≠ 0 → 1 ≤ s i ∧ s i ≤ 4 ∧ g i ≤ c (s i)) → (∀ i j, i < j → j < N → g i ≠ 0 → g j ≠ 0 → s i ≠ s j) → ∃ U : Nat → Nat, (∀ L, U L ≤ c L) ∧ (∀ L, U L ≠ 0 → ∃ i, i < N ∧ g i ≠ 0 ∧ s i = L) ∧ jsum g N ≤ U 1 + U 2 + U 3 + U 4
  | 0, _, _ => ⟨fun _ => 0, fun _ => Nat.zero_le _, fun L h => absurd rfl h, Nat.zero_le _⟩
  | N + 1, h1, h2 => by
    obtain ⟨U, u1, u2, u3⟩ := jsum_len (N := N) (g := g) (s := s) (c := c) (fun i hi => h1 i (by omega)) (fun i j a b => h2 i j a (by omega))
    by_cases e : g N = 0
    · refine ⟨U, u1, fun L hL => ?_, ?_⟩
      · obtain ⟨i, i1, i2, i3⟩ := u2 L hL
        exact ⟨i, by omega, i2, i3⟩
      · unfold jsum
        omega
    · obtain ⟨s1, s4, sc⟩ := h1 N (by omega) e
      have u0 : U (s N) = 0 := by
        rcases Nat.eq_zero_or_pos (U (s N)) with z | z
        · exact z
        · obtain ⟨i, i1, i2, i3⟩ := u2 (s N) (by omega)
          exact absurd i3 (h2 i N i1 (by omega) i2 e)
      refine ⟨jn0 U (s N) (g N), fun L => ?_, fun L hL => ?_, ?_⟩
      · by_cases z : L = s N
        · rw [jn0_e z, z]; exact sc
        · rw [jn0_o z]; exact u1 L
      · by_cases z : L = s N
        · exact ⟨N, by omega, e, z.symm⟩
        · rw [jn0_o z] at hL
          obtain ⟨i, i1, i2, i3⟩ := u2 L hL
          exact ⟨i, by omega, i2, i3⟩
      · unfold jsum
        rcases (show s N = 1 ∨ s N = 2 ∨ s N = 3 ∨ s N = 4 by omega) with z | z | z | z <;> rw [z] at u0 ⊢ <;> unfold jn0 <;> simp <;> omega
def jbd (m L : Nat) : Nat := if L ≤ m then 2 ^ (m - L) else 0
theorem jbd_sum : ∀ m, jbd m 1 + jbd m 2 + jbd m 3 + jbd m 4 ≤ 2 ^ m
  | 0 => by decide
  | 1 => by decide
  | 2 => by decide
  | 3 => by decide
  | m + 4 => by
    unfold jbd
    rw [if_pos (by omega), if_pos (by omega), if_pos (by omega), if_pos (by omega), show m + 4 - 1 = m + 3 by omega, show m + 4 - 2 = m + 2 by omega, show m + 4 - 3 = m + 1 by omega, show m + 4 - 4 = m by omega]
    have p1 : 2 ^ (m + 1) = 2 ^ m * 2 := Nat.pow_succ _ _
    have p2 : 2 ^ (m + 2) = 2 ^ (m + 1) * 2 := Nat.pow_succ _ _
    have p3 : 2 ^ (m + 3) = 2 ^ (m + 2) * 2 := Nat.pow_succ _ _
    have p4 : 2 ^ (m + 4) = 2 ^ (m + 3) * 2 := Nat.pow_succ _ _
    omega
theorem jpow_mono {a b : Nat} (h : a ≤ b) : 2 ^ a ≤ 2 ^ b := Nat.pow_le_pow_right (by omega) h
theorem jg_len (hw : jInv w) {p k : Nat} (hIH : ∀ q, p < q → q ≤ n → ∀ k, jW w n f q k ≤ 2 ^ (n - q)) {N : Nat} (hN : N ≤ w 0) : jsum (jg w n f p k) N ≤ 2 ^ (n - p) := by
  obtain ⟨U, u1, u2, u3⟩ := jsum_len (N := N) (g := jg w n f p k) (s := fun i => w (22 + 6 * i)) (c := jbd (n - p)) (fun i hi hz => by
    obtain ⟨a1, a2, a3, a4, a5, a6⟩ := hw.2.1.2.1 i (by omega)
    unfold jg at hz ⊢
    by_cases e : w (21 + 6 * i) = k ∧ jst w n f i p = true
    · rw [if_pos e] at hz ⊢
      have hn := (jst_ne hw (by omega) e.2).2.2.2
      refine ⟨a2, a3, ?_⟩
      unfold jbd
      rw [if_pos (by omega), show n - p - w (22 + 6 * i) = n - (p + w (22 + 6 * i)) by omega]
      exact hIH _ (by omega) hn _
    · rw [if_neg e] at hz
      exact absurd rfl hz) (fun i j hij hj zi zj hs => by
    unfold jg at zi zj
    by_cases e : w (21 + 6 * i) = k ∧ jst w n f i p = true
    · by_cases e' : w (21 + 6 * j) = k ∧ jst w n f j p = true
      · have := jst_un hw (by omega) (by omega) e.2 e'.2 hs
        omega
      · rw [if_neg e'] at zj
        exact zj rfl
    · rw [if_neg e] at zi
      exact zi rfl)
  have b1 := u1 1
  have b2 := u1 2
  have b3 := u1 3
  have b4 := u1 4
  have := jbd_sum (n - p)
  omega
theorem jW_le (hw : jInv w) : ∀ (m p : Nat), p + m = n → ∀ k, jW w n f p k ≤ 2 ^ (n - p) := by
  intro m
  induction m using Nat.strongRecOn with
  | _ m IH =>
    intro p hp k
    by_cases e : p = n
    · subst e
      rw [jW_end, Nat.sub_self]
      split <;> decide
    · by_cases e2 : f p = 5
      · rw [jW_sil (by omega) e2]
        split
        · exact Nat.zero_le _
        · exact Nat.le_trans (IH (m - 1) (by omega) (p + 1) (by omega) k) (jpow_mono (by omega))
      · rw [jW_wd hw (by omega) e2]
        exact jg_len hw (fun q hq hq2 k => IH (n - q) (by omega) q (by omega) k) (Nat.le_refl _)
theorem jW_bd (hw : jInv w) (hn : n ≤ 20) {p : Nat} (hp : p ≤ n) (k : Nat) : jW w n f p k ≤ 1048576 :=
  Nat.le_trans (jW_le hw (n - p) p (by omega) k) (Nat.le_trans (jpow_mono (show n - p ≤ 20 by omega)) (by decide))
theorem jg_bd (hw : jInv w) (hn : n ≤ 20) {p k N : Nat} (hN : N ≤ w 0) : jsum (jg w n f p k) N ≤ 1048576 :=
  Nat.le_trans (jg_len hw (fun q _ hq k => jW_le hw (n - q) q (by omega) k) hN) (Nat.le_trans (jpow_mono (show n - p ≤ 20 by omega)) (by decide))
/-! the words of the one parse -/
def jfw (w : Nat → Nat) (n : Nat) (f : Nat → Nat) (p k : Nat) : Nat := jfd (fun i => decide (jg w n f p k i ≠ 0)) (w 0) 0
def jPath (w : Nat → Nat) (n : Nat) (f : Nat → Nat) : List Nat → Nat → Nat → Prop
  | [], p, _ => ∀ j, p ≤ j → j < n → f j = 5
  | i :: l, p, k => ∃ q, p ≤ q ∧ q < n ∧ (∀ j, p ≤ j → j < q → f j = 5) ∧ f q ≠ 5 ∧ i = jfw w n f q k ∧ jPath w n f l (q + w (22 + 6 * i)) (jnk k)
theorem jPath_det : ∀ {l l' : List Nat} {p k : Nat}, jPath w n f l p k → jPath w n f l' p k → l = l'
  | [], [], _, _, _, _ => rfl
  | [], i :: l', p, k, h, h' => by
    obtain ⟨q, q1, q2, q3, q4, -⟩ := h'
    exact absurd (h q q1 q2) q4
  | i :: l, [], p, k, h, h' => by
    obtain ⟨q, q1, q2, q3, q4, -⟩ := h
    exact absurd (h' q q1 q2) q4
  | i :: l, i' :: l', p, k, h, h' => by
    obtain ⟨q, q1, q2, q3, q4, q5, q6⟩ := h
    obtain ⟨r, r1, r2, r3, r4, r5, r6⟩ := h'
    have e : q = r := by
      rcases Nat.lt_trichotomy q r with z | z | z
      · exact absurd (r3 q q1 z) q4
      · exact z
      · exact absurd (q3 r r1 z) r4
    subst e
    have e2 : i = i' := q5.trans r5.symm
    subst e2
    rw [jPath_det q6 r6]
theorem jPath_sil {l : List Nat} {p k : Nat} (hf : f p = 5) (h : jPath w n f l (p + 1) k) : jPath w n f l p k := by
  cases l with
  | nil =>
    intro j h1 h2
    by_cases e : j = p
    · rw [e]; exact hf
    · exact h j (by omega) h2
  | cons i l =>
    obtain ⟨q, q1, q2, q3, q4, q5, q6⟩ := h
    refine ⟨q, by omega, q2, fun j h1 h2 => ?_, q4, q5, q6⟩
    by_cases e : j = p
    · rw [e]; exact hf
    · exact q3 j (by omega) h2
theorem jPath_wd {l : List Nat} {p k : Nat} (hp : p < n) (hf : f p ≠ 5) (h : jPath w n f l (p + w (22 + 6 * jfw w n f p k)) (jnk k)) : jPath w n f (jfw w n f p k :: l) p k :=
  ⟨p, Nat.le_refl _, hp, fun j h1 h2 => by omega, hf, rfl, h⟩
/-- on the way of the one parse -/
theorem jfw_1 (hw : jInv w) {p k : Nat} (hp : p < n) (hf : f p ≠ 5) (h1 : jW w n f p k = 1) : jfw w n f p k < w 0 ∧ w (21 + 6 * jfw w n f p k) = k ∧ jst w n f (jfw w n f p k) p = true ∧ jW w n f (p + w (22 + 6 * jfw w n f p k)) (jnk k) = 1 ∧ ∀ j, j < w 0 → j ≠ jfw w n f p k → jg w n f p k j = 0 := by
  rw [jW_wd hw hp hf] at h1
  obtain ⟨i, i1, i2, i3⟩ := jsum_1 h1
  have hle : jfw w n f p k ≤ i := by
    rcases Nat.lt_or_ge i (jfw w n f p k) with z | z
    · have := jfd_no (P := fun i => decide (jg w n f p k i ≠ 0)) (m := w 0) (k := 0) (Nat.zero_le i) z
      have := of_decide_eq_false this
      omega
    · exact z
  have hne : jg w n f p k (jfw w n f p k) ≠ 0 := of_decide_eq_true (jfd_is (P := fun i => decide (jg w n f p k i ≠ 0)) (m := w 0) (k := 0) (by show jfw w n f p k < 0 + w 0; omega))
  have e : jfw w n f p k = i := by
    by_cases z : jfw w n f p k = i
    · exact z
    · exact absurd (i3 _ (by omega) z) hne
  rw [e]
  have h2 := i2
  unfold jg at h2
  by_cases c : w (21 + 6 * i) = k ∧ jst w n f i p = true
  · rw [if_pos c] at h2
    exact ⟨i1, c.1, c.2, h2, i3⟩
  · rw [if_neg c] at h2
    cases h2
end PW
