/-! ===== the live village's parts, and what keeps them ===== -/
theorem jn0_s (f : Nat → Nat) (k x : Nat) : jn0 f k x k = x := if_pos rfl
theorem jn0_o {f : Nat → Nat} {k x j : Nat} (h : j ≠ k) : jn0 f k x j = f j := if_neg h
theorem jn0_e {f : Nat → Nat} {k x j : Nat} (h : j = k) : jn0 f k x j = x := if_pos h
theorem jRn.mv {σ σ' : jm_S} {r n n' : Nat} {f f' : Nat → Nat} (h : jRn σ r n f) (hs : ∀ q j, r ≤ q → q < r + 2 → σ' q j = σ q j) (hn : n' = n) (hf : ∀ k, k < n → f' k = f k) : jRn σ' r n' f' := by
  subst hn
  refine ⟨h.1, h.2.1, by rw [hs r 1 (by omega) (by omega)]; exact h.2.2.1, fun k hk => ?_⟩
  rw [hs (r + 1) k (by omega) (by omega)]
  show _ = jI (f' k)
  rw [hf k hk]
  exact h.2.2.2 k hk
def jCb (σ : jm_S) (w : Nat → Nat) : Prop := jRn σ 3 5 (fun b => w (6 + 3 * b)) ∧ jRn σ 5 5 (fun b => w (7 + 3 * b)) ∧ jRn σ 7 5 (fun b => w (8 + 3 * b))
def jCk (σ : jm_S) (w : Nat → Nat) : Prop := jRn σ 10 (w 0) (fun i => w (21 + 6 * i)) ∧ jRn σ 12 (w 0) (fun i => w (22 + 6 * i)) ∧ jRn σ 14 (w 0) (jspl w)
def jCs (σ : jm_S) (w : Nat → Nat) : Prop := jRn σ 17 (w 1) (fun i => w (69 + 2 * i)) ∧ jRn σ 19 (w 1) (fun i => w (70 + 2 * i))
def jCp (σ : jm_S) (w : Nat → Nat) : Prop := ∃ g, jRn σ 22 (w 2) (fun p => w (81 + 13 * p)) ∧ jRn σ 24 60 g ∧ jpg w g
def jCc (σ : jm_S) (w : Nat → Nat) : Prop := σ 1 4 = jI (w 3) ∧ σ 1 5 = jI (w 4) ∧ σ 1 6 = jI (w 5)
theorem jV1 {σ : jm_S} {w : Nat → Nat} : jV σ 1 w ↔ jCb σ w ∧ jCk σ w ∧ jCs σ w ∧ jCp σ w ∧ jCc σ w := by
  constructor
  · rintro ⟨g, ⟨h1, h2, h3, h4, h5, h6, h7, h8, h9, h10, h11, h12, h13⟩, hg⟩
    exact ⟨⟨h1, h2, h3⟩, ⟨h4, h5, h6⟩, ⟨h7, h8⟩, ⟨g, h9, h10, hg⟩, ⟨h11, h12, h13⟩⟩
  · rintro ⟨⟨h1, h2, h3⟩, ⟨h4, h5, h6⟩, ⟨h7, h8⟩, ⟨g, h9, h10, hg⟩, ⟨h11, h12, h13⟩⟩
    exact ⟨g, ⟨h1, h2, h3, h4, h5, h6, h7, h8, h9, h10, h11, h12, h13⟩, hg⟩
section PT
variable {σ σ' : jm_S} {w w' : Nat → Nat}
theorem jspl_eq {i i' : Nat} (h : ∀ k, k < 5 → w' (22 + 6 * i' + k) = w (22 + 6 * i + k)) : jspl w' i' = jspl w i := by
  have e0 : w' (22 + 6 * i') = w (22 + 6 * i) := h 0 (by omega)
  have e : ∀ k, k < 4 → w' (23 + 6 * i' + k) = w (23 + 6 * i + k) := fun k hk => by
    have := h (k + 1) (by omega)
    rw [show 22 + 6 * i' + (k + 1) = 23 + 6 * i' + k by omega, show 22 + 6 * i + (k + 1) = 23 + 6 * i + k by omega] at this
    exact this
  unfold jspl jdg
  rw [e0, e 0 (by omega), e 1 (by omega), e 2 (by omega), e 3 (by omega)]
theorem jCb.fr (h : jCb σ w) (hs : ∀ q j, 3 ≤ q → q < 9 → σ' q j = σ q j) (hw : ∀ j, 6 ≤ j → j < 21 → w' j = w j) : jCb σ' w' :=
  ⟨h.1.mv (fun q j a b => hs q j (by omega) (by omega)) rfl (fun k hk => hw _ (by omega) (by omega)), h.2.1.mv (fun q j a b => hs q j (by omega) (by omega)) rfl (fun k hk => hw _ (by omega) (by omega)), h.2.2.mv (fun q j a b => hs q j (by omega) (by omega)) rfl (fun k hk => hw _ (by omega) (by omega))⟩
theorem jCk.fr (h : jCk σ w) (hb : w 0 ≤ 8) (hs : ∀ q j, 10 ≤ q → q < 16 → σ' q j = σ q j) (hw : ∀ j, j = 0 ∨ 21 ≤ j ∧ j < 69 → w' j = w j) : jCk σ' w' :=
  ⟨h.1.mv (fun q j a b => hs q j (by omega) (by omega)) (hw 0 (by omega)) (fun k hk => hw _ (by omega)), h.2.1.mv (fun q j a b => hs q j (by omega) (by omega)) (hw 0 (by omega)) (fun k hk => hw _ (by omega)), h.2.2.mv (fun q j a b => hs q j (by omega) (by omega)) (hw 0 (by omega)) (fun k hk => jspl_eq (fun j hj => hw _ (by omega)))⟩
theorem jCs.fr (h : jCs σ w) (hb : w 1 ≤ 6) (hs : ∀ q j, 17 ≤ q → q < 21 → σ' q j = σ q j) (hw : ∀ j, j = 1 ∨ 69 ≤ j ∧ j < 81 → w' j = w j) : jCs σ' w' :=
  ⟨h.1.mv (fun q j a b => hs q j (by omega) (by omega)) (hw 1 (by omega)) (fun k hk => hw _ (by omega)), h.2.mv (fun q j a b => hs q j (by omega) (by omega)) (hw 1 (by omega)) (fun k hk => hw _ (by omega))⟩
theorem jpg.fr {g : Nat → Nat} (h : jpg w g) (hi : jIp w) (hw : ∀ j, j = 2 ∨ 81 ≤ j → w' j = w j) : jpg w' g := by
  intro p j hp hj
  rw [hw 2 (by omega)] at hp
  rw [hw _ (by omega)] at hj ⊢
  exact h p j hp hj
theorem jCp.fr (h : jCp σ w) (hi : jIp w) (hs : ∀ q j, 22 ≤ q → q < 26 → σ' q j = σ q j) (hw : ∀ j, j = 2 ∨ 81 ≤ j → w' j = w j) : jCp σ' w' := by
  obtain ⟨g, h1, h2, h3⟩ := h
  exact ⟨g, h1.mv (fun q j a b => hs q j (by omega) (by omega)) (hw 2 (by omega)) (fun k hk => hw _ (by omega)), h2.mv (fun q j a b => hs q j (by omega) (by omega)) rfl (fun k hk => rfl), h3.fr hi hw⟩
theorem jCc.fr (h : jCc σ w) (hs : ∀ j, 4 ≤ j → j < 7 → σ' 1 j = σ 1 j) (hw : ∀ j, 3 ≤ j → j < 6 → w' j = w j) : jCc σ' w' := by
  refine ⟨?_, ?_, ?_⟩
  · rw [hs _ (by omega) (by omega), hw _ (by omega) (by omega)]; exact h.1
  · rw [hs _ (by omega) (by omega), hw _ (by omega) (by omega)]; exact h.2.1
  · rw [hs _ (by omega) (by omega), hw _ (by omega) (by omega)]; exact h.2.2
theorem jIb.fr (h : jIb w) (hw : ∀ j, j = 4 ∨ 6 ≤ j ∧ j < 21 → w' j = w j) : jIb w' := by
  obtain ⟨h1, h2⟩ := h
  refine ⟨fun b hb => ?_, ?_⟩
  · rw [hw _ (by omega), hw _ (by omega)]
    exact h1 b hb
  · rw [hw 8 (by omega), hw 11 (by omega), hw 14 (by omega), hw 17 (by omega), hw 20 (by omega), hw 4 (by omega)]
    exact h2
theorem jIk.fr (h : jIk w) (hw : ∀ j, j = 0 ∨ 21 ≤ j ∧ j < 69 → w' j = w j) : jIk w' := by
  obtain ⟨h1, h2, h3⟩ := h
  refine ⟨by rw [hw 0 (by omega)]; exact h1, fun i hi => ?_, fun i j hi hj he => ?_⟩
  · rw [hw 0 (by omega)] at hi
    obtain ⟨a1, a2, a3, a4, a5, a6⟩ := h2 i hi
    rw [hw (21 + 6 * i) (by omega), hw (22 + 6 * i) (by omega), hw (23 + 6 * i) (by omega), hw (23 + 6 * i + (w (22 + 6 * i) - 1)) (by omega)]
    refine ⟨a1, a2, a3, fun k hk => ?_, a5, a6⟩
    rw [hw _ (by omega)]
    exact a4 k hk
  · rw [hw 0 (by omega)] at hi hj
    rw [jspl_eq (fun k hk => hw _ (by omega)), jspl_eq (w := w) (i := j) (fun k hk => hw _ (by omega))] at he
    exact h3 i j hi hj he
theorem jIs.fr (h : jIs w) (hw : ∀ j, j = 1 ∨ 69 ≤ j ∧ j < 81 → w' j = w j) : jIs w' := by
  obtain ⟨h1, h2⟩ := h
  refine ⟨by rw [hw 1 (by omega)]; exact h1, fun i hi => ?_⟩
  rw [hw 1 (by omega)] at hi
  rw [hw _ (by omega), hw (70 + 2 * i) (by omega)]
  exact h2 i hi
theorem jIp.fr (h : jIp w) (hw : ∀ j, j = 2 ∨ 81 ≤ j → w' j = w j) : jIp w' := by
  obtain ⟨h1, h2⟩ := h
  refine ⟨by rw [hw 2 (by omega)]; exact h1, fun p hp => ?_⟩
  rw [hw 2 (by omega)] at hp
  obtain ⟨a1, a2, a3⟩ := h2 p hp
  rw [hw _ (by omega)]
  refine ⟨a1, a2, fun j hj => ?_⟩
  rw [hw _ (by omega)]
  exact a3 j hj
theorem jAr.up {q n : Nat} (h : jAr σ q n w) (k x : Nat) : jAr (jm_up σ q k (jI x)) q n (jn0 w k x) := fun j hj => by
  by_cases e : j = k
  · rw [e, jm_up_same, jn0_s]
  · rw [jm_up_j _ _ e, jn0_o e]
    exact h j hj
theorem jmf.rf : jmf σ σ := fun _ _ _ => rfl
theorem jmf.tr {σ'' : jm_S} (h : jmf σ σ') (h' : jmf σ' σ'') : jmf σ σ'' := fun q j x => (h' q j x).trans (h q j x)
theorem jmf.u8 (h : jmf σ σ') (k : Nat) (x : Int32) : jmf σ (jm_up σ' 308 k x) := fun q j z => (jm_up_o _ _ (by omega)).trans (h q j z)
theorem jmf.u5 (h : jmf σ σ') (k : Nat) (x : Int32) : jmf σ (jm_up σ' 315 k x) := fun q j z => (jm_up_o _ _ (by omega)).trans (h q j z)
theorem jmf.u7 (h : jmf σ σ') (x : Int32) : jmf σ (jm_up σ' 307 17 x) := fun q j z => by
  by_cases e : q = 307
  · subst e
    exact (jm_up_j _ _ (by omega)).trans (h _ _ z)
  · exact (jm_up_o _ _ e).trans (h _ _ z)
theorem jmf.u7' (h : jmf σ σ') (x : Int32) : jmf σ (jm_up σ' 307 18 x) := fun q j z => by
  by_cases e : q = 307
  · subst e
    exact (jm_up_j _ _ (by omega)).trans (h _ _ z)
  · exact (jm_up_o _ _ e).trans (h _ _ z)
/-- only 'now' is otherwise -/
def jm8 (σ σ' : jm_S) : Prop := ∀ q j, q ≠ 308 → σ' q j = σ q j
theorem jm8.f (h : jm8 σ σ') : jmf σ σ' := fun q j z => h q j (by omega)
theorem jm8.up (h : jm8 σ σ') (k : Nat) (x : Int32) : jm8 σ (jm_up σ' 308 k x) := fun q j z => (jm_up_o _ _ z).trans (h q j z)
theorem jIb_up (h : jIb w) {k x b : Nat} (hb : b < 5) (hk : k = 6 + 3 * b ∧ 1 ≤ x ∧ x ≤ 9 ∨ k = 7 + 3 * b ∧ x ≤ 9) : jIb (jn0 w k x) := by
  obtain ⟨h1, h2⟩ := h
  refine ⟨fun c hc => ?_, ?_⟩
  · have := h1 c hc
    by_cases e : 6 + 3 * c = k
    · rw [jn0_e e, jn0_o (by omega)]
      omega
    · by_cases e2 : 7 + 3 * c = k
      · rw [jn0_o e, jn0_e e2]
        omega
      · rw [jn0_o e, jn0_o e2]
        exact this
  · rw [jn0_o (by omega), jn0_o (by omega), jn0_o (by omega), jn0_o (by omega), jn0_o (by omega), jn0_o (by omega)]
    exact h2
/-- a bell's number changes -/
theorem jInv_b (h : jInv w) {k x b : Nat} (hb : b < 5) (hk : k = 6 + 3 * b ∧ 1 ≤ x ∧ x ≤ 9 ∨ k = 7 + 3 * b ∧ x ≤ 9) : jInv (jn0 w k x) :=
  ⟨jIb_up h.1 hb hk, h.2.1.fr (fun j hj => jn0_o (by omega)), h.2.2.1.fr (fun j hj => jn0_o (by omega)), h.2.2.2.fr (fun j hj => jn0_o (by omega))⟩
theorem jInv.b0 (h : jInv w) : w 0 ≤ 8 := h.2.1.1
theorem jInv.b1 (h : jInv w) : w 1 ≤ 6 := h.2.2.1.1
theorem jInv.b2 (h : jInv w) : w 2 ≤ 5 := h.2.2.2.1
theorem jV.b (h : jV σ 1 w) : jCb σ w := (jV1.mp h).1
theorem jV.k (h : jV σ 1 w) : jCk σ w := (jV1.mp h).2.1
theorem jV.s (h : jV σ 1 w) : jCs σ w := (jV1.mp h).2.2.1
theorem jV.p (h : jV σ 1 w) : jCp σ w := (jV1.mp h).2.2.2.1
theorem jV.c (h : jV σ 1 w) : jCc σ w := (jV1.mp h).2.2.2.2
theorem jRn_put {r n : Nat} {f : Nat → Nat} (h : jRn σ r n f) (k x : Nat) : jRn (jm_up σ (r + 1) k (jI x)) r n (jn0 f k x) := (jR.put h k (jI x)).congr (fun j _ => by
  unfold jn0
  by_cases e : j = k
  · rw [if_pos e, if_pos e]
  · rw [if_neg e, if_neg e])
theorem jR_removeL {r n i : Nat} {f : Nat → Nat} (h : jRn σ r n f) (hi : i < n) : ∀ (m k : Nat) (τ : jm_S), k + m = n - 1 → i ≤ k → jRn τ r n (fun j => if i ≤ j ∧ j < k then f (j + 1) else f j) → jF r σ τ → ∃ σ', jb_Ex 62 (11, [.ref r, .int (jI i), .int (jI k)], [], jm_hp τ) = some (none, jm_hp σ') ∧ jRn σ' r (n - 1) (fun j => if j < i then f j else f (j + 1)) ∧ jF r σ σ'
  | 0, k, τ, hm, hik, h1, h2 => by
    have := jR.bd h
    refine ⟨jm_up τ r 1 (jI (n - 1)), ?_, ⟨h.1, by have := h.2.1; omega, jm_up_same _ _ _ _, fun j hj => ?_⟩, h2.tr (jF_clear _)⟩
    · rw [jt_Row_removeAt_11 h.1, h1.2.2.1, jI_sub (by omega), if_pos (by rw [jI_le (by omega) (by omega)]; omega)]
    · rw [jm_up_o _ _ (by omega)]
      refine (h1.2.2.2 j (by omega)).trans ?_
      dsimp only
      by_cases e : j < i
      · rw [if_pos e, if_neg (by omega)]
      · rw [if_neg e, if_pos (by omega)]
  | m + 1, k, τ, hm, hik, h1, h2 => by
    have := jR.bd h
    have hat := jR_at h1 (show k + 1 < n by omega)
    dsimp only at hat
    rw [if_neg (by omega)] at hat
    rw [jt_Row_removeAt_11 h.1, h1.2.2.1, jI_sub (by omega), if_neg (by rw [jI_le (by omega) (by omega)]; omega), jI_add, hat, jb_K_v, jt_Row_removeAt_30 h.1, jR_put h1 (show k < n by omega), jb_K_n, jt_Row_removeAt_33 h.1, jI_add]
    refine jR_removeL h hi m (k + 1) _ (by omega) (by omega) ((jRn_put h1 k (f (k + 1))).congr rfl (fun j hj => ?_)) (h2.tr (jF_put _ _))
    by_cases e : j = k
    · rw [jn0_e e, e, if_pos (by omega)]
    · rw [jn0_o e]
      by_cases e2 : i ≤ j ∧ j < k
      · rw [if_pos e2, if_pos (by omega)]
      · rw [if_neg e2, if_neg (by omega)]
theorem jR_remove {r n i : Nat} {f : Nat → Nat} (h : jRn σ r n f) (hi : i < n) : ∃ σ', jb_Ev 62 [.ref r, .int (jI i)] (jm_hp σ) = some (none, jm_hp σ') ∧ jRn σ' r (n - 1) (fun j => if j < i then f j else f (j + 1)) ∧ jF r σ σ' := by
  have := jR.bd h
  rw [jt_Row_removeAt_0 h.1, jR_hasY h hi, jb_K_v, jt_Row_removeAt_5 h.1, if_neg (by rw [jI_eq0 (by omega)]; omega)]
  exact jR_removeL h hi (n - 1 - i) i σ (by omega) (Nat.le_refl _) (h.congr rfl (fun j _ => by rw [if_neg (by omega)])) jF.rf
end PT
