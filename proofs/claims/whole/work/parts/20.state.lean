/-! ===== the state, in plain numbers: S 0 the village, S 1 the saved one, S 2 the draft, S 3 the text, S 4 the line, S 9 single numbers, S 10 .. S 17 the history ===== -/
abbrev jSt : Type := Nat → Nat → Nat
def jIb (w : Nat → Nat) : Prop := (∀ b, b < 5 → 1 ≤ w (6 + 3 * b) ∧ w (6 + 3 * b) ≤ 9 ∧ w (7 + 3 * b) ≤ 9) ∧ w 8 + w 11 + w 14 + w 17 + w 20 = w 4
def jIk (w : Nat → Nat) : Prop := w 0 ≤ 8 ∧ (∀ i, i < w 0 → w (21 + 6 * i) ≤ 2 ∧ 1 ≤ w (22 + 6 * i) ∧ w (22 + 6 * i) ≤ 4 ∧ (∀ k, k < w (22 + 6 * i) → w (23 + 6 * i + k) ≤ 5) ∧ w (23 + 6 * i) ≠ 5 ∧ w (23 + 6 * i + (w (22 + 6 * i) - 1)) ≠ 5) ∧ (∀ i j, i < w 0 → j < w 0 → jspl w i = jspl w j → i = j)
def jIs (w : Nat → Nat) : Prop := w 1 ≤ 6 ∧ (∀ i, i < w 1 → 1 ≤ w (69 + 2 * i) ∧ w (69 + 2 * i) ≤ 9 ∧ w (70 + 2 * i) ≤ 9)
def jIp (w : Nat → Nat) : Prop := w 2 ≤ 5 ∧ (∀ p, p < w 2 → 1 ≤ w (81 + 13 * p) ∧ w (81 + 13 * p) ≤ 12 ∧ ∀ j, j < w (81 + 13 * p) → w (82 + 13 * p + j) ≤ 5)
def jInv (w : Nat → Nat) : Prop := jIb w ∧ jIk w ∧ jIs w ∧ jIp w
def jCR (σ : jm_S) (s : Nat → Nat) : Prop := (s 5 = 0 → σ 278 0 = -6) ∧ (s 5 ≠ 0 → σ 278 0 = jI (s 5) ∧ σ 278 1 = jI (s 6) ∧ (s 7 = 0 → σ 278 2 = -6 ∧ σ 278 3 = -6) ∧ (s 7 ≠ 0 → σ 278 2 = jI (s 7) ∧ σ 278 3 = jI (s 8)))
def jMR (σ : jm_S) (s : Nat → Nat) : Prop := σ 307 6 = jI (s 5) ∧ (s 5 ≠ 0 → σ 307 7 = jI (s 6) ∧ σ 307 8 = jI (s 7) ∧ (s 7 ≠ 0 → σ 307 9 = jI (s 8)))
def JC (σ : jm_S) (S : jSt) : Prop := jV σ 1 (S 0) ∧ jCH σ (S 9 1) (fun k => S (10 + k)) ∧ (σ 0 15 = jI (S 9 0) ∧ (S 9 0 ≠ 0 → jV σ 51 (S 1))) ∧ (jRn σ 291 (S 9 2) (S 2) ∧ jRn σ 283 (S 9 3) (S 3) ∧ jRn σ 293 (S 9 4) (S 4)) ∧ jCR σ (S 9) ∧ σ 0 16 = (if S 9 9 = 0 then -1 else jI (S 9 9 - 1))
def JM (σ : jm_S) (S : jSt) : Prop := jAr σ 308 146 (S 0) ∧ jMH σ (S 9 1) (fun k => S (10 + k)) ∧ (σ 307 4 = jI (S 9 0) ∧ (S 9 0 ≠ 0 → jAr σ 310 146 (S 1))) ∧ (σ 307 12 = jI (S 9 2) ∧ jAr σ 312 (S 9 2) (S 2)) ∧ (σ 307 14 = jI (S 9 3) ∧ jAr σ 313 (S 9 3) (S 3)) ∧ (σ 307 16 = jI (S 9 4) ∧ jAr σ 314 (S 9 4) (S 4)) ∧ jMR σ (S 9) ∧ σ 307 10 = (if S 9 9 = 0 then -3 else jI (S 9 9 - 1))
def JI (S : jSt) : Prop := jInv (S 0) ∧ (S 9 1 ≤ 8 ∧ ∀ k, k < S 9 1 → jInv (S (10 + k))) ∧ (S 9 0 ≤ 1 ∧ (S 9 0 ≠ 0 → jInv (S 1))) ∧ (S 9 2 ≤ 20 ∧ ∀ k, k < S 9 2 → S 2 k ≤ 5) ∧ (S 9 3 ≤ 60 ∧ ∀ k, k < S 9 3 → 32 ≤ S 3 k ∧ S 3 k ≤ 126) ∧ S 9 4 ≤ 64 ∧ S 9 5 ≤ 7 ∧ S 9 7 ≤ 7 ∧ S 9 9 ≤ 100
/-- the same below a place, and from it on -/
def jLo (σ σ' : jm_S) : Prop := ∀ q j, q < 307 → σ' q j = σ q j
def jHi (σ σ' : jm_S) : Prop := ∀ q j, 307 ≤ q → σ' q j = σ q j
theorem jLo.A {σ σ' : jm_S} (h : jLo σ σ') : jA 307 1000 σ σ' ∨ True := Or.inr trivial
theorem jCV.lo {σ σ' : jm_S} {v : Nat} {w g : Nat → Nat} (h : jCV σ v w g) (hv : v + 25 ≤ 307) (hl : jLo σ σ') : jCV σ' v w g := by
  obtain ⟨h1, h2, h3, h4, h5, h6, h7, h8, h9, h10, h11, h12, h13⟩ := h
  have key : ∀ {o n : Nat} {f : Nat → Nat}, o + 1 < 25 → jRn σ (v + o) n f → jRn σ' (v + o) n f := fun ho hr => jR.eq hr (hl _ _ (by omega)) (fun k _ => hl _ _ (by omega))
  exact ⟨key (by omega) h1, key (by omega) h2, key (by omega) h3, key (by omega) h4, key (by omega) h5, key (by omega) h6, key (by omega) h7, key (by omega) h8, key (by omega) h9, key (by omega) h10, by rw [hl v 4 (by omega)]; exact h11, by rw [hl v 5 (by omega)]; exact h12, by rw [hl v 6 (by omega)]; exact h13⟩
theorem jV.lo {σ σ' : jm_S} {v : Nat} {w : Nat → Nat} (h : jV σ v w) (hv : v + 25 ≤ 307) (hl : jLo σ σ') : jV σ' v w := by
  obtain ⟨g, h1, h2⟩ := h
  exact ⟨g, h1.lo hv hl, h2⟩
theorem jCH.lo {σ σ' : jm_S} {n : Nat} {H : Nat → Nat → Nat} (h : jCH σ n H) (hl : jLo σ σ') : jCH σ' n H := by
  obtain ⟨h1, o, h2, h3, h4⟩ := h
  exact ⟨by rw [hl _ _ (by omega)]; exact h1, o, h2, by rw [hl _ _ (by omega)]; exact h3, fun k hk => (h4 k hk).lo (by omega) hl⟩
theorem jRn.lo {σ σ' : jm_S} {r n : Nat} {f : Nat → Nat} (h : jRn σ r n f) (hr : r + 1 < 307) (hl : jLo σ σ') : jRn σ' r n f := jR.eq h (hl _ _ (by omega)) (fun k _ => hl _ _ (by omega))
theorem JC.lo {σ σ' : jm_S} {S : jSt} (h : JC σ S) (hl : jLo σ σ') : JC σ' S := by
  obtain ⟨h1, h2, ⟨h3, h4⟩, ⟨h5, h6, h7⟩, h8, h9⟩ := h
  refine ⟨h1.lo (by omega) hl, h2.lo hl, ⟨by rw [hl _ _ (by omega)]; exact h3, fun z => (h4 z).lo (by omega) hl⟩, ⟨h5.lo (by omega) hl, h6.lo (by omega) hl, h7.lo (by omega) hl⟩, ?_, by rw [hl _ _ (by omega)]; exact h9⟩
  unfold jCR at h8 ⊢
  rw [hl 278 0 (by omega), hl 278 1 (by omega), hl 278 2 (by omega), hl 278 3 (by omega)]
  exact h8
theorem jAr.hi {σ σ' : jm_S} {q n : Nat} {f : Nat → Nat} (h : jAr σ q n f) (hq : 307 ≤ q) (hl : jHi σ σ') : jAr σ' q n f := fun j hj => (hl q j hq).trans (h j hj)
theorem JM.hi {σ σ' : jm_S} {S : jSt} (h : JM σ S) (hl : jHi σ σ') : JM σ' S := by
  obtain ⟨h1, ⟨h2, h2'⟩, ⟨h3, h4⟩, ⟨h5, h6⟩, ⟨h7, h8⟩, ⟨h9, h10⟩, h11, h12⟩ := h
  have e : ∀ j, σ' 307 j = σ 307 j := fun j => hl 307 j (by omega)
  refine ⟨h1.hi (by omega) hl, ⟨by rw [e]; exact h2, fun k j hk hj => by rw [hl _ _ (by omega)]; exact h2' k j hk hj⟩, ⟨by rw [e]; exact h3, fun z => (h4 z).hi (by omega) hl⟩, ⟨by rw [e]; exact h5, h6.hi (by omega) hl⟩, ⟨by rw [e]; exact h7, h8.hi (by omega) hl⟩, ⟨by rw [e]; exact h9, h10.hi (by omega) hl⟩, ?_, by rw [e]; exact h12⟩
  unfold jMR at h11 ⊢
  rw [e, e, e, e]
  exact h11
/-- a call's two runs, and what is behind them -/
def jOp (σ : jm_S) (nc nm : Nat) (as : List Value) : Prop := ∃ (v : Value) (σ1 σ2 : jm_S) (S' : jSt), jb_Ev nc (.ref (0 : Nat) :: as) (jm_hp σ) = some (some v, jm_hp σ1) ∧ jb_Ev nm (.ref (307 : Nat) :: as) (jm_hp σ1) = some (some v, jm_hp σ2) ∧ JC σ2 S' ∧ JM σ2 S' ∧ JI S'
def jOC (σ : jm_S) (nc : Nat) (as : List Value) (v : Value) (S' : jSt) : Prop := ∃ σ1, jb_Ev nc (.ref (0 : Nat) :: as) (jm_hp σ) = some (some v, jm_hp σ1) ∧ JC σ1 S' ∧ jHi σ σ1
def jOM (σ : jm_S) (nm : Nat) (as : List Value) (v : Value) (S' : jSt) : Prop := ∃ σ1, jb_Ev nm (.ref (307 : Nat) :: as) (jm_hp σ) = some (some v, jm_hp σ1) ∧ JM σ1 S' ∧ jLo σ σ1
theorem jOp_of {σ : jm_S} {S S' : jSt} {nc nm : Nat} {as : List Value} {v : Value} (hM : JM σ S) (hc : jOC σ nc as v S') (hm : ∀ τ, JM τ S → jOM τ nm as v S') (hi : JI S') : jOp σ nc nm as := by
  obtain ⟨σ1, e1, c1, f1⟩ := hc
  obtain ⟨σ2, e2, c2, f2⟩ := hm σ1 (hM.hi f1)
  exact ⟨v, σ1, σ2, S', e1, e2, c1.lo f2, c2, hi⟩
theorem jA.Hi {a b : Nat} {σ σ' : jm_S} (h : jA a b σ σ') (hb : b ≤ 307) : jHi σ σ' := fun q j hq => h q j (by omega)
theorem jHi.tr {σ σ' σ'' : jm_S} (h : jHi σ σ') (h' : jHi σ' σ'') : jHi σ σ'' := fun q j x => (h' q j x).trans (h q j x)
theorem jLo.tr {σ σ' σ'' : jm_S} (h : jLo σ σ') (h' : jLo σ' σ'') : jLo σ σ'' := fun q j x => (h' q j x).trans (h q j x)
/-! changed states -/
def js0 (S : jSt) (a : Nat) (f : Nat → Nat) : jSt := fun b => if b = a then f else S b
theorem js0_H (S : jSt) (f : Nat → Nat) (k : Nat) : js0 S 9 f (10 + k) = S (10 + k) := if_neg (by omega)
def jn0 (f : Nat → Nat) (k x : Nat) : Nat → Nat := fun j => if j = k then x else f j
/-- the village changes, and what it was goes into the history -/
def jpush (S : jSt) (w : Nat → Nat) : jSt := fun a => if a = 0 then w else if a = 9 then jn0 (S 9) 1 (jpn (S 9 1)) else if 10 ≤ a ∧ a < 18 then jpH (S 9 1) (fun k => S (10 + k)) (S 0) (a - 10) else S a
theorem jpush_H (S : jSt) (w : Nat → Nat) {k : Nat} (hk : k < 8) : jpush S w (10 + k) = jpH (S 9 1) (fun k => S (10 + k)) (S 0) k := by
  unfold jpush
  rw [if_neg (by omega), if_neg (by omega), if_pos (by omega), Nat.add_sub_cancel_left]
theorem jpn_le {n : Nat} (h : n ≤ 8) : jpn n ≤ 8 := by
  unfold jpn
  split <;> omega
theorem jMH.congr {σ : jm_S} {n : Nat} {H K : Nat → Nat → Nat} (h : jMH σ n H) (hn : n ≤ 8) (e : ∀ k, k < 8 → H k = K k) : jMH σ n K := ⟨h.1, fun k j hk hj => by rw [← e k (by omega)]; exact h.2 k j hk hj⟩
theorem jCH.congr {σ : jm_S} {n : Nat} {H K : Nat → Nat → Nat} (h : jCH σ n H) (hn : n ≤ 8) (e : ∀ k, k < 8 → H k = K k) : jCH σ n K := by
  obtain ⟨h1, o, h2, h3, h4⟩ := h
  exact ⟨h1, o, h2, h3, fun k hk => by rw [← e k (by omega)]; exact h4 k hk⟩
theorem JI_push {S : jSt} {w : Nat → Nat} (h : JI S) (hw : jInv w) : JI (jpush S w) := by
  obtain ⟨h1, ⟨h2, h3⟩, h4, h5, h6, h7⟩ := h
  refine ⟨hw, ⟨jpn_le h2, fun k hk => ?_⟩, h4, h5, h6, h7⟩
  have hk1 : k < jpn (S 9 1) := hk
  have hk8 : k < 8 := Nat.lt_of_lt_of_le hk1 (jpn_le h2)
  rw [jpush_H S w hk8]
  unfold jpn at hk1
  unfold jpH
  by_cases e : S 9 1 = 8
  · rw [if_pos e]
    by_cases e2 : k = 7
    · rw [if_pos e2]; exact h1
    · rw [if_neg e2]; exact h3 (k + 1) (by omega)
  · rw [if_neg e] at hk1 ⊢
    by_cases e2 : k = S 9 1
    · rw [if_pos e2]; exact h1
    · rw [if_neg e2]; exact h3 k (by omega)
/-- a village's change, or its refusal: reason and detail -/
abbrev jRes : Type := (Nat × (Nat → Nat)) ⊕ (Nat × Nat)
def jrs (σ : jm_S) (y z : Nat) : jm_S := jm_up (jm_up (jm_up (jm_up σ 278 0 (jI y)) 278 1 (jI z)) 278 2 (-6 : Int32)) 278 3 (-6 : Int32)
def jCO (σ : jm_S) (q : jRes) (e : Option jb_Res) : Prop := match q with
  | .inl (a, w) => a < 2147483648 ∧ jInv w ∧ ∃ σ', e = some (some (.int (jI a)), jm_hp σ') ∧ jV σ' 1 w ∧ jA 1 26 σ σ'
  | .inr (y, z) => (y ≠ 0 ∧ y ≤ 7) ∧ e = some (some (.int (-5)), jm_hp (jrs σ y z))
def jmf (σ σ' : jm_S) : Prop := ∀ q j, ¬ (q = 308 ∨ q = 315 ∨ (q = 307 ∧ (j = 17 ∨ j = 18))) → σ' q j = σ q j
def jMO (σ : jm_S) (q : jRes) (e : Option jb_Res) : Prop := match q with
  | .inl (a, w) => ∃ σ', e = some (some (.int (jI a)), jm_hp σ') ∧ jAr σ' 308 146 w ∧ σ' 307 17 = jI 0 ∧ jmf σ σ'
  | .inr (y, z) => ∃ x σ', e = some (some (.int x), jm_hp σ') ∧ σ' 307 17 = jI y ∧ σ' 307 18 = jI z ∧ jmf σ σ'
/-- where the state goes -/
def jGo (S : jSt) (q : jRes) : jSt := match q with
  | .inl (_, w) => jpush S w
  | .inr (y, z) => js0 S 9 (jn0 (jn0 (jn0 (S 9) 5 y) 6 z) 7 0)
def jGa (q : jRes) : Int32 := match q with
  | .inl (a, _) => jI a
  | .inr _ => -5
theorem jGo_I {S : jSt} {q : jRes} (h : JI S) (h1 : ∀ a w, q = .inl (a, w) → jInv w) (h2 : ∀ y z, q = .inr (y, z) → y ≤ 7) : JI (jGo S q) := by
  cases q with
  | inl p => exact JI_push h (h1 p.1 p.2 rfl)
  | inr p =>
    obtain ⟨i1, i2, i3, i4, i5, i6, i7, i8, i9⟩ := h
    exact ⟨i1, ⟨i2.1, fun k hk => by
      show jInv (js0 S 9 _ (10 + k))
      rw [js0_H]
      exact i2.2 k hk⟩, i3, i4, i5, i6, h2 p.1 p.2 rfl, Nat.zero_le _, i9⟩
theorem jsettled_ok {σ : jm_S} {n a : Nat} {H : Nat → Nat → Nat} {w : Nat → Nat} (ha : a < 2147483648) (hn : n ≤ 8) (hH : jCH σ n H) (hw : jV σ 26 w) : ∃ σ', jb_Ev 200 [.ref (0 : Nat), .int (jI a)] (jm_hp σ) = some (some (.int (jI a)), jm_hp σ') ∧ jCH σ' (jpn n) (jpH n H w) ∧ jA 76 278 σ σ' := by
  obtain ⟨σ1, e1, f1, f2⟩ := jkeep hn hH hw
  refine ⟨σ1, ?_, f1, f2⟩
  rw [jt_D_settled_0, if_neg (by rw [jI_neg ha]; exact id), e1, jb_K_n, jt_D_settled_15]
theorem jsettled_no {σ : jm_S} {x : Int32} (hx : x < 0) : jb_Ev 200 [.ref (0 : Nat), .int x] (jm_hp σ) = some (some (.int x), jm_hp σ) := by
  rw [jt_D_settled_0, if_pos hx, jt_D_settled_15]
/-- the class's part of a change: 'before' was taken, the village's own method has run; behind 'settled' -/
theorem jC_end {σ σ0 : jm_S} {S : jSt} {q : jRes} {e : Option jb_Res} (hC : JC σ S) (hI : JI S) (h0 : jA 26 51 σ σ0) (hb : jV σ0 26 (S 0)) (hq : jCO σ0 q e) : ∃ σ1 σ2, e = some (some (.int (jGa q)), jm_hp σ1) ∧ jb_Ev 200 [.ref (0 : Nat), .int (jGa q)] (jm_hp σ1) = some (some (.int (jGa q)), jm_hp σ2) ∧ JC σ2 (jGo S q) ∧ jHi σ σ2 := by
  obtain ⟨c1, c2, ⟨c3, c4⟩, ⟨c5, c6, c7⟩, c8, c9⟩ := hC
  obtain ⟨i1, ⟨i2, i3⟩, i4, i5, i6, i7⟩ := hI
  have cH0 : jCH σ0 (S 9 1) (fun k => S (10 + k)) := by
    obtain ⟨a1, o, a2, a3, a4⟩ := c2
    exact ⟨by rw [h0 _ _ (by omega)]; exact a1, o, a2, by rw [h0 _ _ (by omega)]; exact a3, fun k hk => (a4 k hk).A h0 (by omega)⟩
  cases q with
  | inl p =>
    obtain ⟨a, w⟩ := p
    obtain ⟨ha, hw, σ1, e1, v1, A1⟩ := hq
    have cH1 : jCH σ1 (S 9 1) (fun k => S (10 + k)) := by
      obtain ⟨a1, o, a2, a3, a4⟩ := cH0
      exact ⟨by rw [A1 _ _ (by omega)]; exact a1, o, a2, by rw [A1 _ _ (by omega)]; exact a3, fun k hk => (a4 k hk).A A1 (by omega)⟩
    obtain ⟨σ2, e2, cH2, A2⟩ := jsettled_ok ha i2 cH1 (hb.A A1 (by omega))
    refine ⟨σ1, σ2, e1, e2, ⟨v1.A A2 (by omega), cH2.congr (jpn_le i2) (fun k hk => (jpush_H S w hk).symm), ⟨?_, fun z => (((c4 z).A h0 (by omega)).A A1 (by omega)).A A2 (by omega)⟩, ⟨((c5.A h0 (by omega)).A A1 (by omega)).A A2 (by omega), ((c6.A h0 (by omega)).A A1 (by omega)).A A2 (by omega), ((c7.A h0 (by omega)).A A1 (by omega)).A A2 (by omega)⟩, ?_, ?_⟩, ((h0.Hi (by omega)).tr (A1.Hi (by omega))).tr (A2.Hi (by omega))⟩
    · rw [A2 _ _ (by omega), A1 _ _ (by omega), h0 _ _ (by omega)]
      exact c3
    · have e : ∀ j, σ2 278 j = σ 278 j := fun j => by rw [A2 _ _ (by omega), A1 _ _ (by omega), h0 _ _ (by omega)]
      unfold jCR at c8 ⊢
      rw [e, e, e, e]
      exact c8
    · rw [A2 _ _ (by omega), A1 _ _ (by omega), h0 _ _ (by omega)]
      exact c9
  | inr p =>
    obtain ⟨y, z⟩ := p
    obtain ⟨⟨hy, hy7⟩, e1⟩ := hq
    have A1 : jA 278 279 σ0 (jrs σ0 y z) := jA_ups (jA_ups (jA_ups (jA_up (by omega) (by omega)) (by omega) (by omega)) (by omega) (by omega)) (by omega) (by omega)
    refine ⟨jrs σ0 y z, jrs σ0 y z, e1, jsettled_no (show (-5 : Int32) < 0 by decide), ⟨(c1.A h0 (by omega)).A A1 (by omega), ?_, ⟨?_, fun z => ((c4 z).A h0 (by omega)).A A1 (by omega)⟩, ⟨(c5.A h0 (by omega)).A A1 (by omega), (c6.A h0 (by omega)).A A1 (by omega), (c7.A h0 (by omega)).A A1 (by omega)⟩, ?_, ?_⟩, (h0.Hi (by omega)).tr (A1.Hi (by omega))⟩
    · obtain ⟨a1, o, a2, a3, a4⟩ := cH0
      exact ⟨by rw [A1 _ _ (by omega)]; exact a1, o, a2, by rw [A1 _ _ (by omega)]; exact a3, fun k hk => by
        show jV _ _ (js0 S 9 _ (10 + k))
        rw [js0_H]
        exact (a4 k hk).A A1 (by omega)⟩
    · rw [A1 _ _ (by omega), h0 _ _ (by omega)]
      exact c3
    · refine ⟨fun z => absurd z hy, fun _ => ⟨?_, ?_, fun _ => ⟨?_, ?_⟩, fun z => absurd rfl z⟩⟩
      · unfold jrs
        rw [jm_up_j _ _ (by omega), jm_up_j _ _ (by omega), jm_up_j _ _ (by omega), jm_up_same]
        rfl
      · unfold jrs
        rw [jm_up_j _ _ (by omega), jm_up_j _ _ (by omega), jm_up_same]
        rfl
      · unfold jrs
        rw [jm_up_j _ _ (by omega), jm_up_same]
      · unfold jrs
        rw [jm_up_same]
    · rw [A1 _ _ (by omega), h0 _ _ (by omega)]
      exact c9
/-- the plain form's part: 'starts' was called, its own method has run; behind 'ends' -/
theorem jM_end {σ σ0 : jm_S} {S : jSt} {q : jRes} {e : Option jb_Res} (hM : JM σ S) (hI : JI S) (h0 : ∀ q j, ¬ (q = 309 ∨ (q = 307 ∧ j = 17)) → σ0 q j = σ q j) (hb : jAr σ0 309 146 (S 0)) (hq : jMO σ0 q e) (hy : ∀ y z, q = .inr (y, z) → y ≠ 0 ∧ y ≤ 7) : ∃ x σ1 σ2, e = some (some (.int x), jm_hp σ1) ∧ jb_Ev 149 [.ref (307 : Nat), .int x] (jm_hp σ1) = some (some (.int (jGa q)), jm_hp σ2) ∧ JM σ2 (jGo S q) ∧ jLo σ σ2 := by
  obtain ⟨m1, ⟨m2, m2'⟩, ⟨m3, m4⟩, ⟨m5, m6⟩, ⟨m7, m8⟩, ⟨m9, m10⟩, m11, m12⟩ := hM
  obtain ⟨i1, ⟨i2, i3⟩, i4, i5, i6, i7⟩ := hI
  cases q with
  | inl p =>
    obtain ⟨a, w⟩ := p
    obtain ⟨σ1, e1, v1, w1, A1⟩ := hq
    have b1 : jAr σ1 309 146 (S 0) := fun j hj => (A1 _ _ (by omega)).trans (hb j hj)
    have H1 : jMH σ1 (S 9 1) (fun k => S (10 + k)) := ⟨by rw [A1 _ _ (by omega), h0 _ _ (by omega)]; exact m2, fun k j hk hj => by rw [A1 _ _ (by omega), h0 _ _ (by omega)]; exact m2' k j hk hj⟩
    obtain ⟨σ2, e2, H2, A2⟩ := jM_ends_ok i2 H1 b1 w1 (jI a)
    have key : ∀ q j, ¬ (q = 308 ∨ q = 309 ∨ q = 311 ∨ q = 315 ∨ (q = 307 ∧ (j = 5 ∨ j = 17 ∨ j = 18))) → σ2 q j = σ q j := fun q j z => by rw [A2 _ _ (by omega), A1 _ _ (by omega), h0 _ _ (by omega)]
    refine ⟨jI a, σ1, σ2, e1, e2, ⟨fun j hj => (A2 _ _ (by omega)).trans (v1 j hj), H2.congr (jpn_le i2) (fun k hk => (jpush_H S w hk).symm), ⟨(key _ _ (by omega)).trans m3, fun z j hj => (key _ _ (by omega)).trans (m4 z j hj)⟩, ⟨(key _ _ (by omega)).trans m5, fun j hj => (key _ _ (by omega)).trans (m6 j hj)⟩, ⟨(key _ _ (by omega)).trans m7, fun j hj => (key _ _ (by omega)).trans (m8 j hj)⟩, ⟨(key _ _ (by omega)).trans m9, fun j hj => (key _ _ (by omega)).trans (m10 j hj)⟩, ?_, (key _ _ (by omega)).trans m12⟩, fun q j z => key q j (by omega)⟩
    unfold jMR at m11 ⊢
    rw [key 307 6 (by omega), key 307 7 (by omega), key 307 8 (by omega), key 307 9 (by omega)]
    exact m11
  | inr p =>
    obtain ⟨y, z⟩ := p
    obtain ⟨hy0, hy7⟩ := hy y z rfl
    obtain ⟨x, σ1, e1, w1, w2, A1⟩ := hq
    have b1 : jAr σ1 309 146 (S 0) := fun j hj => (A1 _ _ (by omega)).trans (hb j hj)
    obtain ⟨σ2, e2, r1, ⟨r2, r3, r4, r5⟩, A2⟩ := jM_ends_no b1 w1 ⟨hy0, by omega⟩ x
    have key : ∀ q j, ¬ (q = 308 ∨ q = 309 ∨ q = 315 ∨ (q = 307 ∧ (6 ≤ j ∧ j ≤ 9 ∨ j = 17 ∨ j = 18))) → σ2 q j = σ q j := fun q j z => by rw [A2 _ _ (by omega), A1 _ _ (by omega), h0 _ _ (by omega)]
    exact ⟨x, σ1, σ2, e1, e2, ⟨r1, ⟨(key _ _ (by omega)).trans m2, fun k j hk hj => by
      show _ = jI (js0 S 9 _ (10 + k) j)
      rw [js0_H]
      exact (key _ _ (by omega)).trans (m2' k j hk hj)⟩, ⟨(key _ _ (by omega)).trans m3, fun z j hj => (key _ _ (by omega)).trans (m4 z j hj)⟩, ⟨(key _ _ (by omega)).trans m5, fun j hj => (key _ _ (by omega)).trans (m6 j hj)⟩, ⟨(key _ _ (by omega)).trans m7, fun j hj => (key _ _ (by omega)).trans (m8 j hj)⟩, ⟨(key _ _ (by omega)).trans m9, fun j hj => (key _ _ (by omega)).trans (m10 j hj)⟩, ⟨r2, fun _ => ⟨by rw [r3, w2]; rfl, r4, fun q => absurd rfl q⟩⟩, (key _ _ (by omega)).trans m12⟩, fun q j z => key q j (by omega)⟩
