/-! ===== a village by the plain form's row of numbers ===== -/
def jdg (w : Nat → Nat) (i k : Nat) : Nat := if k < w (22 + 6 * i) then (if w (23 + 6 * i + k) = 5 then 1 else w (23 + 6 * i + k) + 2) else 0
def jspl (w : Nat → Nat) (i : Nat) : Nat := ((jdg w i 0 * 8 + jdg w i 1) * 8 + jdg w i 2) * 8 + jdg w i 3
/-- a row that holds such numbers -/
def jRn (σ : jm_S) (r n : Nat) (f : Nat → Nat) : Prop := jR σ r n (fun k => jI (f k))
def jCV (σ : jm_S) (v : Nat) (w g : Nat → Nat) : Prop :=
jRn σ (v + 2) 5 (fun b => w (6 + 3 * b)) ∧ jRn σ (v + 4) 5 (fun b => w (7 + 3 * b)) ∧ jRn σ (v + 6) 5 (fun b => w (8 + 3 * b)) ∧ jRn σ (v + 9) (w 0) (fun i => w (21 + 6 * i)) ∧ jRn σ (v + 11) (w 0) (fun i => w (22 + 6 * i)) ∧ jRn σ (v + 13) (w 0) (jspl w) ∧ jRn σ (v + 16) (w 1) (fun i => w (69 + 2 * i)) ∧ jRn σ (v + 18) (w 1) (fun i => w (70 + 2 * i)) ∧ jRn σ (v + 21) (w 2) (fun p => w (81 + 13 * p)) ∧ jRn σ (v + 23) 60 (g) ∧ σ v 4 = jI (w 3) ∧ σ v 5 = jI (w 4) ∧ σ v 6 = jI (w 5)
/-- nothing changed but a part of the objects -/
def jA (a b : Nat) (σ σ' : jm_S) : Prop := ∀ q j, ¬ (a ≤ q ∧ q < b) → σ' q j = σ q j
theorem jA.rf {a b : Nat} {σ : jm_S} : jA a b σ σ := fun _ _ _ => rfl
theorem jA.tr {a b : Nat} {σ σ' σ'' : jm_S} (h : jA a b σ σ') (h' : jA a b σ' σ'') : jA a b σ σ'' := fun q j x => (h' q j x).trans (h q j x)
theorem jA.mono {a b c d : Nat} {σ σ' : jm_S} (h : jA a b σ σ') (h1 : c ≤ a) (h2 : b ≤ d) : jA c d σ σ' := fun q j x => h q j (fun z => x ⟨by omega, by omega⟩)
theorem jF.A {r a b : Nat} {σ σ' : jm_S} (h : jF r σ σ') (h1 : a ≤ r) (h2 : r + 2 ≤ b) : jA a b σ σ' := fun q j x => h q j (fun z => x ⟨by omega, by omega⟩) (fun z => x ⟨by omega, by omega⟩)
theorem jA_up {a b r j : Nat} {σ : jm_S} {x : Int32} (h1 : a ≤ r) (h2 : r < b) : jA a b σ (jm_up σ r j x) := fun q k z => jm_up_o _ _ (fun e => z ⟨by omega, by omega⟩)
theorem jA_ups {a b r j : Nat} {σ τ : jm_S} {x : Int32} (h : jA a b σ τ) (h1 : a ≤ r) (h2 : r < b) : jA a b σ (jm_up τ r j x) := h.tr (jA_up h1 h2)
theorem jRn.A {σ σ' : jm_S} {a b r n : Nat} {f : Nat → Nat} (h : jRn σ r n f) (hA : jA a b σ σ') (hd : r + 1 < a ∨ b ≤ r) : jRn σ' r n f := jR.eq h (hA r 1 (by omega)) (fun k _ => hA (r + 1) k (by omega))
theorem jRn.fr {σ σ' : jm_S} {q r n : Nat} {f : Nat → Nat} (h : jRn σ r n f) (hF : jF q σ σ') (hd : r + 1 < q ∨ q + 1 < r) : jRn σ' r n f := jR.eq h (hF r 1 (by omega) (by omega)) (fun k _ => hF (r + 1) k (by omega) (by omega))
theorem jCV.A {σ σ' : jm_S} {a b v : Nat} {w g : Nat → Nat} (h : jCV σ v w g) (hA : jA a b σ σ') (hd : v + 25 ≤ a ∨ b ≤ v) : jCV σ' v w g := by
  obtain ⟨h1, h2, h3, h4, h5, h6, h7, h8, h9, h10, h11, h12, h13⟩ := h
  exact ⟨h1.A hA (by omega), h2.A hA (by omega), h3.A hA (by omega), h4.A hA (by omega), h5.A hA (by omega), h6.A hA (by omega), h7.A hA (by omega), h8.A hA (by omega), h9.A hA (by omega), h10.A hA (by omega), by rw [hA v 4 (by omega)]; exact h11, by rw [hA v 5 (by omega)]; exact h12, by rw [hA v 6 (by omega)]; exact h13⟩
theorem jb_K_n {i pc : Nat} {ls st : List Value} {h : jb_H} : jb_K (some (none, h)) (fun v h => jb_Ex i (pc, ls, v.toList ++ st, h)) = jb_Ex i (pc, ls, st, h) := rfl
theorem jb_K_v {i pc : Nat} {ls st : List Value} {h : jb_H} {x : Value} : jb_K (some (some x, h)) (fun v h => jb_Ex i (pc, ls, v.toList ++ st, h)) = jb_Ex i (pc, ls, x :: st, h) := rfl
theorem jBells_take {σ : jm_S} {v u : Nat} (hv : jm_c v = 9) (hu : jm_c u = 9) (hd : v + 25 ≤ u ∨ u + 25 ≤ v) {n2 : Nat} {f2 : Nat → Nat} (h2 : jRn σ (u + 2) n2 f2) {n4 : Nat} {f4 : Nat → Nat} (h4 : jRn σ (u + 4) n4 f4) {n6 : Nat} {f6 : Nat → Nat} (h6 : jRn σ (u + 6) n6 f6) : ∃ σ', jb_Ev 53 [.ref (v + 1), .ref (u + 1)] (jm_hp σ) = some (none, jm_hp σ') ∧ jRn σ' (v + 2) n2 f2 ∧ jRn σ' (v + 4) n4 f4 ∧ jRn σ' (v + 6) n6 f6 ∧ jA (v + 1) (v + 8) σ σ' := by
  obtain ⟨-, -, r6, -, hl⟩ := jm_vil hv
  obtain ⟨-, -, q6, -, hl2⟩ := jm_vil hu
  have S2 : jRn σ (u + 2) n2 f2 := h2
  obtain ⟨σ2, e2, D2, F2⟩ := jR_take S2 (r6 2 (by decide)) (by rw [show v + 2 + 1 = v + 3 from rfl, hl (3, 5) (by decide), ← hl2 (3, 5) (by decide)]; exact S2.2.1) (by omega)
  have S4 : jRn σ2 (u + 4) n4 f4 := (h4).fr F2 (by omega)
  obtain ⟨σ4, e4, D4, F4⟩ := jR_take S4 (r6 4 (by decide)) (by rw [show v + 4 + 1 = v + 5 from rfl, hl (5, 5) (by decide), ← hl2 (5, 5) (by decide)]; exact S4.2.1) (by omega)
  have S6 : jRn σ4 (u + 6) n6 f6 := (((h6).fr F2 (by omega))).fr F4 (by omega)
  obtain ⟨σ6, e6, D6, F6⟩ := jR_take S6 (r6 6 (by decide)) (by rw [show v + 6 + 1 = v + 7 from rfl, hl (7, 5) (by decide), ← hl2 (7, 5) (by decide)]; exact S6.2.1) (by omega)
  refine ⟨σ6, ?_, (jRn.fr (jRn.fr D2 F4 (by omega)) F6 (by omega)), (jRn.fr D4 F6 (by omega)), D6, (((F2.A (by omega) (by omega)).tr (F4.A (by omega) (by omega))).tr (F6.A (by omega) (by omega)))⟩
  rw [jt_Bells_take_0 hv hu, e2, jb_K_n, jt_Bells_take_11 hv hu, e4, jb_K_n, jt_Bells_take_22 hv hu, e6, jb_K_n, jt_Bells_take_33 hv hu]
theorem jBook_take {σ : jm_S} {v u : Nat} (hv : jm_c v = 9) (hu : jm_c u = 9) (hd : v + 25 ≤ u ∨ u + 25 ≤ v) {n9 : Nat} {f9 : Nat → Nat} (h9 : jRn σ (u + 9) n9 f9) {n11 : Nat} {f11 : Nat → Nat} (h11 : jRn σ (u + 11) n11 f11) {n13 : Nat} {f13 : Nat → Nat} (h13 : jRn σ (u + 13) n13 f13) : ∃ σ', jb_Ev 54 [.ref (v + 8), .ref (u + 8)] (jm_hp σ) = some (none, jm_hp σ') ∧ jRn σ' (v + 9) n9 f9 ∧ jRn σ' (v + 11) n11 f11 ∧ jRn σ' (v + 13) n13 f13 ∧ jA (v + 8) (v + 15) σ σ' := by
  obtain ⟨-, -, r6, -, hl⟩ := jm_vil hv
  obtain ⟨-, -, q6, -, hl2⟩ := jm_vil hu
  have S9 : jRn σ (u + 9) n9 f9 := h9
  obtain ⟨σ9, e9, D9, F9⟩ := jR_take S9 (r6 9 (by decide)) (by rw [show v + 9 + 1 = v + 10 from rfl, hl (10, 8) (by decide), ← hl2 (10, 8) (by decide)]; exact S9.2.1) (by omega)
  have S11 : jRn σ9 (u + 11) n11 f11 := (h11).fr F9 (by omega)
  obtain ⟨σ11, e11, D11, F11⟩ := jR_take S11 (r6 11 (by decide)) (by rw [show v + 11 + 1 = v + 12 from rfl, hl (12, 8) (by decide), ← hl2 (12, 8) (by decide)]; exact S11.2.1) (by omega)
  have S13 : jRn σ11 (u + 13) n13 f13 := (((h13).fr F9 (by omega))).fr F11 (by omega)
  obtain ⟨σ13, e13, D13, F13⟩ := jR_take S13 (r6 13 (by decide)) (by rw [show v + 13 + 1 = v + 14 from rfl, hl (14, 8) (by decide), ← hl2 (14, 8) (by decide)]; exact S13.2.1) (by omega)
  refine ⟨σ13, ?_, (jRn.fr (jRn.fr D9 F11 (by omega)) F13 (by omega)), (jRn.fr D11 F13 (by omega)), D13, (((F9.A (by omega) (by omega)).tr (F11.A (by omega) (by omega))).tr (F13.A (by omega) (by omega)))⟩
  rw [jt_Book_take_0 hv hu, e9, jb_K_n, jt_Book_take_11 hv hu, e11, jb_K_n, jt_Book_take_22 hv hu, e13, jb_K_n, jt_Book_take_33 hv hu]
theorem jSwimmers_take {σ : jm_S} {v u : Nat} (hv : jm_c v = 9) (hu : jm_c u = 9) (hd : v + 25 ≤ u ∨ u + 25 ≤ v) {n16 : Nat} {f16 : Nat → Nat} (h16 : jRn σ (u + 16) n16 f16) {n18 : Nat} {f18 : Nat → Nat} (h18 : jRn σ (u + 18) n18 f18) : ∃ σ', jb_Ev 55 [.ref (v + 15), .ref (u + 15)] (jm_hp σ) = some (none, jm_hp σ') ∧ jRn σ' (v + 16) n16 f16 ∧ jRn σ' (v + 18) n18 f18 ∧ jA (v + 15) (v + 20) σ σ' := by
  obtain ⟨-, -, r6, -, hl⟩ := jm_vil hv
  obtain ⟨-, -, q6, -, hl2⟩ := jm_vil hu
  have S16 : jRn σ (u + 16) n16 f16 := h16
  obtain ⟨σ16, e16, D16, F16⟩ := jR_take S16 (r6 16 (by decide)) (by rw [show v + 16 + 1 = v + 17 from rfl, hl (17, 6) (by decide), ← hl2 (17, 6) (by decide)]; exact S16.2.1) (by omega)
  have S18 : jRn σ16 (u + 18) n18 f18 := (h18).fr F16 (by omega)
  obtain ⟨σ18, e18, D18, F18⟩ := jR_take S18 (r6 18 (by decide)) (by rw [show v + 18 + 1 = v + 19 from rfl, hl (19, 6) (by decide), ← hl2 (19, 6) (by decide)]; exact S18.2.1) (by omega)
  refine ⟨σ18, ?_, (jRn.fr D16 F18 (by omega)), D18, ((F16.A (by omega) (by omega)).tr (F18.A (by omega) (by omega)))⟩
  rw [jt_Swimmers_take_0 hv hu, e16, jb_K_n, jt_Swimmers_take_11 hv hu, e18, jb_K_n, jt_Swimmers_take_22 hv hu]
theorem jPeals_take {σ : jm_S} {v u : Nat} (hv : jm_c v = 9) (hu : jm_c u = 9) (hd : v + 25 ≤ u ∨ u + 25 ≤ v) {n21 : Nat} {f21 : Nat → Nat} (h21 : jRn σ (u + 21) n21 f21) {n23 : Nat} {f23 : Nat → Nat} (h23 : jRn σ (u + 23) n23 f23) : ∃ σ', jb_Ev 56 [.ref (v + 20), .ref (u + 20)] (jm_hp σ) = some (none, jm_hp σ') ∧ jRn σ' (v + 21) n21 f21 ∧ jRn σ' (v + 23) n23 f23 ∧ jA (v + 20) (v + 25) σ σ' := by
  obtain ⟨-, -, r6, -, hl⟩ := jm_vil hv
  obtain ⟨-, -, q6, -, hl2⟩ := jm_vil hu
  have S21 : jRn σ (u + 21) n21 f21 := h21
  obtain ⟨σ21, e21, D21, F21⟩ := jR_take S21 (r6 21 (by decide)) (by rw [show v + 21 + 1 = v + 22 from rfl, hl (22, 5) (by decide), ← hl2 (22, 5) (by decide)]; exact S21.2.1) (by omega)
  have S23 : jRn σ21 (u + 23) n23 f23 := (h23).fr F21 (by omega)
  obtain ⟨σ23, e23, D23, F23⟩ := jR_take S23 (r6 23 (by decide)) (by rw [show v + 23 + 1 = v + 24 from rfl, hl (24, 60) (by decide), ← hl2 (24, 60) (by decide)]; exact S23.2.1) (by omega)
  refine ⟨σ23, ?_, (jRn.fr D21 F23 (by omega)), D23, ((F21.A (by omega) (by omega)).tr (F23.A (by omega) (by omega)))⟩
  rw [jt_Peals_take_0 hv hu, e21, jb_K_n, jt_Peals_take_11 hv hu, e23, jb_K_n, jt_Peals_take_22 hv hu]
/-- the whole village -/
theorem jVillage_take {σ : jm_S} {v u : Nat} {w g : Nat → Nat} (hv : jm_c v = 9) (hu : jm_c u = 9) (hd : v + 25 ≤ u ∨ u + 25 ≤ v) (h : jCV σ u w g) : ∃ σ', jb_Ev 123 [.ref v, .ref u] (jm_hp σ) = some (none, jm_hp σ') ∧ jCV σ' v w g ∧ jA v (v + 25) σ σ' := by
  obtain ⟨h1, h2, h3, h4, h5, h6, h7, h8, h9, h10, h11, h12, h13⟩ := h
  obtain ⟨σ1, e1, a1, a2, a3, F1⟩ := jBells_take hv hu hd h1 h2 h3
  obtain ⟨σ2, e2, b1, b2, b3, F2⟩ := jBook_take hv hu hd (h4.A F1 (by omega)) (h5.A F1 (by omega)) (h6.A F1 (by omega))
  obtain ⟨σ3, e3, c1, c2, F3⟩ := jSwimmers_take hv hu hd ((h7.A F1 (by omega)).A F2 (by omega)) ((h8.A F1 (by omega)).A F2 (by omega))
  obtain ⟨σ4, e4, d1, d2, F4⟩ := jPeals_take hv hu hd (((h9.A F1 (by omega)).A F2 (by omega)).A F3 (by omega)) (((h10.A F1 (by omega)).A F2 (by omega)).A F3 (by omega))
  have u4 : ∀ j, σ4 u j = σ u j := fun j => by rw [F4 u j (by omega), F3 u j (by omega), F2 u j (by omega), F1 u j (by omega)]
  have A4 : jA (v + 1) (v + 25) σ σ4 := (((F1.mono (by omega) (by omega)).tr (F2.mono (by omega) (by omega))).tr (F3.mono (by omega) (by omega))).tr (F4.mono (by omega) (by omega))
  have huv : u ≠ v := by omega
  have hK := jt_Village_take_44 (σ := σ4) hv hu
  rw [jm_up_o _ _ huv, jm_up_o _ _ huv, jm_up_o _ _ huv, u4, u4, u4, h11, h12, h13] at hK
  have A5 : jA v (v + 1) σ4 (jm_up (jm_up (jm_up σ4 v 4 (jI (w 3))) v 5 (jI (w 4))) v 6 (jI (w 5))) := jA_ups (jA_ups (jA_up (by omega) (by omega)) (by omega) (by omega)) (by omega) (by omega)
  refine ⟨_, ?_, ⟨?_, ?_, ?_, ?_, ?_, ?_, ?_, ?_, ?_, ?_, ?_, ?_, ?_⟩, (A4.mono (by omega) (by omega)).tr (A5.mono (by omega) (by omega))⟩
  · rw [jt_Village_take_0 hv hu, e1, jb_K_n, jt_Village_take_11 hv hu, e2, jb_K_n, jt_Village_take_22 hv hu, e3, jb_K_n, jt_Village_take_33 hv hu, e4, jb_K_n]
    exact hK
  · exact (((a1.A F2 (by omega)).A F3 (by omega)).A F4 (by omega)).A A5 (by omega)
  · exact (((a2.A F2 (by omega)).A F3 (by omega)).A F4 (by omega)).A A5 (by omega)
  · exact (((a3.A F2 (by omega)).A F3 (by omega)).A F4 (by omega)).A A5 (by omega)
  · exact ((b1.A F3 (by omega)).A F4 (by omega)).A A5 (by omega)
  · exact ((b2.A F3 (by omega)).A F4 (by omega)).A A5 (by omega)
  · exact ((b3.A F3 (by omega)).A F4 (by omega)).A A5 (by omega)
  · exact (c1.A F4 (by omega)).A A5 (by omega)
  · exact (c2.A F4 (by omega)).A A5 (by omega)
  · exact d1.A A5 (by omega)
  · exact d2.A A5 (by omega)
  · rw [jm_up_j _ _ (by decide), jm_up_j _ _ (by decide), jm_up_same]
  · rw [jm_up_j _ _ (by decide), jm_up_same]
  · rw [jm_up_same]
