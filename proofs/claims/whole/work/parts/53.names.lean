/-! ===== names stand apart: a form's name and its rest ===== -/
def jnl (c : Nat) : Nat := [5, 7, 5, 7, 5, 5, 3, 5].getD c 0
def jso (c : Nat) : Nat := [0, 5, 12, 17, 24, 29, 34, 37, 42].getD c 42
def jnm (c : Nat) : List Nat := (jfm c).take (jnl c)
def jrst (c : Nat) : List Nat := (jfm c).drop (jnl c)
theorem jnm_len : ∀ c < 8, (jnm c).length = jnl c := by decide +kernel
theorem jmx_max (a b : Nat) : jmx a b = max a b := by unfold jmx; split <;> omega
theorem jfm_split (c : Nat) : jfm c = jnm c ++ jrst c := (List.take_append_drop _ _).symm
theorem jmt_name {c : Nat} (hc : c < 8) (u : Nat → Nat) (s : Nat) : jmt (jfm c) u s = if jmt (jnm c) u s = jnl c then jnl c + jmt (jrst c) u (s + jnl c) else jmt (jnm c) u s := by
  have h := jmt_app (jnm c) (jrst c) u s
  rw [← jfm_split, jnm_len c hc] at h
  exact h
theorem jnl_b : ∀ c < 8, 3 ≤ jnl c ∧ jnl c < jln c ∧ jnl c ≤ 7 := by decide +kernel
theorem jmt_nle {c : Nat} (hc : c < 8) (u : Nat → Nat) (s : Nat) : jmt (jnm c) u s ≤ jnl c := by
  have := jmt_le (jnm c) u s
  rwa [jnm_len c hc] at this
theorem jft_lit {f x : Nat} (h : jft f x = true) (h1 : f ≠ 66) (h2 : f ≠ 68) (h3 : f ≠ 75) (h4 : f ≠ 83) : x = f := by
  unfold jft at h
  rw [if_neg h1, if_neg h2, if_neg h3, if_neg h4] at h
  exact of_decide_eq_true h
theorem jfm_two {c : Nat} (hc : c < 8) {u : Nat → Nat} {s : Nat} (h : 2 ≤ jmt (jfm c) u s) : u s = (jfm c).getD 0 0 ∧ u (s + 1) = (jfm c).getD 1 0 := by
  have key : ∀ c < 8, jfm c = (jfm c).getD 0 0 :: (jfm c).getD 1 0 :: (jfm c).drop 2 := by decide +kernel
  have k2 : ∀ c < 8, ((jfm c).getD 0 0 ≠ 66 ∧ (jfm c).getD 0 0 ≠ 68 ∧ (jfm c).getD 0 0 ≠ 75 ∧ (jfm c).getD 0 0 ≠ 83) ∧ ((jfm c).getD 1 0 ≠ 66 ∧ (jfm c).getD 1 0 ≠ 68 ∧ (jfm c).getD 1 0 ≠ 75 ∧ (jfm c).getD 1 0 ≠ 83) := by decide +kernel
  obtain ⟨⟨a1, a2, a3, a4⟩, b1, b2, b3, b4⟩ := k2 c hc
  rw [key c hc] at h
  generalize (jfm c).getD 0 0 = f0 at *
  generalize (jfm c).getD 1 0 = f1 at *
  rw [jmt] at h
  by_cases h1 : jft f0 (u s) = true
  · rw [if_pos h1, jmt] at h
    by_cases h2 : jft f1 (u (s + 1)) = true
    · exact ⟨jft_lit h1 a1 a2 a3 a4, jft_lit h2 b1 b2 b3 b4⟩
    · rw [if_neg h2] at h; omega
  · rw [if_neg h1] at h; omega
theorem jfm_apart {c w : Nat} (hc : c < 8) (hw : w < 8) (hne : c ≠ w) {u : Nat → Nat} {s : Nat} (h : 2 ≤ jmt (jfm w) u s) : jmt (jfm c) u s ≤ 1 := by
  have key : ∀ c < 8, ∀ w < 8, c ≠ w → (jfm c).getD 0 0 ≠ (jfm w).getD 0 0 ∨ (jfm c).getD 1 0 ≠ (jfm w).getD 1 0 := by decide +kernel
  rcases Nat.lt_or_ge (jmt (jfm c) u s) 2 with z | z
  · omega
  · exfalso
    obtain ⟨a1, a2⟩ := jfm_two hc z
    obtain ⟨b1, b2⟩ := jfm_two hw h
    rcases key c hc w hw hne with k | k
    · exact k (a1.symm.trans b1)
    · exact k (a2.symm.trans b2)
/-- a name stands there: its command, or none at all -/
theorem jcm_name {w : Nat} (hw : w < 8) {u : Nat → Nat} {s : Nat} (h : jmt (jnm w) u s = jnl w) : (jmt (jfm w) u s = jln w → jcm u s = w) ∧ (jmt (jfm w) u s ≠ jln w → jcm u s = 8 ∧ jlm u s = jmt (jfm w) u s) := by
  have hb := jnl_b w hw
  have h2 : 3 ≤ jmt (jfm w) u s := by rw [jmt_name hw, if_pos h]; omega
  have ha (c : Nat) (hc : c < 8) (hne : c ≠ w) := jfm_apart hc hw hne (u := u) (s := s) (by omega)
  unfold jcm jlm
  simp only [jmx_max]
  rcases (by omega : w = 0 ∨ w = 1 ∨ w = 2 ∨ w = 3 ∨ w = 4 ∨ w = 5 ∨ w = 6 ∨ w = 7) with q | q | q | q | q | q | q | q <;> subst q <;> refine ⟨fun z => ?_, fun z => ?_⟩
  · rw [if_pos (show jmt (jfm 0) u s = 8 from z)]
  · have := ha 1 (by omega) (by omega); have := ha 2 (by omega) (by omega); have := ha 3 (by omega) (by omega); have := ha 4 (by omega) (by omega); have := ha 5 (by omega) (by omega); have := ha 6 (by omega) (by omega); have := ha 7 (by omega) (by omega)
    refine ⟨?_, by omega⟩
    rw [if_neg (show ¬ jmt (jfm 0) u s = 8 from z), if_neg (by omega), if_neg (by omega), if_neg (by omega), if_neg (by omega), if_neg (by omega), if_neg (by omega), if_neg (by omega)]
  · have := ha 0 (by omega) (by omega)
    rw [if_neg (by omega), if_pos (show jmt (jfm 1) u s = 8 from z)]
  · have := ha 0 (by omega) (by omega); have := ha 2 (by omega) (by omega); have := ha 3 (by omega) (by omega); have := ha 4 (by omega) (by omega); have := ha 5 (by omega) (by omega); have := ha 6 (by omega) (by omega); have := ha 7 (by omega) (by omega)
    refine ⟨?_, by omega⟩
    rw [if_neg (by omega), if_neg (show ¬ jmt (jfm 1) u s = 8 from z), if_neg (by omega), if_neg (by omega), if_neg (by omega), if_neg (by omega), if_neg (by omega), if_neg (by omega)]
  · have := ha 0 (by omega) (by omega); have := ha 1 (by omega) (by omega)
    rw [if_neg (by omega), if_neg (by omega), if_pos (show jmt (jfm 2) u s = 8 from z)]
  · have := ha 0 (by omega) (by omega); have := ha 1 (by omega) (by omega); have := ha 3 (by omega) (by omega); have := ha 4 (by omega) (by omega); have := ha 5 (by omega) (by omega); have := ha 6 (by omega) (by omega); have := ha 7 (by omega) (by omega)
    refine ⟨?_, by omega⟩
    rw [if_neg (by omega), if_neg (by omega), if_neg (show ¬ jmt (jfm 2) u s = 8 from z), if_neg (by omega), if_neg (by omega), if_neg (by omega), if_neg (by omega), if_neg (by omega)]
  · have := ha 0 (by omega) (by omega); have := ha 1 (by omega) (by omega); have := ha 2 (by omega) (by omega)
    rw [if_neg (by omega), if_neg (by omega), if_neg (by omega), if_pos (show jmt (jfm 3) u s = 8 from z)]
  · have := ha 0 (by omega) (by omega); have := ha 1 (by omega) (by omega); have := ha 2 (by omega) (by omega); have := ha 4 (by omega) (by omega); have := ha 5 (by omega) (by omega); have := ha 6 (by omega) (by omega); have := ha 7 (by omega) (by omega)
    refine ⟨?_, by omega⟩
    rw [if_neg (by omega), if_neg (by omega), if_neg (by omega), if_neg (show ¬ jmt (jfm 3) u s = 8 from z), if_neg (by omega), if_neg (by omega), if_neg (by omega), if_neg (by omega)]
  · have := ha 0 (by omega) (by omega); have := ha 1 (by omega) (by omega); have := ha 2 (by omega) (by omega); have := ha 3 (by omega) (by omega)
    rw [if_neg (by omega), if_neg (by omega), if_neg (by omega), if_neg (by omega), if_pos (show jmt (jfm 4) u s = 8 from z)]
  · have := ha 0 (by omega) (by omega); have := ha 1 (by omega) (by omega); have := ha 2 (by omega) (by omega); have := ha 3 (by omega) (by omega); have := ha 5 (by omega) (by omega); have := ha 6 (by omega) (by omega); have := ha 7 (by omega) (by omega)
    refine ⟨?_, by omega⟩
    rw [if_neg (by omega), if_neg (by omega), if_neg (by omega), if_neg (by omega), if_neg (show ¬ jmt (jfm 4) u s = 8 from z), if_neg (by omega), if_neg (by omega), if_neg (by omega)]
  · have := ha 0 (by omega) (by omega); have := ha 1 (by omega) (by omega); have := ha 2 (by omega) (by omega); have := ha 3 (by omega) (by omega); have := ha 4 (by omega) (by omega)
    rw [if_neg (by omega), if_neg (by omega), if_neg (by omega), if_neg (by omega), if_neg (by omega), if_pos (show jmt (jfm 5) u s = 8 from z)]
  · have := ha 0 (by omega) (by omega); have := ha 1 (by omega) (by omega); have := ha 2 (by omega) (by omega); have := ha 3 (by omega) (by omega); have := ha 4 (by omega) (by omega); have := ha 6 (by omega) (by omega); have := ha 7 (by omega) (by omega)
    refine ⟨?_, by omega⟩
    rw [if_neg (by omega), if_neg (by omega), if_neg (by omega), if_neg (by omega), if_neg (by omega), if_neg (show ¬ jmt (jfm 5) u s = 8 from z), if_neg (by omega), if_neg (by omega)]
  · have := ha 0 (by omega) (by omega); have := ha 1 (by omega) (by omega); have := ha 2 (by omega) (by omega); have := ha 3 (by omega) (by omega); have := ha 4 (by omega) (by omega); have := ha 5 (by omega) (by omega)
    rw [if_neg (by omega), if_neg (by omega), if_neg (by omega), if_neg (by omega), if_neg (by omega), if_neg (by omega), if_pos (show jmt (jfm 6) u s = 4 from z)]
  · have := ha 0 (by omega) (by omega); have := ha 1 (by omega) (by omega); have := ha 2 (by omega) (by omega); have := ha 3 (by omega) (by omega); have := ha 4 (by omega) (by omega); have := ha 5 (by omega) (by omega); have := ha 7 (by omega) (by omega)
    refine ⟨?_, by omega⟩
    rw [if_neg (by omega), if_neg (by omega), if_neg (by omega), if_neg (by omega), if_neg (by omega), if_neg (by omega), if_neg (show ¬ jmt (jfm 6) u s = 4 from z), if_neg (by omega)]
  · have := ha 0 (by omega) (by omega); have := ha 1 (by omega) (by omega); have := ha 2 (by omega) (by omega); have := ha 3 (by omega) (by omega); have := ha 4 (by omega) (by omega); have := ha 5 (by omega) (by omega); have := ha 6 (by omega) (by omega)
    rw [if_neg (by omega), if_neg (by omega), if_neg (by omega), if_neg (by omega), if_neg (by omega), if_neg (by omega), if_neg (by omega), if_pos (show jmt (jfm 7) u s = 6 from z)]
  · have := ha 0 (by omega) (by omega); have := ha 1 (by omega) (by omega); have := ha 2 (by omega) (by omega); have := ha 3 (by omega) (by omega); have := ha 4 (by omega) (by omega); have := ha 5 (by omega) (by omega); have := ha 6 (by omega) (by omega)
    refine ⟨?_, by omega⟩
    rw [if_neg (by omega), if_neg (by omega), if_neg (by omega), if_neg (by omega), if_neg (by omega), if_neg (by omega), if_neg (by omega), if_neg (show ¬ jmt (jfm 7) u s = 6 from z)]
/-- how far the names go -/
def jfar (u : Nat → Nat) (s : Nat) : Nat := jmx (jmx (jmx (jmx (jmx (jmx (jmx (jmx s (s + jmt (jnm 0) u s)) (s + jmt (jnm 1) u s)) (s + jmt (jnm 2) u s)) (s + jmt (jnm 3) u s)) (s + jmt (jnm 4) u s)) (s + jmt (jnm 5) u s)) (s + jmt (jnm 6) u s)) (s + jmt (jnm 7) u s)
theorem jcm_none {u : Nat → Nat} {s : Nat} (h : ∀ c < 8, jmt (jnm c) u s ≠ jnl c) : jcm u s = 8 ∧ s + jlm u s = jfar u s := by
  have f (c : Nat) (hc : c < 8) : jmt (jfm c) u s = jmt (jnm c) u s ∧ jmt (jnm c) u s < jln c := by
    have h1 := jmt_nle hc u s
    have h2 := jnl_b c hc
    exact ⟨by rw [jmt_name hc, if_neg (h c hc)], by omega⟩
  obtain ⟨f0, g0⟩ := f 0 (by omega)
  obtain ⟨f1, g1⟩ := f 1 (by omega)
  obtain ⟨f2, g2⟩ := f 2 (by omega)
  obtain ⟨f3, g3⟩ := f 3 (by omega)
  obtain ⟨f4, g4⟩ := f 4 (by omega)
  obtain ⟨f5, g5⟩ := f 5 (by omega)
  obtain ⟨f6, g6⟩ := f 6 (by omega)
  obtain ⟨f7, g7⟩ := f 7 (by omega)
  rw [show jln 0 = 8 from rfl] at g0
  rw [show jln 1 = 8 from rfl] at g1
  rw [show jln 2 = 8 from rfl] at g2
  rw [show jln 3 = 8 from rfl] at g3
  rw [show jln 4 = 8 from rfl] at g4
  rw [show jln 5 = 8 from rfl] at g5
  rw [show jln 6 = 4 from rfl] at g6
  rw [show jln 7 = 6 from rfl] at g7
  unfold jcm jlm jfar
  simp only [jmx_max]
  rw [f0, f1, f2, f3, f4, f5, f6, f7]
  refine ⟨?_, by omega⟩
  rw [if_neg (by omega), if_neg (by omega), if_neg (by omega), if_neg (by omega), if_neg (by omega), if_neg (by omega), if_neg (by omega), if_neg (by omega)]
