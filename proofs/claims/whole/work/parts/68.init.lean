/-! ===== the start's state ===== -/
def jw0 : Nat → Nat := fun k => if k = 6 ∨ k = 9 ∨ k = 12 ∨ k = 15 ∨ k = 18 then 1 else 0
def jS0 : jSt := fun a => if a = 0 then jw0 else fun _ => 0
theorem jw0_I : jInv jw0 := by
  refine ⟨⟨?_, by decide +kernel⟩, ⟨by decide +kernel, fun i hi => ?_, fun i j hi => ?_⟩, ⟨by decide +kernel, fun i hi => ?_⟩, ⟨by decide +kernel, fun i hi => ?_⟩⟩
  · have key : ∀ b < 5, 1 ≤ jw0 (6 + 3 * b) ∧ jw0 (6 + 3 * b) ≤ 9 ∧ jw0 (7 + 3 * b) ≤ 9 := by decide +kernel
    exact key
  · exact absurd hi (by have : jw0 0 = 0 := rfl; omega)
  · exact absurd hi (by have : jw0 0 = 0 := rfl; omega)
  · exact absurd hi (by have : jw0 1 = 0 := rfl; omega)
  · exact absurd hi (by have : jw0 2 = 0 := rfl; omega)
theorem jw0_V : jV jm0 1 jw0 := by
  refine ⟨fun _ => 5, ⟨?_, ?_, ?_, ?_, ?_, ?_, ?_, ?_, ?_, ?_, by decide +kernel, by decide +kernel, by decide +kernel⟩, ?_⟩
  all_goals first | exact ⟨by decide +kernel, by decide +kernel, by decide +kernel, by decide +kernel⟩ | skip
  · intro i j hi
    exact absurd hi (by have : jw0 2 = 0 := rfl; omega)
theorem jJC0 : JC jm0 jS0 := by
  refine ⟨jw0_V, ⟨by decide +kernel, 0, by decide, by decide +kernel, fun k hk => absurd hk (Nat.not_lt_zero _)⟩, ⟨by decide +kernel, fun z => absurd rfl z⟩, ⟨?_, ?_, ?_⟩, ⟨fun _ => by decide +kernel, fun z => absurd rfl z⟩, by decide +kernel⟩
  all_goals exact ⟨by decide +kernel, by decide +kernel, by decide +kernel, fun k hk => absurd hk (Nat.not_lt_zero _)⟩
theorem jJM0 : JM jm0 jS0 := by
  refine ⟨?_, ⟨by decide +kernel, fun k j hk => absurd hk (Nat.not_lt_zero _)⟩, ⟨by decide +kernel, fun z => absurd rfl z⟩, ⟨by decide +kernel, fun j hj => absurd hj (Nat.not_lt_zero _)⟩, ⟨by decide +kernel, fun j hj => absurd hj (Nat.not_lt_zero _)⟩, ⟨by decide +kernel, fun j hj => absurd hj (Nat.not_lt_zero _)⟩, ⟨by decide +kernel, fun z => absurd rfl z⟩, by decide +kernel⟩
  have key : ∀ j < 146, jm0 308 j = jI (jw0 j) := by decide +kernel
  exact key
theorem jJI0 : JI jS0 := by
  refine ⟨jw0_I, ⟨by decide, fun k hk => absurd hk (Nat.not_lt_zero _)⟩, ⟨by decide, fun z => absurd rfl z⟩, ⟨by decide, fun k hk => absurd hk (Nat.not_lt_zero _)⟩, ⟨by decide, fun k hk => absurd hk (Nat.not_lt_zero _)⟩, by decide, by decide, by decide, by decide⟩
