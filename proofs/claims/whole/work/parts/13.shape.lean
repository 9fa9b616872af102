/-! ===== the objects behind the constructors: their shape stays, their ints change ===== -/
/-- the ints: object, place -/
abbrev jm_S : Type := Nat → Nat → Int32
def jm_sh : List (Nat × List (Option Nat)) := [(10, [some 1, some 26, some 51, some 76, some 278, some 279, some 282, some 291, some 293, some 295, some 297, some 299, some 301, some 303, some 305, none, none]), (9, [some 2, some 9, some 16, some 21, none, none, none]), (0, [some 3, some 5, some 7]), (6, [some 4, none]), (12, List.replicate 5 none), (6, [some 6, none]), (12, List.replicate 5 none), (6, [some 8, none]), (12, List.replicate 5 none), (1, [some 10, some 12, some 14]), (6, [some 11, none]), (12, List.replicate 8 none), (6, [some 13, none]), (12, List.replicate 8 none), (6, [some 15, none]), (12, List.replicate 8 none), (7, [some 17, some 19]), (6, [some 18, none]), (12, List.replicate 6 none), (6, [some 20, none]), (12, List.replicate 6 none), (4, [some 22, some 24]), (6, [some 23, none]), (12, List.replicate 5 none), (6, [some 25, none]), (12, List.replicate 60 none), (9, [some 27, some 34, some 41, some 46, none, none, none]), (0, [some 28, some 30, some 32]), (6, [some 29, none]), (12, List.replicate 5 none), (6, [some 31, none]), (12, List.replicate 5 none), (6, [some 33, none]), (12, List.replicate 5 none), (1, [some 35, some 37, some 39]), (6, [some 36, none]), (12, List.replicate 8 none), (6, [some 38, none]), (12, List.replicate 8 none), (6, [some 40, none]), (12, List.replicate 8 none), (7, [some 42, some 44]), (6, [some 43, none]), (12, List.replicate 6 none), (6, [some 45, none]), (12, List.replicate 6 none), (4, [some 47, some 49]), (6, [some 48, none]), (12, List.replicate 5 none), (6, [some 50, none]), (12, List.replicate 60 none), (9, [some 52, some 59, some 66, some 71, none, none, none]), (0, [some 53, some 55, some 57]), (6, [some 54, none]), (12, List.replicate 5 none), (6, [some 56, none]), (12, List.replicate 5 none), (6, [some 58, none]), (12, List.replicate 5 none), (1, [some 60, some 62, some 64]), (6, [some 61, none]), (12, List.replicate 8 none), (6, [some 63, none]), (12, List.replicate 8 none), (6, [some 65, none]), (12, List.replicate 8 none), (7, [some 67, some 69]), (6, [some 68, none]), (12, List.replicate 6 none), (6, [some 70, none]), (12, List.replicate 6 none), (4, [some 72, some 74]), (6, [some 73, none]), (12, List.replicate 5 none), (6, [some 75, none]), (12, List.replicate 60 none), (2, [some 77, none, none]), (13, [some 78, some 103, some 128, some 153, some 178, some 203, some 228, some 253]), (9, [some 79, some 86, some 93, some 98, none, none, none]), (0, [some 80, some 82, some 84]), (6, [some 81, none]), (12, List.replicate 5 none), (6, [some 83, none]), (12, List.replicate 5 none), (6, [some 85, none]), (12, List.replicate 5 none), (1, [some 87, some 89, some 91]), (6, [some 88, none]), (12, List.replicate 8 none), (6, [some 90, none]), (12, List.replicate 8 none), (6, [some 92, none]), (12, List.replicate 8 none), (7, [some 94, some 96]), (6, [some 95, none]), (12, List.replicate 6 none), (6, [some 97, none]), (12, List.replicate 6 none), (4, [some 99, some 101]), (6, [some 100, none]), (12, List.replicate 5 none), (6, [some 102, none]), (12, List.replicate 60 none), (9, [some 104, some 111, some 118, some 123, none, none, none]), (0, [some 105, some 107, some 109]), (6, [some 106, none]), (12, List.replicate 5 none), (6, [some 108, none]), (12, List.replicate 5 none), (6, [some 110, none]), (12, List.replicate 5 none), (1, [some 112, some 114, some 116]), (6, [some 113, none]), (12, List.replicate 8 none), (6, [some 115, none]), (12, List.replicate 8 none), (6, [some 117, none]), (12, List.replicate 8 none), (7, [some 119, some 121]), (6, [some 120, none]), (12, List.replicate 6 none), (6, [some 122, none]), (12, List.replicate 6 none), (4, [some 124, some 126]), (6, [some 125, none]), (12, List.replicate 5 none), (6, [some 127, none]), (12, List.replicate 60 none), (9, [some 129, some 136, some 143, some 148, none, none, none]), (0, [some 130, some 132, some 134]), (6, [some 131, none]), (12, List.replicate 5 none), (6, [some 133, none]), (12, List.replicate 5 none), (6, [some 135, none]), (12, List.replicate 5 none), (1, [some 137, some 139, some 141]), (6, [some 138, none]), (12, List.replicate 8 none), (6, [some 140, none]), (12, List.replicate 8 none), (6, [some 142, none]), (12, List.replicate 8 none), (7, [some 144, some 146]), (6, [some 145, none]), (12, List.replicate 6 none), (6, [some 147, none]), (12, List.replicate 6 none), (4, [some 149, some 151]), (6, [some 150, none]), (12, List.replicate 5 none), (6, [some 152, none]), (12, List.replicate 60 none), (9, [some 154, some 161, some 168, some 173, none, none, none]), (0, [some 155, some 157, some 159]), (6, [some 156, none]), (12, List.replicate 5 none), (6, [some 158, none]), (12, List.replicate 5 none), (6, [some 160, none]), (12, List.replicate 5 none), (1, [some 162, some 164, some 166]), (6, [some 163, none]), (12, List.replicate 8 none), (6, [some 165, none]), (12, List.replicate 8 none), (6, [some 167, none]), (12, List.replicate 8 none), (7, [some 169, some 171]), (6, [some 170, none]), (12, List.replicate 6 none), (6, [some 172, none]), (12, List.replicate 6 none), (4, [some 174, some 176]), (6, [some 175, none]), (12, List.replicate 5 none), (6, [some 177, none]), (12, List.replicate 60 none), (9, [some 179, some 186, some 193, some 198, none, none, none]), (0, [some 180, some 182, some 184]), (6, [some 181, none]), (12, List.replicate 5 none), (6, [some 183, none]), (12, List.replicate 5 none), (6, [some 185, none]), (12, List.replicate 5 none), (1, [some 187, some 189, some 191]), (6, [some 188, none]), (12, List.replicate 8 none), (6, [some 190, none]), (12, List.replicate 8 none), (6, [some 192, none]), (12, List.replicate 8 none), (7, [some 194, some 196]), (6, [some 195, none]), (12, List.replicate 6 none), (6, [some 197, none]), (12, List.replicate 6 none), (4, [some 199, some 201]), (6, [some 200, none]), (12, List.replicate 5 none), (6, [some 202, none]), (12, List.replicate 60 none), (9, [some 204, some 211, some 218, some 223, none, none, none]), (0, [some 205, some 207, some 209]), (6, [some 206, none]), (12, List.replicate 5 none), (6, [some 208, none]), (12, List.replicate 5 none), (6, [some 210, none]), (12, List.replicate 5 none), (1, [some 212, some 214, some 216]), (6, [some 213, none]), (12, List.replicate 8 none), (6, [some 215, none]), (12, List.replicate 8 none), (6, [some 217, none]), (12, List.replicate 8 none), (7, [some 219, some 221]), (6, [some 220, none]), (12, List.replicate 6 none), (6, [some 222, none]), (12, List.replicate 6 none), (4, [some 224, some 226]), (6, [some 225, none]), (12, List.replicate 5 none), (6, [some 227, none]), (12, List.replicate 60 none), (9, [some 229, some 236, some 243, some 248, none, none, none]), (0, [some 230, some 232, some 234]), (6, [some 231, none]), (12, List.replicate 5 none), (6, [some 233, none]), (12, List.replicate 5 none), (6, [some 235, none]), (12, List.replicate 5 none), (1, [some 237, some 239, some 241]), (6, [some 238, none]), (12, List.replicate 8 none), (6, [some 240, none]), (12, List.replicate 8 none), (6, [some 242, none]), (12, List.replicate 8 none), (7, [some 244, some 246]), (6, [some 245, none]), (12, List.replicate 6 none), (6, [some 247, none]), (12, List.replicate 6 none), (4, [some 249, some 251]), (6, [some 250, none]), (12, List.replicate 5 none), (6, [some 252, none]), (12, List.replicate 60 none), (9, [some 254, some 261, some 268, some 273, none, none, none]), (0, [some 255, some 257, some 259]), (6, [some 256, none]), (12, List.replicate 5 none), (6, [some 258, none]), (12, List.replicate 5 none), (6, [some 260, none]), (12, List.replicate 5 none), (1, [some 262, some 264, some 266]), (6, [some 263, none]), (12, List.replicate 8 none), (6, [some 265, none]), (12, List.replicate 8 none), (6, [some 267, none]), (12, List.replicate 8 none), (7, [some 269, some 271]), (6, [some 270, none]), (12, List.replicate 6 none), (6, [some 272, none]), (12, List.replicate 6 none), (4, [some 274, some 276]), (6, [some 275, none]), (12, List.replicate 5 none), (6, [some 277, none]), (12, List.replicate 60 none), (5, [none, none, none, none]), (3, [some 280, none]), (6, [some 281, none]), (12, List.replicate 63 none), (8, [some 283, some 285, some 287, some 289]), (6, [some 284, none]), (12, List.replicate 60 none), (6, [some 286, none]), (12, List.replicate 12 none), (6, [some 288, none]), (12, List.replicate 12 none), (6, [some 290, none]), (12, List.replicate 12 none), (6, [some 292, none]), (12, List.replicate 20 none), (6, [some 294, none]), (12, List.replicate 64 none), (6, [some 296, none]), (12, List.replicate 60 none), (6, [some 298, none]), (12, List.replicate 12 none), (6, [some 300, none]), (12, List.replicate 12 none), (6, [some 302, none]), (12, List.replicate 12 none), (6, [some 304, none]), (12, List.replicate 12 none), (6, [some 306, none]), (12, List.replicate 8 none), (11, [some 308, some 309, some 310, some 311, none, none, none, none, none, none, none, some 312, none, some 313, none, some 314, none, none, none, some 315, none, some 316, some 317, some 318, none, some 319, none, none, none, none, some 320]), (12, List.replicate 146 none), (12, List.replicate 146 none), (12, List.replicate 146 none), (12, List.replicate 1168 none), (12, List.replicate 20 none), (12, List.replicate 60 none), (12, List.replicate 80 none), (12, List.replicate 60 none), (12, List.replicate 63 none), (12, List.replicate 63 none), (12, List.replicate 20 none), (12, List.replicate 20 none), (12, List.replicate 120 none)]
def jm_val (σ : jm_S) (r j : Nat) (t : Option Nat) : Value := match t with
  | some x => .ref x
  | none => .int (σ r j)
def jm_hp (σ : jm_S) : jb_H := jm_sh.mapIdx (fun r q => (q.1, q.2.mapIdx (fun j t => jm_val σ r j t)))
def jm_c (r : Nat) : Nat := ((jm_sh[r]?).map (·.1)).getD 99
def jm_f (r b : Nat) : Option (Option Nat) := (jm_sh[r]?).bind (fun q => q.2[b]?)
def jm_ln (r : Nat) : Nat := ((jm_sh[r]?).map (·.2.length)).getD 0
def jm_up (σ : jm_S) (r j : Nat) (x : Int32) : jm_S := fun r' j' => if r' = r ∧ j' = j then x else σ r' j'
theorem jm_up_same (σ : jm_S) (r j : Nat) (x : Int32) : jm_up σ r j x r j = x := by unfold jm_up; rw [if_pos ⟨rfl, rfl⟩]
theorem jm_up_o (σ : jm_S) {r j r' j' : Nat} (x : Int32) (h : r' ≠ r) : jm_up σ r j x r' j' = σ r' j' := by unfold jm_up; rw [if_neg (fun z => h z.1)]
theorem jm_up_j (σ : jm_S) {r j r' j' : Nat} (x : Int32) (h : j' ≠ j) : jm_up σ r j x r' j' = σ r' j' := by unfold jm_up; rw [if_neg (fun z => h z.2)]
theorem jm_hp_len (σ : jm_S) : (jm_hp σ).length = 321 := by
  rw [jm_hp, List.length_mapIdx]
  decide +kernel
theorem jm_hp_at (σ : jm_S) (r : Nat) : (jm_hp σ)[r]? = (jm_sh[r]?).map (fun q => (q.1, q.2.mapIdx (fun j t => jm_val σ r j t))) := by
  rw [jm_hp, List.getElem?_mapIdx]
theorem jm_obj {σ : jm_S} {r c : Nat} (hc : jm_c r = c) (hc2 : c < 99) : ∃ ts, jm_sh[r]? = some (c, ts) ∧ (jm_hp σ)[r]? = some (c, ts.mapIdx (fun j t => jm_val σ r j t)) ∧ jm_ln r = ts.length ∧ (∀ b, jm_f r b = ts[b]?) ∧ r < 1000000 := by
  rw [jm_hp_at]
  unfold jm_c at hc
  cases h : jm_sh[r]? with
  | none => rw [h] at hc; simp at hc; omega
  | some q =>
    rw [h] at hc
    obtain ⟨c', ts⟩ := q
    simp at hc
    subst hc
    have hl := (List.getElem?_eq_some_iff.mp h).1
    have h321 : jm_sh.length = 321 := by decide +kernel
    refine ⟨ts, rfl, rfl, ?_, fun b => ?_, by omega⟩
    · unfold jm_ln; rw [h]; rfl
    · unfold jm_f; rw [h]; rfl
theorem jm_set {σ : jm_S} {r c j : Nat} {ts : List (Option Nat)} {x : Int32} (h : jm_sh[r]? = some (c, ts)) (hj : ts[j]? = some none) : (jm_hp σ).set r (c, (ts.mapIdx (fun j t => jm_val σ r j t)).set j (.int x)) = jm_hp (jm_up σ r j x) := by
  apply List.ext_getElem?
  intro r'
  rw [List.getElem?_set, jm_hp_at, jm_hp_at, jm_hp_len]
  by_cases e : r = r'
  · subst e
    have hl := (List.getElem?_eq_some_iff.mp h).1
    have h321 : jm_sh.length = 321 := by decide +kernel
    rw [if_pos rfl, if_pos (by omega), h]
    simp only [Option.map_some, Option.some.injEq, Prod.mk.injEq, true_and]
    apply List.ext_getElem?
    intro j'
    rw [List.getElem?_set, List.getElem?_mapIdx, List.getElem?_mapIdx, List.length_mapIdx]
    by_cases e : j = j'
    · subst e
      rw [if_pos rfl, if_pos (List.getElem?_eq_some_iff.mp hj).1, hj]
      show _ = some (Value.int (jm_up σ r j x r j))
      rw [jm_up_same]
    · rw [if_neg e]
      cases ts[j']? with
      | none => rfl
      | some t =>
        show some (jm_val σ r j' t) = some (jm_val (jm_up σ r j x) r j' t)
        cases t with
        | some y => rfl
        | none =>
          show some (Value.int _) = some (Value.int _)
          rw [jm_up_j _ _ (Ne.symm e)]
  · rw [if_neg e]
    cases jm_sh[r']? with
    | none => rfl
    | some q =>
      simp only [Option.map_some, Option.some.injEq, Prod.mk.injEq, true_and]
      congr 1
      funext j' t
      cases t with
      | some y => rfl
      | none =>
        show Value.int _ = Value.int _
        rw [jm_up_o _ _ (Ne.symm e)]
/-- an index is in -/
abbrev jx (j : Int32) (n : Nat) : Prop := ¬ (j < 0 ∨ n ≤ j.toNatClampNeg)
/-- arrays of ints have nothing else; the rows, the villages -/
theorem jm_arr {a j : Nat} (hc : jm_c a = 12) (hj : j < jm_ln a) : jm_f a j = some none := by
  have key : ∀ a, a < 321 → jm_c a = 12 → (jm_sh[a]?).map (·.2) = some (List.replicate (jm_ln a) none) := by decide +kernel
  have ha : a < 321 := by
    rcases Nat.lt_or_ge a 321 with z | z
    · exact z
    · exfalso
      have h321 : jm_sh.length = 321 := by decide +kernel
      unfold jm_c at hc
      rw [List.getElem?_eq_none (by omega)] at hc
      simp at hc
  have h := key a ha hc
  obtain ⟨q, h1, h2⟩ := Option.map_eq_some_iff.mp h
  unfold jm_f
  rw [h1]
  show q.2[j]? = _
  rw [h2, List.getElem?_replicate, if_pos hj]
theorem jm_lt {r c : Nat} (hc : jm_c r = c) (h : c < 99) : r < 321 := by
  rcases Nat.lt_or_ge r 321 with z | z
  · exact z
  · exfalso
    have h321 : jm_sh.length = 321 := by decide +kernel
    unfold jm_c at hc
    rw [List.getElem?_eq_none (by omega)] at hc
    simp at hc
    omega
theorem jm_row {r : Nat} (hc : jm_c r = 6) : jm_f r 0 = some (some (r + 1)) ∧ jm_f r 1 = some none ∧ jm_c (r + 1) = 12 := by
  have key : ∀ a, a < 321 → jm_c a = 6 → jm_f a 0 = some (some (a + 1)) ∧ jm_f a 1 = some none ∧ jm_c (a + 1) = 12 := by decide +kernel
  exact key r (jm_lt hc (by omega)) hc
/-- a village's place -/
def jm_V (v : Nat) : Prop := jm_c v = 9
theorem jm_vil {v : Nat} (hc : jm_c v = 9) : (∀ q ∈ [(0, 0, 1), (0, 1, 8), (0, 2, 15), (0, 3, 20), (1, 0, 2), (1, 1, 4), (1, 2, 6), (8, 0, 9), (8, 1, 11), (8, 2, 13), (15, 0, 16), (15, 1, 18), (20, 0, 21), (20, 1, 23)], jm_f (v + q.1) q.2.1 = some (some (v + q.2.2))) ∧ (jm_c (v + 1) = 0 ∧ jm_c (v + 8) = 1 ∧ jm_c (v + 15) = 7 ∧ jm_c (v + 20) = 4) ∧ (∀ k ∈ [2, 4, 6, 9, 11, 13, 16, 18, 21, 23], jm_c (v + k) = 6) ∧ (∀ k ∈ [4, 5, 6], jm_f v k = some none) ∧ (∀ q ∈ [(3, 5), (5, 5), (7, 5), (10, 8), (12, 8), (14, 8), (17, 6), (19, 6), (22, 5), (24, 60)], jm_ln (v + q.1) = q.2) := by
  have key : ∀ a, a < 321 → jm_c a = 9 → ((∀ q ∈ [(0, 0, 1), (0, 1, 8), (0, 2, 15), (0, 3, 20), (1, 0, 2), (1, 1, 4), (1, 2, 6), (8, 0, 9), (8, 1, 11), (8, 2, 13), (15, 0, 16), (15, 1, 18), (20, 0, 21), (20, 1, 23)], jm_f (a + q.1) q.2.1 = some (some (a + q.2.2))) ∧ (jm_c (a + 1) = 0 ∧ jm_c (a + 8) = 1 ∧ jm_c (a + 15) = 7 ∧ jm_c (a + 20) = 4) ∧ (∀ k ∈ [2, 4, 6, 9, 11, 13, 16, 18, 21, 23], jm_c (a + k) = 6) ∧ (∀ k ∈ [4, 5, 6], jm_f a k = some none) ∧ (∀ q ∈ [(3, 5), (5, 5), (7, 5), (10, 8), (12, 8), (14, 8), (17, 6), (19, 6), (22, 5), (24, 60)], jm_ln (a + q.1) = q.2)) := by decide +kernel
  exact key v (jm_lt hc (by omega)) hc
/-! steps -/
section SX
variable {i pc k a b : Nat} {ls st : List Value} {h : jb_H} {σ : jm_S}
theorem sx_of {ins : Instr} {c' : jb_Cfg} (ho : jb_op i pc = some (ins, k, a, b)) (hs : jb_ex (jb_G (jb_ht i)) i ins k a b pc ls st h = some (.inr c')) : jb_Ex i (pc, ls, st, h) = jb_Ex i c' := by
  unfold jb_Ex
  apply jb_to_next
  unfold jb_stp
  dsimp only
  rw [ho]
  exact hs
theorem sx_end {ins : Instr} {r : jb_Res} (ho : jb_op i pc = some (ins, k, a, b)) (hs : jb_ex (jb_G (jb_ht i)) i ins k a b pc ls st h = some (.inl r)) : jb_Ex i (pc, ls, st, h) = some r := by
  unfold jb_Ex
  apply jb_to_ret
  unfold jb_stp
  dsimp only
  rw [ho]
  exact hs
theorem sx_no {ins : Instr} (ho : jb_op i pc = some (ins, k, a, b)) (hs : jb_ex (jb_G (jb_ht i)) i ins k a b pc ls st h = none) : jb_Ex i (pc, ls, st, h) = none := by
  unfold jb_Ex
  apply jb_to_none
  unfold jb_stp
  dsimp only
  rw [ho]
  exact hs
theorem jt_ite {α : Type} {c : Prop} {d : Decidable c} {x y x' y' : α} (h1 : c → x = x') (h2 : ¬ c → y = y') : (if c then x else y) = (if c then x' else y') := by
  by_cases h : c
  · rw [if_pos h, if_pos h, h1 h]
  · rw [if_neg h, if_neg h, h2 h]
theorem sx_const {ins : Instr} {n : Int32} {pc' : Nat} (ho : jb_op i pc = some (ins, k, a, b)) (hs : jb_ex (jb_G (jb_ht i)) i ins k a b pc ls st h = jb_go pc' ls (.int n :: st) h) : jb_Ex i (pc, ls, st, h) = jb_Ex i (pc', ls, .int n :: st, h) := sx_of ho (by rw [hs]; rfl)
theorem sx_iload {n : Nat} {x : Int32} (ho : jb_op i pc = some (.iload n, k, a, b)) (hl : ls[n]? = some (.int x)) : jb_Ex i (pc, ls, st, h) = jb_Ex i (pc + 2, ls, .int x :: st, h) := sx_of ho (by unfold jb_ex; dsimp only; rw [hl]; rfl)
theorem sx_iload_n {n : Fin 4} {x : Int32} (ho : jb_op i pc = some (.iload_n n, k, a, b)) (hl : ls[(n : Nat)]? = some (.int x)) : jb_Ex i (pc, ls, st, h) = jb_Ex i (pc + 1, ls, .int x :: st, h) := sx_of ho (by unfold jb_ex; dsimp only; rw [hl]; rfl)
theorem sx_aload_n {n : Fin 4} {x : Nat} (ho : jb_op i pc = some (.aload_n n, k, a, b)) (hl : ls[(n : Nat)]? = some (.ref x)) : jb_Ex i (pc, ls, st, h) = jb_Ex i (pc + 1, ls, .ref x :: st, h) := sx_of ho (by unfold jb_ex; dsimp only; rw [hl]; rfl)
theorem sx_istore {n : Nat} {x : Int32} {ls' : List Value} (ho : jb_op i pc = some (.istore n, k, a, b)) (hn : n < ls.length) (hl : ls.set n (.int x) = ls') : jb_Ex i (pc, ls, .int x :: st, h) = jb_Ex i (pc + 2, ls', st, h) := sx_of ho (by unfold jb_ex; dsimp only; rw [if_pos hn, hl]; rfl)
theorem sx_istore_n {n : Fin 4} {x : Int32} {ls' : List Value} (ho : jb_op i pc = some (.istore_n n, k, a, b)) (hn : (n : Nat) < ls.length) (hl : ls.set (n : Nat) (.int x) = ls') : jb_Ex i (pc, ls, .int x :: st, h) = jb_Ex i (pc + 1, ls', st, h) := sx_of ho (by unfold jb_ex; dsimp only; rw [if_pos hn, hl]; rfl)
theorem sx_astore_n {n : Fin 4} {x : Nat} {ls' : List Value} (ho : jb_op i pc = some (.astore_n n, k, a, b)) (hn : (n : Nat) < ls.length) (hl : ls.set (n : Nat) (.ref x) = ls') : jb_Ex i (pc, ls, .ref x :: st, h) = jb_Ex i (pc + 1, ls', st, h) := sx_of ho (by unfold jb_ex; dsimp only; rw [if_pos hn, hl]; rfl)
theorem sx_iinc {n : Nat} {d : Int} {x y : Int32} {ls' : List Value} (ho : jb_op i pc = some (.iinc n d, k, a, b)) (hx : ls[n]? = some (.int x)) (hy : Int32.ofInt d = y) (hl : ls.set n (.int (x + y)) = ls') : jb_Ex i (pc, ls, st, h) = jb_Ex i (pc + 3, ls', st, h) := sx_of ho (by unfold jb_ex; dsimp only; rw [hx, hy]; dsimp only; rw [hl]; rfl)
theorem sx_un {ins : Instr} {v w : Value} (ho : jb_op i pc = some (ins, k, a, b)) (hs : jb_ex (jb_G (jb_ht i)) i ins k a b pc ls (v :: st) h = jb_go (pc + 1) ls (w :: st) h) : jb_Ex i (pc, ls, v :: st, h) = jb_Ex i (pc + 1, ls, w :: st, h) := sx_of ho (by rw [hs]; rfl)
theorem sx_bin {ins : Instr} {v u w : Value} (ho : jb_op i pc = some (ins, k, a, b)) (hs : jb_ex (jb_G (jb_ht i)) i ins k a b pc ls (u :: v :: st) h = jb_go (pc + 1) ls (w :: st) h) : jb_Ex i (pc, ls, u :: v :: st, h) = jb_Ex i (pc + 1, ls, w :: st, h) := sx_of ho (by rw [hs]; rfl)
theorem sx_dup {v : Value} (ho : jb_op i pc = some (.dup, k, a, b)) (hv : v.category = 1) : jb_Ex i (pc, ls, v :: st, h) = jb_Ex i (pc + 1, ls, v :: v :: st, h) := sx_of ho (by unfold jb_ex; dsimp only; rw [if_pos hv]; rfl)
theorem sx_dup2 {v w : Value} (ho : jb_op i pc = some (.dup2, k, a, b)) (hv : v.category = 1) (hw : w.category = 1) : jb_Ex i (pc, ls, v :: w :: st, h) = jb_Ex i (pc + 1, ls, v :: w :: v :: w :: st, h) := sx_of ho (by unfold jb_ex; dsimp only; rw [if_pos ⟨hv, hw⟩]; rfl)
theorem sx_pop {v : Value} (ho : jb_op i pc = some (.pop, k, a, b)) (hv : v.category = 1) : jb_Ex i (pc, ls, v :: st, h) = jb_Ex i (pc + 1, ls, st, h) := sx_of ho (by unfold jb_ex; dsimp only; rw [if_pos hv]; rfl)
theorem sx_goto {o : Int} {t : Nat} (ho : jb_op i pc = some (.goto o, k, a, b)) (ht : jb_tg pc o = some t) : jb_Ex i (pc, ls, st, h) = jb_Ex i (t, ls, st, h) := sx_of ho (by unfold jb_ex; dsimp only; rw [ht]; rfl)
theorem sx_br {ins : Instr} {c : Prop} {d : Decidable c} {u v : Nat} {st' : List Value} (ho : jb_op i pc = some (ins, k, a, b)) (hs : jb_ex (jb_G (jb_ht i)) i ins k a b pc ls st h = jb_go (if c then u else v) ls st' h) : jb_Ex i (pc, ls, st, h) = if c then jb_Ex i (u, ls, st', h) else jb_Ex i (v, ls, st', h) := by
  rw [sx_of ho (by rw [hs]; rfl)]
  by_cases hc : c
  · rw [if_pos hc, if_pos hc]
  · rw [if_neg hc, if_neg hc]
theorem sx_ir {x : Int32} {t : FieldType} (ho : jb_op i pc = some (.ireturn, k, a, b)) (hr : jb_ret i = some t) (ht : t = .int ∨ t = .boolean ∨ t = .char ∨ t = .byte) (hn : narrow t (.int x) = .int x) : jb_Ex i (pc, ls, [.int x], h) = some (some (.int x), h) := sx_end ho (by unfold jb_ex; dsimp only; rw [hr]; dsimp only; rw [if_pos ⟨ht, hn⟩])
theorem sx_vr (ho : jb_op i pc = some (.return_, k, a, b)) (hr : jb_ret i = none) : jb_Ex i (pc, ls, [], h) = some (none, h) := sx_end ho (by unfold jb_ex; dsimp only; rw [if_pos hr])
theorem sx_ar {x : Nat} {n : String} (ho : jb_op i pc = some (.areturn, k, a, b)) (hr : jb_ret i = some (.object n)) : jb_Ex i (pc, ls, [.ref x], h) = some (some (.ref x), h) := sx_end ho (by unfold jb_ex; dsimp only; rw [hr])
theorem sx_an {n : String} (ho : jb_op i pc = some (.areturn, k, a, b)) (hr : jb_ret i = some (.object n)) : jb_Ex i (pc, ls, [.null], h) = some (some .null, h) := sx_end ho (by unfold jb_ex; dsimp only; rw [hr])
theorem sx_dr {x : UInt64} (ho : jb_op i pc = some (.dreturn, k, a, b)) (hr : jb_ret i = some .double) : jb_Ex i (pc, ls, [.double x], h) = some (some (.double x), h) := sx_end ho (by unfold jb_ex; dsimp only; rw [if_pos hr])
theorem sx_fr {x : UInt32} (ho : jb_op i pc = some (.freturn, k, a, b)) (hr : jb_ret i = some .float) : jb_Ex i (pc, ls, [.float x], h) = some (some (.float x), h) := sx_end ho (by unfold jb_ex; dsimp only; rw [if_pos hr])
/-- objects -/
theorem sx_gi {y r c f : Nat} (ho : jb_op i pc = some (.getfield y, k, c, f)) (hk : k = 0 ∨ k = 1) (hc : jm_c r = c) (hc2 : c < 99) (hf : jm_f r f = some none) : jb_Ex i (pc, ls, .ref r :: st, jm_hp σ) = jb_Ex i (pc + 3, ls, .int (σ r f) :: st, jm_hp σ) := by
  obtain ⟨ts, h1, h2, h3, h4, h5⟩ := jm_obj (σ := σ) hc hc2
  rw [h4] at hf
  refine sx_of ho ?_
  unfold jb_ex
  dsimp only
  rw [if_pos hk, if_pos h5, h2]
  dsimp only
  rw [if_pos rfl, List.getElem?_mapIdx, hf]
  rfl
theorem sx_gr {y r c f x : Nat} (ho : jb_op i pc = some (.getfield y, k, c, f)) (hk : k = 0 ∨ k = 1) (hc : jm_c r = c) (hc2 : c < 99) (hf : jm_f r f = some (some x)) : jb_Ex i (pc, ls, .ref r :: st, jm_hp σ) = jb_Ex i (pc + 3, ls, .ref x :: st, jm_hp σ) := by
  obtain ⟨ts, h1, h2, h3, h4, h5⟩ := jm_obj (σ := σ) hc hc2
  rw [h4] at hf
  refine sx_of ho ?_
  unfold jb_ex
  dsimp only
  rw [if_pos hk, if_pos h5, h2]
  dsimp only
  rw [if_pos rfl, List.getElem?_mapIdx, hf]
  rfl
theorem sx_pi {y r c f : Nat} {x : Int32} (ho : jb_op i pc = some (.putfield y, k, c, f)) (hk : k = 0 ∨ k = 1) (hc : jm_c r = c) (hc2 : c < 99) (hf : jm_f r f = some none) (hn : narrow (jb_Ty c f) (.int x) = .int x) (hfit : fits (jb_Ty c f) (.int x) = true) (hfin : (jb_T c f).2.2.2 = false) : jb_Ex i (pc, ls, .int x :: .ref r :: st, jm_hp σ) = jb_Ex i (pc + 3, ls, st, jm_hp (jm_up σ r f x)) := by
  obtain ⟨ts, h1, h2, h3, h4, h5⟩ := jm_obj (σ := σ) hc hc2
  rw [h4] at hf
  refine sx_of ho ?_
  unfold jb_ex
  dsimp only
  rw [if_pos ⟨hk, h5⟩, h2]
  dsimp only
  rw [if_pos ⟨rfl, by rw [List.length_mapIdx]; exact (List.getElem?_eq_some_iff.mp hf).1, hn, hfit, Or.inl hfin⟩, jm_set h1 hf]
  rfl
theorem sx_al {r : Nat} {j : Int32} (ho : jb_op i pc = some (.iaload, k, a, b)) (hc : jm_c r = 12) : jb_Ex i (pc, ls, .int j :: .ref r :: st, jm_hp σ) = if jx j (jm_ln r) then jb_Ex i (pc + 1, ls, .int (σ r j.toNatClampNeg) :: st, jm_hp σ) else none := by
  obtain ⟨ts, h1, h2, h3, h4, h5⟩ := jm_obj (σ := σ) hc (by omega)
  by_cases hj : jx j (jm_ln r)
  · rw [if_pos hj]
    refine sx_of ho ?_
    have hlt : j.toNatClampNeg < jm_ln r := Nat.not_le.mp (fun q => hj (Or.inr q))
    have hf := jm_arr hc hlt
    rw [h4] at hf
    unfold jb_ex
    dsimp only
    rw [if_pos h5, h2]
    dsimp only
    rw [if_pos ⟨rfl, by rw [List.length_mapIdx, ← h3]; exact hj⟩, List.getElem?_mapIdx, hf]
    rfl
  · rw [if_neg hj]
    refine sx_no ho ?_
    unfold jb_ex
    dsimp only
    rw [if_pos h5, h2]
    dsimp only
    rw [if_neg (fun z => hj (by rw [h3, ← List.length_mapIdx (f := fun j t => jm_val σ r j t)]; exact z.2))]
theorem sx_as {r : Nat} {j x : Int32} (ho : jb_op i pc = some (.iastore, k, a, b)) (hc : jm_c r = 12) : jb_Ex i (pc, ls, .int x :: .int j :: .ref r :: st, jm_hp σ) = if jx j (jm_ln r) then jb_Ex i (pc + 1, ls, st, jm_hp (jm_up σ r j.toNatClampNeg x)) else none := by
  obtain ⟨ts, h1, h2, h3, h4, h5⟩ := jm_obj (σ := σ) hc (by omega)
  by_cases hj : jx j (jm_ln r)
  · rw [if_pos hj]
    refine sx_of ho ?_
    have hlt : j.toNatClampNeg < jm_ln r := Nat.not_le.mp (fun q => hj (Or.inr q))
    have hf := jm_arr hc hlt
    rw [h4] at hf
    unfold jb_ex
    dsimp only
    rw [if_pos h5, h2]
    dsimp only
    rw [if_pos ⟨rfl, by rw [List.length_mapIdx, ← h3]; exact hj⟩, jm_set h1 hf]
    rfl
  · rw [if_neg hj]
    refine sx_no ho ?_
    unfold jb_ex
    dsimp only
    rw [if_pos h5, h2]
    dsimp only
    rw [if_neg (fun z => hj (by rw [h3, ← List.length_mapIdx (f := fun j t => jm_val σ r j t)]; exact z.2))]
theorem sx_len {r : Nat} (ho : jb_op i pc = some (.arraylength, k, a, b)) (hc : jm_c r = 12 ∨ jm_c r = 13) : jb_Ex i (pc, ls, .ref r :: st, jm_hp σ) = jb_Ex i (pc + 1, ls, .int (Int32.ofNat (jm_ln r)) :: st, jm_hp σ) := by
  obtain ⟨ts, h1, h2, h3, h4, h5⟩ := jm_obj (σ := σ) (r := r) rfl (by omega)
  refine sx_of ho ?_
  unfold jb_ex
  dsimp only
  rw [if_pos h5, h2]
  dsimp only
  rw [if_pos hc, List.length_mapIdx, ← h3]
  rfl
theorem jm_arq : jm_c 77 = 13 ∧ jm_ln 77 = 8 ∧ ∀ j, j < 8 → jm_f 77 j = some (some (78 + 25 * j)) := by decide +kernel
theorem sx_aq {j : Int32} (ho : jb_op i pc = some (.aaload, k, a, b)) : jb_Ex i (pc, ls, .int j :: .ref (77 : Nat) :: st, jm_hp σ) = if jx j 8 then jb_Ex i (pc + 1, ls, .ref (78 + 25 * j.toNatClampNeg : Nat) :: st, jm_hp σ) else none := by
  obtain ⟨ts, h1, h2, h3, h4, h5⟩ := jm_obj (σ := σ) jm_arq.1 (by omega)
  have h8 := jm_arq.2.1
  by_cases hj : jx j 8
  · rw [if_pos hj]
    refine sx_of ho ?_
    have hlt : j.toNatClampNeg < 8 := Nat.not_le.mp (fun q => hj (Or.inr q))
    have hf := jm_arq.2.2 _ hlt
    rw [h4] at hf
    unfold jb_ex
    dsimp only
    rw [if_pos (by omega), h2]
    dsimp only
    rw [if_pos ⟨rfl, by rw [List.length_mapIdx, ← h3, h8]; exact hj⟩, List.getElem?_mapIdx, hf]
    dsimp only [Option.map_some, jm_val]
    rw [if_pos (show 78 + 25 * j.toNatClampNeg < 1000000 by omega)]
    rfl
  · rw [if_neg hj]
    refine sx_no ho ?_
    unfold jb_ex
    dsimp only
    rw [if_pos (by omega), h2]
    dsimp only
    rw [if_neg (fun z => hj (by rw [← h8, h3, ← List.length_mapIdx (f := fun j t => jm_val σ 77 j t)]; exact z.2))]
/-! calls -/
def jb_K (q : Option jb_Res) (f : Option Value → jb_H → Option jb_Res) : Option jb_Res := match q with
  | some (v, h) => f v h
  | none => none
theorem jb_K_some (v : Option Value) (h : jb_H) (f : Option Value → jb_H → Option jb_Res) : jb_K (some (v, h)) f = f v h := rfl
theorem sx_iv {ins : Instr} {r : Nat} {as rest st : List Value} (ho : jb_op i pc = some (ins, k, a, b)) (hi : (∃ y, ins = .invokevirtual y ∧ (k = 2 ∨ k = 3)) ∨ (∃ y, ins = .invokespecial y ∧ (k = 6 ∨ k = 7))) (ht : jb_ht a < jb_ht i) (hst : as.reverse ++ .ref r :: rest = st) (hb : as.length = b) (hr : jb_recv h r (jb_ow a) = true) (hs : jb_sum rest ≤ 8) : jb_Ex i (pc, ls, st, h) = jb_K (jb_Ev a (.ref r :: as) h) (fun v h' => jb_Ex i (pc + 3, ls, v.toList ++ rest, h')) := by
  subst hst
  have e : jb_ex (jb_G (jb_ht i)) i ins k a b pc ls (as.reverse ++ .ref r :: rest) h = match jb_Ev a (.ref r :: as) h with
      | some (v, h') => jb_go (pc + 3) ls (v.toList ++ rest) h'
      | none => none := by
    have hd : (as.reverse ++ .ref r :: rest).drop b = .ref r :: rest := by rw [← hb, ← List.length_reverse, List.drop_left]
    have htk : (as.reverse ++ Value.ref r :: rest).take b = as.reverse := by rw [← hb, ← List.length_reverse, List.take_left]
    have e2 : jb_invV (jb_G (jb_ht i)) pc a b ls (as.reverse ++ .ref r :: rest) h = match jb_Ev a (.ref r :: as) h with
        | some (v, h') => jb_go (pc + 3) ls (v.toList ++ rest) h'
        | none => none := by
      unfold jb_invV
      rw [if_pos (by rw [List.length_append, List.length_reverse]; omega), hd]
      dsimp only
      rw [if_pos ⟨hr, hs⟩, htk, List.reverse_reverse, jb_G_low ht]
      cases jb_Ev a (.ref r :: as) h with
      | none => rfl
      | some q => rfl
    rcases hi with ⟨y, rfl, hk⟩ | ⟨y, rfl, hk⟩
    · unfold jb_ex
      dsimp only
      rw [if_pos hk, e2]
    · unfold jb_ex
      dsimp only
      rw [if_pos hk, e2]
  cases hq : jb_Ev a (.ref r :: as) h with
  | none =>
    rw [hq] at e
    exact sx_no ho e
  | some q =>
    rw [hq] at e
    exact sx_of ho e
theorem sx_is {y : Nat} {as rest st : List Value} (ho : jb_op i pc = some (.invokestatic y, k, a, b)) (hk : k = 4 ∨ k = 5) (ht : jb_ht a < jb_ht i) (hst : as.reverse ++ rest = st) (hb : as.length = b) (hs : jb_sum rest ≤ 8) : jb_Ex i (pc, ls, st, h) = jb_K (jb_Ev a as h) (fun v h' => jb_Ex i (pc + 3, ls, v.toList ++ rest, h')) := by
  subst hst
  have hd : (as.reverse ++ rest).drop b = rest := by rw [← hb, ← List.length_reverse, List.drop_left]
  have htk : (as.reverse ++ rest).take b = as.reverse := by rw [← hb, ← List.length_reverse, List.take_left]
  have e : jb_ex (jb_G (jb_ht i)) i (.invokestatic y) k a b pc ls (as.reverse ++ rest) h = match jb_Ev a as h with
      | some (v, h') => jb_go (pc + 3) ls (v.toList ++ rest) h'
      | none => none := by
    unfold jb_ex
    dsimp only
    rw [if_pos hk]
    unfold jb_invS
    rw [if_pos ⟨by rw [List.length_append, List.length_reverse]; omega, by rw [hd]; exact hs⟩, hd, htk, List.reverse_reverse, jb_G_low ht]
    cases jb_Ev a as h with
    | none => rfl
    | some q => rfl
  cases hq : jb_Ev a as h with
  | none =>
    rw [hq] at e
    exact sx_no ho e
  | some q =>
    rw [hq] at e
    exact sx_of ho e
theorem jm_recv {r o : Nat} (hc : jm_c r = o) (ho : o < 12) : jb_recv (jm_hp σ) r o = true := by
  obtain ⟨ts, h1, h2, h3, h4, h5⟩ := jm_obj (σ := σ) hc (by omega)
  unfold jb_recv
  rw [if_neg (by omega), h2]
  simp [ho, h5]
theorem js_recv {r : Nat} (hr : 1000000 ≤ r ∧ r < 1000010) : jb_recv h r 13 = true := by
  unfold jb_recv
  rw [if_pos rfl]
  exact decide_eq_true hr
theorem sx_m2 {y : Nat} {u v : Int32} {w : Int32} (ho : jb_op i pc = some (.invokestatic y, 15, a, b)) (ha : a ≠ 2) (hw : (if a = 0 then (if u < v then v else u) else (if v < u then v else u)) = w) (hs : jb_sum st ≤ 8) : jb_Ex i (pc, ls, .int v :: .int u :: st, h) = jb_Ex i (pc + 3, ls, .int w :: st, h) := by
  refine sx_of ho ?_
  unfold jb_ex
  dsimp only
  rw [if_neg (by omega), if_pos rfl, if_neg ha, if_pos hs, hw]
  rfl
theorem sx_m1 {y : Nat} {v : Int32} (ho : jb_op i pc = some (.invokestatic y, 15, 2, b)) (hs : jb_sum st ≤ 8) : jb_Ex i (pc, ls, .int v :: st, h) = jb_Ex i (pc + 3, ls, .int (if 0 ≤ v then v else 0 - v) :: st, h) := by
  refine sx_of ho ?_
  unfold jb_ex
  dsimp only
  rw [if_neg (by omega), if_pos rfl, if_pos rfl, if_pos hs]
  rfl
theorem sx_ldc {y s : Nat} (ho : jb_op i pc = some (.ldc y, 11, s, b)) : jb_Ex i (pc, ls, st, h) = jb_Ex i (pc + 2, ls, .ref (1000000 + s) :: st, h) := by
  refine sx_of ho ?_
  unfold jb_ex
  dsimp only
  rw [if_pos rfl]
  rfl
theorem sx_ldcw {y s : Nat} (ho : jb_op i pc = some (.ldc_w y, 11, s, b)) : jb_Ex i (pc, ls, st, h) = jb_Ex i (pc + 3, ls, .ref (1000000 + s) :: st, h) := by
  refine sx_of ho ?_
  unfold jb_ex
  dsimp only
  rw [if_pos rfl]
  rfl
theorem sx_null (ho : jb_op i pc = some (.aconst_null, k, a, b)) : jb_Ex i (pc, ls, st, h) = jb_Ex i (pc + 1, ls, .null :: st, h) := sx_of ho (by unfold jb_ex; rfl)
theorem sx_nn {o : Int} {x t : Nat} (ho : jb_op i pc = some (.ifnonnull o, k, a, b)) (hx : x < 1000000) (ht : jb_tg pc o = some t) : jb_Ex i (pc, ls, .ref x :: st, h) = jb_Ex i (t, ls, st, h) := by
  refine sx_of ho ?_
  unfold jb_ex
  dsimp only
  rw [ht]
  dsimp only
  rw [if_pos hx]
  rfl
theorem sx_tab {d lo hi : Int} {offs : Array Int} {x : Int32} {o : Int} {t : Nat} (ho : jb_op i pc = some (.tableswitch d lo hi offs, k, a, b)) (hx : ¬ (x.toInt < lo ∨ hi < x.toInt)) (hof : offs[(x.toInt - lo).toNat]? = some o) (ht : jb_tg pc o = some t) : jb_Ex i (pc, ls, .int x :: st, h) = jb_Ex i (t, ls, st, h) := by
  refine sx_of ho ?_
  unfold jb_ex
  dsimp only
  rw [if_neg hx, hof]
  dsimp only
  rw [ht]
  rfl
theorem sx_tad {d lo hi : Int} {offs : Array Int} {x : Int32} {t : Nat} (ho : jb_op i pc = some (.tableswitch d lo hi offs, k, a, b)) (hx : x.toInt < lo ∨ hi < x.toInt) (ht : jb_tg pc d = some t) : jb_Ex i (pc, ls, .int x :: st, h) = jb_Ex i (t, ls, st, h) := by
  refine sx_of ho ?_
  unfold jb_ex
  dsimp only
  rw [if_pos hx, ht]
  rfl
theorem sx_lk {d : Int} {ps : Array (Int × Int)} {x : Int32} {o : Int} {t : Nat} (ho : jb_op i pc = some (.lookupswitch d ps, k, a, b)) (hp : (ps.toList.zip (ps.toList.drop 1)).all (fun q => q.1.1 < q.2.1) = true) (hof : Op.lookupswitch.offset ps.toList d x.toInt = o) (ht : jb_tg pc o = some t) : jb_Ex i (pc, ls, .int x :: st, h) = jb_Ex i (t, ls, st, h) := by
  refine sx_of ho ?_
  unfold jb_ex
  dsimp only
  rw [if_pos hp, hof, ht]
  rfl
theorem sx_toInt {x : Int32} {c : Int32} {n : Int} (h : ¬ x = c) (hn : c.toInt = n) : x.toInt ≠ n := fun z => h (Int32.toInt_inj.mp (z.trans hn.symm))
theorem sx_if {α : Type} {c : Prop} {d : Decidable c} {x y z : α} (h1 : c → z = x) (h2 : ¬ c → z = y) : z = if c then x else y := by
  by_cases h : c
  · rw [if_pos h]; exact h1 h
  · rw [if_neg h]; exact h2 h
theorem sx_ent {i : Nat} {as : List Value} {h : jb_H} {ls : List Value} (hl : as ++ List.replicate (jb_ml i - as.length) (.retAddr 0) = ls) (h1 : as.length ≤ jb_ml i) (h2 : as.all (fun v => v.category == 1) = true) : jb_Ev i as h = jb_Ex i (0, ls, [], h) := by
  rw [jb_Ev_eq ⟨h1, h2⟩, jb_entry, hl]
end SX
