/-! ===== the law's entry: what the start gives ===== -/
def lw_tm (i : Nat) : Term := [Term.string "DrownedBells$Text" 87, Term.string "DrownedBells$Text" 89, Term.string "DrownedBells$Text" 91, Term.string "DrownedBells$Text" 93, Term.string "DrownedBells$Text" 95, Term.string "DrownedBells$Text" 97, Term.string "DrownedBells$Text" 99, Term.string "DrownedBells$Text" 101, Term.string "DrownedBells$Text" 103, Term.string "DrownedBellsModel" 277].getD i (Term.string "DrownedBells$Text" 87)
def lw_so (i : Nat) : String × Nat := [("DrownedBells$Text", 87), ("DrownedBells$Text", 89), ("DrownedBells$Text", 91), ("DrownedBells$Text", 93), ("DrownedBells$Text", 95), ("DrownedBells$Text", 97), ("DrownedBells$Text", 99), ("DrownedBells$Text", 101), ("DrownedBells$Text", 103), ("DrownedBellsModel", 277)].getD i ("", 0)
theorem lw_tm_so : ∀ i < 10, lw_tm i = Term.string (lw_so i).1 (lw_so i).2 := by
  intro i hi
  rcases (by omega : i = 0 ∨ i = 1 ∨ i = 2 ∨ i = 3 ∨ i = 4 ∨ i = 5 ∨ i = 6 ∨ i = 7 ∨ i = 8 ∨ i = 9) with h | h | h | h | h | h | h | h | h | h <;> subst h <;> rfl
def lw_isS (w : Cond) : Bool := match w with
  | .stringRef C k t => (List.range 10).any (fun i => decide ((lw_so i).1 = C ∧ (lw_so i).2 = k ∧ jb_S.getD i "" = t))
  | _ => true
theorem lw_allS : lw_tbl.all lw_isS = true := by decide +kernel
theorem lw_S_inj : ∀ i < 10, ∀ j < 10, jb_S.getD i "" = jb_S.getD j "" → i = j := by decide +kernel
def lw_isI (c : Nat) (w : Cond) : Bool := match w with
  | .instantiable C _ => decide (C = jb_O c)
  | _ => false
theorem lw_allI : ∀ c < 12, lw_tbl.any (lw_isI c) = true := by decide +kernel
theorem lw_inst {c : Nat} (hc : c < 12) : ∃ n, Cond.instantiable (jb_O c) n ∈ lw_tbl := by
  obtain ⟨w, hw, h⟩ := List.any_eq_true.mp (lw_allI c hc)
  unfold lw_isI at h
  split at h
  · rename_i C n
    rw [of_decide_eq_true h] at hw
    exact ⟨n, hw⟩
  · cases h
theorem lw_entry {s : State} {b : Nat} (hts : ∀ w ∈ lw_tbl, w.before #[Value.ref b] s = true) (hgv : (Jvm.Cond.and given_1 narrow_1).before #[Value.ref b] s = true) : ∃ (D : va_G) (E : ja_E), s.heap.size = E.1 ∧ va_K D jb_cl (ja_tys E) s ∧ ja_R E s s.heap := by
  have hs := flat_of_before _ hgv
  have hA : ∀ a : Nat, a < s.heap.size → ¬ (fun q : Nat => s.heap.size ≤ q) a := fun a h q => by
    have q : s.heap.size ≤ a := q
    omega
  have hW : ∀ w ∈ jb_W, w.before #[Value.ref b] s = true := fun w hw => hts w (List.mem_filter.mp hw).1
  have hcl : ∀ c : Nat, ∃ q : ClassId × (Nat → Nat), c < 12 → u_Kn s (jb_O c) (jb_T c) (jb_N c) q.1 q.2 := by
    intro c
    by_cases hc : c < 12
    · obtain ⟨n, hn⟩ := lw_inst hc
      obtain ⟨cC, iS, h⟩ := u_known hW (jb_C_facts hc).1 (hts _ hn)
      exact ⟨(cC, iS), fun _ => h⟩
    · exact ⟨(0, fun _ => 0), fun h => absurd h hc⟩
  obtain ⟨dq, hd⟩ := Classical.axiomOfChoice hcl
  obtain ⟨cI, kI, compI, i1, i2, i3⟩ := Cond.arrayClass_spec (hW _ jb_arrW)
  have hAO : va_AO "DrownedBells$Village" s := va_AO.of (hts (.arrayOver (.object "DrownedBells$Village")) (by decide +kernel))
  obtain ⟨compV, cV, kV, v1, v2, v3, v4, v5⟩ := Cond.arrayOver_spec (va_AO.use (A := #[]) hAO)
  have hZc : va_Z "java/lang/String" "COMPACT_STRINGS" "Z" (.int 1) (fun q : Nat => s.heap.size ≤ q) s s.heap := va_Zof (hts (.laysStatic "java/lang/String" "COMPACT_STRINGS" "Z") (by decide +kernel)) (hts (.initialized "java/lang/String") (by decide +kernel)) (va_eqt (hs _ (by decide +kernel))) hA
  have hZf := va_Zqof (hts (.laysStatic "jdk/internal/util/Preconditions" "SIOOBE_FORMATTER" "Ljava/util/function/BiFunction;") (by decide +kernel)) (hts (.initialized "jdk/internal/util/Preconditions") (by decide +kernel)) (hs _ (by decide +kernel)) hA
  obtain ⟨adK, adV, hS, hev⟩ := vk_Sof (N := 10) (tm := lw_tm) (len := ja_len) (byt := jb_SB) (args := #[Value.ref b]) (s := s) (A := fun q : Nat => s.heap.size ≤ q) (by decide +kernel)
    (fun i hi => by
      have key : ∀ i < 10, Cond.exactly (lw_tm i) "java/lang/String" ∈ flatC (Jvm.Cond.and given_1 narrow_1) := by decide +kernel
      exact hs _ (key i hi))
    (fun i hi => by
      have key : ∀ i < 10, Cond.eq (.field (lw_tm i) "java/lang/String" "coder" "B") (.int 0) ∈ flatC (Jvm.Cond.and given_1 narrow_1) := by decide +kernel
      exact hs _ (key i hi))
    (fun i hi => by
      have key : ∀ i < 10, Cond.arrayOf (.field (lw_tm i) "java/lang/String" "value" "[B") .byte ∈ flatC (Jvm.Cond.and given_1 narrow_1) := by decide +kernel
      exact hs _ (key i hi))
    (fun i hi => by
      have key : ∀ i < 10, Cond.eq (.length (.field (lw_tm i) "java/lang/String" "value" "[B")) (.int (Int32.ofNat (ja_len.getD i 0))) ∈ flatC (Jvm.Cond.and given_1 narrow_1) := by decide +kernel
      exact hs _ (key i hi))
    (fun i hi j hj => by
      have key : ∀ i < 10, ∀ j < ja_len.getD i 0, Cond.eq (.elem (.field (lw_tm i) "java/lang/String" "value" "[B") (.int (Int32.ofNat j))) (.int ((jb_SB.getD i []).getD j 0)) ∈ flatC (Jvm.Cond.and given_1 narrow_1) := by decide +kernel
      exact hs _ (key i hi j hj))
    (fun i j hi hj hij => by
      have key : ∀ i < 10, ∀ j < 10, i ≠ j → Cond.not (Cond.eq (lw_tm i) (lw_tm j)) ∈ flatC (Jvm.Cond.and given_1 narrow_1) ∨ Cond.not (Cond.eq (lw_tm j) (lw_tm i)) ∈ flatC (Jvm.Cond.and given_1 narrow_1) := by decide +kernel
      rcases key i hi j hj hij with h | h
      · exact Or.inl (hs _ h)
      · exact Or.inr (hs _ h))
    hA
  have main : ∀ fm : Value, va_Z "jdk/internal/util/Preconditions" "SIOOBE_FORMATTER" "Ljava/util/function/BiFunction;" fm (fun q : Nat => s.heap.size ≤ q) s s.heap → (fm = .null ∨ ∃ q, fm = .ref q) → ∃ (D : va_G) (E : ja_E), s.heap.size = E.1 ∧ va_K D jb_cl (ja_tys E) s ∧ ja_R E s s.heap := by
    intro fm hZm hfm
    refine ⟨(fun c => (dq c).1, fun c => (dq c).2), (s.heap.size, adK, adV, fm, cI, cV), rfl, ⟨fun c q hq => ?_, fun k q hq => ?_⟩, hS, fun o x n hn hw => ?_, hZc, hZm, fun w hw hN => ?_, hAO, hfm⟩
    · have hc : c < 12 := by
        have := (List.getElem?_eq_some_iff.mp hq).1
        rwa [show jb_cl.length = 12 from rfl] at this
      have hq2 : q = (jb_O c, jb_T c, jb_N c) := by
        unfold jb_cl at hq
        rw [List.getElem?_map, List.getElem?_range hc] at hq
        exact (Option.some.inj hq).symm
      rw [hq2]
      exact hd c hc
    · match k, hq with
      | 0, hq =>
        cases hq
        exact ⟨fun N z => ⟨fun k h => (by cases h), kI, i2, compI, i3⟩, i1⟩
      | 1, hq =>
        cases hq
        exact ⟨fun N z => ⟨fun k h => (by cases h), kV, v3, compV, v4⟩, kV, compV, v3, v4, v1, v5⟩
      | k + 2, hq => simp [ja_tys] at hq
    · have h1 := List.all_eq_true.mp lw_allS _ hw
      unfold lw_isS at h1
      dsimp only at h1
      obtain ⟨i, hi, h2⟩ := List.any_eq_true.mp h1
      obtain ⟨h3, h4, h5⟩ := of_decide_eq_true h2
      have hi := List.mem_range.mp hi
      have : i = n := lw_S_inj i hi n hn h5
      subst this
      refine vk_R.of (hts _ hw) ?_
      rw [← h3, ← h4, ← lw_tm_so i hi]
      exact hev i hi
    · cases w <;> first | exact absurd hN Bool.false_ne_true | exact va_Nw.of rfl (hts _ hw)
  rcases hZf with h | ⟨t, h⟩
  · exact main .null h (Or.inl rfl)
  · exact main (.ref t) h (Or.inr ⟨t, rfl⟩)
