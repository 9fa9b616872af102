/-! ===== the small machine's objects, values and locals, and the machine's ===== -/
/-- base, the texts' addresses, their bytes', the formatter, the ids of the two array classes -/
abbrev ja_E : Type := Nat × (Nat → Nat) × (Nat → Nat) × Value × ClassId × ClassId
def ja_ad (E : ja_E) (r : Nat) : Nat := if r < 1000000 then E.1 + r else if r < 1000100 then E.2.1 (r - 1000000) else E.2.2.1 (r - 1000100)
def ja_v (E : ja_E) (v : Value) : Value := match v with
  | .ref r => if r = 1000200 then E.2.2.2.1 else .ref (ja_ad E r)
  | v => v
def ja_fok (E : ja_E) : Prop := E.2.2.2.1 = .null ∨ ∃ q, E.2.2.2.1 = .ref q
theorem ja_v_int (E : ja_E) (x : Int32) : ja_v E (.int x) = .int x := rfl
theorem ja_v_null (E : ja_E) : ja_v E .null = .null := rfl
theorem ja_v_ref (E : ja_E) {r : Nat} (h : r ≠ 1000200) : ja_v E (.ref r) = .ref (ja_ad E r) := by
  show (if r = 1000200 then _ else _) = _
  rw [if_neg h]
theorem ja_v_low (E : ja_E) {r : Nat} (h : r < 1000000) : ja_v E (.ref r) = .ref (E.1 + r) := by
  rw [ja_v_ref E (by omega), ja_ad, if_pos h]
theorem ja_v_refs {E : ja_E} (hf : ja_fok E) (r : Nat) : ja_v E (.ref r) = .null ∨ ∃ q, ja_v E (.ref r) = .ref q := by
  by_cases h : r = 1000200
  · subst h
    exact hf
  · exact Or.inr ⟨_, ja_v_ref E h⟩
theorem ja_v_cat {E : ja_E} (hf : ja_fok E) (v : Value) : (ja_v E v).category = v.category := by
  cases v with
  | ref r => rcases ja_v_refs hf r with h | ⟨q, h⟩ <;> rw [h] <;> rfl
  | _ => rfl
theorem ja_sum {E : ja_E} (hf : ja_fok E) (st : List Value) : ((st.map (ja_v E)).map fun v => v.category).sum = jb_sum st := by
  rw [List.map_map, jb_sum]
  congr 1
  apply List.map_congr_left
  intro v _
  exact ja_v_cat hf v
/-! locals -/
def ja_L (E : ja_E) (ls : List Value) (lm : Array Slot) : Prop := lm.size = ls.length ∧ lv_wf lm ∧ (∀ (k : Nat) (v : Value), ls[k]? = some v → v.category = 1 ∧ (v ≠ .retAddr 0 → lm[k]? = some (.val (ja_v E v))))
theorem ja_L.at {E : ja_E} {ls : List Value} {lm : Array Slot} (h : ja_L E ls lm) {k : Nat} {v : Value} (hk : ls[k]? = some v) (hv : v ≠ .retAddr 0) : lm[k]? = some (.val (ja_v E v)) := (h.2.2 k v hk).2 hv
def ja_prs (E : ja_E) (ls : List Value) : List (Nat × Value) := (List.range ls.length).filterMap (fun k => match ls[k]? with
  | some v => if v = .retAddr 0 then none else some (k, ja_v E v)
  | none => none)
theorem ja_prs_mem {E : ja_E} {ls : List Value} {q : Nat × Value} : q ∈ ja_prs E ls ↔ ∃ v, ls[q.1]? = some v ∧ v ≠ .retAddr 0 ∧ q.2 = ja_v E v := by
  unfold ja_prs
  rw [List.mem_filterMap]
  constructor
  · rintro ⟨k, -, hk⟩
    cases hv : ls[k]? with
    | none => rw [hv] at hk; cases hk
    | some v =>
      rw [hv] at hk
      by_cases h0 : v = .retAddr 0
      · simp [h0] at hk
      · simp only [h0, if_false] at hk
        cases hk
        exact ⟨v, hv, h0, rfl⟩
  · rintro ⟨v, hv, h0, h1⟩
    refine ⟨q.1, List.mem_range.mpr (List.getElem?_eq_some_iff.mp hv).1, ?_⟩
    rw [hv]
    simp only [h0, if_false]
    rw [← h1]
theorem ja_L.has {E : ja_E} {ls : List Value} {lm : Array Slot} (h : ja_L E ls lm) : lv_has lm ls.length (ja_prs E ls) := by
  refine ⟨h.1, h.2.1, fun q hq => ?_⟩
  obtain ⟨v, hv, h0, h1⟩ := ja_prs_mem.mp hq
  rw [h1]
  exact h.at hv h0
theorem ja_L.set {E : ja_E} (hf : ja_fok E) {ls : List Value} {lm lm' : Array Slot} {n : Nat} {x : Value} (h : ja_L E ls lm) (hx : x.category = 1) (hn : n < ls.length) (h' : lv_has lm' ls.length ((n, ja_v E x) :: (ja_prs E ls).filter (fun q => !(q.1 == n) && !(q.1 + 1 == n && q.2.category == 2)))) : ja_L E (ls.set n x) lm' := by
  refine ⟨by rw [List.length_set]; exact h'.1, h'.2.1, fun k v hk => ?_⟩
  rw [List.getElem?_set] at hk
  by_cases e : n = k
  · subst e
    rw [if_pos rfl, if_pos hn] at hk
    cases hk
    exact ⟨hx, fun _ => h'.2.2 (n, ja_v E x) List.mem_cons_self⟩
  · rw [if_neg e] at hk
    refine ⟨(h.2.2 k v hk).1, fun h0 => h'.2.2 (k, ja_v E v) (List.mem_cons_of_mem _ (List.mem_filter.mpr ⟨ja_prs_mem.mpr ⟨v, hk, h0, rfl⟩, ?_⟩))⟩
    have hc : (ja_v E v).category = 1 := by rw [ja_v_cat hf]; exact (h.2.2 k v hk).1
    simp [hc, Ne.symm e]
/-! objects -/
def ja_ent (E : ja_E) (q : Nat × List Value) : va_E :=
  if q.1 = 12 then .inl (E.2.2.2.2.1, q.2.length, .inl (fun j => match q.2[j]? with
    | some (.int x) => x
    | _ => 0))
  else if q.1 = 13 then .inl (E.2.2.2.2.2, q.2.length, .inr (.inr (.inr (.inr (fun j => match q.2[j]? with
    | some (.ref r) => some (E.1 + r)
    | _ => none)))))
  else .inr (q.1, q.2.map (ja_v E))
def ja_w (E : ja_E) (h : jb_H) : va_W := h.mapIdx (fun k q => (E.1 + k, ja_ent E q))
theorem ja_w_get {E : ja_E} {h : jb_H} (k : Nat) : (ja_w E h)[k]? = (h[k]?).map (fun q => (E.1 + k, ja_ent E q)) := by
  rw [ja_w, List.getElem?_mapIdx]
theorem ja_w_len {E : ja_E} {h : jb_H} : (ja_w E h).length = h.length := by rw [ja_w, List.length_mapIdx]
theorem ja_w_set {E : ja_E} {h : jb_H} {k : Nat} {q : Nat × List Value} : ja_w E (h.set k q) = (ja_w E h).set k (E.1 + k, ja_ent E q) := by
  apply List.ext_getElem?
  intro j
  rw [ja_w_get, List.getElem?_set, List.getElem?_set, ja_w_get, ja_w_len]
  by_cases e : k = j
  · subst e
    rw [if_pos rfl, if_pos rfl]
    by_cases hl : k < h.length
    · rw [if_pos hl, if_pos hl]; rfl
    · rw [if_neg hl, if_neg hl]; rfl
  · rw [if_neg e, if_neg e]
theorem ja_w_app {E : ja_E} {h : jb_H} {q : Nat × List Value} : ja_w E (h ++ [q]) = ja_w E h ++ [(E.1 + h.length, ja_ent E q)] := by
  simp [ja_w, List.mapIdx_append]
def ja_A (E : ja_E) : Nat → Prop := fun q => E.1 ≤ q
theorem ja_w_D {E : ja_E} {h : jb_H} : va_D (ja_A E) (ja_w E h) := by
  refine ⟨fun i j p q hp hq e => ?_, fun k q hq => ?_⟩
  · rw [ja_w_get] at hp hq
    cases h1 : h[i]? with
    | none => rw [h1] at hp; cases hp
    | some a =>
      cases h2 : h[j]? with
      | none => rw [h2] at hq; cases hq
      | some b =>
        rw [h1] at hp
        rw [h2] at hq
        cases hp
        cases hq
        have e : E.1 + i = E.1 + j := e
        omega
  · rw [ja_w_get] at hq
    cases h1 : h[k]? with
    | none => rw [h1] at hq; cases hq
    | some a =>
      rw [h1] at hq
      cases hq
      exact Nat.le_add_right _ _
/-- the world of the small machine's objects -/
def ja_J (E : ja_E) (D : va_G) (h : jb_H) (H : Heap) : Prop := va_P D jb_cl (ja_w E h) H ∧ H.size = E.1 + h.length
def ja_tys (E : ja_E) : List (ClassId × FieldType) := [(E.2.2.2.2.1, .int), (E.2.2.2.2.2, .object "DrownedBells$Village")]
def ja_len : List Nat := jb_SB.map List.length
def ja_nest (w : Cond) : Bool := match w with
  | .fieldLinkNest .. => true
  | .methodLinkNest .. => true
  | _ => false
/-- what is only read: texts, two statics, the words that a nest mate's members want -/
def ja_R (E : ja_E) (U : State) (H : Heap) : Prop :=
  vk_S 10 ja_len jb_SB E.2.1 E.2.2.1 (ja_A E) U H ∧ (∀ o x n, n < 10 → Cond.stringRef (jb_O o) x (jb_S.getD n "") ∈ lw_tbl → vk_R (jb_O o) x (jb_S.getD n "") (E.2.1 n) U) ∧
  va_Z "java/lang/String" "COMPACT_STRINGS" "Z" (.int 1) (ja_A E) U H ∧ va_Z "jdk/internal/util/Preconditions" "SIOOBE_FORMATTER" "Ljava/util/function/BiFunction;" E.2.2.2.1 (ja_A E) U H ∧
  (∀ w ∈ lw_tbl, ja_nest w = true → va_Nw w U) ∧ va_AO "DrownedBells$Village" U ∧ ja_fok E
/-- how many slots -/
def ja_tot (h : jb_H) : Nat := (h.map (fun q => q.2.length)).sum
theorem ja_tot_app (h : jb_H) (q : Nat × List Value) : ja_tot (h ++ [q]) = ja_tot h + q.2.length := by simp [ja_tot]
theorem ja_tot_set {h : jb_H} {k c c' : Nat} {fs fs' : List Value} (hk : h[k]? = some (c, fs)) (hl : fs'.length = fs.length) : ja_tot (h.set k (c', fs')) = ja_tot h := by
  have e : (h.set k (c', fs')).map (fun q => q.2.length) = h.map (fun q => q.2.length) := by
    apply List.ext_getElem?
    intro j
    rw [List.getElem?_map, List.getElem?_map, List.getElem?_set]
    by_cases e : k = j
    · subst e
      rw [if_pos rfl, if_pos (List.getElem?_eq_some_iff.mp hk).1, hk]
      simp [hl]
    · rw [if_neg e]
  rw [ja_tot, e, ja_tot]
/-! the table's facts, of one instruction -/
theorem ja_lookup {α : Type} {pc : Nat} {b : α} : ∀ {l : List (Nat × α)}, l.lookup pc = some b → (pc, b) ∈ l
  | [], h => by cases h
  | (a, c) :: l, h => by
    rw [List.lookup_cons] at h
    by_cases e : pc = a
    · subst e
      simp at h
      subst h
      exact List.mem_cons_self
    · have e' : (pc == a) = false := by simp [e]
      rw [e'] at h
      exact List.mem_cons_of_mem _ (ja_lookup h)
theorem jb_okI_at {i : Nat} (hi : i < 248) : jb_okIs i = true := by
  have key : ∀ (a : Nat), (List.range' a 31).all jb_okIs = true → a ≤ i → i < a + 31 → jb_okIs i = true := by
    intro a h h1 h2
    exact List.all_eq_true.mp h i (List.mem_range'_1.mpr ⟨h1, h2⟩)
  rcases (show i < 31 ∨ (31 ≤ i ∧ i < 62) ∨ (62 ≤ i ∧ i < 93) ∨ (93 ≤ i ∧ i < 124) ∨ (124 ≤ i ∧ i < 155) ∨ (155 ≤ i ∧ i < 186) ∨ (186 ≤ i ∧ i < 217) ∨ (217 ≤ i ∧ i < 248) by omega) with h | h | h | h | h | h | h | h
  · exact key 0 jb_okI_0 (by omega) (by omega)
  · exact key 31 jb_okI_1 h.1 h.2
  · exact key 62 jb_okI_2 h.1 h.2
  · exact key 93 jb_okI_3 h.1 h.2
  · exact key 124 jb_okI_4 h.1 h.2
  · exact key 155 jb_okI_5 h.1 h.2
  · exact key 186 jb_okI_6 h.1 h.2
  · exact key 217 jb_okI_7 h.1 h.2
theorem jb_op_ok {i pc : Nat} {ins : Instr} {k a b : Nat} (hi : i < 248) (h : jb_op i pc = some (ins, k, a, b)) : (jb_ln ins = 0 ∨ decode (jb_b i) pc = .ok (ins, jb_ln ins)) ∧ (∃ n, decode (jb_b i) pc = .ok (ins, n)) ∧ (k = 99 ∨ ∃ x p, (jb_ow i, x, k, a, b, p) ∈ jb_L ∧ jb_lk ins x k = true) := by
  unfold jb_op at h
  cases hl : (jb_I.getD i []).lookup pc with
  | none => rw [hl] at h; cases h
  | some q =>
    rw [hl] at h
    have hm := ja_lookup hl
    have h0 := List.all_eq_true.mp (jb_okI_at hi) _ hm
    unfold jb_okI at h0
    simp only [Bool.and_eq_true, decide_eq_true_eq, Bool.or_eq_true, beq_iff_eq] at h0
    obtain ⟨hd, hk⟩ := h0
    dsimp only at h
    by_cases c1 : jb_ln q.1 = q.2.1 ∨ jb_ln q.1 = 0
    · rw [if_pos c1] at h
      by_cases c2 : q.2.2 = 0
      · rw [if_pos c2] at h
        cases h
        refine ⟨?_, ⟨_, hd⟩, Or.inl rfl⟩
        rcases c1 with c1 | c1
        · right
          rw [c1]
          exact hd
        · exact Or.inl c1
      · rw [if_neg c2] at h
        rcases hk with hk | hk
        · exact absurd hk c2
        · cases hL : jb_L[q.2.2 - 1]? with
          | none => rw [hL] at h; cases h
          | some w =>
            rw [hL] at h hk
            simp only [Option.map_some, Option.getD_some, Bool.and_eq_true, decide_eq_true_eq] at hk
            cases h
            refine ⟨?_, ⟨_, hd⟩, Or.inr ⟨w.2.1, w.2.2.2.2.2, ?_, hk.2⟩⟩
            · rcases c1 with c1 | c1
              · right
                rw [c1]
                exact hd
              · exact Or.inl c1
            · have := List.mem_of_getElem? hL
              rw [← hk.1]
              exact this
    · rw [if_neg c1] at h
      cases h
