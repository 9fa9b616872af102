/-! ===== one instruction of the small machine is one of the machine's: objects and arrays ===== -/
theorem jb_C_at {a : Nat} (ha : a < 12) : jb_okC a = true := List.all_eq_true.mp jb_okC_all a (List.mem_range.mpr ha)
theorem jb_cl_at {a : Nat} (ha : a < 12) : jb_cl[a]? = some (jb_O a, jb_T a, jb_N a) := by
  rw [jb_cl, List.getElem?_map, List.getElem?_range ha]
  rfl
theorem jb_C_facts {a : Nat} (ha : a < 12) : (∀ w ∈ u_ws (jb_O a) (jb_T a) (jb_N a), w ∈ jb_W) ∧ (∀ k, k < jb_N a → parseFieldDescriptor (jb_T a k).2.2.1 = some (jb_Ty a k)) ∧ (∀ x, x < jb_N a → ∀ y, y < jb_N a → x ≠ y → (jb_T a x).2.1 ≠ (jb_T a y).2.1) ∧ Cond.instantiable (jb_O a) (jb_N a) ∈ jb_W ∧ Cond.initialized (jb_O a) ∈ jb_W := by
  have h := jb_C_at ha
  unfold jb_okC at h
  simp only [Bool.and_eq_true, decide_eq_true_eq, List.all_eq_true, List.mem_range, Bool.or_eq_true] at h
  obtain ⟨⟨h1, h2⟩, h3⟩ := h
  refine ⟨fun w hw => ?_, fun k hk => (h1 k hk).1.2, fun x hx y hy hne => ?_, h2, h3⟩
  · obtain ⟨k, hk, rfl⟩ := List.mem_map.mp hw
    exact (h1 k (List.mem_range.mp hk)).1.1
  · rcases (h1 y hy).2 x hx with q | q
    · exact absurd q hne
    · exact q
theorem jb_L_at {q : Nat × Nat × Nat × Nat × Nat × Nat} (h : q ∈ jb_L) : jb_okL q = true := List.all_eq_true.mp jb_okL_all q h
theorem jb_inW_of {w : Cond} (h : w ∈ lw_tbl) (hg : goodWord w = true) : w ∈ jb_W := List.mem_filter.mpr ⟨h, hg⟩
theorem jb_L0 {o x a b p : Nat} (h : (o, x, 0, a, b, p) ∈ jb_L) : a < 12 ∧ b < jb_N a ∧ Cond.fieldLink (jb_O o) x (jb_T a b).1 (jb_T a b).2.1 (jb_T a b).2.2.1 ∈ jb_W ∧ (jb_T a b).1 = jb_O a := by
  have h := jb_L_at h
  simp only [jb_okL, Bool.and_eq_true, decide_eq_true_eq] at h
  exact ⟨h.1.1.1, h.1.1.2, jb_inW h.1.2 rfl, h.2⟩
theorem jb_L1 {o x a b p : Nat} (h : (o, x, 1, a, b, p) ∈ jb_L) : a < 12 ∧ b < jb_N a ∧ Cond.fieldLinkNest (jb_O o) x (jb_T a b).1 (jb_T a b).2.1 (jb_T a b).2.2.1 "DrownedBells" ∈ lw_tbl ∧ (jb_T a b).1 = jb_O a := by
  have h := jb_L_at h
  simp only [jb_okL, Bool.and_eq_true, decide_eq_true_eq] at h
  exact ⟨h.1.1.1, h.1.1.2, List.mem_of_getElem? h.1.2, h.2⟩
theorem jb_L9 {o x a b p : Nat} (h : (o, x, 9, a, b, p) ∈ jb_L) : a < 12 ∧ Cond.classLink (jb_O o) x (jb_O a) ∈ jb_W := by
  have h := jb_L_at h
  simp only [jb_okL, Bool.and_eq_true, decide_eq_true_eq] at h
  exact ⟨h.1, jb_inW h.2 rfl⟩
theorem jb_L10 {o x a b p : Nat} (h : (o, x, 10, a, b, p) ∈ jb_L) : a = 9 ∧ Cond.classLink (jb_O o) x (jb_O a) ∈ jb_W := by
  have h := jb_L_at h
  simp only [jb_okL, Bool.and_eq_true, decide_eq_true_eq] at h
  exact ⟨h.1, jb_inW h.2 rfl⟩
theorem jb_L11 {o x a b p : Nat} (h : (o, x, 11, a, b, p) ∈ jb_L) : a < 10 ∧ Cond.stringRef (jb_O o) x (jb_S.getD a "") ∈ lw_tbl := by
  have h := jb_L_at h
  simp only [jb_okL, Bool.and_eq_true, decide_eq_true_eq] at h
  exact ⟨h.1, List.mem_of_getElem? h.2⟩
theorem jb_L12 {o x a b p : Nat} (h : (o, x, 12, a, b, p) ∈ jb_L) : Cond.constantDouble (jb_O o) x (UInt64.ofNat a) ∈ jb_W := by
  have h := jb_L_at h
  simp only [jb_okL, Bool.and_eq_true, decide_eq_true_eq] at h
  exact jb_inW h.2 rfl
theorem jb_L13 {o x a b p : Nat} (h : (o, x, 13, a, b, p) ∈ jb_L) : (a = 0 ∧ Cond.fieldLink (jb_O o) x "java/lang/String" "COMPACT_STRINGS" "Z" ∈ jb_W) ∨ (a ≠ 0 ∧ Cond.fieldLink (jb_O o) x "jdk/internal/util/Preconditions" "SIOOBE_FORMATTER" "Ljava/util/function/BiFunction;" ∈ jb_W) := by
  have h := jb_L_at h
  simp only [jb_okL] at h
  by_cases e : a = 0
  · rw [if_pos e] at h
    exact Or.inl ⟨e, jb_inW (of_decide_eq_true h) rfl⟩
  · rw [if_neg e] at h
    exact Or.inr ⟨e, jb_inW (of_decide_eq_true h) rfl⟩
theorem jb_L14 {o x a b p : Nat} (h : (o, x, 14, a, b, p) ∈ jb_L) : (a = 0 ∧ Cond.fieldLink (jb_O o) x "java/lang/String" "value" "[B" ∈ jb_W) ∨ (a ≠ 0 ∧ Cond.fieldLink (jb_O o) x "java/lang/String" "coder" "B" ∈ jb_W) := by
  have h := jb_L_at h
  simp only [jb_okL] at h
  by_cases e : a = 0
  · rw [if_pos e] at h
    exact Or.inl ⟨e, jb_inW (of_decide_eq_true h) rfl⟩
  · rw [if_neg e] at h
    exact Or.inr ⟨e, jb_inW (of_decide_eq_true h) rfl⟩
theorem ja_ent_o (E : ja_E) {a : Nat} (ha : a < 12) (fs : List Value) : ja_ent E (a, fs) = .inr (a, fs.map (ja_v E)) := by
  unfold ja_ent
  rw [if_neg (by show ¬ a = 12; omega), if_neg (by show ¬ a = 13; omega)]
theorem ja_ent_i (E : ja_E) (fs : List Value) : ja_ent E (12, fs) = .inl (E.2.2.2.2.1, fs.length, .inl (fun j => match fs[j]? with
    | some (.int x) => x
    | _ => 0)) := rfl
theorem ja_ent_q (E : ja_E) (fs : List Value) : ja_ent E (13, fs) = .inl (E.2.2.2.2.2, fs.length, .inr (.inr (.inr (.inr (fun j => match fs[j]? with
    | some (.ref r) => some (E.1 + r)
    | _ => none))))) := rfl
theorem ja_w_at {E : ja_E} {h : jb_H} {r : Nat} {q : Nat × List Value} (hr : h[r]? = some q) : (ja_w E h)[r]? = some (E.1 + r, ja_ent E q) := by
  rw [ja_w_get, hr]; rfl
theorem ja_nar {E : ja_E} (hf : ja_fok E) {ty : FieldType} {v : Value} (h : narrow ty v = v) (h2 : fits ty v = true) : narrow ty (ja_v E v) = ja_v E v ∧ fits ty (ja_v E v) = true := by
  cases v with
  | ref r =>
    have hn : ∀ q, narrow ty (.ref q) = .ref q := fun q => by cases ty <;> rfl
    have hn0 : narrow ty .null = .null := by cases ty <;> rfl
    have hf' : (∀ q, fits ty (.ref q) = true) ∧ fits ty .null = true := by
      cases ty <;> first | exact ⟨fun _ => rfl, rfl⟩ | cases h2
    rcases ja_v_refs hf r with q | ⟨y, q⟩
    · rw [q]; exact ⟨hn0, hf'.2⟩
    · rw [q]; exact ⟨hn y, hf'.1 y⟩
  | _ => exact ⟨h, h2⟩
theorem va_S.tr {A : Nat → Prop} {H0 H H1 : Heap} {locs locs1 : List Loc} (h : va_S A H0 H locs) (h1 : va_S A H H1 locs1) : va_S A H0 H1 locs1 :=
  ⟨Nat.le_trans h.1 h1.1, fun q a b => (h1.2.1 q (Nat.lt_of_lt_of_le a h.1) b).trans (h.2.1 q a b), h1.2.2⟩
theorem va_S.here {A : Nat → Prop} {H0 H : Heap} {locs : List Loc} (h : va_S A H0 H locs) : va_S A H H locs := ⟨Nat.le_refl _, fun _ _ _ => rfl, h.2.2⟩
section JH
variable {p : Program} {l : Launch} {e : Env} {R : Room} {s : State} {m : MethodId} {args : Array Value} {below : List Frame} {meth : Method} {c : Code} {D : va_G} {E : ja_E} {Q : State → Prop} {n0 t0 i : Nat} {F : Nat → List Value → jb_H → Option jb_Res} {k a b pc x w : Nat} {ls st : List Value} {h : jb_H} {g : jb_Cfg}
/-- behind a store: as many objects as before -/
theorem ja_stored (hn : s.heap.size = E.1 + n0) (kk : ja_Wd p l e R s m args below meth c D E Q n0 t0 g) {H H1 : Heap} {locs locs1 : List Loc} {lm : Array Slot} (hz : H.size = E.1 + g.2.2.2.length) (hS : va_S (ja_A E) s.heap H locs) (hS1 : va_S (ja_A E) H H1 locs1) (hP1 : va_P D jb_cl (ja_w E g.2.2.2) H1) (hL : ja_L E g.2.1 lm) (hT0 : t0 ≤ ja_tot g.2.2.2) : W p l e R s m args below meth c H1 locs1 (g.2.2.2.length - n0) (ja_tot g.2.2.2 - t0) Q (F0 m g.1 lm (g.2.2.1.map (ja_v E))) := by
  intro T hT X
  have h1 := X.heapSize
  rw [hT] at h1
  have h2 := hS1.1
  have h3 := hS.1
  exact kk H1 locs1 lm ⟨hP1, by omega⟩ (hS.tr hS1) hL hT0 T hT X
/-- behind a making: one more -/
theorem ja_made (hn : s.heap.size = E.1 + n0) {pc' : Nat} {ls' st' : List Value} {q0 : Nat × List Value} {en : va_E} (hen : ja_ent E q0 = en) (kk : ja_Wd p l e R s m args below meth c D E Q n0 t0 (pc', ls', .ref h.length :: st', h ++ [q0])) {H H1 : Heap} {locs : List Loc} {lm : Array Slot} {q : Nat} (hlen : h.length < 1000000) (hz : H.size = E.1 + h.length) (hS : va_S (ja_A E) s.heap H locs) (hS1 : va_S (ja_A E) H H1 locs) (hP1 : va_P D jb_cl (ja_w E h ++ [(q, en)]) H1) (hD1 : va_D (ja_A E) (ja_w E h ++ [(q, en)])) (hL : ja_L E ls' lm) (hT0 : t0 ≤ ja_tot h) : W p l e R s m args below meth c H1 locs (h.length - n0 + 1) (ja_tot h - t0 + q0.2.length) Q (F0 m pc' lm (.ref q :: st'.map (ja_v E))) := by
  intro T hT X
  have h1 := X.heapSize
  rw [hT] at h1
  have h2 := hS1.1
  have h3 := hS.1
  have hl : (ja_w E h ++ [(q, en)])[h.length]? = some (q, en) := by
    rw [List.getElem?_append_right (by rw [ja_w_len]; exact Nat.le_refl _), ja_w_len, Nat.sub_self]; rfl
  have h4 : q < H1.size := (hP1 _ _ hl).lt
  have h5 : E.1 ≤ q := hD1.2 _ _ hl
  have h6 : q = E.1 + h.length := by
    rcases Nat.lt_or_ge (q - E.1) h.length with z | z
    · exfalso
      have hk : (ja_w E h ++ [(q, en)])[q - E.1]? = some (E.1 + (q - E.1), ja_ent E (h[q - E.1]'z)) := by
        rw [List.getElem?_append_left (by rw [ja_w_len]; exact z)]
        exact ja_w_at (List.getElem?_eq_getElem z)
      have := hD1.1 _ _ _ _ hk hl (by show E.1 + (q - E.1) = q; omega)
      omega
    · omega
  have hlt : h.length ≤ (h ++ [q0]).length := by simp
  have ee : F0 m pc' lm (.ref q :: st'.map (ja_v E)) = F0 m pc' lm ((Value.ref h.length :: st').map (ja_v E)) := by
    rw [List.map_cons, ja_v_low E hlen, h6]
  have hc1 : h.length - n0 + 1 = (h ++ [q0]).length - n0 := by simp; omega
  have hc2 : ja_tot h - t0 + q0.2.length = ja_tot (h ++ [q0]) - t0 := by rw [ja_tot_app]; omega
  rw [ee]
  rw [hc1, hc2] at X
  refine kk H1 locs lm ⟨?_, ?_⟩ (hS.tr hS1) hL (by show t0 ≤ ja_tot (h ++ [q0]); rw [ja_tot_app]; omega) T hT X
  · show va_P D jb_cl (ja_w E (h ++ [q0])) H1
    rw [ja_w_app, hen, ← h6]
    exact hP1
  · show H1.size = E.1 + (h ++ [q0]).length
    simp
    omega
theorem js_getfield (C : ja_C p m meth c s args i D E) (hn : s.heap.size = E.1 + n0) (hd : decode (jb_b i) pc = .ok (.getfield x, 3)) (hlk : (jb_ow i, x, k, a, b, w) ∈ jb_L) (hs : jb_ex F i (.getfield x) k a b pc ls st h = some (.inr g)) (kk : ja_Wd p l e R s m args below meth c D E Q n0 t0 g) : ja_Wd p l e R s m args below meth c D E Q n0 t0 (pc, ls, st, h) := by
  unfold jb_ex at hs
  dsimp only at hs
  split at hs
  · rename_i r1 st'
    obtain ⟨r, hqr⟩ : ∃ z : Nat, z = r1 := ⟨r1, rfl⟩
    subst hqr
    split at hs
    · rename_i hk
      split at hs
      · rename_i hr
        split at hs
        · rename_i c0 fs hc0
          split at hs
          · rename_i hca
            split at hs
            · rename_i v hv
              have e := jb_go_inj hs
              subst e
              subst hca
              intro H locs lm hJ hS hL hT0
              have h2 := kk H locs lm hJ hS hL hT0
              dsimp only at h2 ⊢
              rw [List.map_cons] at h2 ⊢
              rw [ja_v_low E hr]
              have hv' : (fs.map (ja_v E))[b]? = some (ja_v E v) := by rw [List.getElem?_map, hv]; rfl
              rcases hk with hk | hk
              · subst hk
                obtain ⟨l1, l2, l3, l4⟩ := jb_L0 hlk
                obtain ⟨f1, f2, f3, f4, f5⟩ := jb_C_facts l1
                exact va_get C.1 C.2.1 C.2.2.2.2.2.1 f1 C.2.2.2.2.1 C.2.2.2.2.2.2.2.2.1 hJ.1 r ((ja_w_at hc0).trans (by rw [ja_ent_o E l1])) (jb_cl_at l1) b l2 (C.2.2.2.2.2.1 _ l3) (fun _ z => z) hv' hd h2
              · subst hk
                obtain ⟨l1, l2, l3, l4⟩ := jb_L1 hlk
                obtain ⟨f1, f2, f3, f4, f5⟩ := jb_C_facts l1
                exact va_getN C.1 C.2.1 C.2.2.2.2.2.1 f1 C.2.2.2.2.1 C.2.2.2.2.2.2.2.2.1 hJ.1 r ((ja_w_at hc0).trans (by rw [ja_ent_o E l1])) (jb_cl_at l1) b l2 (va_Nw.use rfl (C.2.2.2.2.2.2.2.2.2.1.2.2.2.2.1 _ l3 rfl)) (fun _ z => z) hv' hd h2
            · cases hs
          · cases hs
        · cases hs
      · cases hs
    · split at hs
      · rename_i hk
        split at hs
        · rename_i hr
          have hr : (1000000 : Nat) ≤ (r : Nat) ∧ (r : Nat) < 1000010 := hr
          have e := jb_go_inj hs
          subst e
          subst hk
          intro H locs lm hJ hS hL hT0
          have h2 := kk H locs lm hJ hS hL hT0
          dsimp only at h2 ⊢
          rw [List.map_cons] at h2 ⊢
          have hq := (C.2.2.2.2.2.2.2.2.2.1.1.1 (r - 1000000) (by omega))
          have e1 : ja_v E (.ref r) = .ref (E.2.1 (r - 1000000)) := by
            rw [ja_v_ref E (by omega), ja_ad, if_neg (by omega), if_pos (by omega)]
          rw [e1]
          rcases jb_L14 hlk with ⟨z, hl⟩ | ⟨z, hl⟩
          · rw [if_pos z] at h2
            have e2 : ja_v E (.ref (r + 100)) = .ref (E.2.2.1 (r - 1000000)) := by
              rw [ja_v_ref E (by omega), ja_ad, if_neg (by omega), if_neg (by omega), show r + 100 - 1000100 = r - 1000000 by omega]
            rw [e2] at h2
            exact vk_getf C.1 C.2.1 hq.2.2.1 hS C.2.2.2.2.1 (C.2.2.2.2.2.1 _ hl) (fun _ z => z) hd h2
          · rw [if_neg z] at h2
            exact vk_getf C.1 C.2.1 hq.2.1 hS C.2.2.2.2.1 (C.2.2.2.2.2.1 _ hl) (fun _ z => z) hd h2
        · cases hs
      · cases hs
  · cases hs
theorem js_putfield (C : ja_C p m meth c s args i D E) (hn : s.heap.size = E.1 + n0) (hd : decode (jb_b i) pc = .ok (.putfield x, 3)) (hlk : (jb_ow i, x, k, a, b, w) ∈ jb_L) (hs : jb_ex F i (.putfield x) k a b pc ls st h = some (.inr g)) (kk : ja_Wd p l e R s m args below meth c D E Q n0 t0 g) : ja_Wd p l e R s m args below meth c D E Q n0 t0 (pc, ls, st, h) := by
  unfold jb_ex at hs
  dsimp only at hs
  split at hs
  · rename_i v r1 st'
    obtain ⟨r, hqr⟩ : ∃ z : Nat, z = r1 := ⟨r1, rfl⟩
    subst hqr
    split at hs
    · rename_i hk
      obtain ⟨hk, hr⟩ := hk
      split at hs
      · rename_i c0 fs hc0
        split at hs
        · rename_i hc
          obtain ⟨rfl, hbl, hnar, hfit, hfin⟩ := hc
          have e := jb_go_inj hs
          subst e
          intro H locs lm hJ hS hL hT0
          obtain ⟨hN, hF⟩ := ja_nar C.fok hnar hfit
          have ht : ja_tot (h.set r (c0, fs.set b v)) = ja_tot h := ja_tot_set hc0 (by simp)
          have hlen : (h.set r (c0, fs.set b v)).length = h.length := List.length_set
          have hbl' : b < (fs.map (ja_v E)).length := by rw [List.length_map]; exact hbl
          dsimp only
          rw [List.map_cons, List.map_cons, ja_v_low E hr]
          have fin : c0 < 12 → ∀ (H1 : Heap) (locs1 : List Loc), va_P D jb_cl ((ja_w E h).set r (E.1 + r, .inr (c0, (fs.map (ja_v E)).set b (ja_v E v)))) H1 → va_D (ja_A E) ((ja_w E h).set r (E.1 + r, .inr (c0, (fs.map (ja_v E)).set b (ja_v E v)))) → va_S (ja_A E) H H1 locs1 → W p l e R s m args below meth c H1 locs1 (h.length - n0) (ja_tot h - t0) Q (F0 m (pc + 3) lm (st'.map (ja_v E))) := by
            intro hc12 H1 locs1 hP1 hD1 hS1
            have h9 := ja_stored hn kk (H := H) (H1 := H1) (lm := lm) (by rw [hJ.2]; show E.1 + h.length = E.1 + (h.set r (c0, fs.set b v)).length; rw [hlen]) hS hS1 (by
              show va_P D jb_cl (ja_w E (h.set r (c0, fs.set b v))) H1
              rw [ja_w_set, ja_ent_o E hc12, List.map_set]
              exact hP1) hL (by show t0 ≤ ja_tot (h.set r (c0, fs.set b v)); rw [ht]; exact hT0)
            dsimp only at h9
            rw [hlen, ht] at h9
            exact h9
          rcases hk with hk | hk
          · subst hk
            obtain ⟨l1, l2, l3, l4⟩ := jb_L0 hlk
            obtain ⟨f1, f2, f3, f4, f5⟩ := jb_C_facts l1
            have he : (ja_w E h)[r]? = some (E.1 + r, .inr (c0, fs.map (ja_v E))) := (ja_w_at hc0).trans (by rw [ja_ent_o E l1])
            by_cases hff : (jb_T c0 b).2.2.2 = false
            · exact va_put C.1 C.2.1 C.2.2.2.2.2.1 f1 (jb_Ty c0) f2 f3 C.2.2.2.2.1 C.2.2.2.2.2.2.2.2.1 hJ.1 ja_w_D hS.here r he (jb_cl_at l1) b l2 (C.2.2.2.2.2.1 _ l3) (fun _ z => z) hff (f2 b l2) hN hF hbl' hd (fin l1)
            · have hft : (jb_T c0 b).2.2.2 = true := by simpa using hff
              obtain ⟨hin, how, -⟩ := hfin.resolve_left hff
              exact va_putF C.1 C.2.1 C.2.2.2.2.2.1 f1 (jb_Ty c0) f2 f3 C.2.2.2.2.1 C.2.2.2.2.2.2.2.2.1 hJ.1 ja_w_D hS.here r he (jb_cl_at l1) b l2 (C.2.2.2.2.2.1 _ l3) (fun _ z => z) hft (C.2.2.2.2.2.2.2.1.trans hin) (l4.trans (by rw [how])) (f2 b l2) hN hF hbl' hd (fin l1)
          · subst hk
            obtain ⟨l1, l2, l3, l4⟩ := jb_L1 hlk
            obtain ⟨f1, f2, f3, f4, f5⟩ := jb_C_facts l1
            have he : (ja_w E h)[r]? = some (E.1 + r, .inr (c0, fs.map (ja_v E))) := (ja_w_at hc0).trans (by rw [ja_ent_o E l1])
            have hff : (jb_T c0 b).2.2.2 = false := hfin.elim id (fun z => absurd z.2.2 (by decide))
            exact va_putN C.1 C.2.1 C.2.2.2.2.2.1 f1 (jb_Ty c0) f2 f3 C.2.2.2.2.1 C.2.2.2.2.2.2.2.2.1 hJ.1 ja_w_D hS.here r he (jb_cl_at l1) b l2 (va_Nw.use rfl (C.2.2.2.2.2.2.2.2.2.1.2.2.2.2.1 _ l3 rfl)) (fun _ z => z) hff (f2 b l2) hN hF hbl' hd (fin l1)
        · cases hs
      · cases hs
    · cases hs
  · cases hs
theorem js_iaload (C : ja_C p m meth c s args i D E) (hd : decode (jb_b i) pc = .ok (.iaload, 1)) (hs : jb_ex F i .iaload k a b pc ls st h = some (.inr g)) (kk : ja_Wd p l e R s m args below meth c D E Q n0 t0 g) : ja_Wd p l e R s m args below meth c D E Q n0 t0 (pc, ls, st, h) := by
  unfold jb_ex at hs
  dsimp only at hs
  split at hs
  · rename_i j r1 st'
    obtain ⟨r, hqr⟩ : ∃ z : Nat, z = r1 := ⟨r1, rfl⟩
    subst hqr
    split at hs
    · rename_i hr
      split at hs
      · rename_i c0 fs hc0
        split at hs
        · rename_i hc
          obtain ⟨rfl, hin⟩ := hc
          split at hs
          · rename_i y hy
            have e := jb_go_inj hs
            subst e
            intro H locs lm hJ hS hL hT0
            have h2 := kk H locs lm hJ hS hL hT0
            dsimp only at h2 ⊢
            rw [List.map_cons, List.map_cons, ja_v_low E hr]
            rw [List.map_cons] at h2
            have h3 := va_iald (e := e) (l := l) (p := p) (R := R) (m := m) (args := args) (below := below) (meth := meth) (cells := h.length - n0) (slots := ja_tot h - t0) (Q := Q) (pc := pc) (ls := lm) (rest := st'.map (ja_v E)) (locs := locs) C.1 C.2.1 C.2.2.2.2.2.2.2.2.1 hJ.1 r 0 ((ja_w_at hc0).trans (by rw [ja_ent_i])) rfl (i := j) hin hd
            rw [hy] at h3
            exact h3 h2
          · cases hs
        · cases hs
      · cases hs
    · cases hs
  · cases hs
theorem js_iastore (C : ja_C p m meth c s args i D E) (hn : s.heap.size = E.1 + n0) (hd : decode (jb_b i) pc = .ok (.iastore, 1)) (hs : jb_ex F i .iastore k a b pc ls st h = some (.inr g)) (kk : ja_Wd p l e R s m args below meth c D E Q n0 t0 g) : ja_Wd p l e R s m args below meth c D E Q n0 t0 (pc, ls, st, h) := by
  unfold jb_ex at hs
  dsimp only at hs
  split at hs
  · rename_i y j r1 st'
    obtain ⟨r, hqr⟩ : ∃ z : Nat, z = r1 := ⟨r1, rfl⟩
    subst hqr
    split at hs
    · rename_i hr
      split at hs
      · rename_i c0 fs hc0
        split at hs
        · rename_i hc
          obtain ⟨rfl, hin⟩ := hc
          have e := jb_go_inj hs
          subst e
          intro H locs lm hJ hS hL hT0
          have ht : ja_tot (h.set r (12, fs.set j.toNatClampNeg (.int y))) = ja_tot h := ja_tot_set hc0 (by simp)
          have hlen : (h.set r (12, fs.set j.toNatClampNeg (.int y))).length = h.length := List.length_set
          dsimp only
          rw [List.map_cons, List.map_cons, List.map_cons, ja_v_low E hr]
          refine va_iast C.1 C.2.1 C.2.2.2.2.2.2.2.2.1 hJ.1 ja_w_D hS.here r 0 ((ja_w_at hc0).trans (by rw [ja_ent_i])) rfl (i := j) (x := y) hin hd (fun H1 locs1 hP1 hD1 hS1 => ?_)
          have h9 := ja_stored hn kk (H := H) (H1 := H1) (lm := lm) (by rw [hJ.2]; show E.1 + h.length = E.1 + (h.set r (12, fs.set j.toNatClampNeg (.int y))).length; rw [hlen]) hS hS1 (by
            show va_P D jb_cl (ja_w E (h.set r (12, fs.set j.toNatClampNeg (.int y)))) H1
            rw [ja_w_set, ja_ent_i, List.length_set]
            have ef : (fun z : Nat => match (fs.set j.toNatClampNeg (.int y))[z]? with
                | some (.int x) => x
                | _ => (0 : Int32)) = upd (fun z => match fs[z]? with
                | some (.int x) => x
                | _ => 0) j.toNatClampNeg y := by
              funext z
              rw [List.getElem?_set]
              unfold upd
              by_cases hz : j.toNatClampNeg = z
              · subst hz
                rw [if_pos rfl, if_pos rfl, if_pos (by
                  rcases Nat.lt_or_ge j.toNatClampNeg fs.length with q | q
                  · exact q
                  · exact absurd (Or.inr q) hin)]
              · rw [if_neg hz, if_neg (Ne.symm hz)]
            rw [ef]
            exact hP1) hL (by show t0 ≤ ja_tot (h.set r (12, fs.set j.toNatClampNeg (.int y))); rw [ht]; exact hT0)
          dsimp only at h9
          rw [hlen, ht] at h9
          exact h9
        · cases hs
      · cases hs
    · cases hs
  · cases hs
theorem js_aaload (C : ja_C p m meth c s args i D E) (hd : decode (jb_b i) pc = .ok (.aaload, 1)) (hs : jb_ex F i .aaload k a b pc ls st h = some (.inr g)) (kk : ja_Wd p l e R s m args below meth c D E Q n0 t0 g) : ja_Wd p l e R s m args below meth c D E Q n0 t0 (pc, ls, st, h) := by
  unfold jb_ex at hs
  dsimp only at hs
  split at hs
  · rename_i j r1 st'
    obtain ⟨r, hqr⟩ : ∃ z : Nat, z = r1 := ⟨r1, rfl⟩
    subst hqr
    split at hs
    · rename_i hr
      split at hs
      · rename_i c0 fs hc0
        split at hs
        · rename_i hc
          obtain ⟨rfl, hin⟩ := hc
          have row := fun (H : Heap) (locs : List Loc) (lm : Array Slot) (hJ : ja_J E D h H) => va_aldq (e := e) (l := l) (p := p) (R := R) (m := m) (args := args) (below := below) (meth := meth) (cells := h.length - n0) (slots := ja_tot h - t0) (Q := Q) (pc := pc) (ls := lm) (rest := st'.map (ja_v E)) (locs := locs) C.1 C.2.1 C.2.2.2.2.2.2.2.2.1 hJ.1 r 1 ((ja_w_at hc0).trans (by rw [ja_ent_q])) rfl (i := j) hin hd
          split at hs
          · rename_i y hy
            split at hs
            · rename_i hy2
              have e := jb_go_inj hs
              subst e
              intro H locs lm hJ hS hL hT0
              have h2 := kk H locs lm hJ hS hL hT0
              dsimp only at h2 ⊢
              rw [List.map_cons, List.map_cons, ja_v_low E hr]
              rw [List.map_cons, ja_v_low E hy2] at h2
              have h3 := row H locs lm hJ
              rw [hy] at h3
              exact h3 h2
            · cases hs
          · rename_i hy
            have e := jb_go_inj hs
            subst e
            intro H locs lm hJ hS hL hT0
            have h2 := kk H locs lm hJ hS hL hT0
            dsimp only at h2 ⊢
            rw [List.map_cons, List.map_cons, ja_v_low E hr]
            rw [List.map_cons] at h2
            have h3 := row H locs lm hJ
            rw [hy] at h3
            exact h3 h2
          · cases hs
        · cases hs
      · cases hs
    · cases hs
  · cases hs
theorem js_aastore (C : ja_C p m meth c s args i D E) (hn : s.heap.size = E.1 + n0) (hd : decode (jb_b i) pc = .ok (.aastore, 1)) (hs : jb_ex F i .aastore k a b pc ls st h = some (.inr g)) (kk : ja_Wd p l e R s m args below meth c D E Q n0 t0 g) : ja_Wd p l e R s m args below meth c D E Q n0 t0 (pc, ls, st, h) := by
  unfold jb_ex at hs
  dsimp only at hs
  split at hs
  · rename_i v1 j r1 st'
    obtain ⟨v, hqv⟩ : ∃ z : Nat, z = v1 := ⟨v1, rfl⟩
    subst hqv
    obtain ⟨r, hqr⟩ : ∃ z : Nat, z = r1 := ⟨r1, rfl⟩
    subst hqr
    split at hs
    · rename_i hr
      obtain ⟨hr, hv, h9v⟩ := hr
      split at hs
      · rename_i c0 fs hc0
        split at hs
        · rename_i hc
          obtain ⟨rfl, hin⟩ := hc
          have e := jb_go_inj hs
          subst e
          obtain ⟨⟨cv, fv⟩, hcv, hcv9⟩ := Option.map_eq_some_iff.mp h9v
          have hcv9 : cv = 9 := hcv9
          subst hcv9
          intro H locs lm hJ hS hL hT0
          have ht : ja_tot (h.set r (13, fs.set j.toNatClampNeg (.ref v))) = ja_tot h := ja_tot_set hc0 (by simp)
          have hlen : (h.set r (13, fs.set j.toNatClampNeg (.ref v))).length = h.length := List.length_set
          dsimp only
          rw [List.map_cons, List.map_cons, List.map_cons, ja_v_low E hr, ja_v_low E hv]
          refine va_astq (r := (jb_O 9, jb_T 9, jb_N 9)) (vs := fv.map (ja_v E)) C.1 C.2.1 C.2.2.2.2.2.2.2.2.1 hJ.1 ja_w_D hS.here r 1 v 9 ((ja_w_at hc0).trans (by rw [ja_ent_q])) rfl ((ja_w_at hcv).trans (by rw [ja_ent_o E (by omega)])) (jb_cl_at (by omega)) (i := j) hin hd (fun H1 locs1 hP1 hD1 hS1 => ?_)
          have h9 := ja_stored hn kk (H := H) (H1 := H1) (lm := lm) (by rw [hJ.2]; show E.1 + h.length = E.1 + (h.set r (13, fs.set j.toNatClampNeg (.ref v))).length; rw [hlen]) hS hS1 (by
            show va_P D jb_cl (ja_w E (h.set r (13, fs.set j.toNatClampNeg (.ref v)))) H1
            rw [ja_w_set, ja_ent_q, List.length_set]
            have ef : (fun z : Nat => match (fs.set j.toNatClampNeg (.ref v))[z]? with
                | some (.ref x) => some (E.1 + x)
                | _ => (none : Option Nat)) = va_up (fun z => match fs[z]? with
                | some (.ref x) => some (E.1 + x)
                | _ => none) j.toNatClampNeg (some (E.1 + v)) := by
              funext z
              rw [List.getElem?_set]
              unfold va_up
              by_cases hz : j.toNatClampNeg = z
              · subst hz
                rw [if_pos rfl, if_pos rfl, if_pos (by
                  rcases Nat.lt_or_ge j.toNatClampNeg fs.length with q | q
                  · exact q
                  · exact absurd (Or.inr q) hin)]
              · rw [if_neg hz, if_neg (Ne.symm hz)]
            rw [ef]
            exact hP1) hL (by show t0 ≤ ja_tot (h.set r (13, fs.set j.toNatClampNeg (.ref v))); rw [ht]; exact hT0)
          dsimp only at h9
          rw [hlen, ht] at h9
          exact h9
        · cases hs
      · cases hs
    · cases hs
  · cases hs
theorem ja_len_at {n : Nat} (hn : n < 10) : ja_len.getD n 0 = (jb_SB.getD n []).length := by
  have key : ∀ n, n < 10 → ja_len.getD n 0 = (jb_SB.getD n []).length := by decide
  exact key n hn
theorem js_baload (C : ja_C p m meth c s args i D E) (hd : decode (jb_b i) pc = .ok (.baload, 1)) (hs : jb_ex F i .baload k a b pc ls st h = some (.inr g)) (kk : ja_Wd p l e R s m args below meth c D E Q n0 t0 g) : ja_Wd p l e R s m args below meth c D E Q n0 t0 (pc, ls, st, h) := by
  unfold jb_ex at hs
  dsimp only at hs
  split at hs
  · rename_i j r1 st'
    obtain ⟨r, hqr⟩ : ∃ z : Nat, z = r1 := ⟨r1, rfl⟩
    subst hqr
    split at hs
    · rename_i hr
      obtain ⟨hr1, hr2, hin⟩ := hr
      have hr1 : (1000100 : Nat) ≤ (r : Nat) := hr1
      have hr2 : (r : Nat) < 1000110 := hr2
      have e := jb_go_inj hs
      obtain ⟨n, hnr⟩ : ∃ n : Nat, n = r - 1000100 := ⟨_, rfl⟩
      have hr3 : r = 1000100 + n := by omega
      rw [hr3, Nat.add_sub_cancel_left] at hin e
      clear hnr
      generalize hX : (jb_SB.getD n []).getD j.toNatClampNeg 0 = X at e
      subst e
      intro H locs lm hJ hS hL hT0
      have h2 := kk H locs lm hJ hS hL hT0
      dsimp only at h2 ⊢
      rw [List.map_cons, List.map_cons]
      rw [List.map_cons] at h2
      have e1 : ja_v E (.ref r) = .ref (E.2.2.1 n) := by
        rw [ja_v_ref E (by omega), ja_ad, if_neg (by omega), if_neg (by omega), show r - 1000100 = n by omega]
      rw [e1]
      have hq := (C.2.2.2.2.2.2.2.2.2.1.1.1 n (by omega))
      rw [ja_len_at (by omega)] at hq
      exact va_tb (v := .int X) C.1 C.2.1 hq.2.2.2 hS (i := j) hin (by rw [hX]) hd h2
    · cases hs
  · cases hs
theorem js_arraylength (C : ja_C p m meth c s args i D E) (hd : decode (jb_b i) pc = .ok (.arraylength, 1)) (hs : jb_ex F i .arraylength k a b pc ls st h = some (.inr g)) (kk : ja_Wd p l e R s m args below meth c D E Q n0 t0 g) : ja_Wd p l e R s m args below meth c D E Q n0 t0 (pc, ls, st, h) := by
  unfold jb_ex at hs
  dsimp only at hs
  split at hs
  · rename_i r1 st'
    obtain ⟨r, hqr⟩ : ∃ z : Nat, z = r1 := ⟨r1, rfl⟩
    subst hqr
    split at hs
    · rename_i hr
      split at hs
      · rename_i c0 fs hc0
        split at hs
        · rename_i hc
          have e := jb_go_inj hs
          subst e
          intro H locs lm hJ hS hL hT0
          have h2 := kk H locs lm hJ hS hL hT0
          dsimp only at h2 ⊢
          rw [List.map_cons, ja_v_low E hr]
          rw [List.map_cons] at h2
          rw [ja_v_int] at h2
          rcases hc with rfl | rfl
          · exact va_alen (v := Int32.ofNat fs.length) C.1 C.2.1 C.2.2.2.2.2.2.2.2.1 hJ.1 r 0 ((ja_w_at hc0).trans (by rw [ja_ent_i])) rfl rfl hd h2
          · exact va_alen (v := Int32.ofNat fs.length) C.1 C.2.1 C.2.2.2.2.2.2.2.2.1 hJ.1 r 1 ((ja_w_at hc0).trans (by rw [ja_ent_q])) rfl rfl hd h2
        · cases hs
      · cases hs
    · split at hs
      · rename_i hr
        have hr : (1000100 : Nat) ≤ (r : Nat) ∧ (r : Nat) < 1000110 := hr
        have e := jb_go_inj hs
        subst e
        intro H locs lm hJ hS hL hT0
        have h2 := kk H locs lm hJ hS hL hT0
        dsimp only at h2 ⊢
        rw [List.map_cons]
        rw [List.map_cons] at h2
        have e1 : ja_v E (.ref r) = .ref (E.2.2.1 (r - 1000100)) := by
          rw [ja_v_ref E (by omega), ja_ad, if_neg (by omega), if_neg (by omega)]
        rw [e1]
        obtain ⟨n, hnr⟩ : ∃ n : Nat, n = r - 1000100 := ⟨_, rfl⟩
        have hq := (C.2.2.2.2.2.2.2.2.2.1.1.1 n (by omega))
        rw [ja_len_at (by omega)] at hq
        rw [← hnr] at h2 ⊢
        exact va_tlen C.1 C.2.1 hq.2.2.2 hS rfl hd h2
      · cases hs
  · cases hs
theorem jb_def_len : ∀ a, a < 12 → (jb_Tys.getD a []).length = jb_N a := by decide +kernel
theorem ja_v_def (E : ja_E) (ty : FieldType) : ja_v E (defaultValue ty) = defaultValue ty := by cases ty <;> rfl
theorem jb_def_map (E : ja_E) (a : Nat) : (jb_def a).map (ja_v E) = jb_def a := by
  unfold jb_def
  rw [List.map_map]
  apply List.map_congr_left
  intro ty _
  exact ja_v_def E ty
theorem js_new (C : ja_C p m meth c s args i D E) (hn : s.heap.size = E.1 + n0) (hd : decode (jb_b i) pc = .ok (.new x, 3)) (hlk : (jb_ow i, x, k, a, b, w) ∈ jb_L) (hs : jb_ex F i (.new x) k a b pc ls st h = some (.inr g)) (hRc : g.2.2.2.length - n0 ≤ R.cells) (hRs : ja_tot g.2.2.2 - t0 ≤ R.slots) (kk : ja_Wd p l e R s m args below meth c D E Q n0 t0 g) : ja_Wd p l e R s m args below meth c D E Q n0 t0 (pc, ls, st, h) := by
  unfold jb_ex at hs
  dsimp only at hs
  split at hs
  · rename_i hk
    obtain ⟨rfl, hlen⟩ := hk
    have e := jb_go_inj hs
    subst e
    obtain ⟨l1, l3⟩ := jb_L9 hlk
    obtain ⟨f1, f2, f3, f4, f5⟩ := jb_C_facts l1
    have hdl : (jb_def a).length = jb_N a := by unfold jb_def; rw [List.length_map]; exact jb_def_len a l1
    have hz0 : n0 ≤ h.length ∨ True := Or.inr trivial
    intro H locs lm hJ hS hL hT0
    have h3 := hS.1
    have h4 := hJ.2
    dsimp only at h4
    have hln : (h ++ [(a, jb_def a)]).length = h.length + 1 := by simp
    have htt : ja_tot (h ++ [(a, jb_def a)]) = ja_tot h + jb_N a := by rw [ja_tot_app]; show ja_tot h + (jb_def a).length = _; rw [hdl]
    dsimp only at hRc hRs hT0 ⊢
    rw [hln] at hRc
    rw [htt] at hRs
    refine va_new C.1 C.2.1 C.2.2.2.2.2.1 f1 (jb_Ty a) f2 C.2.2.2.2.1 (C.2.2.2.2.2.1 _ l3) (C.2.2.2.2.2.1 _ f4) (C.2.2.2.2.2.1 _ f5) C.2.2.2.2.2.2.2.2.1 hJ.1 ja_w_D hS.here (fun q hq => C.2.2.2.2.2.2.2.2.2.2.1 q (Nat.le_trans h3 hq)) (jb_cl_at l1) (fs := jb_def a) (fun j hj => ?_) (by omega) (by omega) hd (fun q H1 hP1 hD1 hS1 => ?_)
    · unfold vp_V jb_def jb_Ty
      have hjl : j < (jb_Tys.getD a []).length := by rw [jb_def_len a l1]; exact hj
      generalize jb_Tys.getD a [] = tys at hjl ⊢
      simp only [List.getD_eq_getElem?_getD, List.getElem?_map]
      rw [List.getElem?_eq_getElem hjl]
      rfl
    · have h9 := ja_made hn (q0 := (a, jb_def a)) (en := .inr (a, jb_def a)) (by rw [ja_ent_o E l1, jb_def_map]) kk (by omega) hJ.2 hS hS1 hP1 hD1 hL hT0
      dsimp only at h9
      rw [hdl] at h9
      exact h9
  · cases hs
theorem jb_arrW : Cond.arrayClass .int ∈ jb_W := jb_inW_of (by decide +kernel) rfl
theorem js_newarray (C : ja_C p m meth c s args i D E) (hn : s.heap.size = E.1 + n0) {t : ArrayType} (hd : decode (jb_b i) pc = .ok (.newarray t, 2)) (hs : jb_ex F i (.newarray t) k a b pc ls st h = some (.inr g)) (hRc : g.2.2.2.length - n0 ≤ R.cells) (hRs : ja_tot g.2.2.2 - t0 ≤ R.slots) (kk : ja_Wd p l e R s m args below meth c D E Q n0 t0 g) : ja_Wd p l e R s m args below meth c D E Q n0 t0 (pc, ls, st, h) := by
  unfold jb_ex at hs
  dsimp only at hs
  split at hs
  · rename_i y st'
    split at hs
    · rename_i hk
      obtain ⟨rfl, hy, hy2, hlen⟩ := hk
      have e := jb_go_inj hs
      subst e
      intro H locs lm hJ hS hL hT0
      have h3 := hS.1
      have h4 := hJ.2
      dsimp only at h4
      have hln : (h ++ [(12, List.replicate y.toNatClampNeg (Value.int 0))]).length = h.length + 1 := by simp
      have htt : ja_tot (h ++ [(12, List.replicate y.toNatClampNeg (Value.int 0))]) = ja_tot h + y.toNatClampNeg := by rw [ja_tot_app]; simp
      dsimp only at hRc hRs hT0 ⊢
      rw [hln] at hRc
      rw [htt] at hRs
      rw [List.map_cons]
      refine va_newa (atype := .int) (ty := .int) (a0 := (y.toNatClampNeg, .inl (fun _ => 0))) C.1 C.2.1 (C.2.2.2.2.2.1 _ jb_arrW) rfl C.2.2.2.2.2.2.2.2.1 hJ.1 ja_w_D hS.here (fun q hq => C.2.2.2.2.2.2.2.2.2.2.1 q (Nat.le_trans h3 hq)) (fun _ => rfl) hy rfl (by show y.toNatClampNeg * 4 ≤ _; omega) (by omega) (by omega) hd (fun q cA H1 hK1 hP1 hD1 hS1 => ?_)
      have hc1 := (hK1.2 2 (cA, .int) rfl).2
      have hc2 := (hK1.2 0 (E.2.2.2.2.1, .int) rfl).2
      have hcc : cA = E.2.2.2.2.1 := Option.some.inj (hc1.symm.trans hc2)
      subst hcc
      have h9 := ja_made hn (q0 := (12, List.replicate y.toNatClampNeg (.int 0))) (en := .inl (E.2.2.2.2.1, y.toNatClampNeg, .inl (fun _ => 0))) (by
        rw [ja_ent_i, List.length_replicate]
        congr 3
        congr 1
        funext j
        rw [List.getElem?_replicate]
        by_cases hj : j < y.toNatClampNeg
        · rw [if_pos hj]
        · rw [if_neg hj]) kk (by omega) hJ.2 hS hS1 hP1 hD1 hL hT0
      dsimp only at h9
      rw [List.length_replicate] at h9
      exact h9
    · cases hs
  · cases hs
theorem js_anewarray (C : ja_C p m meth c s args i D E) (hn : s.heap.size = E.1 + n0) (hd : decode (jb_b i) pc = .ok (.anewarray x, 3)) (hlk : (jb_ow i, x, k, a, b, w) ∈ jb_L) (hs : jb_ex F i (.anewarray x) k a b pc ls st h = some (.inr g)) (hRc : g.2.2.2.length - n0 ≤ R.cells) (hRs : ja_tot g.2.2.2 - t0 ≤ R.slots) (kk : ja_Wd p l e R s m args below meth c D E Q n0 t0 g) : ja_Wd p l e R s m args below meth c D E Q n0 t0 (pc, ls, st, h) := by
  unfold jb_ex at hs
  dsimp only at hs
  split at hs
  · rename_i y st'
    split at hs
    · rename_i hk
      obtain ⟨rfl, hy, hy2, hlen⟩ := hk
      have e := jb_go_inj hs
      subst e
      obtain ⟨rfl, l3⟩ := jb_L10 hlk
      intro H locs lm hJ hS hL hT0
      have h3 := hS.1
      have h4 := hJ.2
      dsimp only at h4
      have hln : (h ++ [(13, List.replicate y.toNatClampNeg Value.null)]).length = h.length + 1 := by simp
      have htt : ja_tot (h ++ [(13, List.replicate y.toNatClampNeg Value.null)]) = ja_tot h + y.toNatClampNeg := by rw [ja_tot_app]; simp
      dsimp only at hRc hRs hT0 ⊢
      rw [hln] at hRc
      rw [htt] at hRs
      rw [List.map_cons]
      refine va_newq (C := "DrownedBells$Village") C.1 C.2.1 C.2.2.2.2.1 (C.2.2.2.2.2.1 _ l3) C.2.2.2.2.2.2.2.2.2.1.2.2.2.2.2.1 C.2.2.2.2.2.2.2.2.1 hJ.1 ja_w_D hS.here (fun q hq => C.2.2.2.2.2.2.2.2.2.2.1 q (Nat.le_trans h3 hq)) hy rfl (by omega) (by omega) (by omega) hd (fun q cA H1 hK1 hP1 hD1 hS1 => ?_)
      obtain ⟨_, _, _, _, _, hc1⟩ := (hK1.2 2 (cA, .object "DrownedBells$Village") rfl).2
      obtain ⟨_, _, _, _, _, hc2⟩ := (hK1.2 1 (E.2.2.2.2.2, .object "DrownedBells$Village") rfl).2
      have hcc : cA = E.2.2.2.2.2 := Option.some.inj (hc1.symm.trans hc2)
      subst hcc
      have h9 := ja_made hn (q0 := (13, List.replicate y.toNatClampNeg .null)) (en := .inl (E.2.2.2.2.2, y.toNatClampNeg, .inr (.inr (.inr (.inr (fun _ => none)))))) (by
        rw [ja_ent_q, List.length_replicate]
        congr 6
        congr 1
        funext j
        rw [List.getElem?_replicate]
        by_cases hj : j < y.toNatClampNeg
        · rw [if_pos hj]
        · rw [if_neg hj]) kk (by omega) hJ.2 hS hS1 hP1 hD1 hL hT0
      dsimp only at h9
      rw [List.length_replicate] at h9
      exact h9
    · cases hs
  · cases hs
theorem js_ldc (C : ja_C p m meth c s args i D E) (hd : decode (jb_b i) pc = .ok (.ldc x, 2)) (hlk : (jb_ow i, x, k, a, b, w) ∈ jb_L) (hs : jb_ex F i (.ldc x) k a b pc ls st h = some (.inr g)) (kk : ja_Wd p l e R s m args below meth c D E Q n0 t0 g) : ja_Wd p l e R s m args below meth c D E Q n0 t0 (pc, ls, st, h) := by
  unfold jb_ex at hs
  dsimp only at hs
  split at hs
  · rename_i hk
    subst hk
    have e := jb_go_inj hs
    subst e
    obtain ⟨l1, l3⟩ := jb_L11 hlk
    intro H locs lm hJ hS hL hT0
    have h2 := kk H locs lm hJ hS hL hT0
    dsimp only at h2 ⊢
    rw [List.map_cons] at h2
    have e1 : ja_v E (.ref (1000000 + a)) = .ref (E.2.1 a) := by
      rw [ja_v_ref E (by omega), ja_ad, if_neg (by omega), if_pos (by omega), show 1000000 + a - 1000000 = a by omega]
    rw [e1] at h2
    exact va_ldcS C.1 C.2.1 C.2.2.2.2.1 (C.2.2.2.2.2.2.2.2.2.1.2.1 _ _ _ l1 l3) hd h2
  · cases hs
theorem ja_ldcwS {H : Heap} {locs : List Loc} {cells slots : Nat} {cc : ByteArray} {lm : Array Slot} {rest : List Value} (hexec : p.tables.exec = Jvm.exec) (hb : c.code = cc) {own tx : String} {index q : Nat} (hown : s.vm.findClass own = some m.cls) (hZ : vk_R own index tx q s) (hdg : decode cc pc = .ok (.ldc_w index, 3))
    (kk : W p l e R s m args below meth c H locs cells slots Q (F0 m (pc + 3) lm (.ref q :: rest))) : W p l e R s m args below meth c H locs cells slots Q (F0 m pc lm rest) := by
  intro T hT X
  obtain ⟨t, a1, b1⟩ := kk T hT X
  refine ⟨t, ?_, b1⟩
  obtain ⟨k, cf, i, a', hk, hcf, hcp, -, hr, hev'⟩ := Cond.stringRef_spec hown hZ.1
  cases hZ.2.symm.trans hev'
  obtain ⟨k', hk', he⟩ := X.warmed.alike.2.2 _ _ hk
  have hr' : k'.resolved[index]? = some (some (.string q)) := by
    rcases X.warmed.entry hk hk' index with h | ⟨h, -⟩
    · rw [h]; exact hr
    · rw [hr] at h; cases h
  subst hb
  jvm_step X.here [hexec, hdg, ldc_w.wp_string (e := e) (s := T) (f := F0 m pc lm rest) X.here.top hk' (by rw [he]; exact hcf) hcp hr']
  exact a1
theorem js_ldc_w (C : ja_C p m meth c s args i D E) (hd : decode (jb_b i) pc = .ok (.ldc_w x, 3)) (hlk : (jb_ow i, x, k, a, b, w) ∈ jb_L) (hs : jb_ex F i (.ldc_w x) k a b pc ls st h = some (.inr g)) (kk : ja_Wd p l e R s m args below meth c D E Q n0 t0 g) : ja_Wd p l e R s m args below meth c D E Q n0 t0 (pc, ls, st, h) := by
  unfold jb_ex at hs
  dsimp only at hs
  split at hs
  · rename_i hk
    subst hk
    have e := jb_go_inj hs
    subst e
    obtain ⟨l1, l3⟩ := jb_L11 hlk
    intro H locs lm hJ hS hL hT0
    have h2 := kk H locs lm hJ hS hL hT0
    dsimp only at h2 ⊢
    rw [List.map_cons] at h2
    have e1 : ja_v E (.ref (1000000 + a)) = .ref (E.2.1 a) := by
      rw [ja_v_ref E (by omega), ja_ad, if_neg (by omega), if_pos (by omega), show 1000000 + a - 1000000 = a by omega]
    rw [e1] at h2
    exact ja_ldcwS C.1 C.2.1 C.2.2.2.2.1 (C.2.2.2.2.2.2.2.2.2.1.2.1 _ _ _ l1 l3) hd h2
  · cases hs
theorem js_ldc2_w (C : ja_C p m meth c s args i D E) (hd : decode (jb_b i) pc = .ok (.ldc2_w x, 3)) (hlk : (jb_ow i, x, k, a, b, w) ∈ jb_L) (hs : jb_ex F i (.ldc2_w x) k a b pc ls st h = some (.inr g)) (kk : ja_Wd p l e R s m args below meth c D E Q n0 t0 g) : ja_Wd p l e R s m args below meth c D E Q n0 t0 (pc, ls, st, h) := by
  unfold jb_ex at hs
  dsimp only at hs
  split at hs
  · rename_i hk
    subst hk
    have e := jb_go_inj hs
    subst e
    intro H locs lm hJ hS hL hT0
    exact lv_ldc2d C.1 C.2.1 C.2.2.2.2.1 (C.2.2.2.2.2.1 _ (jb_L12 hlk)) hd (kk H locs lm hJ hS hL hT0)
  · cases hs
theorem js_getstatic (C : ja_C p m meth c s args i D E) (hd : decode (jb_b i) pc = .ok (.getstatic x, 3)) (hlk : (jb_ow i, x, k, a, b, w) ∈ jb_L) (hs : jb_ex F i (.getstatic x) k a b pc ls st h = some (.inr g)) (kk : ja_Wd p l e R s m args below meth c D E Q n0 t0 g) : ja_Wd p l e R s m args below meth c D E Q n0 t0 (pc, ls, st, h) := by
  unfold jb_ex at hs
  dsimp only at hs
  split at hs
  · rename_i hk
    subst hk
    have e := jb_go_inj hs
    subst e
    intro H locs lm hJ hS hL hT0
    have h2 := kk H locs lm hJ hS hL hT0
    dsimp only at h2 ⊢
    rw [List.map_cons] at h2
    rcases jb_L13 hlk with ⟨z, hl⟩ | ⟨z, hl⟩
    · rw [if_pos z] at h2
      exact va_gets C.1 C.2.1 C.2.2.2.2.2.2.2.2.2.1.2.2.1 hS C.2.2.2.2.1 (C.2.2.2.2.2.1 _ hl) (fun _ z => z) hd h2
    · rw [if_neg z] at h2
      exact va_gets C.1 C.2.1 C.2.2.2.2.2.2.2.2.2.1.2.2.2.1 hS C.2.2.2.2.1 (C.2.2.2.2.2.1 _ hl) (fun _ z => z) hd h2
  · cases hs
end JH
