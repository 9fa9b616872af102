/-! ===== one instruction of the small machine is one of the machine's: calls ===== -/
def ja_ws (i : Nat) : List Cond := Cond.code (jb_y i) (jb_b i) (jb_ml i) (jb_ret i) :: jb_W
def ja_rm (i mc ms : Nat) : Room := { frames := jb_ht i + 1, cells := mc, slots := ms, locals := 30 * jb_ht i + 24 }
/-- a method's start and end -/
def ja_Pc (D : va_G) (E : ja_E) (args : List Value) (h : jb_H) : Array Value → State → Prop := fun v U => v = (args.map (ja_v E)).toArray ∧ ja_J E D h U.heap ∧ va_K D jb_cl (ja_tys E) U ∧ ja_R E U U.heap
def ja_Qc (D : va_G) (E : ja_E) (r : jb_Res) : Array Value → State → Outcome → State → Prop := fun _ st oc t => oc = .returned (r.1.map (ja_v E)) ∧ ja_J E D r.2 t.heap ∧ va_F (ja_A E) st t
def ja_Met (l : Launch) (D : va_G) (E : ja_E) (i : Nat) (args : List Value) (h : jb_H) (r : jb_Res) : Prop := h.length ≤ r.2.length ∧ ja_tot h ≤ ja_tot r.2 ∧ Met l (jb_y i) (ja_ws i) (ja_rm i (r.2.length - h.length) (ja_tot r.2 - ja_tot h)) (ja_Pc D E args h) (ja_Qc D E r) (r.2.length - h.length) (ja_tot r.2 - ja_tot h) (ja_A E)
def ja_FF (l : Launch) (D : va_G) (E : ja_E) (d : Nat) (F : Nat → List Value → jb_H → Option jb_Res) : Prop := ∀ i args h r, F i args h = some r → i < 248 ∧ jb_ht i < d ∧ ja_Met l D E i args h r
theorem ja_R.to {E : ja_E} {u U : State} {H H1 : Heap} (hW : u.WarmedH U.vm) (hq : ∀ a : Nat, a < H.size → ¬ ja_A E a → H1[a]? = H[a]?) (h : ja_R E u H) : ja_R E U H1 := by
  obtain ⟨h1, h2, h3, h4, h5, h6, h7⟩ := h
  refine ⟨(h1.moved hW.alike).kept hq, fun o x n hn hw => (h2 o x n hn hw).warm hW, (h3.moved hW.alike).kept hq, (h4.moved hW.alike).kept hq, fun w hw hN => ?_, h6.moved hW.alike, h7⟩
  have h8 := h5 w hw hN
  cases w <;> first | exact absurd hN Bool.false_ne_true | exact va_Nw.warmF hW h8 | exact va_Nw.warmM hW h8
theorem ja_blind {D : va_G} {E : ja_E} {args : List Value} {h : jb_H} : FrameBlind (ja_Pc D E args h) := by
  intro a U g mk hp
  obtain ⟨h1, h2, h3, h4⟩ := hp
  exact ⟨h1, h2, va_K.moved (u := U) (U := U.calling g mk a) (Vm.Alike.refl U.vm) h3, ja_R.to (u := U) (U := U.calling g mk a) (State.WarmedH.refl U) (fun _ _ _ => rfl) h4⟩
theorem ja_good {ws : List Cond} (h : ∀ w ∈ ws, w ∈ jb_W) : GoodIn jb_W ws := fun w hw => ⟨h w hw, good_of_word (List.mem_filter.mp (h w hw)).2⟩
theorem jb_M_at {a : Nat} (ha : a < 248) : Cond.initialized (jb_y a).cls ∈ jb_W ∧ (jb_y a).cls = jb_O (jb_ow a) ∧ plainName (jb_y a).cls = true ∧ ((jb_y a).cls ≠ "java/lang/invoke/MethodHandle" ∧ (jb_y a).cls ≠ "java/lang/invoke/VarHandle") ∧ jb_ml a ≤ 8 ∧ Cond.code (jb_y a) (jb_b a) (jb_ml a) (jb_ret a) ∈ jb_W := by
  have h := List.all_eq_true.mp jb_okM_all a (List.mem_range.mpr ha)
  unfold jb_okM at h
  simp only [Bool.and_eq_true, decide_eq_true_eq] at h
  obtain ⟨⟨⟨⟨h1, h2⟩, h3⟩, h4⟩, h5⟩ := h
  exact ⟨jb_inW h1 rfl, h2, h3, h4, h5, jb_cw a ha⟩
theorem ja_wsW {a : Nat} (ha : a < 248) : GoodIn jb_W (ja_ws a) := ja_good (fun w hw => by
  rcases List.mem_cons.mp hw with h | h
  · rw [h]; exact (jb_M_at ha).2.2.2.2.2
  · exact h)
theorem jb_L2 {o x a b p : Nat} (h : (o, x, 2, a, b, p) ∈ jb_L) : a < 248 ∧ Cond.methodLink (jb_O o) x (jb_y a) ∈ jb_W ∧ Cond.instanceMethod (jb_y a) ∈ jb_W ∧ Cond.selects (jb_y a).cls (jb_y a) (jb_y a) ∈ jb_W ∧ (parseMethodDescriptor (jb_y a).desc).map (fun d => d.parameters.length) = some b := by
  have h := jb_L_at h
  simp only [jb_okL, Bool.and_eq_true, decide_eq_true_eq] at h
  exact ⟨h.1.1.1.1, jb_inW h.1.1.1.2 rfl, jb_inW h.1.1.2 rfl, jb_inW h.1.2 rfl, h.2⟩
theorem jb_L3 {o x a b p : Nat} (h : (o, x, 3, a, b, p) ∈ jb_L) : a < 248 ∧ Cond.methodLinkNest (jb_O o) x (jb_y a) "DrownedBells" ∈ lw_tbl ∧ Cond.instanceMethod (jb_y a) ∈ jb_W ∧ Cond.selects (jb_y a).cls (jb_y a) (jb_y a) ∈ jb_W ∧ (parseMethodDescriptor (jb_y a).desc).map (fun d => d.parameters.length) = some b := by
  have h := jb_L_at h
  simp only [jb_okL, Bool.and_eq_true, decide_eq_true_eq] at h
  exact ⟨h.1.1.1.1, List.mem_of_getElem? h.1.1.1.2, jb_inW h.1.1.2 rfl, jb_inW h.1.2 rfl, h.2⟩
theorem jb_L4 {o x a b p : Nat} (h : (o, x, 4, a, b, p) ∈ jb_L) : a < 248 ∧ Cond.methodLink (jb_O o) x (jb_y a) ∈ jb_W ∧ Cond.static (jb_y a) ∈ jb_W ∧ (parseMethodDescriptor (jb_y a).desc).map (fun d => d.parameters.length) = some b := by
  have h := jb_L_at h
  simp only [jb_okL, Bool.and_eq_true, decide_eq_true_eq] at h
  exact ⟨h.1.1.1, jb_inW h.1.1.2 rfl, jb_inW h.1.2 rfl, h.2⟩
theorem jb_L5 {o x a b p : Nat} (h : (o, x, 5, a, b, p) ∈ jb_L) : a < 248 ∧ Cond.methodLinkNest (jb_O o) x (jb_y a) "DrownedBells" ∈ lw_tbl ∧ Cond.static (jb_y a) ∈ jb_W ∧ (parseMethodDescriptor (jb_y a).desc).map (fun d => d.parameters.length) = some b := by
  have h := jb_L_at h
  simp only [jb_okL, Bool.and_eq_true, decide_eq_true_eq] at h
  exact ⟨h.1.1.1, List.mem_of_getElem? h.1.1.2, jb_inW h.1.2 rfl, h.2⟩
theorem jb_L6 {o x a b p : Nat} (h : (o, x, 6, a, b, p) ∈ jb_L) : a < 248 ∧ Cond.methodLink (jb_O o) x (jb_y a) ∈ jb_W ∧ Cond.instanceMethod (jb_y a) ∈ jb_W ∧ (jb_y a).name = "<init>" ∧ jb_ret a = none ∧ (parseMethodDescriptor (jb_y a).desc).map (fun d => d.parameters.length) = some b := by
  have h := jb_L_at h
  simp only [jb_okL, Bool.and_eq_true, decide_eq_true_eq] at h
  exact ⟨h.1.1.1.1.1, jb_inW h.1.1.1.1.2 rfl, jb_inW h.1.1.1.2 rfl, h.1.1.2, h.1.2, h.2⟩
theorem jb_L7 {o x a b p : Nat} (h : (o, x, 7, a, b, p) ∈ jb_L) : a < 248 ∧ Cond.methodLinkNest (jb_O o) x (jb_y a) "DrownedBells" ∈ lw_tbl ∧ Cond.instanceMethod (jb_y a) ∈ jb_W ∧ (jb_y a).name = "<init>" ∧ jb_ret a = none ∧ (parseMethodDescriptor (jb_y a).desc).map (fun d => d.parameters.length) = some b := by
  have h := jb_L_at h
  simp only [jb_okL, Bool.and_eq_true, decide_eq_true_eq] at h
  exact ⟨h.1.1.1.1.1, List.mem_of_getElem? h.1.1.1.1.2, jb_inW h.1.1.1.2 rfl, h.1.1.2, h.1.2, h.2⟩
theorem jb_L8 {o x a b p : Nat} (h : (o, x, 8, a, b, p) ∈ jb_L) : Cond.methodLink (jb_O o) x Lib.objectInit ∈ jb_W := by
  have h := jb_L_at h
  simp only [jb_okL, decide_eq_true_eq] at h
  exact jb_inW h rfl
theorem jb_L15 {o x a b p : Nat} (h : (o, x, 15, a, b, p) ∈ jb_L) : (a = 0 ∧ Cond.methodLink (jb_O o) x Lib.Math.max.name ∈ jb_W) ∨ (a = 1 ∧ Cond.methodLink (jb_O o) x Lib.Math.min.name ∈ jb_W) ∨ (a = 2 ∧ Cond.methodLink (jb_O o) x Lib.Math.abs.name ∈ jb_W) := by
  have h := jb_L_at h
  simp only [jb_okL, Bool.and_eq_true, decide_eq_true_eq] at h
  obtain ⟨h1, h2⟩ := h
  rcases (show a = 0 ∨ a = 1 ∨ a = 2 by omega) with e | e | e
  · rw [e] at h2; exact Or.inl ⟨e, jb_inW h2 rfl⟩
  · rw [e] at h2; exact Or.inr (Or.inl ⟨e, jb_inW h2 rfl⟩)
  · rw [e] at h2; exact Or.inr (Or.inr ⟨e, jb_inW h2 rfl⟩)
section JI
variable {p : Program} {l : Launch} {e : Env} {R : Room} {s : State} {m : MethodId} {args : Array Value} {below : List Frame} {meth : Method} {c : Code} {D : va_G} {E : ja_E} {Q : State → Prop} {n0 t0 i : Nat} {F : Nat → List Value → jb_H → Option jb_Res} {k a b pc x w : Nat} {ls st : List Value} {h : jb_H} {g : jb_Cfg}
theorem jb_invV_inv (hs : jb_invV F pc a b ls st h = some (.inr g)) : ∃ (r : Nat) (rest : List Value) (res : jb_Res), st.drop b = .ref r :: rest ∧ b ≤ st.length ∧ jb_recv h r (jb_ow a) = true ∧ jb_sum rest ≤ 8 ∧ F a (.ref r :: (st.take b).reverse) h = some res ∧ g = (pc + 3, ls, res.1.toList ++ rest, res.2) := by
  unfold jb_invV at hs
  split at hs
  · rename_i h1
    split at hs
    · rename_i r rest hst
      split at hs
      · rename_i h2
        split at hs
        · rename_i v h' hF
          exact ⟨r, rest, (v, h'), hst, h1, h2.1, h2.2, hF, jb_go_inj hs⟩
        · cases hs
      · cases hs
    · cases hs
  · cases hs
theorem jb_invS_inv (hs : jb_invS F pc a b ls st h = some (.inr g)) : ∃ (res : jb_Res), b ≤ st.length ∧ jb_sum (st.drop b) ≤ 8 ∧ F a (st.take b).reverse h = some res ∧ g = (pc + 3, ls, res.1.toList ++ st.drop b, res.2) := by
  unfold jb_invS at hs
  split at hs
  · rename_i h1
    split at hs
    · rename_i v h' hF
      exact ⟨(v, h'), h1.1, h1.2, hF, jb_go_inj hs⟩
    · cases hs
  · cases hs
theorem ja_recv (C : ja_C p m meth c s args i D E) {H : Heap} {locs : List Loc} {r o : Nat} (hJ : ja_J E D h H) (hS : va_S (ja_A E) s.heap H locs) (hr : jb_recv h r o = true) : ∃ q : Nat, ja_v E (.ref r) = .ref q ∧ ∃ cell : Cell, H[q]? = some cell ∧ cell.vm.isStatics = false ∧ s.vm.findClass (jb_O o) = some cell.cls := by
  unfold jb_recv at hr
  split at hr
  · rename_i ho
    have hr := of_decide_eq_true hr
    subst ho
    obtain ⟨cell, h1, h2, h3, -⟩ := (C.2.2.2.2.2.2.2.2.2.1.1.1 (r - 1000000) (by omega)).1.kept hS.2.1
    exact ⟨_, by rw [ja_v_ref E (by omega), ja_ad, if_neg (by omega), if_pos (by omega)], cell, h1, h2, h3⟩
  · simp only [Bool.and_eq_true, decide_eq_true_eq, beq_iff_eq] at hr
    obtain ⟨⟨h1, h2⟩, h3⟩ := hr
    obtain ⟨⟨c0, fs⟩, h4, h5⟩ := Option.map_eq_some_iff.mp h2
    have h5 : c0 = o := h5
    subst h5
    exact ⟨_, ja_v_low E h3, va_recv C.2.2.2.2.2.2.2.2.1 hJ.1 (jb_cl_at h1) ((ja_w_at h4).trans (by rw [ja_ent_o E h1]))⟩
theorem ja_ge (hn : s.heap.size = E.1 + n0) {H : Heap} {locs : List Loc} (hJ : ja_J E D h H) (hS : va_S (ja_A E) s.heap H locs) : n0 ≤ h.length := by
  have h1 := hS.1
  have h2 := hJ.2
  omega
/-- behind a call -/
theorem ja_back (hn : s.heap.size = E.1 + n0) {H : Heap} {locs : List Loc} {lm : Array Slot} {st0 rest : List Value} {r : jb_Res} {av : Array Value} (hr : va_Run p l e R s m args below meth c H locs (h.length - n0) (ja_tot h - t0) (r.2.length - h.length) (ja_tot r.2 - ja_tot h) (F0 m pc lm st0) (rest.map (ja_v E)) (ja_Qc D E r av) (ja_A E)) (hJ : ja_J E D h H) (hS : va_S (ja_A E) s.heap H locs) (hL : ja_L E ls lm) (hT0 : t0 ≤ ja_tot h) (hle : h.length ≤ r.2.length) (hte : ja_tot h ≤ ja_tot r.2) (kk : ja_Wd p l e R s m args below meth c D E Q n0 t0 (pc + 3, ls, r.1.toList ++ rest, r.2)) : W p l e R s m args below meth c H locs (h.length - n0) (ja_tot h - t0) Q (F0 m pc lm st0) := by
  intro T hT X
  obtain ⟨v, st₀, t, T', L, h0, X', hL', e1, e2, ⟨hv, hJ', hF⟩, st⟩ := hr T hT X
  have hv : v = r.1.map (ja_v E) := by cases hv; rfl
  subst hv
  have h3 : n0 ≤ h.length := ja_ge hn hJ hS
  have hS1 : va_S (ja_A E) H T'.heap (locs ++ L) := by
    refine ⟨by rw [e1, ← h0]; exact hF.1, fun q h1 h2 => ?_, fun q hq => ?_⟩
    · rw [e1, ← h0]
      rw [← h0] at h1
      exact hF.2 q h1 h2
    · rcases List.mem_append.mp hq with z | z
      · exact hS.2.2 q z
      · exact hL' q z
  have hc1 : h.length - n0 + (r.2.length - h.length) = r.2.length - n0 := by omega
  have hc2 : ja_tot h - t0 + (ja_tot r.2 - ja_tot h) = ja_tot r.2 - t0 := by omega
  rw [hc1, hc2] at X'
  have hJ1 : ja_J E D r.2 T'.heap := by rw [e1]; exact hJ'
  obtain ⟨t2, a1, b1⟩ := kk T'.heap (locs ++ L) lm hJ1 (hS.tr hS1) hL (Nat.le_trans hT0 hte) T' rfl X'
  refine ⟨t2, st t2 ?_, b1⟩
  have ee : (r.1.map (ja_v E)).toList ++ rest.map (ja_v E) = (r.1.toList ++ rest).map (ja_v E) := by
    cases r.1 <;> simp
  rw [ee]
  exact a1
theorem ja_pre (C : ja_C p m meth c s args i D E) {H : Heap} {locs : List Loc} {as : List Value} {av : Array Value} (hJ : ja_J E D h H) (hS : va_S (ja_A E) s.heap H locs) (hav : av = (as.map (ja_v E)).toArray) : ∀ U : State, U.heap = H → s.WarmedH U.vm → ja_Pc D E as h av U := by
  intro U hU hW
  exact ⟨hav, by rw [hU]; exact hJ, va_K.moved hW.alike C.2.2.2.2.2.2.2.2.1, by rw [hU]; exact ja_R.to hW hS.2.1 C.2.2.2.2.2.2.2.2.2.1⟩
theorem ja_stk {E : ja_E} {st rest : List Value} {v : Value} {b : Nat} (hd : st.drop b = v :: rest) : st.map (ja_v E) = ((st.take b).reverse.map (ja_v E)).reverse ++ ja_v E v :: rest.map (ja_v E) := by
  have h1 : st = st.take b ++ v :: rest := by rw [← hd, List.take_append_drop]
  rw [← List.map_reverse, List.reverse_reverse, ← List.map_cons, ← List.map_append, ← h1]
theorem ja_stkS {E : ja_E} {st : List Value} {b : Nat} : st.map (ja_v E) = ((st.take b).reverse.map (ja_v E)).reverse ++ (st.drop b).map (ja_v E) := by
  rw [← List.map_reverse, List.reverse_reverse, ← List.map_append, List.take_append_drop]
theorem ja_alen {E : ja_E} {st : List Value} {b : Nat} (h : b ≤ st.length) : ((st.take b).reverse.map (ja_v E)).length = b := by
  rw [List.length_map, List.length_reverse, List.length_take]
  omega
theorem ja_rest (C : ja_C p m meth c s args i D E) {rest : List Value} (h : jb_sum rest ≤ 8) {pc : Nat} {lm : Array Slot} {st0 : List Value} : 2 * (F0 m pc lm st0).monitorRoom + ((rest.map (ja_v E)).map fun v => v.category).sum ≤ 8 := by
  rw [ja_sum C.fok]
  show 2 * 0 + _ ≤ 8
  omega
theorem ja_roomC {d1 d2 ml : Nat} (h : d1 < d2) (hml : ml ≤ 8) : d1 + 1 + 1 ≤ d2 + 1 ∧ 8 + (ml + 11) + (30 * d1 + 24) ≤ 30 * d2 + 24 := by omega
theorem ja_S (C : ja_C p m meth c s args i D E) : CallFix p m c (jb_b i) (jb_ml i) s args jb_W (jb_O (jb_ow i)) := ⟨C.1, C.2.1, C.2.2.2.1, C.2.2.2.2.1, C.2.2.2.2.2.1⟩
theorem js_invV (C : ja_C p m meth c s args i D E) (hn : s.heap.size = E.1 + n0) (hFF : ja_FF l D E (jb_ht i) F) (hRf : R.frames = jb_ht i + 1) (hRl : R.locals = 30 * jb_ht i + 24) (hlen : ls.length = jb_ml i) (hd : decode (jb_b i) pc = .ok (.invokevirtual x, 3)) (hk : k = 2 ∨ k = 3) (hlk : (jb_ow i, x, k, a, b, w) ∈ jb_L) (hs : jb_invV F pc a b ls st h = some (.inr g)) (hRc : g.2.2.2.length - n0 ≤ R.cells) (hRs : ja_tot g.2.2.2 - t0 ≤ R.slots) (kk : ja_Wd p l e R s m args below meth c D E Q n0 t0 g) : ja_Wd p l e R s m args below meth c D E Q n0 t0 (pc, ls, st, h) := by
  obtain ⟨r, rest, res, hst, hb, hrec, hsum, hF, e⟩ := jb_invV_inv hs
  subst e
  obtain ⟨ha, hht, hle, hte, hM⟩ := hFF _ _ _ _ hF
  obtain ⟨w1, w2, w3, w4, w5, w6⟩ := jb_M_at ha
  intro H locs lm hJ hS hL hT0
  have h3 : n0 ≤ h.length := ja_ge hn hJ hS
  obtain ⟨q, hq, cell, hc1, hc2, hc3⟩ := ja_recv C hJ hS hrec
  dsimp only at hRc hRs hT0 ⊢
  rw [ja_stk hst, hq]
  have hcl : s.vm.findClass (jb_y a).cls = some cell.cls := by rw [w2]; exact hc3
  have hrm : (ja_rm a (res.2.length - h.length) (ja_tot res.2 - ja_tot h)).frames + 1 ≤ R.frames ∧ 8 + (jb_ml a + 11) + (ja_rm a (res.2.length - h.length) (ja_tot res.2 - ja_tot h)).locals ≤ R.locals := by
    rw [hRf, hRl]
    exact ja_roomC hht w5
  have hP : PreV s H (jb_y a).cls q (ja_Pc D E (.ref r :: (st.take b).reverse) h) ((st.take b).reverse.map (ja_v E)) := ⟨ja_blind, ⟨cell, hc1, hc2, hcl⟩, ja_pre C hJ hS (by rw [List.map_cons, hq])⟩
  have hls : (F0 m pc lm (((st.take b).reverse.map (ja_v E)).reverse ++ Value.ref q :: rest.map (ja_v E))).locals.size = jb_ml i := hL.1.trans hlen
  rcases hk with hk | hk
  · subst hk
    obtain ⟨l1, l2, l3, l4, l5⟩ := jb_L2 hlk
    exact ja_back hn (va_runV (ja_S C) hM ⟨callB_of b C.2.2.2.2.2.1 (ja_wsW ha) rfl rfl rfl (C.2.2.2.2.2.1 _ w1) (C.2.2.2.2.2.1 _ l2) ⟨w4.1, w4.2, l5⟩ hrm, C.2.2.2.2.2.1 _ l3, C.2.2.2.2.2.1 _ l4⟩ hP rfl (ja_alen hb) hls rfl (ja_rest C hsum) hd ⟨by omega, by omega⟩) hJ hS hL hT0 hle hte kk
  · subst hk
    obtain ⟨l1, l2, l3, l4, l5⟩ := jb_L3 hlk
    exact ja_back hn (va_runVN (ja_S C) hM ⟨va_cnB b C.2.2.2.2.2.1 (ja_wsW ha) rfl rfl rfl (C.2.2.2.2.2.2.2.2.2.1.2.2.2.2.1 _ l2 rfl) (C.2.2.2.2.2.1 _ w1) ⟨w4.1, w4.2, l5⟩ hrm, C.2.2.2.2.2.1 _ l3, C.2.2.2.2.2.1 _ l4⟩ hP rfl (ja_alen hb) hls rfl (ja_rest C hsum) hd ⟨by omega, by omega⟩) hJ hS hL hT0 hle hte kk
theorem js_invS (C : ja_C p m meth c s args i D E) (hn : s.heap.size = E.1 + n0) (hFF : ja_FF l D E (jb_ht i) F) (hRf : R.frames = jb_ht i + 1) (hRl : R.locals = 30 * jb_ht i + 24) (hlen : ls.length = jb_ml i) (hd : decode (jb_b i) pc = .ok (.invokestatic x, 3)) (hk : k = 4 ∨ k = 5) (hlk : (jb_ow i, x, k, a, b, w) ∈ jb_L) (hs : jb_invS F pc a b ls st h = some (.inr g)) (hRc : g.2.2.2.length - n0 ≤ R.cells) (hRs : ja_tot g.2.2.2 - t0 ≤ R.slots) (kk : ja_Wd p l e R s m args below meth c D E Q n0 t0 g) : ja_Wd p l e R s m args below meth c D E Q n0 t0 (pc, ls, st, h) := by
  obtain ⟨res, hb, hsum, hF, e⟩ := jb_invS_inv hs
  subst e
  obtain ⟨ha, hht, hle, hte, hM⟩ := hFF _ _ _ _ hF
  obtain ⟨w1, w2, w3, w4, w5, w6⟩ := jb_M_at ha
  intro H locs lm hJ hS hL hT0
  have h3 : n0 ≤ h.length := ja_ge hn hJ hS
  dsimp only at hRc hRs hT0 ⊢
  rw [ja_stkS (st := st) (b := b)]
  have hrm : (ja_rm a (res.2.length - h.length) (ja_tot res.2 - ja_tot h)).frames + 1 ≤ R.frames ∧ 8 + (jb_ml a + 11) + (ja_rm a (res.2.length - h.length) (ja_tot res.2 - ja_tot h)).locals ≤ R.locals := by
    rw [hRf, hRl]
    exact ja_roomC hht w5
  have hP : PreS s H (ja_Pc D E (st.take b).reverse h) ((st.take b).reverse.map (ja_v E)) := ⟨ja_blind, ja_pre C hJ hS rfl⟩
  have hls : (F0 m pc lm (((st.take b).reverse.map (ja_v E)).reverse ++ (st.drop b).map (ja_v E))).locals.size = jb_ml i := hL.1.trans hlen
  rcases hk with hk | hk
  · subst hk
    obtain ⟨l1, l2, l3, l5⟩ := jb_L4 hlk
    exact ja_back hn (va_runS (ja_S C) hM ⟨callB_of b C.2.2.2.2.2.1 (ja_wsW ha) rfl rfl rfl (C.2.2.2.2.2.1 _ w1) (C.2.2.2.2.2.1 _ l2) ⟨w4.1, w4.2, l5⟩ hrm, C.2.2.2.2.2.1 _ l3⟩ hP rfl (ja_alen hb) hls rfl (ja_rest C hsum) hd ⟨by omega, by omega⟩) hJ hS hL hT0 hle hte kk
  · subst hk
    obtain ⟨l1, l2, l3, l5⟩ := jb_L5 hlk
    exact ja_back hn (va_runSN (ja_S C) hM ⟨va_cnB b C.2.2.2.2.2.1 (ja_wsW ha) rfl rfl rfl (C.2.2.2.2.2.2.2.2.2.1.2.2.2.2.1 _ l2 rfl) (C.2.2.2.2.2.1 _ w1) ⟨w4.1, w4.2, l5⟩ hrm, C.2.2.2.2.2.1 _ l3, trivial⟩ hP rfl (ja_alen hb) hls rfl (ja_rest C hsum) hd ⟨by omega, by omega⟩) hJ hS hL hT0 hle hte kk
theorem ja_wsN {a : Nat} (h : jb_ret a = none) : ja_ws a = Cond.code (jb_y a) (jb_b a) (jb_ml a) none :: jb_W := by
  rw [ja_ws, h]
theorem js_invI (C : ja_C p m meth c s args i D E) (hn : s.heap.size = E.1 + n0) (hFF : ja_FF l D E (jb_ht i) F) (hRf : R.frames = jb_ht i + 1) (hRl : R.locals = 30 * jb_ht i + 24) (hlen : ls.length = jb_ml i) (hd : decode (jb_b i) pc = .ok (.invokespecial x, 3)) (hk : k = 6 ∨ k = 7) (hlk : (jb_ow i, x, k, a, b, w) ∈ jb_L) (hs : jb_invV F pc a b ls st h = some (.inr g)) (hRc : g.2.2.2.length - n0 ≤ R.cells) (hRs : ja_tot g.2.2.2 - t0 ≤ R.slots) (kk : ja_Wd p l e R s m args below meth c D E Q n0 t0 g) : ja_Wd p l e R s m args below meth c D E Q n0 t0 (pc, ls, st, h) := by
  obtain ⟨r, rest, res, hst, hb, hrec, hsum, hF, e⟩ := jb_invV_inv hs
  subst e
  obtain ⟨ha, hht, hle, hte, hM⟩ := hFF _ _ _ _ hF
  obtain ⟨w1, w2, w3, w4, w5, w6⟩ := jb_M_at ha
  intro H locs lm hJ hS hL hT0
  have h3 : n0 ≤ h.length := ja_ge hn hJ hS
  obtain ⟨q, hq, cell, hc1, hc2, hc3⟩ := ja_recv C hJ hS hrec
  dsimp only at hRc hRs hT0 ⊢
  rw [ja_stk hst, hq]
  have hrm : (ja_rm a (res.2.length - h.length) (ja_tot res.2 - ja_tot h)).frames + 1 ≤ R.frames ∧ 8 + (jb_ml a + 11) + (ja_rm a (res.2.length - h.length) (ja_tot res.2 - ja_tot h)).locals ≤ R.locals := by
    rw [hRf, hRl]
    exact ja_roomC hht w5
  have hP : PreS s H (ja_Pc D E (.ref r :: (st.take b).reverse) h) (.ref q :: (st.take b).reverse.map (ja_v E)) := ⟨ja_blind, ja_pre C hJ hS (by rw [List.map_cons, hq])⟩
  have hls : (F0 m pc lm (((st.take b).reverse.map (ja_v E)).reverse ++ Value.ref q :: rest.map (ja_v E))).locals.size = jb_ml i := hL.1.trans hlen
  rcases hk with hk | hk
  · subst hk
    obtain ⟨l1, l2, l3, l4, l5, l6⟩ := jb_L6 hlk
    exact ja_back hn (va_runI (ja_S C) hM (cwI b C.2.2.2.2.2.1 (ja_wsW ha) (ja_wsN l5) rfl rfl (C.2.2.2.2.2.1 _ w1) (C.2.2.2.2.2.1 _ l2) (C.2.2.2.2.2.1 _ l3) l4 ⟨w4.1, w4.2, l6⟩ hrm) hP rfl (ja_alen hb) hls rfl (ja_rest C hsum) hd ⟨by omega, by omega⟩) hJ hS hL hT0 hle hte kk
  · subst hk
    obtain ⟨l1, l2, l3, l4, l5, l6⟩ := jb_L7 hlk
    exact ja_back hn (va_runIN (ja_S C) hM ⟨va_cnB b C.2.2.2.2.2.1 (ja_wsW ha) (ja_wsN l5) rfl rfl (C.2.2.2.2.2.2.2.2.2.1.2.2.2.2.1 _ l2 rfl) (C.2.2.2.2.2.1 _ w1) ⟨w4.1, w4.2, l6⟩ hrm, l4, C.2.2.2.2.2.1 _ l3⟩ hP rfl (ja_alen hb) hls rfl (ja_rest C hsum) hd ⟨by omega, by omega⟩) hJ hS hL hT0 hle hte kk
theorem jb_objW : Cond.instanceMethod Lib.objectInit ∈ jb_W ∧ Cond.code Lib.objectInit ⟨#[0xb1]⟩ 1 none ∈ jb_W := ⟨jb_inW_of (by decide +kernel) rfl, jb_inW_of (by decide +kernel) rfl⟩
theorem js_invO (C : ja_C p m meth c s args i D E) (hRf : R.frames = jb_ht i + 1) (hRl : R.locals = 30 * jb_ht i + 24) (hlen : ls.length = jb_ml i) (hd : decode (jb_b i) pc = .ok (.invokespecial x, 3)) (hlk : (jb_ow i, x, 8, a, b, w) ∈ jb_L) {r : Nat} {st' : List Value} (hsum : jb_sum st' ≤ 8) (hr : r < 1000000) (kk : ja_Wd p l e R s m args below meth c D E Q n0 t0 (pc + 3, ls, st', h)) : ja_Wd p l e R s m args below meth c D E Q n0 t0 (pc, ls, .ref r :: st', h) := by
  intro H locs lm hJ hS hL hT0
  have h2 := kk H locs lm hJ hS hL hT0
  dsimp only at h2 ⊢
  rw [List.map_cons, ja_v_low E hr]
  refine W.objInit C.1 C.2.1 C.2.2.2.2.1 (C.2.2.2.2.2.1 _ (jb_L8 hlk)) (C.2.2.2.2.2.1 _ jb_objW.1) (C.2.2.2.2.2.1 _ jb_objW.2) rfl ?_ rfl hd (by omega) ?_ h2
  · show lm.size = _
    rw [hL.1, hlen]
    exact C.2.2.2.1.symm
  · have := ja_rest C hsum (pc := pc) (lm := lm) (st0 := .ref (E.1 + r) :: st'.map (ja_v E)) (m := m)
    omega
theorem jb_mathW : (Cond.static Lib.Math.max.name ∈ jb_W ∧ Cond.code Lib.Math.max.name Lib.Math.max.code 2 (some .int) ∈ jb_W) ∧ (Cond.static Lib.Math.min.name ∈ jb_W ∧ Cond.code Lib.Math.min.name Lib.Math.min.code 2 (some .int) ∈ jb_W) ∧ (Cond.static Lib.Math.abs.name ∈ jb_W ∧ Cond.code Lib.Math.abs.name Lib.Math.abs.code 1 (some .int) ∈ jb_W) ∧ Cond.initialized "java/lang/Math" ∈ jb_W :=
  ⟨⟨jb_inW_of (by decide +kernel) rfl, jb_inW_of (by decide +kernel) rfl⟩, ⟨jb_inW_of (by decide +kernel) rfl, jb_inW_of (by decide +kernel) rfl⟩, ⟨jb_inW_of (by decide +kernel) rfl, jb_inW_of (by decide +kernel) rfl⟩, jb_inW_of (by decide +kernel) rfl⟩
theorem ja_restM (C : ja_C p m meth c s args i D E) (hRl : R.locals = 30 * jb_ht i + 24) {rest : List Value} (h : jb_sum rest ≤ 8) : ((rest.map (ja_v E)).map fun v => v.category).sum + 13 ≤ R.locals := by
  rw [ja_sum C.fok]
  omega
theorem js_invM (C : ja_C p m meth c s args i D E) (hRf : R.frames = jb_ht i + 1) (hRl : R.locals = 30 * jb_ht i + 24) (hlen : ls.length = jb_ml i) (hd : decode (jb_b i) pc = .ok (.invokestatic x, 3)) (hlk : (jb_ow i, x, 15, a, b, w) ∈ jb_L) (hs : jb_ex F i (.invokestatic x) 15 a b pc ls st h = some (.inr g)) (hRc : g.2.2.2.length - n0 ≤ R.cells) (hRs : ja_tot g.2.2.2 - t0 ≤ R.slots) (kk : ja_Wd p l e R s m args below meth c D E Q n0 t0 g) : ja_Wd p l e R s m args below meth c D E Q n0 t0 (pc, ls, st, h) := by
  unfold jb_ex at hs
  dsimp only at hs
  rw [if_neg (by omega), if_pos rfl] at hs
  obtain ⟨⟨m1, m2⟩, ⟨m3, m4⟩, ⟨m5, m6⟩, m7⟩ := jb_mathW
  split at hs
  · rename_i y r
    split at hs
    · rename_i ha
      split at hs
      · rename_i hsum
        have e := jb_go_inj hs
        subst e
        intro H locs lm hJ hS hL hT0
        have h2 := kk H locs lm hJ hS hL hT0
        dsimp only at h2 hRc hRs ⊢
        rw [List.map_cons] at h2 ⊢
        have hml : c.maxLocals = lm.size := by rw [hL.1, hlen]; exact C.2.2.2.1
        have hl : Cond.methodLink (jb_O (jb_ow i)) x Lib.Math.abs.name ∈ jb_W := by
          rcases jb_L15 hlk with z | z | z
          · omega
          · omega
          · exact z.2
        exact va_mabs C.1 C.2.1 hml C.2.2.2.2.1 (C.2.2.2.2.2.1 _ hl) (C.2.2.2.2.2.1 _ m5) (C.2.2.2.2.2.1 _ m7) (C.2.2.2.2.2.1 _ m6) (by omega) (ja_restM C hRl hsum) hRc hRs hd h2
      · cases hs
    · rename_i ha
      split at hs
      · rename_i x0 r'
        split at hs
        · rename_i hsum
          have e := jb_go_inj hs
          subst e
          intro H locs lm hJ hS hL hT0
          have h2 := kk H locs lm hJ hS hL hT0
          dsimp only at h2 hRc hRs ⊢
          rw [List.map_cons] at h2
          rw [List.map_cons, List.map_cons]
          have hml : c.maxLocals = lm.size := by rw [hL.1, hlen]; exact C.2.2.2.1
          rcases jb_L15 hlk with z | z | z
          · rw [if_pos z.1] at h2
            exact va_mmax C.1 C.2.1 hml C.2.2.2.2.1 (C.2.2.2.2.2.1 _ z.2) (C.2.2.2.2.2.1 _ m1) (C.2.2.2.2.2.1 _ m7) (C.2.2.2.2.2.1 _ m2) (by omega) (ja_restM C hRl hsum) hRc hRs hd h2
          · rw [if_neg (by omega)] at h2
            exact va_mmin C.1 C.2.1 hml C.2.2.2.2.1 (C.2.2.2.2.2.1 _ z.2) (C.2.2.2.2.2.1 _ m3) (C.2.2.2.2.2.1 _ m7) (C.2.2.2.2.2.1 _ m4) (by omega) (ja_restM C hRl hsum) hRc hRs hd h2
          · omega
        · cases hs
      · cases hs
  · cases hs
end JI
