/-! ===== a call out of the law ===== -/
def lw_Cx (p : Program) (s : State) (m : MethodId) (c : Code) (b : Nat) (D : va_G) (E : ja_E) : Prop :=
  p.tables.exec = Jvm.exec ∧ c.code = code ∧ c.maxLocals = 8 ∧ s.vm.findClass "DrownedBellsLaw" = some m.cls ∧ (∀ w ∈ lw_tbl, w.before #[Value.ref b] s = true) ∧ va_K D jb_cl (ja_tys E) s ∧ ja_R E s s.heap ∧ s.heap.size = E.1 ∧ b < s.heap.size
section LW
variable {p : Program} {l : Launch} {e : Env} {s : State} {m : MethodId} {below : List Frame} {meth : Method} {c : Code} {D : va_G} {E : ja_E} {Q : State → Prop} {b : Nat}
theorem lw_W (C : lw_Cx p s m c b D E) : ∀ w ∈ jb_W, w.before #[Value.ref b] s = true := fun w hw => C.2.2.2.2.1 w (List.mem_filter.mp hw).1
theorem lw_inv (C : lw_Cx p s m c b D E) {a x pc r : Nat} {as rest : List Value} {h : jb_H} {res : jb_Res} {H : Heap} {locs : List Loc} {lm : Array Slot} (hev : jb_Ev a (.ref r :: as) h = some res) (hrec : jb_recv h r (jb_ow a) = true) (hr : r < 1000000) (ha : a < 248) (hht : jb_ht a ≤ 8) (hlink : Cond.methodLink "DrownedBellsLaw" x (jb_y a) ∈ jb_W) (hinst : Cond.instanceMethod (jb_y a) ∈ jb_W) (hsel : Cond.selects (jb_y a).cls (jb_y a) (jb_y a) ∈ jb_W) (hdesc : (parseMethodDescriptor (jb_y a).desc).map (fun d => d.parameters.length) = some as.length) (hsum : (rest.map fun v => v.category).sum ≤ 8) (hd : decode code pc = .ok (.invokevirtual x, 3)) (hc : res.2.length ≤ 600000) (hs : ja_tot res.2 ≤ 7302250) (hlm : lm.size = 8) (hJ : ja_J E D h H) (hS : va_S (ja_A E) s.heap H locs) (kk : ∀ H' locs', ja_J E D res.2 H' → va_S (ja_A E) s.heap H' locs' → W p l e room_1 s m #[Value.ref b] below meth c H' locs' res.2.length (ja_tot res.2) Q (F0 m (pc + 3) lm ((res.1.map (ja_v E)).toList ++ rest))) : W p l e room_1 s m #[Value.ref b] below meth c H locs h.length (ja_tot h) Q (F0 m pc lm ((as.map (ja_v E)).reverse ++ .ref (E.1 + r) :: rest)) := by
  obtain ⟨c1, c2, c3, c4, c5, cK, cR, cE, cb⟩ := id C
  obtain ⟨-, -, hle, hte, hM⟩ := ja_sim l D E (jb_ht a + 1) a (.ref r :: as) h res hev
  obtain ⟨w1, w2, w3, w4, w5, w6⟩ := jb_M_at ha
  have hrec' := hrec
  unfold jb_recv at hrec'
  have ho : jb_ow a ≠ 13 := by
    intro z
    rw [if_pos z] at hrec'
    have := of_decide_eq_true hrec'
    omega
  rw [if_neg ho] at hrec'
  simp only [Bool.and_eq_true, decide_eq_true_eq, beq_iff_eq] at hrec'
  obtain ⟨⟨h1, h2⟩, h3⟩ := hrec'
  obtain ⟨⟨c0, fs⟩, h4, h5⟩ := Option.map_eq_some_iff.mp h2
  have h5 : c0 = jb_ow a := h5
  obtain ⟨cell, hc1, hc2, hc3⟩ := va_recv cK hJ.1 (jb_cl_at h1) ((ja_w_at h4).trans (by rw [h5, ja_ent_o E h1]))
  have hcl : s.vm.findClass (jb_y a).cls = some cell.cls := by rw [w2]; exact hc3
  have hrm : (ja_rm a (res.2.length - h.length) (ja_tot res.2 - ja_tot h)).frames + 1 ≤ room_1.frames ∧ 8 + (jb_ml a + 11) + (ja_rm a (res.2.length - h.length) (ja_tot res.2 - ja_tot h)).locals ≤ room_1.locals := by
    show jb_ht a + 1 + 1 ≤ 13 ∧ 8 + (jb_ml a + 11) + (30 * jb_ht a + 24) ≤ 502
    omega
  have hP : PreV s H (jb_y a).cls (E.1 + r) (ja_Pc D E (.ref r :: as) h) (as.map (ja_v E)) := ⟨ja_blind, ⟨cell, hc1, hc2, hcl⟩, fun U hU hW => ⟨by rw [List.map_cons, ja_v_low E hr], by rw [hU]; exact hJ, va_K.moved hW.alike cK, by rw [hU]; exact ja_R.to hW hS.2.1 cR⟩⟩
  have hrun := va_runV (g := F0 m pc lm ((as.map (ja_v E)).reverse ++ Value.ref (E.1 + r) :: rest)) (cells := h.length) (slots := ja_tot h) (locs := locs) (R := room_1) (e := e) (below := below) (meth := meth) (⟨c1, c2, c3, c4, lw_W C⟩ : CallFix p m c code 8 s #[Value.ref b] jb_W "DrownedBellsLaw") hM ⟨callB_of as.length (lw_W C) (ja_wsW ha) rfl rfl rfl (lw_W C _ w1) (lw_W C _ hlink) ⟨w4.1, w4.2, hdesc⟩ hrm, lw_W C _ hinst, lw_W C _ hsel⟩ hP rfl (by rw [List.length_map]) hlm rfl (by show 2 * 0 + _ ≤ 8; omega) hd ⟨by show h.length + (res.2.length - h.length) ≤ 600000; omega, by show ja_tot h + (ja_tot res.2 - ja_tot h) ≤ 7302250; omega⟩
  intro T hT X
  obtain ⟨v, st₀, t, T', L, g0, X', hL', e1, e2, ⟨hv, hJ', hF⟩, st⟩ := hrun T hT X
  have hv : v = res.1.map (ja_v E) := by cases hv; rfl
  subst hv
  have hS1 : va_S (ja_A E) H T'.heap (locs ++ L) := by
    refine ⟨by rw [e1, ← g0]; exact hF.1, fun q q1 q2 => ?_, fun q hq => ?_⟩
    · rw [e1, ← g0]
      rw [← g0] at q1
      exact hF.2 q q1 q2
    · rcases List.mem_append.mp hq with z | z
      · exact hS.2.2 q z
      · exact hL' q z
  rw [show h.length + (res.2.length - h.length) = res.2.length by omega, show ja_tot h + (ja_tot res.2 - ja_tot h) = ja_tot res.2 by omega] at X'
  obtain ⟨t2, a1, b1⟩ := kk T'.heap (locs ++ L) (by rw [e1]; exact hJ') (hS.tr hS1) T' rfl X'
  exact ⟨t2, st t2 a1, b1⟩
end LW
