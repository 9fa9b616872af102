/-! ===== THE SIMULATION: a method's contract out of the small machine's run ===== -/
theorem jb_ex_ret {F : Nat → List Value → jb_H → Option jb_Res} {i k a b pc : Nat} {ls st : List Value} {h : jb_H} {ins : Instr} {r : jb_Res} (hs : jb_ex F i ins k a b pc ls st h = some (.inl r)) : r.2 = h := by
  cases ins <;> unfold jb_ex at hs <;> dsimp only at hs <;> (first | (cases hs; done) | skip) <;> (repeat' (split at hs)) <;> first
    | (cases hs; done)
    | (unfold jb_go at hs; cases hs; done)
    | (cases hs; rfl)
    | (unfold jb_invV at hs; (repeat' (split at hs)) <;> (first | (cases hs; done) | (unfold jb_go at hs; cases hs; done)))
    | (unfold jb_invS at hs; (repeat' (split at hs)) <;> (first | (cases hs; done) | (unfold jb_go at hs; cases hs; done)))
section JU
variable {p : Program} {l : Launch} {e : Env} {R : Room} {s : State} {m : MethodId} {args : Array Value} {below : List Frame} {meth : Method} {c : Code} {D : va_G} {E : ja_E} {Q : State → Prop} {n0 t0 i : Nat} {F : Nat → List Value → jb_H → Option jb_Res} {k a b pc : Nat} {ls st : List Value} {h : jb_H} {g : jb_Cfg}
theorem ja_q (v : Option Value) (r : jb_Res) {H : Heap} {locs : List Loc} (hv : r.1.map (ja_v E) = v) (hJ : ja_J E D r.2 H) (hS : va_S (ja_A E) s.heap H locs) : ∀ t : State, t.heap = H → s.WarmedH t.vm → ja_Qc D E r args s (.returned v) t := by
  intro t ht _
  subst hv
  exact ⟨rfl, by rw [ht]; exact hJ, hS.F ht⟩
theorem ja_ret (C : ja_C p m meth c s args i D E) {r : jb_Res} (hs : jb_stp F i (pc, ls, st, h) = some (.inl r)) : r.2 = h ∧ ja_Wd p l e R s m args below meth c D E (MQ below (ja_Qc D E r) args s (r.2.length - n0) (ja_tot r.2 - t0) (ja_A E)) n0 t0 (pc, ls, st, h) := by
  unfold jb_stp at hs
  dsimp only at hs
  split at hs
  · cases hs
  · rename_i q hq
    obtain ⟨ins, k, a, b⟩ := q
    dsimp only at hs
    obtain ⟨hd, ⟨n1, hd1⟩, hl⟩ := jb_op_ok C.2.2.2.2.2.2.2.2.2.2.2 hq
    have hlocks := C.2.2.2.2.2.2.1
    cases ins with
    | ireturn =>
      unfold jb_ex at hs
      dsimp only at hs
      split at hs
      · rename_i x
        split at hs
        · rename_i t ht
          split at hs
          · rename_i hc
            cases hs
            refine ⟨rfl, fun H locs lm hJ hS hL hT0 => ?_⟩
            exact W.zret C.1 C.2.1 (C.2.2.1.trans ht) hc.2 (ja_q _ _ rfl hJ hS) hS.2.2 (hd.resolve_left (by simp [jb_ln])) hlocks
          · cases hs
        · cases hs
      · cases hs
    | dreturn =>
      unfold jb_ex at hs
      dsimp only at hs
      split at hs
      · split at hs
        · rename_i hc
          cases hs
          refine ⟨rfl, fun H locs lm hJ hS hL hT0 => ?_⟩
          exact W.dret C.1 C.2.1 (C.2.2.1.trans hc) (ja_q _ _ rfl hJ hS) hS.2.2 (hd.resolve_left (by simp [jb_ln])) hlocks
        · cases hs
      · cases hs
    | freturn =>
      unfold jb_ex at hs
      dsimp only at hs
      split at hs
      · split at hs
        · rename_i hc
          cases hs
          refine ⟨rfl, fun H locs lm hJ hS hL hT0 => ?_⟩
          exact W.fret C.1 C.2.1 (C.2.2.1.trans hc) (ja_q _ _ rfl hJ hS) hS.2.2 (hd.resolve_left (by simp [jb_ln])) hlocks
        · cases hs
      · cases hs
    | areturn =>
      unfold jb_ex at hs
      dsimp only at hs
      split at hs
      · rename_i x
        split at hs
        · rename_i nm ht
          cases hs
          refine ⟨rfl, fun H locs lm hJ hS hL hT0 => ?_⟩
          exact W.aret (v := ja_v E (.ref x)) C.1 C.2.1 (C.2.2.1.trans ht) (Or.inl ⟨_, rfl⟩) (ja_v_refs C.fok x) (ja_q _ _ rfl hJ hS) hS.2.2 (hd.resolve_left (by simp [jb_ln])) hlocks
        · cases hs
      · split at hs
        · rename_i nm ht
          cases hs
          refine ⟨rfl, fun H locs lm hJ hS hL hT0 => ?_⟩
          exact W.aret (v := .null) C.1 C.2.1 (C.2.2.1.trans ht) (Or.inl ⟨_, rfl⟩) (Or.inl rfl) (ja_q _ _ rfl hJ hS) hS.2.2 (hd.resolve_left (by simp [jb_ln])) hlocks
        · cases hs
      · cases hs
    | return_ =>
      unfold jb_ex at hs
      dsimp only at hs
      split at hs
      · split at hs
        · rename_i hc
          cases hs
          refine ⟨rfl, fun H locs lm hJ hS hL hT0 => ?_⟩
          exact W.vret C.1 C.2.1 (C.2.2.1.trans hc) (ja_q _ _ rfl hJ hS) hS.2.2 (hd.resolve_left (by simp [jb_ln])) hlocks
        · cases hs
      · cases hs
    | _ => 
      exfalso
      unfold jb_ex at hs
      dsimp only at hs
      (repeat' (split at hs)) <;> first
        | (cases hs; done)
        | (unfold jb_go at hs; cases hs; done)
        | (unfold jb_invV at hs; (repeat' (split at hs)) <;> (first | (cases hs; done) | (unfold jb_go at hs; cases hs; done)))
        | (unfold jb_invS at hs; (repeat' (split at hs)) <;> (first | (cases hs; done) | (unfold jb_go at hs; cases hs; done)))
theorem jb_stp_mono (hF : jb_mono F) (hs : jb_stp F i (pc, ls, st, h) = some (.inr g)) : jb_mno ls h g := by
  unfold jb_stp at hs
  dsimp only at hs
  split at hs
  · cases hs
  · exact jb_ex_mono hF hs
theorem ja_FF.mono {d : Nat} (hFF : ja_FF l D E d F) : jb_mono F := fun i args h r hr => ⟨(hFF i args h r hr).2.2.1, (hFF i args h r hr).2.2.2.1⟩
end JU
section JV
variable {p : Program} {l : Launch} {e : Env} {s : State} {m : MethodId} {args : Array Value} {below : List Frame} {meth : Method} {c : Code} {D : va_G} {E : ja_E} {n0 t0 i : Nat} {F : Nat → List Value → jb_H → Option jb_Res}
theorem jb_run_mn (hF : jb_mono F) {r : jb_Res} : ∀ (n : Nat) (pc : Nat) (ls st : List Value) (h : jb_H), jb_run F i n (pc, ls, st, h) = some r → (∀ pc' ls' st' h', jb_stp F i (pc', ls', st', h') = some (.inl r) → r.2 = h') → h.length ≤ r.2.length ∧ ja_tot h ≤ ja_tot r.2
  | 0, _, _, _, _, hr, _ => by cases hr
  | n + 1, pc, ls, st, h, hr, hf => by
    rw [jb_run] at hr
    split at hr
    · cases hr
    · rename_i r' hs
      cases hr
      rw [hf _ _ _ _ hs]
      exact ⟨Nat.le_refl _, Nat.le_refl _⟩
    · rename_i g hs
      obtain ⟨pc', ls', st', h'⟩ := g
      have h1 := jb_stp_mono hF hs
      have h2 := jb_run_mn hF n pc' ls' st' h' hr hf
      exact ⟨Nat.le_trans h1.2.1 h2.1, Nat.le_trans h1.2.2 h2.2⟩
theorem ja_run {R : Room} (C : ja_C p m meth c s args i D E) (hn : s.heap.size = E.1 + n0) (hFF : ja_FF l D E (jb_ht i) F) (hRf : R.frames = jb_ht i + 1) (hRl : R.locals = 30 * jb_ht i + 24) {r : jb_Res} (hRc : r.2.length - n0 ≤ R.cells) (hRs : ja_tot r.2 - t0 ≤ R.slots) : ∀ (n : Nat) (pc : Nat) (ls st : List Value) (h : jb_H), jb_run F i n (pc, ls, st, h) = some r → ls.length = jb_ml i → (h.length ≤ r.2.length ∧ ja_tot h ≤ ja_tot r.2) ∧ ja_Wd p l e R s m args below meth c D E (MQ below (ja_Qc D E r) args s (r.2.length - n0) (ja_tot r.2 - t0) (ja_A E)) n0 t0 (pc, ls, st, h)
  | 0, _, _, _, _, hr, _ => by cases hr
  | n + 1, pc, ls, st, h, hr, hlen => by
    rw [jb_run] at hr
    split at hr
    · cases hr
    · rename_i r' hs
      cases hr
      obtain ⟨h1, h2⟩ := ja_ret (l := l) (e := e) (below := below) (R := R) (n0 := n0) (t0 := t0) C hs
      exact ⟨⟨by rw [h1]; exact Nat.le_refl _, by rw [h1]; exact Nat.le_refl _⟩, h2⟩
    · rename_i g hs
      obtain ⟨pc', ls', st', h'⟩ := g
      have h1 := jb_stp_mono hFF.mono hs
      obtain ⟨h2, h3⟩ := ja_run C hn hFF hRf hRl hRc hRs n pc' ls' st' h' hr (h1.1.trans hlen)
      refine ⟨⟨Nat.le_trans h1.2.1 h2.1, Nat.le_trans h1.2.2 h2.2⟩, ja_step C hn hFF hRf hRl hlen hs ?_ ?_ h3⟩
      · have := h2.1
        show h'.length - n0 ≤ _
        omega
      · have := h2.2
        show ja_tot h' - t0 ≤ _
        omega
end JV
theorem lg_sl_1 : ∀ (vs : List Value), (∀ v ∈ vs, v.category = 1) → lg_sl vs = vs.map Slot.val
  | [], _ => rfl
  | v :: vs, h => by
    have h1 := lg_sl_1 vs (fun w hw => h w (List.mem_cons_of_mem _ hw))
    have h2 := h v List.mem_cons_self
    unfold lg_sl at h1 ⊢
    rw [List.flatMap_cons, h1, if_neg (by omega)]
    rfl
theorem lv_args_1 : ∀ (vs : List Value) (j k : Nat) (v : Value), (∀ v ∈ vs, v.category = 1) → vs[k]? = some v → (j + k, v) ∈ lv_args j vs
  | [], _, _, _, _, h => by simp at h
  | w :: vs, j, k, v, hc, h => by
    unfold lv_args
    have h2 := hc w List.mem_cons_self
    rw [if_neg (by omega)]
    cases k with
    | zero =>
      simp at h
      subst h
      exact List.mem_cons_self
    | succ k =>
      rw [List.getElem?_cons_succ] at h
      have := lv_args_1 vs (j + 1) k v (fun w hw => hc w (List.mem_cons_of_mem _ hw)) h
      rw [show j + (k + 1) = j + 1 + k by omega]
      exact List.mem_cons_of_mem _ this
theorem ja_entryL {E : ja_E} (hf : ja_fok E) {i : Nat} {args : List Value} (h1 : args.length ≤ jb_ml i) (h2 : ∀ v ∈ args, v.category = 1) : ja_L E (jb_entry i args) ((lg_sl (args.map (ja_v E)) ++ List.replicate (jb_ml i - (lg_sl (args.map (ja_v E))).length) Slot.unset).toArray) ∧ (jb_entry i args).length = jb_ml i := by
  have hc : ∀ v ∈ args.map (ja_v E), v.category = 1 := by
    intro v hv
    obtain ⟨w, hw, rfl⟩ := List.mem_map.mp hv
    rw [ja_v_cat hf]
    exact h2 w hw
  have hl : (lg_sl (args.map (ja_v E))).length = args.length := by rw [lg_sl_1 _ hc, List.length_map, List.length_map]
  have hen : (jb_entry i args).length = jb_ml i := by
    unfold jb_entry
    rw [List.length_append, List.length_replicate]
    omega
  obtain ⟨g1, g2, g3⟩ := lv_entry (args.map (ja_v E)) (n := jb_ml i) (by rw [hl]; exact h1)
  refine ⟨⟨g1.trans hen.symm, g2, fun k v hk => ?_⟩, hen⟩
  unfold jb_entry at hk
  rcases Nat.lt_or_ge k args.length with z | z
  · rw [List.getElem?_append_left z] at hk
    refine ⟨h2 v (List.mem_of_getElem? hk), fun _ => ?_⟩
    have := g3 (0 + k, ja_v E v) (lv_args_1 _ 0 k _ hc (by rw [List.getElem?_map, hk]; rfl))
    rw [Nat.zero_add] at this
    exact this
  · rw [List.getElem?_append_right z, List.getElem?_replicate] at hk
    split at hk
    · cases hk
      exact ⟨rfl, fun q => absurd rfl q⟩
    · cases hk
theorem jb_run_lt {F : Nat → List Value → jb_H → Option jb_Res} {i n : Nat} {g : jb_Cfg} {r : jb_Res} (h : jb_run F i n g = some r) : i < 248 := by
  cases n with
  | zero => cases h
  | succ n =>
    rcases Nat.lt_or_ge i 248 with z | z
    · exact z
    · exfalso
      have hI : jb_I.getD i [] = [] := by
        rw [List.getD_eq_getElem?_getD, List.getElem?_eq_none (by
          have : jb_I.length = 248 := by decide +kernel
          omega)]
        rfl
      have hop : jb_op i g.1 = none := by
        unfold jb_op
        rw [hI]
        rfl
      rw [jb_run, jb_stp, hop] at h
      cases h
/-- **every method's contract** -/
theorem ja_sim (l : Launch) (D : va_G) (E : ja_E) : ∀ d, ja_FF l D E d (jb_G d)
  | 0 => fun i args h r hr => by cases hr
  | d + 1 => fun i args h r hr => by
    have IH := ja_sim l D E d
    rw [jb_G_succ] at hr
    split at hr
    · rename_i hht
      split at hr
      · rename_i ha
        obtain ⟨ha1, ha2⟩ := ha
        have ha2 : ∀ v ∈ args, v.category = 1 := fun v hv => by
          have := List.all_eq_true.mp ha2 v hv
          exact eq_of_beq this
        obtain ⟨n, hn⟩ := jb_to_iff.mp hr
        have hi := jb_run_lt hn
        obtain ⟨w1, w2, w3, w4, w5, w6⟩ := jb_M_at hi
        have hFF : ja_FF l D E (jb_ht i) (jb_G d) := by rw [hht]; exact IH
        have hret : ∀ pc' ls' st' h', jb_stp (jb_G d) i (pc', ls', st', h') = some (.inl r) → r.2 = h' := by
          intro pc' ls' st' h' hs
          unfold jb_stp at hs
          split at hs
          · cases hs
          · exact jb_ex_ret hs
        obtain ⟨hm1, hm2⟩ := jb_run_mn hFF.mono n _ _ _ _ hn hret
        refine ⟨hi, by omega, hm1, hm2, ?_⟩
        refine Met.ofW (cc := jb_b i) (maxL := jb_ml i) (ret := jb_ret i) w3 rfl ?_
        intro p e s m av below meth c s₁ B hml hP
        obtain ⟨rfl, hJ, hK, hR⟩ := hP
        have hts : ∀ w ∈ ja_ws i, w.before (args.map (ja_v E)).toArray s = true := atoms_spec (ws := ja_ws i) B.pre
        have C : ja_C p m meth c s (args.map (ja_v E)).toArray i D E := ⟨B.exec, B.bytes, B.returns, hml, by rw [← w2]; exact findClass_of_methodNamed B.named, fun w hw => hts w (List.mem_cons_of_mem _ hw), B.notSynchronized, (name_of_methodNamed B.named B.method).1, hK, hR, fun q hq => by
          have := hJ.2
          show E.1 ≤ q
          omega, hi⟩
        obtain ⟨hL, hlen⟩ := ja_entryL C.fok ha1 ha2
        have key := (ja_run (l := l) (e := e) (below := below) (n0 := h.length) (t0 := ja_tot h) (R := ja_rm i (r.2.length - h.length) (ja_tot r.2 - ja_tot h)) C hJ.2 hFF rfl rfl (Nat.le_refl _) (Nat.le_refl _) n _ _ _ _ hn hlen).2 s.heap [] _ hJ va_S.rf hL (Nat.le_refl _)
        dsimp only at key
        rw [Nat.sub_self, Nat.sub_self] at key
        rw [lg_entry_eq]
        exact key
      · cases hr
    · obtain ⟨h1, h2, h3⟩ := IH i args h r hr
      exact ⟨h1, by omega, h3⟩
