/-! ===== a method's run: the machine comes to what the small machine comes to ===== -/
section JM
variable {F : Nat → List Value → jb_H → Option jb_Res} {i k a b pc : Nat} {ls st : List Value} {h : jb_H}
def jb_mono (F : Nat → List Value → jb_H → Option jb_Res) : Prop := ∀ i args h r, F i args h = some r → h.length ≤ r.2.length ∧ ja_tot h ≤ ja_tot r.2
def jb_mno (ls : List Value) (h : jb_H) (g : jb_Cfg) : Prop := g.2.1.length = ls.length ∧ h.length ≤ g.2.2.2.length ∧ ja_tot h ≤ ja_tot g.2.2.2
theorem jb_mno_go {g : jb_Cfg} {pc' : Nat} {st' : List Value} (hs : jb_go pc' ls st' h = some (.inr g)) : jb_mno ls h g := by
  have e := jb_go_inj hs
  subst e
  exact ⟨rfl, Nat.le_refl _, Nat.le_refl _⟩
theorem jb_mno_set {g : jb_Cfg} {pc' n : Nat} {v : Value} {st' : List Value} (hs : jb_go pc' (ls.set n v) st' h = some (.inr g)) : jb_mno ls h g := by
  have e := jb_go_inj hs
  subst e
  exact ⟨List.length_set, Nat.le_refl _, Nat.le_refl _⟩
theorem jb_mno_put {g : jb_Cfg} {pc' r n c c' : Nat} {v : Value} {fs st' : List Value} (hr : h[r]? = some (c, fs)) (hs : jb_go pc' ls st' (h.set r (c', fs.set n v)) = some (.inr g)) : jb_mno ls h g := by
  have e := jb_go_inj hs
  subst e
  exact ⟨rfl, by show h.length ≤ (h.set r (c', fs.set n v)).length; rw [List.length_set]; exact Nat.le_refl _, by show ja_tot h ≤ ja_tot (h.set r (c', fs.set n v)); rw [ja_tot_set hr (by simp)]; exact Nat.le_refl _⟩
theorem jb_mno_app {g : jb_Cfg} {pc' : Nat} {q : Nat × List Value} {st' : List Value} (hs : jb_go pc' ls st' (h ++ [q]) = some (.inr g)) : jb_mno ls h g := by
  have e := jb_go_inj hs
  subst e
  exact ⟨rfl, by show h.length ≤ (h ++ [q]).length; simp, by show ja_tot h ≤ ja_tot (h ++ [q]); rw [ja_tot_app]; omega⟩
theorem jb_mno_V (hF : jb_mono F) {g : jb_Cfg} (hs : jb_invV F pc a b ls st h = some (.inr g)) : jb_mno ls h g := by
  obtain ⟨r, rest, res, hst, hb, hrec, hsum, hf, e⟩ := jb_invV_inv hs
  subst e
  exact ⟨rfl, (hF _ _ _ _ hf).1, (hF _ _ _ _ hf).2⟩
theorem jb_mno_S (hF : jb_mono F) {g : jb_Cfg} (hs : jb_invS F pc a b ls st h = some (.inr g)) : jb_mno ls h g := by
  obtain ⟨res, hb, hsum, hf, e⟩ := jb_invS_inv hs
  subst e
  exact ⟨rfl, (hF _ _ _ _ hf).1, (hF _ _ _ _ hf).2⟩
set_option maxHeartbeats 4000000 in
theorem jb_ex_mono (hF : jb_mono F) {ins : Instr} {g : jb_Cfg} (hs : jb_ex F i ins k a b pc ls st h = some (.inr g)) : jb_mno ls h g := by
  cases ins <;> unfold jb_ex at hs <;> dsimp only at hs <;> (first | (cases hs; done) | skip) <;> (repeat' (split at hs)) <;> first
    | exact jb_mno_go hs
    | exact jb_mno_set hs
    | exact jb_mno_app hs
    | exact jb_mno_V hF hs
    | exact jb_mno_S hF hs
    | exact jb_mno_put (by assumption) hs
    | (cases hs; done)
end JM
section JR
variable {p : Program} {l : Launch} {e : Env} {R : Room} {s : State} {m : MethodId} {args : Array Value} {below : List Frame} {meth : Method} {c : Code} {D : va_G} {E : ja_E} {Q : State → Prop} {n0 t0 i : Nat} {F : Nat → List Value → jb_H → Option jb_Res} {k a b pc : Nat} {ls st : List Value} {h : jb_H} {g : jb_Cfg}
set_option maxHeartbeats 4000000 in
theorem ja_step (C : ja_C p m meth c s args i D E) (hn : s.heap.size = E.1 + n0) (hFF : ja_FF l D E (jb_ht i) F) (hRf : R.frames = jb_ht i + 1) (hRl : R.locals = 30 * jb_ht i + 24) (hlen : ls.length = jb_ml i) (hs : jb_stp F i (pc, ls, st, h) = some (.inr g)) (hRc : g.2.2.2.length - n0 ≤ R.cells) (hRs : ja_tot g.2.2.2 - t0 ≤ R.slots) (kk : ja_Wd p l e R s m args below meth c D E Q n0 t0 g) : ja_Wd p l e R s m args below meth c D E Q n0 t0 (pc, ls, st, h) := by
  unfold jb_stp at hs
  dsimp only at hs
  split at hs
  · cases hs
  · rename_i q hq
    obtain ⟨ins, k, a, b⟩ := q
    dsimp only at hs
    obtain ⟨hd, ⟨n1, hd1⟩, hl⟩ := jb_op_ok C.2.2.2.2.2.2.2.2.2.2.2 hq
    cases ins with
    | iconst n => exact js_iconst C (hd.resolve_left (by simp [jb_ln])) hs kk
    | bipush n => exact js_bipush C (hd.resolve_left (by simp [jb_ln])) hs kk
    | sipush n => exact js_sipush C (hd.resolve_left (by simp [jb_ln])) hs kk
    | aconst_null => exact js_null C (hd.resolve_left (by simp [jb_ln])) hs kk
    | iload n => exact js_iload C (hd.resolve_left (by simp [jb_ln])) hs kk
    | iload_n n => exact js_iload_n C (hd.resolve_left (by simp [jb_ln])) hs kk
    | aload_n n => exact js_aload_n C (hd.resolve_left (by simp [jb_ln])) hs kk
    | istore n => exact js_istore C (hd.resolve_left (by simp [jb_ln])) hs kk
    | istore_n n => exact js_istore_n C (hd.resolve_left (by simp [jb_ln])) hs kk
    | astore_n n => exact js_astore_n C (hd.resolve_left (by simp [jb_ln])) hs kk
    | iinc n d => exact js_iinc C (hd.resolve_left (by simp [jb_ln])) hs kk
    | iadd => exact js_iadd C (hd.resolve_left (by simp [jb_ln])) hs kk
    | isub => exact js_isub C (hd.resolve_left (by simp [jb_ln])) hs kk
    | imul => exact js_imul C (hd.resolve_left (by simp [jb_ln])) hs kk
    | iand => exact js_iand C (hd.resolve_left (by simp [jb_ln])) hs kk
    | ishr => exact js_ishr C (hd.resolve_left (by simp [jb_ln])) hs kk
    | ineg => exact js_ineg C (hd.resolve_left (by simp [jb_ln])) hs kk
    | i2b => exact js_i2b C (hd.resolve_left (by simp [jb_ln])) hs kk
    | i2c => exact js_i2c C (hd.resolve_left (by simp [jb_ln])) hs kk
    | i2d => exact js_i2d C (hd.resolve_left (by simp [jb_ln])) hs kk
    | i2f => exact js_i2f C (hd.resolve_left (by simp [jb_ln])) hs kk
    | irem => exact js_irem C (hd.resolve_left (by simp [jb_ln])) hs kk
    | ddiv => exact js_ddiv C (hd.resolve_left (by simp [jb_ln])) hs kk
    | fdiv => exact js_fdiv C (hd.resolve_left (by simp [jb_ln])) hs kk
    | dup => exact js_dup C (hd.resolve_left (by simp [jb_ln])) hs kk
    | dup2 => exact js_dup2 C (hd.resolve_left (by simp [jb_ln])) hs kk
    | pop => exact js_pop C (hd.resolve_left (by simp [jb_ln])) hs kk
    | goto o => exact js_goto C (hd.resolve_left (by simp [jb_ln])) hs kk
    | ifnonnull o => exact js_ifnonnull C (hd.resolve_left (by simp [jb_ln])) hs kk
    | fconst n => exact js_fconst C (hd.resolve_left (by simp [jb_ln])) hs kk
    | iaload => exact js_iaload C (hd.resolve_left (by simp [jb_ln])) hs kk
    | aaload => exact js_aaload C (hd.resolve_left (by simp [jb_ln])) hs kk
    | baload => exact js_baload C (hd.resolve_left (by simp [jb_ln])) hs kk
    | arraylength => exact js_arraylength C (hd.resolve_left (by simp [jb_ln])) hs kk
    | iastore => exact js_iastore C hn (hd.resolve_left (by simp [jb_ln])) hs kk
    | aastore => exact js_aastore C hn (hd.resolve_left (by simp [jb_ln])) hs kk
    | if_icmp cc o => 
      cases cc with
      | eq => exact js_icmp_eq C (hd.resolve_left (by simp [jb_ln])) hs kk
      | ne => exact js_icmp_ne C (hd.resolve_left (by simp [jb_ln])) hs kk
      | lt => exact js_icmp_lt C (hd.resolve_left (by simp [jb_ln])) hs kk
      | ge => exact js_icmp_ge C (hd.resolve_left (by simp [jb_ln])) hs kk
      | gt => exact js_icmp_gt C (hd.resolve_left (by simp [jb_ln])) hs kk
      | le => exact js_icmp_le C (hd.resolve_left (by simp [jb_ln])) hs kk
    | ifCond cc o => 
      cases cc with
      | eq => exact js_if_eq C (hd.resolve_left (by simp [jb_ln])) hs kk
      | ne => exact js_if_ne C (hd.resolve_left (by simp [jb_ln])) hs kk
      | lt => exact js_if_lt C (hd.resolve_left (by simp [jb_ln])) hs kk
      | ge => exact js_if_ge C (hd.resolve_left (by simp [jb_ln])) hs kk
      | gt => exact js_if_gt C (hd.resolve_left (by simp [jb_ln])) hs kk
      | le => exact js_if_le C (hd.resolve_left (by simp [jb_ln])) hs kk
    | tableswitch d lo hi offs => exact js_table C hd1 hs kk
    | lookupswitch d ps => exact js_lookup C hd1 hs kk
    | getfield x =>
      rcases hl with hl | ⟨x', p', hl, hk⟩
      · subst hl; unfold jb_ex at hs; dsimp only at hs; (repeat' (split at hs)) <;> first | (cases hs; done) | omega
      · obtain ⟨rfl, hk2⟩ := of_decide_eq_true hk
        exact js_getfield C hn (hd.resolve_left (by simp [jb_ln])) hl hs kk
    | putfield x =>
      rcases hl with hl | ⟨x', p', hl, hk⟩
      · subst hl; unfold jb_ex at hs; dsimp only at hs; (repeat' (split at hs)) <;> first | (cases hs; done) | omega
      · obtain ⟨rfl, hk2⟩ := of_decide_eq_true hk
        exact js_putfield C hn (hd.resolve_left (by simp [jb_ln])) hl hs kk
    | new x =>
      rcases hl with hl | ⟨x', p', hl, hk⟩
      · subst hl; unfold jb_ex at hs; dsimp only at hs; (repeat' (split at hs)) <;> first | (cases hs; done) | omega
      · obtain ⟨rfl, hk2⟩ := of_decide_eq_true hk
        exact js_new C hn (hd.resolve_left (by simp [jb_ln])) hl hs hRc hRs kk
    | newarray x => exact js_newarray C hn (hd.resolve_left (by simp [jb_ln])) hs hRc hRs kk
    | anewarray x =>
      rcases hl with hl | ⟨x', p', hl, hk⟩
      · subst hl; unfold jb_ex at hs; dsimp only at hs; (repeat' (split at hs)) <;> first | (cases hs; done) | omega
      · obtain ⟨rfl, hk2⟩ := of_decide_eq_true hk
        exact js_anewarray C hn (hd.resolve_left (by simp [jb_ln])) hl hs hRc hRs kk
    | ldc x =>
      rcases hl with hl | ⟨x', p', hl, hk⟩
      · subst hl; unfold jb_ex at hs; dsimp only at hs; (repeat' (split at hs)) <;> first | (cases hs; done) | omega
      · obtain ⟨rfl, hk2⟩ := of_decide_eq_true hk
        exact js_ldc C (hd.resolve_left (by simp [jb_ln])) hl hs kk
    | ldc_w x =>
      rcases hl with hl | ⟨x', p', hl, hk⟩
      · subst hl; unfold jb_ex at hs; dsimp only at hs; (repeat' (split at hs)) <;> first | (cases hs; done) | omega
      · obtain ⟨rfl, hk2⟩ := of_decide_eq_true hk
        exact js_ldc_w C (hd.resolve_left (by simp [jb_ln])) hl hs kk
    | ldc2_w x =>
      rcases hl with hl | ⟨x', p', hl, hk⟩
      · subst hl; unfold jb_ex at hs; dsimp only at hs; (repeat' (split at hs)) <;> first | (cases hs; done) | omega
      · obtain ⟨rfl, hk2⟩ := of_decide_eq_true hk
        exact js_ldc2_w C (hd.resolve_left (by simp [jb_ln])) hl hs kk
    | getstatic x =>
      rcases hl with hl | ⟨x', p', hl, hk⟩
      · subst hl; unfold jb_ex at hs; dsimp only at hs; (repeat' (split at hs)) <;> first | (cases hs; done) | omega
      · obtain ⟨rfl, hk2⟩ := of_decide_eq_true hk
        exact js_getstatic C (hd.resolve_left (by simp [jb_ln])) hl hs kk
    | invokevirtual x =>
      rcases hl with hl | ⟨x', p', hl, hk⟩
      · subst hl; unfold jb_ex at hs; dsimp only at hs; (repeat' (split at hs)) <;> first | (cases hs; done) | omega
      · obtain ⟨rfl, hk2⟩ := of_decide_eq_true hk
        unfold jb_ex at hs
        dsimp only at hs
        rw [if_pos hk2] at hs
        exact js_invV C hn hFF hRf hRl hlen (hd.resolve_left (by simp [jb_ln])) hk2 hl hs hRc hRs kk
    | invokestatic x =>
      rcases hl with hl | ⟨x', p', hl, hk⟩
      · subst hl; unfold jb_ex at hs; dsimp only at hs; (repeat' (split at hs)) <;> first | (cases hs; done) | omega
      · obtain ⟨rfl, hk2⟩ := of_decide_eq_true hk
        by_cases h45 : k = 4 ∨ k = 5
        · unfold jb_ex at hs
          dsimp only at hs
          rw [if_pos h45] at hs
          exact js_invS C hn hFF hRf hRl hlen (hd.resolve_left (by simp [jb_ln])) h45 hl hs hRc hRs kk
        · obtain rfl : k = 15 := by omega
          exact js_invM C hRf hRl hlen (hd.resolve_left (by simp [jb_ln])) hl hs hRc hRs kk
    | invokespecial x =>
      rcases hl with hl | ⟨x', p', hl, hk⟩
      · subst hl; unfold jb_ex at hs; dsimp only at hs; (repeat' (split at hs)) <;> first | (cases hs; done) | omega
      · obtain ⟨rfl, hk2⟩ := of_decide_eq_true hk
        unfold jb_ex at hs
        dsimp only at hs
        by_cases h67 : k = 6 ∨ k = 7
        · rw [if_pos h67] at hs
          exact js_invI C hn hFF hRf hRl hlen (hd.resolve_left (by simp [jb_ln])) h67 hl hs hRc hRs kk
        · obtain rfl : k = 8 := by omega
          rw [if_neg h67, if_pos rfl] at hs
          split at hs
          · split at hs
            · rename_i hsum
              have e := jb_go_inj hs
              subst e
              exact js_invO C hRf hRl hlen (hd.resolve_left (by simp [jb_ln])) hl hsum.1 hsum.2 kk
            · cases hs
          · cases hs
    | _ => unfold jb_ex at hs; dsimp only at hs; (repeat' (split at hs)) <;> (cases hs; done)
end JR
