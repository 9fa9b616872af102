/-! ===== one instruction of the small machine is one of the machine's: locals, numbers, branches ===== -/
def ja_C (p : Program) (m : MethodId) (meth : Method) (c : Code) (s : State) (args : Array Value) (i : Nat) (D : va_G) (E : ja_E) : Prop :=
  p.tables.exec = Jvm.exec ∧ c.code = jb_b i ∧ meth.sig.returnType = jb_ret i ∧ c.maxLocals = jb_ml i ∧ s.vm.findClass (jb_O (jb_ow i)) = some m.cls ∧ (∀ w ∈ jb_W, w.before args s = true) ∧ meth.locks = false ∧ meth.name = (jb_y i).name ∧ va_K D jb_cl (ja_tys E) s ∧ ja_R E s s.heap ∧ (∀ q, s.heap.size ≤ q → ja_A E q) ∧ i < 248
/-- from this configuration on the machine comes to its end -/
def ja_Wd (p : Program) (l : Launch) (e : Env) (R : Room) (s : State) (m : MethodId) (args : Array Value) (below : List Frame) (meth : Method) (c : Code) (D : va_G) (E : ja_E) (Q : State → Prop) (n0 t0 : Nat) (g : jb_Cfg) : Prop :=
  ∀ (H : Heap) (locs : List Loc) (lm : Array Slot), ja_J E D g.2.2.2 H → va_S (ja_A E) s.heap H locs → ja_L E g.2.1 lm → t0 ≤ ja_tot g.2.2.2 → W p l e R s m args below meth c H locs (g.2.2.2.length - n0) (ja_tot g.2.2.2 - t0) Q (F0 m g.1 lm (g.2.2.1.map (ja_v E)))
section JS
variable {p : Program} {l : Launch} {e : Env} {R : Room} {s : State} {m : MethodId} {args : Array Value} {below : List Frame} {meth : Method} {c : Code} {D : va_G} {E : ja_E} {Q : State → Prop} {n0 t0 i : Nat} {F : Nat → List Value → jb_H → Option jb_Res} {k a b pc : Nat} {ls st : List Value} {h : jb_H} {g : jb_Cfg}
theorem ja_C.fok (C : ja_C p m meth c s args i D E) : ja_fok E := C.2.2.2.2.2.2.2.2.2.1.2.2.2.2.2.2
theorem jb_go_inj {pc : Nat} {ls st : List Value} {h : jb_H} {g : jb_Cfg} (hs : jb_go pc ls st h = some (.inr g)) : g = (pc, ls, st, h) := by
  cases hs; rfl
theorem jb_tg_ok {pc : Nat} {o : Int} {t : Nat} (h : jb_tg pc o = some t) : (pc : Int) + o = (t : Int) := by
  unfold jb_tg at h
  split at h
  · cases h
    rw [Int.toNat_of_nonneg (by assumption)]
  · cases h
theorem js_iconst (C : ja_C p m meth c s args i D E) {n : Int} (hd : decode (jb_b i) pc = .ok (.iconst n, 1)) (hs : jb_ex F i (.iconst n) k a b pc ls st h = some (.inr g)) (kk : ja_Wd p l e R s m args below meth c D E Q n0 t0 g) : ja_Wd p l e R s m args below meth c D E Q n0 t0 (pc, ls, st, h) := by
  unfold jb_ex at hs
  dsimp only at hs
  have e := jb_go_inj hs
  subst e
  intro H locs lm hJ hS hL hT0
  exact lv_iconst C.1 C.2.1 hd rfl (kk H locs lm hJ hS hL hT0)
theorem js_bipush (C : ja_C p m meth c s args i D E) {n : Int} (hd : decode (jb_b i) pc = .ok (.bipush n, 2)) (hs : jb_ex F i (.bipush n) k a b pc ls st h = some (.inr g)) (kk : ja_Wd p l e R s m args below meth c D E Q n0 t0 g) : ja_Wd p l e R s m args below meth c D E Q n0 t0 (pc, ls, st, h) := by
  unfold jb_ex at hs
  dsimp only at hs
  have e := jb_go_inj hs
  subst e
  intro H locs lm hJ hS hL hT0
  exact lv_bipush C.1 C.2.1 hd rfl (kk H locs lm hJ hS hL hT0)
theorem js_sipush (C : ja_C p m meth c s args i D E) {n : Int} (hd : decode (jb_b i) pc = .ok (.sipush n, 3)) (hs : jb_ex F i (.sipush n) k a b pc ls st h = some (.inr g)) (kk : ja_Wd p l e R s m args below meth c D E Q n0 t0 g) : ja_Wd p l e R s m args below meth c D E Q n0 t0 (pc, ls, st, h) := by
  unfold jb_ex at hs
  dsimp only at hs
  have e := jb_go_inj hs
  subst e
  intro H locs lm hJ hS hL hT0
  exact lv_sipush C.1 C.2.1 hd rfl (kk H locs lm hJ hS hL hT0)
theorem js_null (C : ja_C p m meth c s args i D E) (hd : decode (jb_b i) pc = .ok (.aconst_null, 1)) (hs : jb_ex F i (.aconst_null) k a b pc ls st h = some (.inr g)) (kk : ja_Wd p l e R s m args below meth c D E Q n0 t0 g) : ja_Wd p l e R s m args below meth c D E Q n0 t0 (pc, ls, st, h) := by
  unfold jb_ex at hs
  dsimp only at hs
  have e := jb_go_inj hs
  subst e
  intro H locs lm hJ hS hL hT0
  exact lv_null C.1 C.2.1 hd (kk H locs lm hJ hS hL hT0)
theorem js_iload (C : ja_C p m meth c s args i D E) {n : Nat} (hd : decode (jb_b i) pc = .ok (.iload n, 2)) (hs : jb_ex F i (.iload n) k a b pc ls st h = some (.inr g)) (kk : ja_Wd p l e R s m args below meth c D E Q n0 t0 g) : ja_Wd p l e R s m args below meth c D E Q n0 t0 (pc, ls, st, h) := by
  unfold jb_ex at hs
  dsimp only at hs
  split at hs
  · rename_i x hx
    have e := jb_go_inj hs
    subst e
    intro H locs lm hJ hS hL hT0
    exact lv_iload C.1 C.2.1 hd (hL.at hx (by intro q; cases q)) (kk H locs lm hJ hS hL hT0)
  · cases hs
theorem js_iload_n (C : ja_C p m meth c s args i D E) {n : Fin 4} (hd : decode (jb_b i) pc = .ok (.iload_n n, 1)) (hs : jb_ex F i (.iload_n n) k a b pc ls st h = some (.inr g)) (kk : ja_Wd p l e R s m args below meth c D E Q n0 t0 g) : ja_Wd p l e R s m args below meth c D E Q n0 t0 (pc, ls, st, h) := by
  unfold jb_ex at hs
  dsimp only at hs
  split at hs
  · rename_i x hx
    have e := jb_go_inj hs
    subst e
    intro H locs lm hJ hS hL hT0
    exact lv_iload_n C.1 C.2.1 hd rfl (hL.at hx (by intro q; cases q)) (kk H locs lm hJ hS hL hT0)
  · cases hs
theorem js_aload_n (C : ja_C p m meth c s args i D E) {n : Fin 4} (hd : decode (jb_b i) pc = .ok (.aload_n n, 1)) (hs : jb_ex F i (.aload_n n) k a b pc ls st h = some (.inr g)) (kk : ja_Wd p l e R s m args below meth c D E Q n0 t0 g) : ja_Wd p l e R s m args below meth c D E Q n0 t0 (pc, ls, st, h) := by
  unfold jb_ex at hs
  dsimp only at hs
  split at hs
  · rename_i x hx
    have e := jb_go_inj hs
    subst e
    intro H locs lm hJ hS hL hT0
    have h1 := hL.at hx (by intro q; cases q)
    have h2 := kk H locs lm hJ hS hL hT0
    dsimp only at h2 ⊢
    rw [List.map_cons] at h2
    rcases ja_v_refs C.fok x with q | ⟨y, q⟩
    · rw [q] at h1 h2
      exact lv_aload_nN C.1 C.2.1 hd rfl h1 h2
    · rw [q] at h1 h2
      exact lv_aload_n C.1 C.2.1 hd rfl h1 h2
  · rename_i hx
    have e := jb_go_inj hs
    subst e
    intro H locs lm hJ hS hL hT0
    exact lv_aload_nN C.1 C.2.1 hd rfl (hL.at hx (by intro q; cases q)) (kk H locs lm hJ hS hL hT0)
  · cases hs
theorem js_istore (C : ja_C p m meth c s args i D E) {n : Nat} (hd : decode (jb_b i) pc = .ok (.istore n, 2)) (hs : jb_ex F i (.istore n) k a b pc ls st h = some (.inr g)) (kk : ja_Wd p l e R s m args below meth c D E Q n0 t0 g) : ja_Wd p l e R s m args below meth c D E Q n0 t0 (pc, ls, st, h) := by
  unfold jb_ex at hs
  dsimp only at hs
  split at hs
  · split at hs
    · rename_i hn
      have e := jb_go_inj hs
      subst e
      intro H locs lm hJ hS hL hT0
      exact lv_istore C.1 C.2.1 hd hL.has hn rfl (fun lm' h' => kk H locs lm' hJ hS (hL.set C.fok rfl hn h') hT0)
    · cases hs
  · cases hs
theorem js_istore_n (C : ja_C p m meth c s args i D E) {n : Fin 4} (hd : decode (jb_b i) pc = .ok (.istore_n n, 1)) (hs : jb_ex F i (.istore_n n) k a b pc ls st h = some (.inr g)) (kk : ja_Wd p l e R s m args below meth c D E Q n0 t0 g) : ja_Wd p l e R s m args below meth c D E Q n0 t0 (pc, ls, st, h) := by
  unfold jb_ex at hs
  dsimp only at hs
  split at hs
  · split at hs
    · rename_i hn
      have e := jb_go_inj hs
      subst e
      intro H locs lm hJ hS hL hT0
      exact lv_istore_n C.1 C.2.1 hd rfl hL.has hn rfl (fun lm' h' => kk H locs lm' hJ hS (hL.set C.fok rfl hn h') hT0)
    · cases hs
  · cases hs
theorem js_astore_n (C : ja_C p m meth c s args i D E) {n : Fin 4} (hd : decode (jb_b i) pc = .ok (.astore_n n, 1)) (hs : jb_ex F i (.astore_n n) k a b pc ls st h = some (.inr g)) (kk : ja_Wd p l e R s m args below meth c D E Q n0 t0 g) : ja_Wd p l e R s m args below meth c D E Q n0 t0 (pc, ls, st, h) := by
  unfold jb_ex at hs
  dsimp only at hs
  split at hs
  · rename_i x r
    split at hs
    · rename_i hn
      have e := jb_go_inj hs
      subst e
      intro H locs lm hJ hS hL hT0
      have key := fun lm' (h' : lv_has lm' ls.length (((n : Nat), ja_v E (.ref x)) :: (ja_prs E ls).filter (fun q => !(q.1 == (n : Nat)) && !(q.1 + 1 == (n : Nat) && q.2.category == 2)))) => kk H locs lm' hJ hS (hL.set C.fok rfl hn h') hT0
      dsimp only at key ⊢
      rw [List.map_cons]
      rcases ja_v_refs C.fok x with q | ⟨y, q⟩
      · rw [q] at key ⊢
        exact lv_astore_nN C.1 C.2.1 hd rfl hL.has hn rfl key
      · rw [q] at key ⊢
        exact lv_astore_n C.1 C.2.1 hd rfl hL.has hn rfl key
    · cases hs
  · split at hs
    · rename_i hn
      have e := jb_go_inj hs
      subst e
      intro H locs lm hJ hS hL hT0
      exact lv_astore_nN C.1 C.2.1 hd rfl hL.has hn rfl (fun lm' h' => kk H locs lm' hJ hS (hL.set (x := .null) C.fok rfl hn h') hT0)
    · cases hs
  · cases hs
theorem js_iinc (C : ja_C p m meth c s args i D E) {n : Nat} {d : Int} (hd : decode (jb_b i) pc = .ok (.iinc n d, 3)) (hs : jb_ex F i (.iinc n d) k a b pc ls st h = some (.inr g)) (kk : ja_Wd p l e R s m args below meth c D E Q n0 t0 g) : ja_Wd p l e R s m args below meth c D E Q n0 t0 (pc, ls, st, h) := by
  unfold jb_ex at hs
  dsimp only at hs
  split at hs
  · rename_i x hx
    have e := jb_go_inj hs
    subst e
    intro H locs lm hJ hS hL hT0
    have hm : (n, Value.int x) ∈ ja_prs E ls := ja_prs_mem.mpr ⟨.int x, hx, (by intro q; cases q), rfl⟩
    obtain ⟨j, hj⟩ := List.getElem?_of_mem hm
    have hn : n < ls.length := (List.getElem?_eq_some_iff.mp hx).1
    exact lv_iinc C.1 C.2.1 hd hL.has hj rfl hn rfl (fun lm' h' => kk H locs lm' hJ hS (hL.set (x := .int (x + Int32.ofInt d)) C.fok rfl hn h') hT0)
  · cases hs
theorem js_iadd (C : ja_C p m meth c s args i D E) (hd : decode (jb_b i) pc = .ok (.iadd, 1)) (hs : jb_ex F i (.iadd) k a b pc ls st h = some (.inr g)) (kk : ja_Wd p l e R s m args below meth c D E Q n0 t0 g) : ja_Wd p l e R s m args below meth c D E Q n0 t0 (pc, ls, st, h) := by
  unfold jb_ex at hs
  dsimp only at hs
  split at hs
  · have e := jb_go_inj hs
    subst e
    intro H locs lm hJ hS hL hT0
    exact lv_iadd C.1 C.2.1 hd (kk H locs lm hJ hS hL hT0)
  · cases hs
theorem js_isub (C : ja_C p m meth c s args i D E) (hd : decode (jb_b i) pc = .ok (.isub, 1)) (hs : jb_ex F i (.isub) k a b pc ls st h = some (.inr g)) (kk : ja_Wd p l e R s m args below meth c D E Q n0 t0 g) : ja_Wd p l e R s m args below meth c D E Q n0 t0 (pc, ls, st, h) := by
  unfold jb_ex at hs
  dsimp only at hs
  split at hs
  · have e := jb_go_inj hs
    subst e
    intro H locs lm hJ hS hL hT0
    exact lv_isub C.1 C.2.1 hd (kk H locs lm hJ hS hL hT0)
  · cases hs
theorem js_imul (C : ja_C p m meth c s args i D E) (hd : decode (jb_b i) pc = .ok (.imul, 1)) (hs : jb_ex F i (.imul) k a b pc ls st h = some (.inr g)) (kk : ja_Wd p l e R s m args below meth c D E Q n0 t0 g) : ja_Wd p l e R s m args below meth c D E Q n0 t0 (pc, ls, st, h) := by
  unfold jb_ex at hs
  dsimp only at hs
  split at hs
  · have e := jb_go_inj hs
    subst e
    intro H locs lm hJ hS hL hT0
    exact lv_imul C.1 C.2.1 hd (kk H locs lm hJ hS hL hT0)
  · cases hs
theorem js_iand (C : ja_C p m meth c s args i D E) (hd : decode (jb_b i) pc = .ok (.iand, 1)) (hs : jb_ex F i (.iand) k a b pc ls st h = some (.inr g)) (kk : ja_Wd p l e R s m args below meth c D E Q n0 t0 g) : ja_Wd p l e R s m args below meth c D E Q n0 t0 (pc, ls, st, h) := by
  unfold jb_ex at hs
  dsimp only at hs
  split at hs
  · have e := jb_go_inj hs
    subst e
    intro H locs lm hJ hS hL hT0
    exact lv_iand C.1 C.2.1 hd (kk H locs lm hJ hS hL hT0)
  · cases hs
theorem js_ishr (C : ja_C p m meth c s args i D E) (hd : decode (jb_b i) pc = .ok (.ishr, 1)) (hs : jb_ex F i (.ishr) k a b pc ls st h = some (.inr g)) (kk : ja_Wd p l e R s m args below meth c D E Q n0 t0 g) : ja_Wd p l e R s m args below meth c D E Q n0 t0 (pc, ls, st, h) := by
  unfold jb_ex at hs
  dsimp only at hs
  split at hs
  · have e := jb_go_inj hs
    subst e
    intro H locs lm hJ hS hL hT0
    exact lv_ishr C.1 C.2.1 hd (kk H locs lm hJ hS hL hT0)
  · cases hs
theorem js_ineg (C : ja_C p m meth c s args i D E) (hd : decode (jb_b i) pc = .ok (.ineg, 1)) (hs : jb_ex F i (.ineg) k a b pc ls st h = some (.inr g)) (kk : ja_Wd p l e R s m args below meth c D E Q n0 t0 g) : ja_Wd p l e R s m args below meth c D E Q n0 t0 (pc, ls, st, h) := by
  unfold jb_ex at hs
  dsimp only at hs
  split at hs
  · have e := jb_go_inj hs
    subst e
    intro H locs lm hJ hS hL hT0
    exact lv_ineg C.1 C.2.1 hd (kk H locs lm hJ hS hL hT0)
  · cases hs
theorem js_i2b (C : ja_C p m meth c s args i D E) (hd : decode (jb_b i) pc = .ok (.i2b, 1)) (hs : jb_ex F i (.i2b) k a b pc ls st h = some (.inr g)) (kk : ja_Wd p l e R s m args below meth c D E Q n0 t0 g) : ja_Wd p l e R s m args below meth c D E Q n0 t0 (pc, ls, st, h) := by
  unfold jb_ex at hs
  dsimp only at hs
  split at hs
  · have e := jb_go_inj hs
    subst e
    intro H locs lm hJ hS hL hT0
    exact lv_i2b C.1 C.2.1 hd rfl (kk H locs lm hJ hS hL hT0)
  · cases hs
theorem js_i2c (C : ja_C p m meth c s args i D E) (hd : decode (jb_b i) pc = .ok (.i2c, 1)) (hs : jb_ex F i (.i2c) k a b pc ls st h = some (.inr g)) (kk : ja_Wd p l e R s m args below meth c D E Q n0 t0 g) : ja_Wd p l e R s m args below meth c D E Q n0 t0 (pc, ls, st, h) := by
  unfold jb_ex at hs
  dsimp only at hs
  split at hs
  · have e := jb_go_inj hs
    subst e
    intro H locs lm hJ hS hL hT0
    exact lv_i2c C.1 C.2.1 hd rfl (kk H locs lm hJ hS hL hT0)
  · cases hs
theorem js_i2d (C : ja_C p m meth c s args i D E) (hd : decode (jb_b i) pc = .ok (.i2d, 1)) (hs : jb_ex F i (.i2d) k a b pc ls st h = some (.inr g)) (kk : ja_Wd p l e R s m args below meth c D E Q n0 t0 g) : ja_Wd p l e R s m args below meth c D E Q n0 t0 (pc, ls, st, h) := by
  unfold jb_ex at hs
  dsimp only at hs
  split at hs
  · have e := jb_go_inj hs
    subst e
    intro H locs lm hJ hS hL hT0
    exact lv_i2d C.1 C.2.1 hd (kk H locs lm hJ hS hL hT0)
  · cases hs
theorem js_i2f (C : ja_C p m meth c s args i D E) (hd : decode (jb_b i) pc = .ok (.i2f, 1)) (hs : jb_ex F i (.i2f) k a b pc ls st h = some (.inr g)) (kk : ja_Wd p l e R s m args below meth c D E Q n0 t0 g) : ja_Wd p l e R s m args below meth c D E Q n0 t0 (pc, ls, st, h) := by
  unfold jb_ex at hs
  dsimp only at hs
  split at hs
  · have e := jb_go_inj hs
    subst e
    intro H locs lm hJ hS hL hT0
    exact lv_i2f C.1 C.2.1 hd (kk H locs lm hJ hS hL hT0)
  · cases hs
theorem js_irem (C : ja_C p m meth c s args i D E) (hd : decode (jb_b i) pc = .ok (.irem, 1)) (hs : jb_ex F i (.irem) k a b pc ls st h = some (.inr g)) (kk : ja_Wd p l e R s m args below meth c D E Q n0 t0 g) : ja_Wd p l e R s m args below meth c D E Q n0 t0 (pc, ls, st, h) := by
  unfold jb_ex at hs
  dsimp only at hs
  split at hs
  · split at hs
    · cases hs
    · rename_i hy
      have e := jb_go_inj hs
      subst e
      intro H locs lm hJ hS hL hT0
      exact lv_irem C.1 C.2.1 hd hy (kk H locs lm hJ hS hL hT0)
  · cases hs
theorem js_ddiv (C : ja_C p m meth c s args i D E) (hd : decode (jb_b i) pc = .ok (.ddiv, 1)) (hs : jb_ex F i (.ddiv) k a b pc ls st h = some (.inr g)) (kk : ja_Wd p l e R s m args below meth c D E Q n0 t0 g) : ja_Wd p l e R s m args below meth c D E Q n0 t0 (pc, ls, st, h) := by
  unfold jb_ex at hs
  dsimp only at hs
  split at hs
  · split at hs
    · rename_i hc
      have e := jb_go_inj hs
      subst e
      intro H locs lm hJ hS hL hT0
      exact lv_ddiv C.1 C.2.1 hd hc (kk H locs lm hJ hS hL hT0)
    · cases hs
  · cases hs
theorem js_fdiv (C : ja_C p m meth c s args i D E) (hd : decode (jb_b i) pc = .ok (.fdiv, 1)) (hs : jb_ex F i (.fdiv) k a b pc ls st h = some (.inr g)) (kk : ja_Wd p l e R s m args below meth c D E Q n0 t0 g) : ja_Wd p l e R s m args below meth c D E Q n0 t0 (pc, ls, st, h) := by
  unfold jb_ex at hs
  dsimp only at hs
  split at hs
  · split at hs
    · rename_i hc
      have e := jb_go_inj hs
      subst e
      intro H locs lm hJ hS hL hT0
      exact lv_fdiv C.1 C.2.1 hd hc (kk H locs lm hJ hS hL hT0)
    · cases hs
  · cases hs
theorem js_dup (C : ja_C p m meth c s args i D E) (hd : decode (jb_b i) pc = .ok (.dup, 1)) (hs : jb_ex F i (.dup) k a b pc ls st h = some (.inr g)) (kk : ja_Wd p l e R s m args below meth c D E Q n0 t0 g) : ja_Wd p l e R s m args below meth c D E Q n0 t0 (pc, ls, st, h) := by
  unfold jb_ex at hs
  dsimp only at hs
  split at hs
  · split at hs
    · rename_i hc
      have e := jb_go_inj hs
      subst e
      intro H locs lm hJ hS hL hT0
      exact lv_dup C.1 C.2.1 hd ((ja_v_cat C.fok _).trans hc) (kk H locs lm hJ hS hL hT0)
    · cases hs
  · cases hs
theorem js_dup2 (C : ja_C p m meth c s args i D E) (hd : decode (jb_b i) pc = .ok (.dup2, 1)) (hs : jb_ex F i (.dup2) k a b pc ls st h = some (.inr g)) (kk : ja_Wd p l e R s m args below meth c D E Q n0 t0 g) : ja_Wd p l e R s m args below meth c D E Q n0 t0 (pc, ls, st, h) := by
  unfold jb_ex at hs
  dsimp only at hs
  split at hs
  · split at hs
    · rename_i hc
      have e := jb_go_inj hs
      subst e
      intro H locs lm hJ hS hL hT0
      exact lv_dup2_11 C.1 C.2.1 hd ((ja_v_cat C.fok _).trans hc.1) ((ja_v_cat C.fok _).trans hc.2) (kk H locs lm hJ hS hL hT0)
    · cases hs
  · cases hs
theorem js_pop (C : ja_C p m meth c s args i D E) (hd : decode (jb_b i) pc = .ok (.pop, 1)) (hs : jb_ex F i (.pop) k a b pc ls st h = some (.inr g)) (kk : ja_Wd p l e R s m args below meth c D E Q n0 t0 g) : ja_Wd p l e R s m args below meth c D E Q n0 t0 (pc, ls, st, h) := by
  unfold jb_ex at hs
  dsimp only at hs
  split at hs
  · split at hs
    · rename_i hc
      have e := jb_go_inj hs
      subst e
      intro H locs lm hJ hS hL hT0
      exact lv_pop C.1 C.2.1 hd ((ja_v_cat C.fok _).trans hc) (kk H locs lm hJ hS hL hT0)
    · cases hs
  · cases hs
theorem js_goto (C : ja_C p m meth c s args i D E) {o : Int} (hd : decode (jb_b i) pc = .ok (.goto o, 3)) (hs : jb_ex F i (.goto o) k a b pc ls st h = some (.inr g)) (kk : ja_Wd p l e R s m args below meth c D E Q n0 t0 g) : ja_Wd p l e R s m args below meth c D E Q n0 t0 (pc, ls, st, h) := by
  unfold jb_ex at hs
  dsimp only at hs
  split at hs
  · rename_i t ht
    have e := jb_go_inj hs
    subst e
    intro H locs lm hJ hS hL hT0
    exact lv_goto C.1 C.2.1 hd (jb_tg_ok ht) (kk H locs lm hJ hS hL hT0)
  · cases hs
theorem js_icmp_eq (C : ja_C p m meth c s args i D E) {o : Int} (hd : decode (jb_b i) pc = .ok (.if_icmp .eq o, 3)) (hs : jb_ex F i (.if_icmp .eq o) k a b pc ls st h = some (.inr g)) (kk : ja_Wd p l e R s m args below meth c D E Q n0 t0 g) : ja_Wd p l e R s m args below meth c D E Q n0 t0 (pc, ls, st, h) := by
  unfold jb_ex at hs
  dsimp only at hs
  split at hs
  · rename_i t ht
    split at hs
    · have e := jb_go_inj hs
      subst e
      intro H locs lm hJ hS hL hT0
      have h2 := kk H locs lm hJ hS hL hT0
      refine lv_icmp_eq C.1 C.2.1 hd (jb_tg_ok ht) (fun q => ?_) (fun q => ?_)
      · dsimp only at h2
        rw [if_pos q] at h2
        exact h2
      · dsimp only at h2
        rw [if_neg q] at h2
        exact h2
    · cases hs
  · cases hs
theorem js_icmp_ne (C : ja_C p m meth c s args i D E) {o : Int} (hd : decode (jb_b i) pc = .ok (.if_icmp .ne o, 3)) (hs : jb_ex F i (.if_icmp .ne o) k a b pc ls st h = some (.inr g)) (kk : ja_Wd p l e R s m args below meth c D E Q n0 t0 g) : ja_Wd p l e R s m args below meth c D E Q n0 t0 (pc, ls, st, h) := by
  unfold jb_ex at hs
  dsimp only at hs
  split at hs
  · rename_i t ht
    split at hs
    · have e := jb_go_inj hs
      subst e
      intro H locs lm hJ hS hL hT0
      have h2 := kk H locs lm hJ hS hL hT0
      refine lv_icmp_ne C.1 C.2.1 hd (jb_tg_ok ht) (fun q => ?_) (fun q => ?_)
      · dsimp only at h2
        rw [if_neg q] at h2
        exact h2
      · dsimp only at h2
        rw [if_pos q] at h2
        exact h2
    · cases hs
  · cases hs
theorem js_icmp_lt (C : ja_C p m meth c s args i D E) {o : Int} (hd : decode (jb_b i) pc = .ok (.if_icmp .lt o, 3)) (hs : jb_ex F i (.if_icmp .lt o) k a b pc ls st h = some (.inr g)) (kk : ja_Wd p l e R s m args below meth c D E Q n0 t0 g) : ja_Wd p l e R s m args below meth c D E Q n0 t0 (pc, ls, st, h) := by
  unfold jb_ex at hs
  dsimp only at hs
  split at hs
  · rename_i t ht
    split at hs
    · have e := jb_go_inj hs
      subst e
      intro H locs lm hJ hS hL hT0
      have h2 := kk H locs lm hJ hS hL hT0
      refine lv_icmp_lt C.1 C.2.1 hd (jb_tg_ok ht) (fun q => ?_) (fun q => ?_)
      · dsimp only at h2
        rw [if_pos q] at h2
        exact h2
      · dsimp only at h2
        rw [if_neg q] at h2
        exact h2
    · cases hs
  · cases hs
theorem js_icmp_ge (C : ja_C p m meth c s args i D E) {o : Int} (hd : decode (jb_b i) pc = .ok (.if_icmp .ge o, 3)) (hs : jb_ex F i (.if_icmp .ge o) k a b pc ls st h = some (.inr g)) (kk : ja_Wd p l e R s m args below meth c D E Q n0 t0 g) : ja_Wd p l e R s m args below meth c D E Q n0 t0 (pc, ls, st, h) := by
  unfold jb_ex at hs
  dsimp only at hs
  split at hs
  · rename_i t ht
    split at hs
    · have e := jb_go_inj hs
      subst e
      intro H locs lm hJ hS hL hT0
      have h2 := kk H locs lm hJ hS hL hT0
      refine lv_icmp_ge C.1 C.2.1 hd (jb_tg_ok ht) (fun q => ?_) (fun q => ?_)
      · dsimp only at h2
        rw [if_pos q] at h2
        exact h2
      · dsimp only at h2
        rw [if_neg q] at h2
        exact h2
    · cases hs
  · cases hs
theorem js_icmp_gt (C : ja_C p m meth c s args i D E) {o : Int} (hd : decode (jb_b i) pc = .ok (.if_icmp .gt o, 3)) (hs : jb_ex F i (.if_icmp .gt o) k a b pc ls st h = some (.inr g)) (kk : ja_Wd p l e R s m args below meth c D E Q n0 t0 g) : ja_Wd p l e R s m args below meth c D E Q n0 t0 (pc, ls, st, h) := by
  unfold jb_ex at hs
  dsimp only at hs
  split at hs
  · rename_i t ht
    split at hs
    · have e := jb_go_inj hs
      subst e
      intro H locs lm hJ hS hL hT0
      have h2 := kk H locs lm hJ hS hL hT0
      refine lv_icmp_gt C.1 C.2.1 hd (jb_tg_ok ht) (fun q => ?_) (fun q => ?_)
      · dsimp only at h2
        rw [if_pos q] at h2
        exact h2
      · dsimp only at h2
        rw [if_neg q] at h2
        exact h2
    · cases hs
  · cases hs
theorem js_icmp_le (C : ja_C p m meth c s args i D E) {o : Int} (hd : decode (jb_b i) pc = .ok (.if_icmp .le o, 3)) (hs : jb_ex F i (.if_icmp .le o) k a b pc ls st h = some (.inr g)) (kk : ja_Wd p l e R s m args below meth c D E Q n0 t0 g) : ja_Wd p l e R s m args below meth c D E Q n0 t0 (pc, ls, st, h) := by
  unfold jb_ex at hs
  dsimp only at hs
  split at hs
  · rename_i t ht
    split at hs
    · have e := jb_go_inj hs
      subst e
      intro H locs lm hJ hS hL hT0
      have h2 := kk H locs lm hJ hS hL hT0
      refine lv_icmp_le C.1 C.2.1 hd (jb_tg_ok ht) (fun q => ?_) (fun q => ?_)
      · dsimp only at h2
        rw [if_pos q] at h2
        exact h2
      · dsimp only at h2
        rw [if_neg q] at h2
        exact h2
    · cases hs
  · cases hs
theorem js_if_eq (C : ja_C p m meth c s args i D E) {o : Int} (hd : decode (jb_b i) pc = .ok (.ifCond .eq o, 3)) (hs : jb_ex F i (.ifCond .eq o) k a b pc ls st h = some (.inr g)) (kk : ja_Wd p l e R s m args below meth c D E Q n0 t0 g) : ja_Wd p l e R s m args below meth c D E Q n0 t0 (pc, ls, st, h) := by
  unfold jb_ex at hs
  dsimp only at hs
  split at hs
  · rename_i t ht
    split at hs
    · have e := jb_go_inj hs
      subst e
      intro H locs lm hJ hS hL hT0
      have h2 := kk H locs lm hJ hS hL hT0
      refine lv_if_eq C.1 C.2.1 hd (jb_tg_ok ht) (fun q => ?_) (fun q => ?_)
      · dsimp only at h2
        rw [if_pos q] at h2
        exact h2
      · dsimp only at h2
        rw [if_neg q] at h2
        exact h2
    · cases hs
  · cases hs
theorem js_if_ne (C : ja_C p m meth c s args i D E) {o : Int} (hd : decode (jb_b i) pc = .ok (.ifCond .ne o, 3)) (hs : jb_ex F i (.ifCond .ne o) k a b pc ls st h = some (.inr g)) (kk : ja_Wd p l e R s m args below meth c D E Q n0 t0 g) : ja_Wd p l e R s m args below meth c D E Q n0 t0 (pc, ls, st, h) := by
  unfold jb_ex at hs
  dsimp only at hs
  split at hs
  · rename_i t ht
    split at hs
    · have e := jb_go_inj hs
      subst e
      intro H locs lm hJ hS hL hT0
      have h2 := kk H locs lm hJ hS hL hT0
      refine lv_if_ne C.1 C.2.1 hd (jb_tg_ok ht) (fun q => ?_) (fun q => ?_)
      · dsimp only at h2
        rw [if_neg q] at h2
        exact h2
      · dsimp only at h2
        rw [if_pos q] at h2
        exact h2
    · cases hs
  · cases hs
theorem js_if_lt (C : ja_C p m meth c s args i D E) {o : Int} (hd : decode (jb_b i) pc = .ok (.ifCond .lt o, 3)) (hs : jb_ex F i (.ifCond .lt o) k a b pc ls st h = some (.inr g)) (kk : ja_Wd p l e R s m args below meth c D E Q n0 t0 g) : ja_Wd p l e R s m args below meth c D E Q n0 t0 (pc, ls, st, h) := by
  unfold jb_ex at hs
  dsimp only at hs
  split at hs
  · rename_i t ht
    split at hs
    · have e := jb_go_inj hs
      subst e
      intro H locs lm hJ hS hL hT0
      have h2 := kk H locs lm hJ hS hL hT0
      refine lv_if_lt C.1 C.2.1 hd (jb_tg_ok ht) (fun q => ?_) (fun q => ?_)
      · dsimp only at h2
        rw [if_pos q] at h2
        exact h2
      · dsimp only at h2
        rw [if_neg q] at h2
        exact h2
    · cases hs
  · cases hs
theorem js_if_ge (C : ja_C p m meth c s args i D E) {o : Int} (hd : decode (jb_b i) pc = .ok (.ifCond .ge o, 3)) (hs : jb_ex F i (.ifCond .ge o) k a b pc ls st h = some (.inr g)) (kk : ja_Wd p l e R s m args below meth c D E Q n0 t0 g) : ja_Wd p l e R s m args below meth c D E Q n0 t0 (pc, ls, st, h) := by
  unfold jb_ex at hs
  dsimp only at hs
  split at hs
  · rename_i t ht
    split at hs
    · have e := jb_go_inj hs
      subst e
      intro H locs lm hJ hS hL hT0
      have h2 := kk H locs lm hJ hS hL hT0
      refine lv_if_ge C.1 C.2.1 hd (jb_tg_ok ht) (fun q => ?_) (fun q => ?_)
      · dsimp only at h2
        rw [if_pos q] at h2
        exact h2
      · dsimp only at h2
        rw [if_neg q] at h2
        exact h2
    · cases hs
  · cases hs
theorem js_if_gt (C : ja_C p m meth c s args i D E) {o : Int} (hd : decode (jb_b i) pc = .ok (.ifCond .gt o, 3)) (hs : jb_ex F i (.ifCond .gt o) k a b pc ls st h = some (.inr g)) (kk : ja_Wd p l e R s m args below meth c D E Q n0 t0 g) : ja_Wd p l e R s m args below meth c D E Q n0 t0 (pc, ls, st, h) := by
  unfold jb_ex at hs
  dsimp only at hs
  split at hs
  · rename_i t ht
    split at hs
    · have e := jb_go_inj hs
      subst e
      intro H locs lm hJ hS hL hT0
      have h2 := kk H locs lm hJ hS hL hT0
      refine lv_if_gt C.1 C.2.1 hd (jb_tg_ok ht) (fun q => ?_) (fun q => ?_)
      · dsimp only at h2
        rw [if_pos q] at h2
        exact h2
      · dsimp only at h2
        rw [if_neg q] at h2
        exact h2
    · cases hs
  · cases hs
theorem js_if_le (C : ja_C p m meth c s args i D E) {o : Int} (hd : decode (jb_b i) pc = .ok (.ifCond .le o, 3)) (hs : jb_ex F i (.ifCond .le o) k a b pc ls st h = some (.inr g)) (kk : ja_Wd p l e R s m args below meth c D E Q n0 t0 g) : ja_Wd p l e R s m args below meth c D E Q n0 t0 (pc, ls, st, h) := by
  unfold jb_ex at hs
  dsimp only at hs
  split at hs
  · rename_i t ht
    split at hs
    · have e := jb_go_inj hs
      subst e
      intro H locs lm hJ hS hL hT0
      have h2 := kk H locs lm hJ hS hL hT0
      refine lv_if_le C.1 C.2.1 hd (jb_tg_ok ht) (fun q => ?_) (fun q => ?_)
      · dsimp only at h2
        rw [if_pos q] at h2
        exact h2
      · dsimp only at h2
        rw [if_neg q] at h2
        exact h2
    · cases hs
  · cases hs
theorem js_ifnonnull (C : ja_C p m meth c s args i D E) {o : Int} (hd : decode (jb_b i) pc = .ok (.ifnonnull o, 3)) (hs : jb_ex F i (.ifnonnull o) k a b pc ls st h = some (.inr g)) (kk : ja_Wd p l e R s m args below meth c D E Q n0 t0 g) : ja_Wd p l e R s m args below meth c D E Q n0 t0 (pc, ls, st, h) := by
  unfold jb_ex at hs
  dsimp only at hs
  split at hs
  · rename_i t ht
    split at hs
    · rename_i x r
      split at hs
      · rename_i hx
        have e := jb_go_inj hs
        subst e
        intro H locs lm hJ hS hL hT0
        have h2 := kk H locs lm hJ hS hL hT0
        dsimp only at h2 ⊢
        rw [List.map_cons, ja_v_low E hx]
        exact lv_ifnonnull C.1 C.2.1 hd (jb_tg_ok ht) h2
      · cases hs
    · have e := jb_go_inj hs
      subst e
      intro H locs lm hJ hS hL hT0
      exact lv_ifnonnullN C.1 C.2.1 hd (kk H locs lm hJ hS hL hT0)
    · cases hs
  · cases hs
theorem js_table (C : ja_C p m meth c s args i D E) {d lo hi : Int} {offs : Array Int} {len : Nat} (hd : decode (jb_b i) pc = .ok (.tableswitch d lo hi offs, len)) (hs : jb_ex F i (.tableswitch d lo hi offs) k a b pc ls st h = some (.inr g)) (kk : ja_Wd p l e R s m args below meth c D E Q n0 t0 g) : ja_Wd p l e R s m args below meth c D E Q n0 t0 (pc, ls, st, h) := by
  unfold jb_ex at hs
  dsimp only at hs
  split at hs
  · split at hs
    · rename_i hc
      split at hs
      · rename_i t ht
        have e := jb_go_inj hs
        subst e
        intro H locs lm hJ hS hL hT0
        exact lv_tableOut C.1 C.2.1 hd hc (jb_tg_ok ht) (kk H locs lm hJ hS hL hT0)
      · cases hs
    · rename_i hc
      split at hs
      · rename_i o ho
        split at hs
        · rename_i t ht
          have e := jb_go_inj hs
          subst e
          intro H locs lm hJ hS hL hT0
          exact lv_tableIn C.1 C.2.1 hd (fun q => hc (Or.inl q)) (fun q => hc (Or.inr q)) ho (jb_tg_ok ht) (kk H locs lm hJ hS hL hT0)
        · cases hs
      · cases hs
  · cases hs
theorem js_lookup (C : ja_C p m meth c s args i D E) {d : Int} {ps : Array (Int × Int)} {len : Nat} (hd : decode (jb_b i) pc = .ok (.lookupswitch d ps, len)) (hs : jb_ex F i (.lookupswitch d ps) k a b pc ls st h = some (.inr g)) (kk : ja_Wd p l e R s m args below meth c D E Q n0 t0 g) : ja_Wd p l e R s m args below meth c D E Q n0 t0 (pc, ls, st, h) := by
  unfold jb_ex at hs
  dsimp only at hs
  split at hs
  · split at hs
    · rename_i hc
      split at hs
      · rename_i t ht
        have e := jb_go_inj hs
        subst e
        intro H locs lm hJ hS hL hT0
        exact lv_lookup C.1 C.2.1 hd hc rfl (jb_tg_ok ht) (kk H locs lm hJ hS hL hT0)
      · cases hs
    · cases hs
  · cases hs
theorem js_fconst (C : ja_C p m meth c s args i D E) {n : Fin 3} (hd : decode (jb_b i) pc = .ok (.fconst n, 1)) (hs : jb_ex F i (.fconst n) k a b pc ls st h = some (.inr g)) (kk : ja_Wd p l e R s m args below meth c D E Q n0 t0 g) : ja_Wd p l e R s m args below meth c D E Q n0 t0 (pc, ls, st, h) := by
  unfold jb_ex at hs
  dsimp only at hs
  split at hs
  · rename_i hn
    have e := jb_go_inj hs
    subst e
    intro H locs lm hJ hS hL hT0
    have e0 : n = 0 := Fin.ext hn
    subst e0
    exact lv_fconst0 C.1 C.2.1 hd (kk H locs lm hJ hS hL hT0)
  · cases hs
end JS
