/-! ===== the law's rows: an argument out of the script, the two calls ===== -/
def lw_x (xs : Nat → Int32) (i k : Nat) : Int32 := xs (nI (i + k)).toNatClampNeg
def lw_ls (E : ja_E) (b i : Nat) (ls : Array Slot) : Prop := lv_has ls 8 [(0, .ref b), (1, .ref (E.1 + 0)), (2, .ref (E.1 + 307)), (3, .int (nI i))]
def lw_sc (s : State) (b L : Nat) (xs : Nat → Int32) (i : Nat) : Prop := va_X b L xs s s.heap ∧ L ≤ 2048 ∧ i + 4 ≤ L
/-- the goal behind a case -/
def lw_kk (p : Program) (l : Launch) (e : Env) (s : State) (m : MethodId) (b : Nat) (below : List Frame) (meth : Method) (c : Code) (D : va_G) (E : ja_E) (Q : State → Prop) (i : Nat) : Prop :=
  ∀ (H : Heap) (locs : List Loc) (σ : jm_S) (S : jSt) (ls : Array Slot), ja_J E D (jm_hp σ) H → va_S (ja_A E) s.heap H locs → JC σ S → JM σ S → JI S → lw_ls E b i ls → W p l e room_1 s m #[Value.ref b] below meth c H locs 321 lw_T Q (F0 m 1209 ls [])
section LR
variable {p : Program} {l : Launch} {e : Env} {s : State} {m : MethodId} {below : List Frame} {meth : Method} {c : Code} {D : va_G} {E : ja_E} {Q : State → Prop} {b L i : Nat} {xs : Nat → Int32} {H : Heap} {locs : List Loc} {ls : Array Slot} {cells slots : Nat} {rest : List Value} {pc : Nat} {σ σ1 σ2 : jm_S}
theorem lw_nb (C : lw_Cx p s m c b D E) : ¬ ja_A E b := by
  obtain ⟨c1, c2, c3, c4, c5, cK, cR, cE, cb⟩ := id C
  intro z
  have z : E.1 ≤ b := z
  omega
theorem lw_arg (C : lw_Cx p s m c b D E) (X : lw_sc s b L xs i) (hS : va_S (ja_A E) s.heap H locs) (hl : lw_ls E b i ls) (k : Nat) {n : Int} (hk : k < 4) (hn : Int32.ofInt n = nI k) (d0 : decode code pc = .ok (.aload_n 0, 1)) (d1 : decode code (pc + 1) = .ok (.iload_n 3, 1)) (d2 : decode code (pc + 2) = .ok (.iconst n, 1)) (d3 : decode code (pc + 3) = .ok (.iadd, 1)) (d4 : decode code (pc + 4) = .ok (.iaload, 1)) (kk : W p l e room_1 s m #[Value.ref b] below meth c H locs cells slots Q (F0 m (pc + 5) ls (.int (lw_x xs i k) :: rest))) : W p l e room_1 s m #[Value.ref b] below meth c H locs cells slots Q (F0 m pc ls rest) := by
  obtain ⟨c1, c2, c3, c4, c5, cK, cR, cE, cb⟩ := id C
  obtain ⟨hX, hL, hi⟩ := X
  refine lv_aload_n c1 c2 d0 rfl (lv_at hl 0 rfl) ?_
  refine lv_iload_n c1 c2 d1 rfl (lv_at hl 3 rfl) ?_
  refine lv_iconst c1 c2 d2 hn ?_
  refine lv_iadd c1 c2 d3 ?_
  rw [nI_add]
  refine va_sld c1 c2 hX cb (lw_nb C) hS (vp_in_nI (by omega) (by omega)) d4 ?_
  exact kk
theorem lw_invT (C : lw_Cx p s m c b D E) {a x r n o T : Nat} {as rest : List Value} {v w : Value} {h h' : jb_H} {st : List Value} (K : lw_Kc x a n o) (ho : jb_recv h r o = true) (hr : r < 1000000) (hn : as.length = n) (hev : jb_Ev a (.ref r :: as) h = some (some v, h')) (l1 : h.length = 321) (l2 : h'.length = 321) (t1 : ja_tot h = T) (t2 : ja_tot h' = T) (hT : T ≤ 20000) (hsum : (rest.map fun v => v.category).sum ≤ 8) (hls : ls.size = 8) (hd : decode code pc = .ok (.invokevirtual x, 3)) (hJ : ja_J E D h H) (hS : va_S (ja_A E) s.heap H locs) (hw : ja_v E v = w) (hst : (as.map (ja_v E)).reverse ++ .ref (E.1 + r) :: rest = st) (kk : ∀ H' locs', ja_J E D h' H' → va_S (ja_A E) s.heap H' locs' → W p l e room_1 s m #[Value.ref b] below meth c H' locs' 321 T Q (F0 m (pc + 3) ls (w :: rest))) : W p l e room_1 s m #[Value.ref b] below meth c H locs 321 T Q (F0 m pc ls st) := by
  subst hw
  subst hst
  obtain ⟨k1, k2, k3, k4, k5, k6, k7⟩ := K
  have h9 := lw_inv (p := p) (l := l) (e := e) (below := below) (meth := meth) (Q := Q) (rest := rest) (locs := locs) C hev (by rw [k3]; exact ho) hr k1 k2 k4 k5 k6 (by rw [hn]; exact k7) hsum hd (by dsimp only; omega) (by dsimp only; omega) hls hJ hS (fun H' locs' hJ' hS' => by
    dsimp only
    rw [l2, t2]
    exact kk H' locs' hJ' hS')
  rw [l1, t1] at h9
  exact h9
theorem lw_rc {h : jb_H} {r o : Nat} (hc : jm_c r = o) (ho : o < 12) (he : h = jm_hp σ) : jb_recv h r o = true := by
  rw [he]
  exact jm_recv hc ho
theorem lw_c0 : jm_c 0 = 10 := by decide +kernel
theorem lw_c307 : jm_c 307 = 11 := by decide +kernel
/-- the class's call -/
theorem lw_c1 (C : lw_Cx p s m c b D E) {a x : Nat} {as rest : List Value} {v : Value} {n : Nat} (K : lw_Kc x a n 10) (hn : as.length = n) (hev : jb_Ev a (.ref (0 : Nat) :: as) (jm_hp σ) = some (some v, jm_hp σ1)) (hsum : (rest.map fun v => v.category).sum ≤ 8) (hls : ls.size = 8) (hd : decode code pc = .ok (.invokevirtual x, 3)) (hJ : ja_J E D (jm_hp σ) H) (hS : va_S (ja_A E) s.heap H locs) {w : Value} (hw : ja_v E v = w) {st : List Value} (hst : (as.map (ja_v E)).reverse ++ .ref (E.1 + 0) :: rest = st) (kk : ∀ H' locs', ja_J E D (jm_hp σ1) H' → va_S (ja_A E) s.heap H' locs' → W p l e room_1 s m #[Value.ref b] below meth c H' locs' 321 lw_T Q (F0 m (pc + 3) ls (w :: rest))) : W p l e room_1 s m #[Value.ref b] below meth c H locs 321 lw_T Q (F0 m pc ls st) :=
  lw_invT C K (lw_rc lw_c0 (by decide) rfl) (by decide) hn hev (jm_hp_len σ) (jm_hp_len σ1) (lw_tot σ) (lw_tot σ1) lw_T_le hsum hls hd hJ hS hw hst kk
/-- the model's call -/
theorem lw_c2 (C : lw_Cx p s m c b D E) {a x : Nat} {as rest : List Value} {v : Value} {n : Nat} (K : lw_Kc x a n 11) (hn : as.length = n) (hev : jb_Ev a (.ref (307 : Nat) :: as) (jm_hp σ) = some (some v, jm_hp σ1)) (hsum : (rest.map fun v => v.category).sum ≤ 8) (hls : ls.size = 8) (hd : decode code pc = .ok (.invokevirtual x, 3)) (hJ : ja_J E D (jm_hp σ) H) (hS : va_S (ja_A E) s.heap H locs) {w : Value} (hw : ja_v E v = w) {st : List Value} (hst : (as.map (ja_v E)).reverse ++ .ref (E.1 + 307) :: rest = st) (kk : ∀ H' locs', ja_J E D (jm_hp σ1) H' → va_S (ja_A E) s.heap H' locs' → W p l e room_1 s m #[Value.ref b] below meth c H' locs' 321 lw_T Q (F0 m (pc + 3) ls (w :: rest))) : W p l e room_1 s m #[Value.ref b] below meth c H locs 321 lw_T Q (F0 m pc ls st) :=
  lw_invT C K (lw_rc lw_c307 (by decide) rfl) (by decide) hn hev (jm_hp_len σ) (jm_hp_len σ1) (lw_tot σ) (lw_tot σ1) lw_T_le hsum hls hd hJ hS hw hst kk
end LR
