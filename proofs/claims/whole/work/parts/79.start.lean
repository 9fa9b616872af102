/-! ===== the law, from its entry ===== -/
section LB
variable {p : Program} {l : Launch} {e : Env} {s : State} {m : MethodId} {below : List Frame} {meth : Method} {c : Code} {D : va_G} {E : ja_E} {Q : State → Prop} {b L i : Nat} {xs : Nat → Int32} {H : Heap} {locs : List Loc} {ls : Array Slot} {pc cells slots : Nat} {σ : jm_S} {S : jSt} {rest : List Value}
theorem lw_new (C : lw_Cx p s m c b D E) {a x : Nat} {h : jb_H} (ha : a < 12) (hcl : Cond.classLink "DrownedBellsLaw" x (jb_O a) ∈ jb_W) (hd : decode code pc = .ok (.new x, 3)) (hJ : ja_J E D h H) (hS : va_S (ja_A E) s.heap H locs) (hlen : h.length + 1 ≤ 600000) (hsl : ja_tot h + jb_N a ≤ 7302250) (kk : ∀ H1, ja_J E D (h ++ [(a, jb_def a)]) H1 → va_S (ja_A E) s.heap H1 locs → W p l e room_1 s m #[Value.ref b] below meth c H1 locs (h.length + 1) (ja_tot h + jb_N a) Q (F0 m (pc + 3) ls (.ref (E.1 + h.length) :: rest))) : W p l e room_1 s m #[Value.ref b] below meth c H locs h.length (ja_tot h) Q (F0 m pc ls rest) := by
  obtain ⟨c1, c2, c3, c4, c5, cK, cR, cE, cb⟩ := id C
  obtain ⟨f1, f2, f3, f4, f5⟩ := jb_C_facts ha
  have hW := lw_W C
  have hdl : (jb_def a).length = jb_N a := by unfold jb_def; rw [List.length_map]; exact jb_def_len a ha
  have hz := hJ.2
  refine va_new c1 c2 hW f1 (jb_Ty a) f2 c4 (hW _ hcl) (hW _ f4) (hW _ f5) cK hJ.1 ja_w_D hS (fun q hq => (by show E.1 ≤ q; omega)) (jb_cl_at ha) (fs := jb_def a) (fun j hj => ?_) (by show h.length + 1 ≤ 600000; exact hlen) (by show ja_tot h + jb_N a ≤ 7302250; exact hsl) hd (fun q H1 hP1 hD1 hS1 => ?_)
  · unfold vp_V jb_def jb_Ty
    have hjl : j < (jb_Tys.getD a []).length := by rw [jb_def_len a ha]; exact hj
    generalize jb_Tys.getD a [] = tys at hjl ⊢
    simp only [List.getD_eq_getElem?_getD, List.getElem?_map]
    rw [List.getElem?_eq_getElem hjl]
    rfl
  · intro T hT X
    have h1 := X.heapSize
    rw [hT] at h1
    have hl : (ja_w E h ++ [(q, (Sum.inr (a, jb_def a) : va_E))])[h.length]? = some (q, .inr (a, jb_def a)) := by
      rw [List.getElem?_append_right (by rw [ja_w_len]; exact Nat.le_refl _), ja_w_len, Nat.sub_self]; rfl
    have h4 : q < H1.size := (hP1 _ _ hl).lt
    have h5 : E.1 ≤ q := hD1.2 _ _ hl
    have h6 : q = E.1 + h.length := by
      rcases Nat.lt_or_ge (q - E.1) h.length with z | z
      · exfalso
        have hk : (ja_w E h ++ [(q, (Sum.inr (a, jb_def a) : va_E))])[q - E.1]? = some (E.1 + (q - E.1), ja_ent E (h[q - E.1]'z)) := by
          rw [List.getElem?_append_left (by rw [ja_w_len]; exact z)]
          exact ja_w_at (List.getElem?_eq_getElem z)
        have := hD1.1 _ _ _ _ hk hl (by show E.1 + (q - E.1) = q; omega)
        omega
      · omega
    have hen : ja_ent E (a, jb_def a) = .inr (a, jb_def a) := by rw [ja_ent_o E ha, jb_def_map]
    subst h6
    refine kk H1 ⟨?_, ?_⟩ hS1 T hT X
    · show va_P D jb_cl (ja_w E (h ++ [(a, jb_def a)])) H1
      rw [ja_w_app, hen]
      exact hP1
    · show H1.size = E.1 + (h ++ [(a, jb_def a)]).length
      simp
      omega
theorem lw_ini (C : lw_Cx p s m c b D E) {a x r : Nat} {rest : List Value} {h h' : jb_H} {lm : Array Slot} (hev : jb_Ev a [.ref r] h = some (none, h')) (hrec : jb_recv h r (jb_ow a) = true) (hr : r < 1000000) (ha : a < 248) (hht : jb_ht a ≤ 8) (hlink : Cond.methodLink "DrownedBellsLaw" x (jb_y a) ∈ jb_W) (hinst : Cond.instanceMethod (jb_y a) ∈ jb_W) (hnm : (jb_y a).name = "<init>") (hret : jb_ret a = none) (hdesc : (parseMethodDescriptor (jb_y a).desc).map (fun d => d.parameters.length) = some 0) (hsum : (rest.map fun v => v.category).sum ≤ 8) (hd : decode code pc = .ok (.invokespecial x, 3)) (hc : h'.length ≤ 600000) (hs : ja_tot h' ≤ 7302250) (hlm : lm.size = 8) (hJ : ja_J E D h H) (hS : va_S (ja_A E) s.heap H locs) (kk : ∀ H' locs', ja_J E D h' H' → va_S (ja_A E) s.heap H' locs' → W p l e room_1 s m #[Value.ref b] below meth c H' locs' h'.length (ja_tot h') Q (F0 m (pc + 3) lm rest)) : W p l e room_1 s m #[Value.ref b] below meth c H locs h.length (ja_tot h) Q (F0 m pc lm (.ref (E.1 + r) :: rest)) := by
  obtain ⟨c1, c2, c3, c4, c5, cK, cR, cE, cb⟩ := id C
  obtain ⟨-, -, hle, hte, hM⟩ := ja_sim l D E (jb_ht a + 1) a [.ref r] h (none, h') hev
  obtain ⟨w1, w2, w3, w4, w5, w6⟩ := jb_M_at ha
  dsimp only at hle hte hM
  have hrm : (ja_rm a (h'.length - h.length) (ja_tot h' - ja_tot h)).frames + 1 ≤ room_1.frames ∧ 8 + (jb_ml a + 11) + (ja_rm a (h'.length - h.length) (ja_tot h' - ja_tot h)).locals ≤ room_1.locals := by
    show jb_ht a + 1 + 1 ≤ 13 ∧ 8 + (jb_ml a + 11) + (30 * jb_ht a + 24) ≤ 502
    omega
  have hP : PreS s H (ja_Pc D E [.ref r] h) (.ref (E.1 + r) :: []) := ⟨ja_blind, fun U hU hW => ⟨by rw [List.map_cons, ja_v_low E hr]; rfl, by rw [hU]; exact hJ, va_K.moved hW.alike cK, by rw [hU]; exact ja_R.to hW hS.2.1 cR⟩⟩
  have hrun := va_runI (g := F0 m pc lm (Value.ref (E.1 + r) :: rest)) (cells := h.length) (slots := ja_tot h) (locs := locs) (R := room_1) (e := e) (below := below) (meth := meth) (rest := rest) (⟨c1, c2, c3, c4, lw_W C⟩ : CallFix p m c code 8 s #[Value.ref b] jb_W "DrownedBellsLaw") hM (cwI 0 (lw_W C) (ja_wsW ha) (ja_wsN hret) rfl rfl (lw_W C _ w1) (lw_W C _ hlink) (lw_W C _ hinst) hnm ⟨w4.1, w4.2, hdesc⟩ hrm) hP rfl rfl hlm rfl (by show 2 * 0 + _ ≤ 8; omega) hd ⟨by show h.length + (h'.length - h.length) ≤ 600000; omega, by show ja_tot h + (ja_tot h' - ja_tot h) ≤ 7302250; omega⟩
  intro T hT X
  obtain ⟨v, st₀, t, T', L, g0, X', hL', e1, e2, ⟨hv, hJ', hF⟩, st⟩ := hrun T hT X
  have hv : v = none := by cases hv; rfl
  subst hv
  have hS1 : va_S (ja_A E) H T'.heap (locs ++ L) := by
    refine ⟨by rw [e1, ← g0]; exact hF.1, fun q q1 q2 => ?_, fun q hq => ?_⟩
    · rw [e1, ← g0]
      rw [← g0] at q1
      exact hF.2 q q1 q2
    · rcases List.mem_append.mp hq with z | z
      · exact hS.2.2 q z
      · exact hL' q z
  rw [show h.length + (h'.length - h.length) = h'.length by omega, show ja_tot h + (ja_tot h' - ja_tot h) = ja_tot h' by omega] at X'
  obtain ⟨t2, a1, b1⟩ := kk T'.heap (locs ++ L) (by rw [e1]; exact hJ') (hS.tr hS1) T' rfl X'
  exact ⟨t2, st t2 a1, b1⟩
end LB
theorem lw_tk : ∀ (h : jb_H) (n : Nat), ja_tot (h.take n) ≤ ja_tot h
  | [], n => by rw [List.take_nil]; exact Nat.le_refl _
  | q :: h, 0 => Nat.zero_le _
  | q :: h, n + 1 => by
    have := lw_tk h n
    show q.2.length + ja_tot (h.take n) ≤ q.2.length + ja_tot h
    omega
theorem lw_tot1 : ja_tot ((jm_hp jm0).take 307) ≤ 20000 := Nat.le_trans (lw_tk (jm_hp jm0) 307) (Nat.le_trans (Nat.le_of_eq (lw_tot jm0)) lw_T_le)
theorem lw_tl {h : jb_H} {n : Nat} (hn : n ≤ h.length) : (h.take n).length = n := by rw [List.length_take]; omega
theorem lw_newD : Cond.classLink "DrownedBellsLaw" 7 (jb_O 10) ∈ jb_W ∧ Cond.classLink "DrownedBellsLaw" 10 (jb_O 11) ∈ jb_W := ⟨jb_inW (p := 89) (by decide +kernel) rfl, jb_inW (p := 1014) (by decide +kernel) rfl⟩
theorem lw_iniW : (Cond.methodLink "DrownedBellsLaw" 9 (jb_y 214) ∈ jb_W ∧ Cond.instanceMethod (jb_y 214) ∈ jb_W) ∧ (Cond.methodLink "DrownedBellsLaw" 12 (jb_y 30) ∈ jb_W ∧ Cond.instanceMethod (jb_y 30) ∈ jb_W) := ⟨⟨jb_inW (p := 91) (by decide +kernel) rfl, jb_inW (p := jb_p3 214) (by decide +kernel) rfl⟩, ⟨jb_inW (p := 1016) (by decide +kernel) rfl, jb_inW (p := jb_p3 30) (by decide +kernel) rfl⟩⟩
/-- from the entry, for every script of at most 2048 ints, the law comes to its end with true -/
theorem whole_start {p : Program} {e : Env} {s : State} {m : MethodId} {below : List Frame} {meth : Method} {c : Code} (l : Launch) (hflags : l.flags = flags0) {b L : Nat} {xs : Nat → Int32} (hL : L ≤ 2048) (C0 : lw_At p s m meth c b L xs) : W p l e room_1 s m #[Value.ref b] below meth c s.heap [] 0 0 (lw_Z below #[Value.ref b] s) (entryFrame m ([Value.ref b] : List Value).toArray 8) := by
  obtain ⟨hx, hb, hr, hml, hown, hts, hX, hbl, hlocks, hgv⟩ := id C0
  obtain ⟨D, E, hE, hK, hR⟩ := lw_entry hts hgv
  have C : lw_Cx p s m c b D E := ⟨hx, hb, hml, hown, hts, hK, hR, hE, hbl⟩
  have hS : va_S (ja_A E) s.heap s.heap [] := va_S.rf
  have hJ : ja_J E D [] s.heap := ⟨fun k q h => by simp [ja_w] at h, hE⟩
  have hl := lv_entry ([.ref b]) (n := 8) (Nat.le_of_ble_eq_true rfl)
  rw [lg_entry_eq]
  generalize (lg_sl ([.ref b]) ++ List.replicate (8 - (lg_sl ([.ref b])).length) Slot.unset).toArray = ls at hl ⊢
  have hl : lv_has ls 8 [(0, .ref b)] := hl
  have ht1 := lw_tot1
  have hn11 : jb_N 11 ≤ 100 := by decide +kernel
  have hl1 : ((jm_hp jm0).take 307).length = 307 := lw_tl (by rw [jm_hp_len]; decide)
  refine lw_new (a := 10) (h := []) C (by decide) lw_newD.1 d_law_0 hJ hS (by decide) (by decide +kernel) (fun H1 hJ1 hS1 => ?_)
  refine lv_dup hx hb d_law_3 rfl ?_
  refine lw_ini (a := 214) (x := 9) (r := 0) (h := [(10, jb_def 10)]) (rest := [.ref (E.1 + 0)]) C jstart_D (by decide +kernel) (by decide) (by decide) (by decide +kernel) lw_iniW.1.1 lw_iniW.1.2 (by decide +kernel) (by decide +kernel) (by decide +kernel) (Nat.le_of_ble_eq_true rfl) d_law_4 (by rw [hl1]; decide) (by omega) hl.1 hJ1 hS1 (fun H2 locs2 hJ2 hS2 => ?_)
  refine lv_astore_n (lv' := [(1, .ref (E.1 + 0)), (0, .ref b)]) hx hb d_law_7 rfl hl (by decide) rfl (fun ls hl => ?_)
  refine lw_new (a := 11) (h := (jm_hp jm0).take 307) C (by decide) lw_newD.2 d_law_8 hJ2 hS2 (by rw [hl1]; decide) (by omega) (fun H3 hJ3 hS3 => ?_)
  rw [hl1]
  refine lv_dup hx hb d_law_11 rfl ?_
  have e1 : ((jm_hp jm0).take 307 ++ [(11, jb_def 11)]).length = 307 + 1 := by rw [List.length_append, hl1]; rfl
  have e2 : ja_tot ((jm_hp jm0).take 307 ++ [(11, jb_def 11)]) = ja_tot ((jm_hp jm0).take 307) + jb_N 11 := by rw [ja_tot_app]; congr 1
  rw [← e1, ← e2]
  have hrec : jb_recv ((jm_hp jm0).take 307 ++ [(11, jb_def 11)]) 307 (jb_ow 30) = true := by
    rw [show jb_ow 30 = 11 by decide +kernel]
    unfold jb_recv
    rw [if_neg (by decide), List.getElem?_append_right (by rw [hl1]; exact Nat.le_refl _), hl1]
    decide +kernel
  refine lw_ini (a := 30) (x := 12) (r := 307) (rest := [.ref (E.1 + 307)]) C jstart_M hrec (by decide) (by decide) (by decide +kernel) lw_iniW.2.1 lw_iniW.2.2 (by decide +kernel) (by decide +kernel) (by decide +kernel) (Nat.le_of_ble_eq_true rfl) d_law_12 (by rw [jm_hp_len]; decide) (by rw [lw_tot]; have := lw_T_le; omega) hl.1 hJ3 hS3 (fun H4 locs4 hJ4 hS4 => ?_)
  rw [jm_hp_len, lw_tot]
  refine lv_astore_n (lv' := [(2, .ref (E.1 + 307)), (1, .ref (E.1 + 0)), (0, .ref b)]) hx hb d_law_15 rfl hl (by decide) rfl (fun ls hl => ?_)
  refine lv_iconst (v := 0) hx hb d_law_16 (by decide) ?_
  refine lv_istore_n (lv' := [(3, .int 0), (2, .ref (E.1 + 307)), (1, .ref (E.1 + 0)), (0, .ref b)]) hx hb d_law_17 rfl hl (by decide) rfl (fun ls hl => ?_)
  exact lw_loop hr hlocks C hX hL (L + 1) 0 (by omega) (by omega) H4 locs4 jm0 jS0 ls hJ4 hS4 jJC0 jJM0 jJI0 (lv_sub hl [3, 2, 1, 0] rfl)
