/-! ===== the law: fractions, and reason ===== -/
section LX
variable {p : Program} {l : Launch} {e : Env} {s : State} {m : MethodId} {below : List Frame} {meth : Method} {c : Code} {D : va_G} {E : ja_E} {Q : State → Prop} {b L i : Nat} {xs : Nat → Int32} {H : Heap} {locs : List Loc} {ls : Array Slot} {pc cells slots : Nat} {σ : jm_S} {S : jSt} {rest : List Value}
theorem lw_caseD (C : lw_Cx p s m c b D E) (hJ : ja_J E D (jm_hp σ) H) (hS : va_S (ja_A E) s.heap H locs) (hl : lw_ls E b i ls) (hC : JC σ S) (hM : JM σ S) (hI : JI S) (kk : lw_kk p l e s m b below meth c D E Q i) : W p l e room_1 s m #[Value.ref b] below meth c H locs 321 lw_T Q (F0 m 904 ls []) := by
  obtain ⟨c1, c2, -⟩ := id C
  obtain ⟨z, σ1, σ2, S', e1, e2, hC', hM', hI'⟩ := lw_meanWear hC hM hI
  refine lv_aload_n c1 c2 d_law_904 rfl (lv_at hl 1 rfl) ?_
  refine lw_c1 C (as := []) (rest := []) lk_123 rfl e1 (by decide) hl.1 d_law_905 hJ hS (w := (.double z)) rfl rfl (fun H1 locs1 hJ1 hS1 => ?_)
  refine lv_dstore (lv' := [(4, .double z), (0, .ref b), (1, .ref (E.1 + 0)), (2, .ref (E.1 + 307)), (3, .int (nI i))]) c1 c2 d_law_908 hl (by decide) rfl (fun ls1 hl1 => ?_)
  refine lv_aload_n c1 c2 d_law_910 rfl (lv_at hl1 3 rfl) ?_
  refine lw_c2 C (as := []) (rest := []) lk_127 rfl e2 (Nat.le_of_ble_eq_true rfl) hl1.1 d_law_911 hJ1 hS1 (w := (.double z)) rfl rfl (fun H2 locs2 hJ2 hS2 => ?_)
  refine lv_dstore (lv' := [(6, .double z), (4, .double z), (0, .ref b), (1, .ref (E.1 + 0)), (2, .ref (E.1 + 307)), (3, .int (nI i))]) c1 c2 d_law_914 hl1 (by decide) rfl (fun ls2 hl2 => ?_)
  have hl3 : lw_ls E b i ls2 := lv_sub hl2 [2, 3, 4, 5] rfl
  have fin : W p l e room_1 s m #[Value.ref b] below meth c H2 locs2 321 lw_T Q (F0 m 942 ls2 []) := lv_goto (tgt := 1209) c1 c2 d_law_942 (by decide) (kk H2 locs2 σ2 S' ls2 hJ2 hS2 hC' hM' hI' hl3)
  refine lv_dload c1 c2 d_law_916 (lv_at hl2 1 rfl) ?_
  refine lv_dload c1 c2 d_law_918 (lv_at hl2 0 rfl) ?_
  refine lv_dcmp c1 c2 d_law_920 ?_
  refine lv_if_eq (tgt := 942) c1 c2 d_law_921 (by decide) (fun _ => fin) (fun h1 => ?_)
  refine lv_dload c1 c2 d_law_924 (lv_at hl2 1 rfl) ?_
  refine lv_dload c1 c2 d_law_926 (lv_at hl2 1 rfl) ?_
  refine lv_dcmp c1 c2 d_law_928 ?_
  refine lv_if_eq (tgt := 940) c1 c2 d_law_929 (by decide) (fun h => absurd h h1) (fun _ => ?_)
  refine lv_dload c1 c2 d_law_932 (lv_at hl2 0 rfl) ?_
  refine lv_dload c1 c2 d_law_934 (lv_at hl2 0 rfl) ?_
  refine lv_dcmp c1 c2 d_law_936 ?_
  exact lv_if_ne (tgt := 942) c1 c2 d_law_937 (by decide) (fun _ => fin) (fun h => absurd h h1)
theorem lw_caseF (C : lw_Cx p s m c b D E) (hJ : ja_J E D (jm_hp σ) H) (hS : va_S (ja_A E) s.heap H locs) (hl : lw_ls E b i ls) (hC : JC σ S) (hM : JM σ S) (hI : JI S) (kk : lw_kk p l e s m b below meth c D E Q i) : W p l e room_1 s m #[Value.ref b] below meth c H locs 321 lw_T Q (F0 m 945 ls []) := by
  obtain ⟨c1, c2, -⟩ := id C
  obtain ⟨z, hz, σ1, σ2, S', e1, e2, hC', hM', hI'⟩ := lw_meantShare hC hM hI
  refine lv_aload_n c1 c2 d_law_945 rfl (lv_at hl 1 rfl) ?_
  refine lw_c1 C (as := []) (rest := []) lk_128 rfl e1 (by decide) hl.1 d_law_946 hJ hS (w := (.float z)) rfl rfl (fun H1 locs1 hJ1 hS1 => ?_)
  refine lv_f2d c1 c2 d_law_949 hz ?_
  refine lv_dstore (lv' := [(4, .double (FP.f2d z)), (0, .ref b), (1, .ref (E.1 + 0)), (2, .ref (E.1 + 307)), (3, .int (nI i))]) c1 c2 d_law_950 hl (by decide) rfl (fun ls1 hl1 => ?_)
  refine lv_aload_n c1 c2 d_law_952 rfl (lv_at hl1 3 rfl) ?_
  refine lw_c2 C (as := []) (rest := []) lk_132 rfl e2 (Nat.le_of_ble_eq_true rfl) hl1.1 d_law_953 hJ1 hS1 (w := (.float z)) rfl rfl (fun H2 locs2 hJ2 hS2 => ?_)
  refine lv_f2d c1 c2 d_law_956 hz ?_
  refine lv_dstore (lv' := [(6, .double (FP.f2d z)), (4, .double (FP.f2d z)), (0, .ref b), (1, .ref (E.1 + 0)), (2, .ref (E.1 + 307)), (3, .int (nI i))]) c1 c2 d_law_957 hl1 (by decide) rfl (fun ls2 hl2 => ?_)
  have hl3 : lw_ls E b i ls2 := lv_sub hl2 [2, 3, 4, 5] rfl
  have fin : W p l e room_1 s m #[Value.ref b] below meth c H2 locs2 321 lw_T Q (F0 m 985 ls2 []) := lv_goto (tgt := 1209) c1 c2 d_law_985 (by decide) (kk H2 locs2 σ2 S' ls2 hJ2 hS2 hC' hM' hI' hl3)
  refine lv_dload c1 c2 d_law_959 (lv_at hl2 1 rfl) ?_
  refine lv_dload c1 c2 d_law_961 (lv_at hl2 0 rfl) ?_
  refine lv_dcmp c1 c2 d_law_963 ?_
  refine lv_if_eq (tgt := 985) c1 c2 d_law_964 (by decide) (fun _ => fin) (fun h1 => ?_)
  refine lv_dload c1 c2 d_law_967 (lv_at hl2 1 rfl) ?_
  refine lv_dload c1 c2 d_law_969 (lv_at hl2 1 rfl) ?_
  refine lv_dcmp c1 c2 d_law_971 ?_
  refine lv_if_eq (tgt := 983) c1 c2 d_law_972 (by decide) (fun h => absurd h h1) (fun _ => ?_)
  refine lv_dload c1 c2 d_law_975 (lv_at hl2 0 rfl) ?_
  refine lv_dload c1 c2 d_law_977 (lv_at hl2 0 rfl) ?_
  refine lv_dcmp c1 c2 d_law_979 ?_
  exact lv_if_ne (tgt := 985) c1 c2 d_law_980 (by decide) (fun _ => fin) (fun h => absurd h h1)
def lw_bool (x : Int32) : Int32 := if x = 0 then 0 else 1
theorem lw_bz (C : lw_Cx p s m c b D E) {x : Int32} (d0 : decode code pc = .ok (.ifCond .eq 7, 3)) (d1 : decode code (pc + 3) = .ok (.iconst 1, 1)) (d2 : decode code (pc + 4) = .ok (.goto 4, 3)) (d3 : decode code (pc + 7) = .ok (.iconst 0, 1)) (kk : W p l e room_1 s m #[Value.ref b] below meth c H locs cells slots Q (F0 m (pc + 8) ls (.int (lw_bool x) :: rest))) : W p l e room_1 s m #[Value.ref b] below meth c H locs cells slots Q (F0 m pc ls (.int x :: rest)) := by
  obtain ⟨c1, c2, -⟩ := id C
  refine lv_if_eq (tgt := pc + 7) c1 c2 d0 (by omega) (fun h => ?_) (fun h => ?_)
  · refine lv_iconst (v := 0) c1 c2 d3 (by decide) ?_
    rw [lw_bool, if_pos h] at kk
    exact kk
  · refine lv_iconst (v := 1) c1 c2 d1 (by decide) ?_
    refine lv_goto (tgt := pc + 8) c1 c2 d2 (by omega) ?_
    rw [lw_bool, if_neg h] at kk
    exact kk
theorem lw_caseB (C : lw_Cx p s m c b D E) (X : lw_sc s b L xs i) (hJ : ja_J E D (jm_hp σ) H) (hS : va_S (ja_A E) s.heap H locs) (hl : lw_ls E b i ls) (hC : JC σ S) (hM : JM σ S) (hI : JI S) (rt : jb_ret 28 = some .int ∨ jb_ret 28 = some .boolean) (kk : lw_kk p l e s m b below meth c D E Q i) : W p l e room_1 s m #[Value.ref b] below meth c H locs 321 lw_T Q (F0 m 1121 ls []) := by
  obtain ⟨c1, c2, -⟩ := id C
  obtain ⟨v, σ1, σ2, S', e1, e2, hC', hM', hI'⟩ := o_reason hC hM hI (lw_x xs i 1) (lw_bool (lw_x xs i 2))
  obtain ⟨y, rfl⟩ := jb_Ev_int e1 rt
  refine lv_aload_n c1 c2 d_law_1121 rfl (lv_at hl 1 rfl) ?_
  refine lw_arg C X hS hl 1 (by decide) (by decide) d_law_1122 d_law_1123 d_law_1124 d_law_1125 d_law_1126 ?_
  refine lw_arg C X hS hl 2 (by decide) (by decide) d_law_1127 d_law_1128 d_law_1129 d_law_1130 d_law_1131 ?_
  refine lw_bz C d_law_1132 d_law_1135 d_law_1136 d_law_1139 ?_
  refine lw_c1 C (as := [.int (lw_x xs i 1), .int (lw_bool (lw_x xs i 2))]) (rest := []) lk_161 rfl e1 (by decide) hl.1 d_law_1140 hJ hS (ja_v_int E y) rfl (fun H1 locs1 hJ1 hS1 => ?_)
  refine lv_aload_n c1 c2 d_law_1143 rfl (lv_at hl 2 rfl) ?_
  refine lw_arg C X hS1 hl 1 (by decide) (by decide) d_law_1144 d_law_1145 d_law_1146 d_law_1147 d_law_1148 ?_
  refine lw_arg C X hS1 hl 2 (by decide) (by decide) d_law_1149 d_law_1150 d_law_1151 d_law_1152 d_law_1153 ?_
  refine lw_bz C d_law_1154 d_law_1157 d_law_1158 d_law_1161 ?_
  refine lw_c2 C (as := [.int (lw_x xs i 1), .int (lw_bool (lw_x xs i 2))]) (rest := [.int y]) lk_165 rfl e2 (Nat.le_of_ble_eq_true rfl) hl.1 d_law_1162 hJ1 hS1 (ja_v_int E y) rfl (fun H2 locs2 hJ2 hS2 => ?_)
  exact lv_icmp_eq (tgt := 1209) c1 c2 d_law_1165 (by decide) (fun _ => kk H2 locs2 σ2 S' ls hJ2 hS2 hC' hM' hI' hl) (fun h => absurd rfl h)
end LX
