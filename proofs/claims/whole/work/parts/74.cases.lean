/-! ===== a case of the law, for each kind of call ===== -/
def lw_ch (xs : Nat → Int32) (i : Nat) : Nat := (lw_x xs i 1).toBitVec.toNat % 65536
section LC
variable {p : Program} {l : Launch} {e : Env} {s : State} {m : MethodId} {below : List Frame} {meth : Method} {c : Code} {D : va_G} {E : ja_E} {Q : State → Prop} {b L i : Nat} {xs : Nat → Int32} {H : Heap} {locs : List Loc} {ls : Array Slot} {pc : Nat} {σ : jm_S}
theorem lw_case0 (C : lw_Cx p s m c b D E) (X : lw_sc s b L xs i) (hJ : ja_J E D (jm_hp σ) H) (hS : va_S (ja_A E) s.heap H locs) (hl : lw_ls E b i ls) {nc nm x1 x2 : Nat} (op : jOp σ nc nm []) (K1 : lw_Kc x1 nc 0 10) (K2 : lw_Kc x2 nm 0 11) (rt : jb_ret nc = some .int ∨ jb_ret nc = some .boolean) {off : Int} (d0 : decode code pc = .ok (.aload_n 1, 1)) (d1 : decode code (pc + 1) = .ok (.invokevirtual x1, 3)) (d2 : decode code (pc + 4) = .ok (.aload_n 2, 1)) (d3 : decode code (pc + 5) = .ok (.invokevirtual x2, 3)) (d4 : decode code (pc + 8) = .ok (.if_icmp .eq off, 3)) (ht : ((pc + 8 : Nat) : Int) + off = ((1209 : Nat) : Int)) (kk : lw_kk p l e s m b below meth c D E Q i) : W p l e room_1 s m #[Value.ref b] below meth c H locs 321 lw_T Q (F0 m pc ls []) := by
  obtain ⟨c1, c2, -⟩ := id C
  obtain ⟨v, σ1, σ2, S', e1, e2, hC', hM', hI'⟩ := op
  obtain ⟨y, rfl⟩ := jb_Ev_int e1 rt
  refine lv_aload_n c1 c2 d0 rfl (lv_at hl 1 rfl) ?_
  refine lw_c1 C (as := []) (rest := []) K1 rfl e1 (by decide) hl.1 d1 hJ hS (ja_v_int E y) rfl (fun H1 locs1 hJ1 hS1 => ?_)
  refine lv_aload_n c1 c2 d2 rfl (lv_at hl 2 rfl) ?_
  refine lw_c2 C (as := []) (rest := [.int y]) K2 rfl e2 (Nat.le_of_ble_eq_true rfl) hl.1 d3 hJ1 hS1 (ja_v_int E y) rfl (fun H2 locs2 hJ2 hS2 => ?_)
  exact lv_icmp_eq (tgt := 1209) c1 c2 d4 ht (fun _ => kk H2 locs2 σ2 S' ls hJ2 hS2 hC' hM' hI' hl) (fun h => absurd rfl h)
theorem lw_case1 (C : lw_Cx p s m c b D E) (X : lw_sc s b L xs i) (hJ : ja_J E D (jm_hp σ) H) (hS : va_S (ja_A E) s.heap H locs) (hl : lw_ls E b i ls) {nc nm x1 x2 : Nat} (op : jOp σ nc nm [.int (lw_x xs i 1)]) (K1 : lw_Kc x1 nc 1 10) (K2 : lw_Kc x2 nm 1 11) (rt : jb_ret nc = some .int ∨ jb_ret nc = some .boolean) {off : Int} (d0 : decode code pc = .ok (.aload_n 1, 1)) (d1 : decode code (pc + 1) = .ok (.aload_n 0, 1)) (d2 : decode code (pc + 2) = .ok (.iload_n 3, 1)) (d3 : decode code (pc + 3) = .ok (.iconst 1, 1)) (d4 : decode code (pc + 4) = .ok (.iadd, 1)) (d5 : decode code (pc + 5) = .ok (.iaload, 1)) (d6 : decode code (pc + 6) = .ok (.invokevirtual x1, 3)) (d7 : decode code (pc + 9) = .ok (.aload_n 2, 1)) (d8 : decode code (pc + 10) = .ok (.aload_n 0, 1)) (d9 : decode code (pc + 11) = .ok (.iload_n 3, 1)) (d10 : decode code (pc + 12) = .ok (.iconst 1, 1)) (d11 : decode code (pc + 13) = .ok (.iadd, 1)) (d12 : decode code (pc + 14) = .ok (.iaload, 1)) (d13 : decode code (pc + 15) = .ok (.invokevirtual x2, 3)) (d14 : decode code (pc + 18) = .ok (.if_icmp .eq off, 3)) (ht : ((pc + 18 : Nat) : Int) + off = ((1209 : Nat) : Int)) (kk : lw_kk p l e s m b below meth c D E Q i) : W p l e room_1 s m #[Value.ref b] below meth c H locs 321 lw_T Q (F0 m pc ls []) := by
  obtain ⟨c1, c2, -⟩ := id C
  obtain ⟨v, σ1, σ2, S', e1, e2, hC', hM', hI'⟩ := op
  obtain ⟨y, rfl⟩ := jb_Ev_int e1 rt
  refine lv_aload_n c1 c2 d0 rfl (lv_at hl 1 rfl) ?_
  refine lw_arg C X hS hl 1 (by decide) (by decide) d1 d2 d3 d4 d5 ?_
  refine lw_c1 C (as := [.int (lw_x xs i 1)]) (rest := []) K1 rfl e1 (by decide) hl.1 d6 hJ hS (ja_v_int E y) rfl (fun H1 locs1 hJ1 hS1 => ?_)
  refine lv_aload_n c1 c2 d7 rfl (lv_at hl 2 rfl) ?_
  refine lw_arg C X hS1 hl 1 (by decide) (by decide) d8 d9 d10 d11 d12 ?_
  refine lw_c2 C (as := [.int (lw_x xs i 1)]) (rest := [.int y]) K2 rfl e2 (Nat.le_of_ble_eq_true rfl) hl.1 d13 hJ1 hS1 (ja_v_int E y) rfl (fun H2 locs2 hJ2 hS2 => ?_)
  exact lv_icmp_eq (tgt := 1209) c1 c2 d14 ht (fun _ => kk H2 locs2 σ2 S' ls hJ2 hS2 hC' hM' hI' hl) (fun h => absurd rfl h)
theorem lw_case2 (C : lw_Cx p s m c b D E) (X : lw_sc s b L xs i) (hJ : ja_J E D (jm_hp σ) H) (hS : va_S (ja_A E) s.heap H locs) (hl : lw_ls E b i ls) {nc nm x1 x2 : Nat} (op : jOp σ nc nm [.int (lw_x xs i 1), .int (lw_x xs i 2)]) (K1 : lw_Kc x1 nc 2 10) (K2 : lw_Kc x2 nm 2 11) (rt : jb_ret nc = some .int ∨ jb_ret nc = some .boolean) {off : Int} (d0 : decode code pc = .ok (.aload_n 1, 1)) (d1 : decode code (pc + 1) = .ok (.aload_n 0, 1)) (d2 : decode code (pc + 2) = .ok (.iload_n 3, 1)) (d3 : decode code (pc + 3) = .ok (.iconst 1, 1)) (d4 : decode code (pc + 4) = .ok (.iadd, 1)) (d5 : decode code (pc + 5) = .ok (.iaload, 1)) (d6 : decode code (pc + 6) = .ok (.aload_n 0, 1)) (d7 : decode code (pc + 7) = .ok (.iload_n 3, 1)) (d8 : decode code (pc + 8) = .ok (.iconst 2, 1)) (d9 : decode code (pc + 9) = .ok (.iadd, 1)) (d10 : decode code (pc + 10) = .ok (.iaload, 1)) (d11 : decode code (pc + 11) = .ok (.invokevirtual x1, 3)) (d12 : decode code (pc + 14) = .ok (.aload_n 2, 1)) (d13 : decode code (pc + 15) = .ok (.aload_n 0, 1)) (d14 : decode code (pc + 16) = .ok (.iload_n 3, 1)) (d15 : decode code (pc + 17) = .ok (.iconst 1, 1)) (d16 : decode code (pc + 18) = .ok (.iadd, 1)) (d17 : decode code (pc + 19) = .ok (.iaload, 1)) (d18 : decode code (pc + 20) = .ok (.aload_n 0, 1)) (d19 : decode code (pc + 21) = .ok (.iload_n 3, 1)) (d20 : decode code (pc + 22) = .ok (.iconst 2, 1)) (d21 : decode code (pc + 23) = .ok (.iadd, 1)) (d22 : decode code (pc + 24) = .ok (.iaload, 1)) (d23 : decode code (pc + 25) = .ok (.invokevirtual x2, 3)) (d24 : decode code (pc + 28) = .ok (.if_icmp .eq off, 3)) (ht : ((pc + 28 : Nat) : Int) + off = ((1209 : Nat) : Int)) (kk : lw_kk p l e s m b below meth c D E Q i) : W p l e room_1 s m #[Value.ref b] below meth c H locs 321 lw_T Q (F0 m pc ls []) := by
  obtain ⟨c1, c2, -⟩ := id C
  obtain ⟨v, σ1, σ2, S', e1, e2, hC', hM', hI'⟩ := op
  obtain ⟨y, rfl⟩ := jb_Ev_int e1 rt
  refine lv_aload_n c1 c2 d0 rfl (lv_at hl 1 rfl) ?_
  refine lw_arg C X hS hl 1 (by decide) (by decide) d1 d2 d3 d4 d5 ?_
  refine lw_arg C X hS hl 2 (by decide) (by decide) d6 d7 d8 d9 d10 ?_
  refine lw_c1 C (as := [.int (lw_x xs i 1), .int (lw_x xs i 2)]) (rest := []) K1 rfl e1 (by decide) hl.1 d11 hJ hS (ja_v_int E y) rfl (fun H1 locs1 hJ1 hS1 => ?_)
  refine lv_aload_n c1 c2 d12 rfl (lv_at hl 2 rfl) ?_
  refine lw_arg C X hS1 hl 1 (by decide) (by decide) d13 d14 d15 d16 d17 ?_
  refine lw_arg C X hS1 hl 2 (by decide) (by decide) d18 d19 d20 d21 d22 ?_
  refine lw_c2 C (as := [.int (lw_x xs i 1), .int (lw_x xs i 2)]) (rest := [.int y]) K2 rfl e2 (Nat.le_of_ble_eq_true rfl) hl.1 d23 hJ1 hS1 (ja_v_int E y) rfl (fun H2 locs2 hJ2 hS2 => ?_)
  exact lv_icmp_eq (tgt := 1209) c1 c2 d24 ht (fun _ => kk H2 locs2 σ2 S' ls hJ2 hS2 hC' hM' hI' hl) (fun h => absurd rfl h)
theorem lw_case3 (C : lw_Cx p s m c b D E) (X : lw_sc s b L xs i) (hJ : ja_J E D (jm_hp σ) H) (hS : va_S (ja_A E) s.heap H locs) (hl : lw_ls E b i ls) {nc nm x1 x2 : Nat} (op : jOp σ nc nm [.int (lw_x xs i 1), .int (lw_x xs i 2), .int (lw_x xs i 3)]) (K1 : lw_Kc x1 nc 3 10) (K2 : lw_Kc x2 nm 3 11) (rt : jb_ret nc = some .int ∨ jb_ret nc = some .boolean) {off : Int} (d0 : decode code pc = .ok (.aload_n 1, 1)) (d1 : decode code (pc + 1) = .ok (.aload_n 0, 1)) (d2 : decode code (pc + 2) = .ok (.iload_n 3, 1)) (d3 : decode code (pc + 3) = .ok (.iconst 1, 1)) (d4 : decode code (pc + 4) = .ok (.iadd, 1)) (d5 : decode code (pc + 5) = .ok (.iaload, 1)) (d6 : decode code (pc + 6) = .ok (.aload_n 0, 1)) (d7 : decode code (pc + 7) = .ok (.iload_n 3, 1)) (d8 : decode code (pc + 8) = .ok (.iconst 2, 1)) (d9 : decode code (pc + 9) = .ok (.iadd, 1)) (d10 : decode code (pc + 10) = .ok (.iaload, 1)) (d11 : decode code (pc + 11) = .ok (.aload_n 0, 1)) (d12 : decode code (pc + 12) = .ok (.iload_n 3, 1)) (d13 : decode code (pc + 13) = .ok (.iconst 3, 1)) (d14 : decode code (pc + 14) = .ok (.iadd, 1)) (d15 : decode code (pc + 15) = .ok (.iaload, 1)) (d16 : decode code (pc + 16) = .ok (.invokevirtual x1, 3)) (d17 : decode code (pc + 19) = .ok (.aload_n 2, 1)) (d18 : decode code (pc + 20) = .ok (.aload_n 0, 1)) (d19 : decode code (pc + 21) = .ok (.iload_n 3, 1)) (d20 : decode code (pc + 22) = .ok (.iconst 1, 1)) (d21 : decode code (pc + 23) = .ok (.iadd, 1)) (d22 : decode code (pc + 24) = .ok (.iaload, 1)) (d23 : decode code (pc + 25) = .ok (.aload_n 0, 1)) (d24 : decode code (pc + 26) = .ok (.iload_n 3, 1)) (d25 : decode code (pc + 27) = .ok (.iconst 2, 1)) (d26 : decode code (pc + 28) = .ok (.iadd, 1)) (d27 : decode code (pc + 29) = .ok (.iaload, 1)) (d28 : decode code (pc + 30) = .ok (.aload_n 0, 1)) (d29 : decode code (pc + 31) = .ok (.iload_n 3, 1)) (d30 : decode code (pc + 32) = .ok (.iconst 3, 1)) (d31 : decode code (pc + 33) = .ok (.iadd, 1)) (d32 : decode code (pc + 34) = .ok (.iaload, 1)) (d33 : decode code (pc + 35) = .ok (.invokevirtual x2, 3)) (d34 : decode code (pc + 38) = .ok (.if_icmp .eq off, 3)) (ht : ((pc + 38 : Nat) : Int) + off = ((1209 : Nat) : Int)) (kk : lw_kk p l e s m b below meth c D E Q i) : W p l e room_1 s m #[Value.ref b] below meth c H locs 321 lw_T Q (F0 m pc ls []) := by
  obtain ⟨c1, c2, -⟩ := id C
  obtain ⟨v, σ1, σ2, S', e1, e2, hC', hM', hI'⟩ := op
  obtain ⟨y, rfl⟩ := jb_Ev_int e1 rt
  refine lv_aload_n c1 c2 d0 rfl (lv_at hl 1 rfl) ?_
  refine lw_arg C X hS hl 1 (by decide) (by decide) d1 d2 d3 d4 d5 ?_
  refine lw_arg C X hS hl 2 (by decide) (by decide) d6 d7 d8 d9 d10 ?_
  refine lw_arg C X hS hl 3 (by decide) (by decide) d11 d12 d13 d14 d15 ?_
  refine lw_c1 C (as := [.int (lw_x xs i 1), .int (lw_x xs i 2), .int (lw_x xs i 3)]) (rest := []) K1 rfl e1 (by decide) hl.1 d16 hJ hS (ja_v_int E y) rfl (fun H1 locs1 hJ1 hS1 => ?_)
  refine lv_aload_n c1 c2 d17 rfl (lv_at hl 2 rfl) ?_
  refine lw_arg C X hS1 hl 1 (by decide) (by decide) d18 d19 d20 d21 d22 ?_
  refine lw_arg C X hS1 hl 2 (by decide) (by decide) d23 d24 d25 d26 d27 ?_
  refine lw_arg C X hS1 hl 3 (by decide) (by decide) d28 d29 d30 d31 d32 ?_
  refine lw_c2 C (as := [.int (lw_x xs i 1), .int (lw_x xs i 2), .int (lw_x xs i 3)]) (rest := [.int y]) K2 rfl e2 (Nat.le_of_ble_eq_true rfl) hl.1 d33 hJ1 hS1 (ja_v_int E y) rfl (fun H2 locs2 hJ2 hS2 => ?_)
  exact lv_icmp_eq (tgt := 1209) c1 c2 d34 ht (fun _ => kk H2 locs2 σ2 S' ls hJ2 hS2 hC' hM' hI' hl) (fun h => absurd rfl h)
theorem lw_caseC (C : lw_Cx p s m c b D E) (X : lw_sc s b L xs i) (hJ : ja_J E D (jm_hp σ) H) (hS : va_S (ja_A E) s.heap H locs) (hl : lw_ls E b i ls) {nc nm x1 x2 : Nat} (op : jOp σ nc nm [.int (jI (lw_ch xs i))]) (K1 : lw_Kc x1 nc 1 10) (K2 : lw_Kc x2 nm 1 11) (rt : jb_ret nc = some .int ∨ jb_ret nc = some .boolean) {off : Int} (d0 : decode code pc = .ok (.aload_n 1, 1)) (d1 : decode code (pc + 1) = .ok (.aload_n 0, 1)) (d2 : decode code (pc + 2) = .ok (.iload_n 3, 1)) (d3 : decode code (pc + 3) = .ok (.iconst 1, 1)) (d4 : decode code (pc + 4) = .ok (.iadd, 1)) (d5 : decode code (pc + 5) = .ok (.iaload, 1)) (d6 : decode code (pc + 6) = .ok (.i2c, 1)) (d7 : decode code (pc + 7) = .ok (.invokevirtual x1, 3)) (d8 : decode code (pc + 10) = .ok (.aload_n 2, 1)) (d9 : decode code (pc + 11) = .ok (.aload_n 0, 1)) (d10 : decode code (pc + 12) = .ok (.iload_n 3, 1)) (d11 : decode code (pc + 13) = .ok (.iconst 1, 1)) (d12 : decode code (pc + 14) = .ok (.iadd, 1)) (d13 : decode code (pc + 15) = .ok (.iaload, 1)) (d14 : decode code (pc + 16) = .ok (.i2c, 1)) (d15 : decode code (pc + 17) = .ok (.invokevirtual x2, 3)) (d16 : decode code (pc + 20) = .ok (.if_icmp .eq off, 3)) (ht : ((pc + 20 : Nat) : Int) + off = ((1209 : Nat) : Int)) (kk : lw_kk p l e s m b below meth c D E Q i) : W p l e room_1 s m #[Value.ref b] below meth c H locs 321 lw_T Q (F0 m pc ls []) := by
  obtain ⟨c1, c2, -⟩ := id C
  obtain ⟨v, σ1, σ2, S', e1, e2, hC', hM', hI'⟩ := op
  obtain ⟨y, rfl⟩ := jb_Ev_int e1 rt
  refine lv_aload_n c1 c2 d0 rfl (lv_at hl 1 rfl) ?_
  refine lw_arg C X hS hl 1 (by decide) (by decide) d1 d2 d3 d4 d5 ?_
  refine lv_i2c c1 c2 d6 (pk_char _) ?_
  refine lw_c1 C (as := [.int (jI (lw_ch xs i))]) (rest := []) K1 rfl e1 (by decide) hl.1 d7 hJ hS (ja_v_int E y) rfl (fun H1 locs1 hJ1 hS1 => ?_)
  refine lv_aload_n c1 c2 d8 rfl (lv_at hl 2 rfl) ?_
  refine lw_arg C X hS1 hl 1 (by decide) (by decide) d9 d10 d11 d12 d13 ?_
  refine lv_i2c c1 c2 d14 (pk_char _) ?_
  refine lw_c2 C (as := [.int (jI (lw_ch xs i))]) (rest := [.int y]) K2 rfl e2 (Nat.le_of_ble_eq_true rfl) hl.1 d15 hJ1 hS1 (ja_v_int E y) rfl (fun H2 locs2 hJ2 hS2 => ?_)
  exact lv_icmp_eq (tgt := 1209) c1 c2 d16 ht (fun _ => kk H2 locs2 σ2 S' ls hJ2 hS2 hC' hM' hI' hl) (fun h => absurd rfl h)
end LC
