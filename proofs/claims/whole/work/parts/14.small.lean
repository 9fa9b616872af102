/-! ===== small steps, as the printed trees want them ===== -/
def jI (n : Nat) : Int32 := Int32.ofNat n
def jb_R (t : FieldType) (x : Int32) (h : jb_H) : Option jb_Res := if narrow t (.int x) = .int x then some (some (.int x), h) else none
section SY
variable {i pc k a b : Nat} {ls st : List Value} {h : jb_H} {σ : jm_S}
theorem sy_ic {n : Int} {x : Int32} (ho : jb_op i pc = some (.iconst n, k, a, b)) (hx : Int32.ofInt n = x) : jb_Ex i (pc, ls, st, h) = jb_Ex i (pc + 1, ls, .int x :: st, h) := sx_const ho (by unfold jb_ex; dsimp only; rw [hx])
theorem sy_bp {n : Int} {x : Int32} (ho : jb_op i pc = some (.bipush n, k, a, b)) (hx : (Int8.ofInt n).toInt32 = x) : jb_Ex i (pc, ls, st, h) = jb_Ex i (pc + 2, ls, .int x :: st, h) := sx_const ho (by unfold jb_ex; dsimp only; rw [hx])
theorem sy_sp {n : Int} {x : Int32} (ho : jb_op i pc = some (.sipush n, k, a, b)) (hx : (Int16.ofInt n).toInt32 = x) : jb_Ex i (pc, ls, st, h) = jb_Ex i (pc + 3, ls, .int x :: st, h) := sx_const ho (by unfold jb_ex; dsimp only; rw [hx])
theorem sy_iadd {x y : Int32} (ho : jb_op i pc = some (.iadd, k, a, b)) : jb_Ex i (pc, ls, .int y :: .int x :: st, h) = jb_Ex i (pc + 1, ls, .int (x + y) :: st, h) := sx_bin ho rfl
theorem sy_isub {x y : Int32} (ho : jb_op i pc = some (.isub, k, a, b)) : jb_Ex i (pc, ls, .int y :: .int x :: st, h) = jb_Ex i (pc + 1, ls, .int (x - y) :: st, h) := sx_bin ho rfl
theorem sy_imul {x y : Int32} (ho : jb_op i pc = some (.imul, k, a, b)) : jb_Ex i (pc, ls, .int y :: .int x :: st, h) = jb_Ex i (pc + 1, ls, .int (x * y) :: st, h) := sx_bin ho rfl
theorem sy_iand {x y : Int32} (ho : jb_op i pc = some (.iand, k, a, b)) : jb_Ex i (pc, ls, .int y :: .int x :: st, h) = jb_Ex i (pc + 1, ls, .int (x &&& y) :: st, h) := sx_bin ho rfl
theorem sy_ishr {x y : Int32} (ho : jb_op i pc = some (.ishr, k, a, b)) : jb_Ex i (pc, ls, .int y :: .int x :: st, h) = jb_Ex i (pc + 1, ls, .int (x >>> (y &&& 31)) :: st, h) := sx_bin ho rfl
theorem sy_irem {x y : Int32} (ho : jb_op i pc = some (.irem, k, a, b)) (hy : y ≠ 0) : jb_Ex i (pc, ls, .int y :: .int x :: st, h) = jb_Ex i (pc + 1, ls, .int (x - x / y * y) :: st, h) := sx_bin ho (by unfold jb_ex; dsimp only; rw [if_neg hy])
theorem sy_ineg {x : Int32} (ho : jb_op i pc = some (.ineg, k, a, b)) : jb_Ex i (pc, ls, .int x :: st, h) = jb_Ex i (pc + 1, ls, .int (-x) :: st, h) := sx_un ho rfl
theorem sy_i2c {x : Int32} (ho : jb_op i pc = some (.i2c, k, a, b)) : jb_Ex i (pc, ls, .int x :: st, h) = jb_Ex i (pc + 1, ls, .int (x.toUInt32 % 65536).toInt32 :: st, h) := sx_un ho rfl
theorem sy_i2d {x : Int32} (ho : jb_op i pc = some (.i2d, k, a, b)) : jb_Ex i (pc, ls, .int x :: st, h) = jb_Ex i (pc + 1, ls, .double (FP.i2d x) :: st, h) := sx_un ho rfl
theorem sy_i2f {x : Int32} (ho : jb_op i pc = some (.i2f, k, a, b)) : jb_Ex i (pc, ls, .int x :: st, h) = jb_Ex i (pc + 1, ls, .float (FP.i2f x) :: st, h) := sx_un ho rfl
theorem sy_fc {n : Fin 3} (ho : jb_op i pc = some (.fconst n, k, a, b)) (hn : (n : Nat) = 0) : jb_Ex i (pc, ls, st, h) = jb_Ex i (pc + 1, ls, .float FP.fconst0 :: st, h) := sx_of ho (by unfold jb_ex; dsimp only; rw [if_pos hn]; rfl)
theorem sy_l2 {y c : Nat} (ho : jb_op i pc = some (.ldc2_w y, 12, c, b)) : jb_Ex i (pc, ls, st, h) = jb_Ex i (pc + 3, ls, .double (UInt64.ofNat c) :: st, h) := sx_of ho (by unfold jb_ex; dsimp only; rw [if_pos rfl]; rfl)
theorem sy_ddiv {x y : UInt64} (ho : jb_op i pc = some (.ddiv, k, a, b)) : jb_Ex i (pc, ls, .double y :: .double x :: st, h) = if FP.ddiv x y &&& 0x7fffffffffffffff ≤ 0x7ff0000000000000 then jb_Ex i (pc + 1, ls, .double (FP.ddiv x y) :: st, h) else none := by
  by_cases hc : FP.ddiv x y &&& 0x7fffffffffffffff ≤ 0x7ff0000000000000
  · rw [if_pos hc]
    exact sx_of ho (by unfold jb_ex; dsimp only; rw [if_pos hc]; rfl)
  · rw [if_neg hc]
    exact sx_no ho (by unfold jb_ex; dsimp only; rw [if_neg hc])
theorem sy_fdiv {x y : UInt32} (ho : jb_op i pc = some (.fdiv, k, a, b)) : jb_Ex i (pc, ls, .float y :: .float x :: st, h) = if FP.fdiv x y &&& 0x7fffffff ≤ 0x7f800000 then jb_Ex i (pc + 1, ls, .float (FP.fdiv x y) :: st, h) else none := by
  by_cases hc : FP.fdiv x y &&& 0x7fffffff ≤ 0x7f800000
  · rw [if_pos hc]
    exact sx_of ho (by unfold jb_ex; dsimp only; rw [if_pos hc]; rfl)
  · rw [if_neg hc]
    exact sx_no ho (by unfold jb_ex; dsimp only; rw [if_neg hc])
theorem sy_nu {o : Int} (ho : jb_op i pc = some (.ifnonnull o, k, a, b)) {t : Nat} (ht : jb_tg pc o = some t) : jb_Ex i (pc, ls, .null :: st, h) = jb_Ex i (pc + 3, ls, st, h) := sx_of ho (by unfold jb_ex; dsimp only; rw [ht]; rfl)
theorem sy_ic_eq {o : Int} {t : Nat} {x y : Int32} (ho : jb_op i pc = some (.if_icmp .eq o, k, a, b)) (ht : jb_tg pc o = some t) : jb_Ex i (pc, ls, .int y :: .int x :: st, h) = if x = y then jb_Ex i (t, ls, st, h) else jb_Ex i (pc + 3, ls, st, h) := sx_br ho (by unfold jb_ex; dsimp only; rw [ht])
theorem sy_ic_ne {o : Int} {t : Nat} {x y : Int32} (ho : jb_op i pc = some (.if_icmp .ne o, k, a, b)) (ht : jb_tg pc o = some t) : jb_Ex i (pc, ls, .int y :: .int x :: st, h) = if x = y then jb_Ex i (pc + 3, ls, st, h) else jb_Ex i (t, ls, st, h) := sx_br ho (by unfold jb_ex; dsimp only; rw [ht])
theorem sy_ic_lt {o : Int} {t : Nat} {x y : Int32} (ho : jb_op i pc = some (.if_icmp .lt o, k, a, b)) (ht : jb_tg pc o = some t) : jb_Ex i (pc, ls, .int y :: .int x :: st, h) = if x < y then jb_Ex i (t, ls, st, h) else jb_Ex i (pc + 3, ls, st, h) := sx_br ho (by unfold jb_ex; dsimp only; rw [ht])
theorem sy_ic_ge {o : Int} {t : Nat} {x y : Int32} (ho : jb_op i pc = some (.if_icmp .ge o, k, a, b)) (ht : jb_tg pc o = some t) : jb_Ex i (pc, ls, .int y :: .int x :: st, h) = if y ≤ x then jb_Ex i (t, ls, st, h) else jb_Ex i (pc + 3, ls, st, h) := sx_br ho (by unfold jb_ex; dsimp only; rw [ht])
theorem sy_ic_gt {o : Int} {t : Nat} {x y : Int32} (ho : jb_op i pc = some (.if_icmp .gt o, k, a, b)) (ht : jb_tg pc o = some t) : jb_Ex i (pc, ls, .int y :: .int x :: st, h) = if y < x then jb_Ex i (t, ls, st, h) else jb_Ex i (pc + 3, ls, st, h) := sx_br ho (by unfold jb_ex; dsimp only; rw [ht])
theorem sy_ic_le {o : Int} {t : Nat} {x y : Int32} (ho : jb_op i pc = some (.if_icmp .le o, k, a, b)) (ht : jb_tg pc o = some t) : jb_Ex i (pc, ls, .int y :: .int x :: st, h) = if x ≤ y then jb_Ex i (t, ls, st, h) else jb_Ex i (pc + 3, ls, st, h) := sx_br ho (by unfold jb_ex; dsimp only; rw [ht])
theorem sy_if_eq {o : Int} {t : Nat} {x : Int32} (ho : jb_op i pc = some (.ifCond .eq o, k, a, b)) (ht : jb_tg pc o = some t) : jb_Ex i (pc, ls, .int x :: st, h) = if x = 0 then jb_Ex i (t, ls, st, h) else jb_Ex i (pc + 3, ls, st, h) := sx_br ho (by unfold jb_ex; dsimp only; rw [ht])
theorem sy_if_ne {o : Int} {t : Nat} {x : Int32} (ho : jb_op i pc = some (.ifCond .ne o, k, a, b)) (ht : jb_tg pc o = some t) : jb_Ex i (pc, ls, .int x :: st, h) = if x = 0 then jb_Ex i (pc + 3, ls, st, h) else jb_Ex i (t, ls, st, h) := sx_br ho (by unfold jb_ex; dsimp only; rw [ht])
theorem sy_if_lt {o : Int} {t : Nat} {x : Int32} (ho : jb_op i pc = some (.ifCond .lt o, k, a, b)) (ht : jb_tg pc o = some t) : jb_Ex i (pc, ls, .int x :: st, h) = if x < 0 then jb_Ex i (t, ls, st, h) else jb_Ex i (pc + 3, ls, st, h) := sx_br ho (by unfold jb_ex; dsimp only; rw [ht])
theorem sy_if_ge {o : Int} {t : Nat} {x : Int32} (ho : jb_op i pc = some (.ifCond .ge o, k, a, b)) (ht : jb_tg pc o = some t) : jb_Ex i (pc, ls, .int x :: st, h) = if 0 ≤ x then jb_Ex i (t, ls, st, h) else jb_Ex i (pc + 3, ls, st, h) := sx_br ho (by unfold jb_ex; dsimp only; rw [ht])
theorem sy_if_gt {o : Int} {t : Nat} {x : Int32} (ho : jb_op i pc = some (.ifCond .gt o, k, a, b)) (ht : jb_tg pc o = some t) : jb_Ex i (pc, ls, .int x :: st, h) = if 0 < x then jb_Ex i (t, ls, st, h) else jb_Ex i (pc + 3, ls, st, h) := sx_br ho (by unfold jb_ex; dsimp only; rw [ht])
theorem sy_if_le {o : Int} {t : Nat} {x : Int32} (ho : jb_op i pc = some (.ifCond .le o, k, a, b)) (ht : jb_tg pc o = some t) : jb_Ex i (pc, ls, .int x :: st, h) = if x ≤ 0 then jb_Ex i (t, ls, st, h) else jb_Ex i (pc + 3, ls, st, h) := sx_br ho (by unfold jb_ex; dsimp only; rw [ht])
theorem sy_pi {y r c f : Nat} {x : Int32} (ho : jb_op i pc = some (.putfield y, k, c, f)) (hk : k = 0 ∨ k = 1) (hc : jm_c r = c) (hc2 : c < 99) (hf : jm_f r f = some none) (ht : jb_Ty c f = .int ∧ (jb_T c f).2.2.2 = false) : jb_Ex i (pc, ls, .int x :: .ref r :: st, jm_hp σ) = jb_Ex i (pc + 3, ls, st, jm_hp (jm_up σ r f x)) := sx_pi ho hk hc hc2 hf (by rw [ht.1]; rfl) (by rw [ht.1]; rfl) ht.2
theorem sy_pz {y r c f : Nat} {x : Int32} (ho : jb_op i pc = some (.putfield y, k, c, f)) (hk : k = 0 ∨ k = 1) (hc : jm_c r = c) (hc2 : c < 99) (hf : jm_f r f = some none) (ht : jb_Ty c f = .boolean ∧ (jb_T c f).2.2.2 = false) (hn : narrow .boolean (.int x) = .int x ∧ fits .boolean (.int x) = true) : jb_Ex i (pc, ls, .int x :: .ref r :: st, jm_hp σ) = jb_Ex i (pc + 3, ls, st, jm_hp (jm_up σ r f x)) := sx_pi ho hk hc hc2 hf (by rw [ht.1]; exact hn.1) (by rw [ht.1]; exact hn.2) ht.2
theorem sy_al {r n : Nat} {j : Int32} (ho : jb_op i pc = some (.iaload, k, a, b)) (hc : jm_c r = 12) (hn : jm_ln r = n) : jb_Ex i (pc, ls, .int j :: .ref r :: st, jm_hp σ) = if jx j n then jb_Ex i (pc + 1, ls, .int (σ r j.toNatClampNeg) :: st, jm_hp σ) else none := by
  subst hn
  exact sx_al ho hc
theorem sy_as {r n : Nat} {j x : Int32} (ho : jb_op i pc = some (.iastore, k, a, b)) (hc : jm_c r = 12) (hn : jm_ln r = n) : jb_Ex i (pc, ls, .int x :: .int j :: .ref r :: st, jm_hp σ) = if jx j n then jb_Ex i (pc + 1, ls, st, jm_hp (jm_up σ r j.toNatClampNeg x)) else none := by
  subst hn
  exact sx_as ho hc
theorem sy_len {r n : Nat} (ho : jb_op i pc = some (.arraylength, k, a, b)) (hc : jm_c r = 12 ∨ jm_c r = 13) (hn : jm_ln r = n) : jb_Ex i (pc, ls, .ref r :: st, jm_hp σ) = jb_Ex i (pc + 1, ls, .int (jI n) :: st, jm_hp σ) := by
  subst hn
  exact sx_len ho hc
theorem sy_ir {x : Int32} {t : FieldType} (ho : jb_op i pc = some (.ireturn, k, a, b)) (hr : jb_ret i = some t) (ht : t = .int ∨ t = .boolean ∨ t = .char ∨ t = .byte) : jb_Ex i (pc, ls, [.int x], h) = jb_R t x h := by
  unfold jb_R
  by_cases hn : narrow t (.int x) = .int x
  · rw [if_pos hn]
    exact sx_ir ho hr ht hn
  · rw [if_neg hn]
    exact sx_no ho (by unfold jb_ex; dsimp only; rw [hr]; dsimp only; rw [if_neg (fun z => hn z.2)])
theorem sy_iv {ins : Instr} {r o : Nat} {as rest st : List Value} (ho : jb_op i pc = some (ins, k, a, b)) (hi : (∃ y, ins = .invokevirtual y ∧ (k = 2 ∨ k = 3)) ∨ (∃ y, ins = .invokespecial y ∧ (k = 6 ∨ k = 7))) (ht : jb_ht a < jb_ht i) (hst : as.reverse ++ .ref r :: rest = st) (hb : as.length = b) (how : jb_ow a = o) (hr : jb_recv h r o = true) (hs : jb_sum rest ≤ 8) : jb_Ex i (pc, ls, st, h) = jb_K (jb_Ev a (.ref r :: as) h) (fun v h' => jb_Ex i (pc + 3, ls, v.toList ++ rest, h')) := sx_iv ho hi ht hst hb (by rw [how]; exact hr) hs
end SY
