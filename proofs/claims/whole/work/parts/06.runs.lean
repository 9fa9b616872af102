/-! ===== a small machine of our own: the methods run over a list of objects; what it comes to, the machine comes to (part 07) ===== -/
/-- objects: kind (0 to 11 a class, 12 an int array, 13 an array of villages) and contents; a reference is a place in this list, or from 1000000 on a text, from 1000100 on its bytes, 1000200 the formatter -/
abbrev jb_H : Type := List (Nat × List Value)
abbrev jb_Res : Type := Option Value × jb_H
abbrev jb_Cfg : Type := Nat × List Value × List Value × jb_H
def jb_SB : List (List Int32) := [[104, 97, 110, 103, 32, 66, 32, 68], [115, 112, 108, 105, 99, 101, 32, 66], [119, 111, 114, 100, 32, 75, 32, 83], [115, 116, 114, 105, 107, 101, 32, 68], [115, 119, 105, 109, 32, 68, 32, 68], [100, 105, 118, 101, 32, 68, 32, 68], [103, 111, 32, 68], [114, 105, 110, 103, 32, 83], [], [104, 97, 110, 103, 32, 115, 112, 108, 105, 99, 101, 32, 119, 111, 114, 100, 32, 115, 116, 114, 105, 107, 101, 32, 115, 119, 105, 109, 32, 100, 105, 118, 101, 32, 103, 111, 32, 114, 105, 110, 103, 32]]
def jb_ln : Instr → Nat
  | .iconst _ => 1 | .bipush _ => 2 | .sipush _ => 3 | .iload _ => 2 | .iload_n _ => 1 | .aload_n _ => 1 | .istore _ => 2 | .istore_n _ => 1 | .astore_n _ => 1
  | .iinc _ _ => 3 | .iadd => 1 | .isub => 1 | .imul => 1 | .irem => 1 | .ineg => 1 | .iand => 1 | .ishr => 1 | .i2b => 1 | .i2c => 1 | .dup => 1 | .dup2 => 1 | .pop => 1
  | .goto _ => 3 | .if_icmp _ _ => 3 | .ifCond _ _ => 3 | .ifnonnull _ => 3 | .aconst_null => 1 | .getfield _ => 3 | .putfield _ => 3 | .iaload => 1 | .iastore => 1 | .baload => 1
  | .aaload => 1 | .aastore => 1 | .arraylength => 1 | .new _ => 3 | .newarray _ => 2 | .anewarray _ => 3 | .invokevirtual _ => 3 | .invokestatic _ => 3 | .invokespecial _ => 3
  | .ldc _ => 2 | .ldc_w _ => 3 | .ldc2_w _ => 3 | .getstatic _ => 3 | .i2d => 1 | .i2f => 1 | .ddiv => 1 | .fdiv => 1 | .fconst _ => 1
  | .ireturn => 1 | .dreturn => 1 | .freturn => 1 | .areturn => 1 | .return_ => 1
  | _ => 0
/-- the instruction at a place: itself, its link's kind and two numbers -/
def jb_op (i pc : Nat) : Option (Instr × Nat × Nat × Nat) :=
  match (jb_I.getD i []).lookup pc with
  | none => none
  | some q => if jb_ln q.1 = q.2.1 ∨ jb_ln q.1 = 0 then
      if q.2.2 = 0 then some (q.1, 99, 0, 0) else match jb_L[q.2.2 - 1]? with
        | some l => some (q.1, l.2.2.1, l.2.2.2.1, l.2.2.2.2.1)
        | none => none
    else none
def jb_tg (pc : Nat) (off : Int) : Option Nat := if 0 ≤ (pc : Int) + off then some ((pc : Int) + off).toNat else none
abbrev jb_St : Type := Option (jb_Res ⊕ jb_Cfg)
def jb_go (pc : Nat) (ls st : List Value) (h : jb_H) : jb_St := some (.inr (pc, ls, st, h))
def jb_def (c : Nat) : List Value := (jb_Tys.getD c []).map defaultValue
def jb_sum (st : List Value) : Nat := (st.map fun v => v.category).sum
/-- the receiver is of the method's class -/
def jb_recv (h : jb_H) (r : Nat) (o : Nat) : Bool := if o = 13 then decide (1000000 ≤ r ∧ r < 1000010) else decide (o < 12) && ((h[r]?).map (·.1) == some o) && decide (r < 1000000)
def jb_invV (F : Nat → List Value → jb_H → Option jb_Res) (pc : Nat) (a b : Nat) (ls st : List Value) (h : jb_H) : jb_St :=
  if b ≤ st.length then match st.drop b with
    | .ref r :: rest => if jb_recv h r (jb_ow a) = true ∧ jb_sum rest ≤ 8 then match F a (.ref r :: (st.take b).reverse) h with
        | some (v, h') => jb_go (pc + 3) ls (v.toList ++ rest) h'
        | none => none
      else none
    | _ => none
  else none
def jb_invS (F : Nat → List Value → jb_H → Option jb_Res) (pc : Nat) (a b : Nat) (ls st : List Value) (h : jb_H) : jb_St :=
  if b ≤ st.length ∧ jb_sum (st.drop b) ≤ 8 then match F a (st.take b).reverse h with
    | some (v, h') => jb_go (pc + 3) ls (v.toList ++ st.drop b) h'
    | none => none
  else none
def jb_ex (F : Nat → List Value → jb_H → Option jb_Res) (i : Nat) (ins : Instr) (k a b pc : Nat) (ls st : List Value) (h : jb_H) : jb_St :=
  match ins with
  | .iconst n => jb_go (pc + 1) ls (.int (Int32.ofInt n) :: st) h
  | .bipush n => jb_go (pc + 2) ls (.int (Int8.ofInt n).toInt32 :: st) h
  | .sipush n => jb_go (pc + 3) ls (.int (Int16.ofInt n).toInt32 :: st) h
  | .iload n => match ls[n]? with
    | some (.int x) => jb_go (pc + 2) ls (.int x :: st) h
    | _ => none
  | .iload_n n => match ls[(n : Nat)]? with
    | some (.int x) => jb_go (pc + 1) ls (.int x :: st) h
    | _ => none
  | .aload_n n => match ls[(n : Nat)]? with
    | some (.ref x) => jb_go (pc + 1) ls (.ref x :: st) h
    | some .null => jb_go (pc + 1) ls (.null :: st) h
    | _ => none
  | .istore n => match st with
    | .int x :: r => if n < ls.length then jb_go (pc + 2) (ls.set n (.int x)) r h else none
    | _ => none
  | .istore_n n => match st with
    | .int x :: r => if (n : Nat) < ls.length then jb_go (pc + 1) (ls.set (n : Nat) (.int x)) r h else none
    | _ => none
  | .astore_n n => match st with
    | .ref x :: r => if (n : Nat) < ls.length then jb_go (pc + 1) (ls.set (n : Nat) (.ref x)) r h else none
    | .null :: r => if (n : Nat) < ls.length then jb_go (pc + 1) (ls.set (n : Nat) .null) r h else none
    | _ => none
  | .iinc n d => match ls[n]? with
    | some (.int x) => jb_go (pc + 3) (ls.set n (.int (x + Int32.ofInt d))) st h
    | _ => none
  | .iadd => match st with
    | .int y :: .int x :: r => jb_go (pc + 1) ls (.int (x + y) :: r) h
    | _ => none
  | .isub => match st with
    | .int y :: .int x :: r => jb_go (pc + 1) ls (.int (x - y) :: r) h
    | _ => none
  | .imul => match st with
    | .int y :: .int x :: r => jb_go (pc + 1) ls (.int (x * y) :: r) h
    | _ => none
  | .irem => match st with
    | .int y :: .int x :: r => if y = 0 then none else jb_go (pc + 1) ls (.int (x - x / y * y) :: r) h
    | _ => none
  | .ineg => match st with
    | .int x :: r => jb_go (pc + 1) ls (.int (-x) :: r) h
    | _ => none
  | .iand => match st with
    | .int y :: .int x :: r => jb_go (pc + 1) ls (.int (x &&& y) :: r) h
    | _ => none
  | .ishr => match st with
    | .int y :: .int x :: r => jb_go (pc + 1) ls (.int (x >>> (y &&& 31)) :: r) h
    | _ => none
  | .i2b => match st with
    | .int x :: r => jb_go (pc + 1) ls (.int x.toInt8.toInt32 :: r) h
    | _ => none
  | .i2c => match st with
    | .int x :: r => jb_go (pc + 1) ls (.int (x.toUInt32 % 65536).toInt32 :: r) h
    | _ => none
  | .dup => match st with
    | v :: r => if v.category = 1 then jb_go (pc + 1) ls (v :: v :: r) h else none
    | _ => none
  | .dup2 => match st with
    | v :: w :: r => if v.category = 1 ∧ w.category = 1 then jb_go (pc + 1) ls (v :: w :: v :: w :: r) h else none
    | _ => none
  | .pop => match st with
    | v :: r => if v.category = 1 then jb_go (pc + 1) ls r h else none
    | _ => none
  | .goto o => match jb_tg pc o with
    | some t => jb_go t ls st h
    | none => none
  | .if_icmp c o => match jb_tg pc o with
    | some t => match st with
      | .int y :: .int x :: r => match c with
        | .eq => jb_go (if x = y then t else pc + 3) ls r h
        | .ne => jb_go (if x = y then pc + 3 else t) ls r h
        | .lt => jb_go (if x < y then t else pc + 3) ls r h
        | .ge => jb_go (if y ≤ x then t else pc + 3) ls r h
        | .gt => jb_go (if y < x then t else pc + 3) ls r h
        | .le => jb_go (if x ≤ y then t else pc + 3) ls r h
      | _ => none
    | none => none
  | .ifCond c o => match jb_tg pc o with
    | some t => match st with
      | .int x :: r => match c with
        | .eq => jb_go (if x = 0 then t else pc + 3) ls r h
        | .ne => jb_go (if x = 0 then pc + 3 else t) ls r h
        | .lt => jb_go (if x < 0 then t else pc + 3) ls r h
        | .ge => jb_go (if 0 ≤ x then t else pc + 3) ls r h
        | .gt => jb_go (if 0 < x then t else pc + 3) ls r h
        | .le => jb_go (if x ≤ 0 then t else pc + 3) ls r h
      | _ => none
    | none => none
  | .ifnonnull o => match jb_tg pc o with
    | some t => match st with
      | .ref x :: r => if x < 1000000 then jb_go t ls r h else none
      | .null :: r => jb_go (pc + 3) ls r h
      | _ => none
    | none => none
  | .aconst_null => jb_go (pc + 1) ls (.null :: st) h
  | .tableswitch d lo hi offs => match st with
    | .int x :: r => if x.toInt < lo ∨ hi < x.toInt then (match jb_tg pc d with
        | some t => jb_go t ls r h
        | none => none)
      else match offs[(x.toInt - lo).toNat]? with
        | some o => (match jb_tg pc o with
          | some t => jb_go t ls r h
          | none => none)
        | none => none
    | _ => none
  | .lookupswitch d ps => match st with
    | .int x :: r => if (ps.toList.zip (ps.toList.drop 1)).all (fun q => q.1.1 < q.2.1) = true then (match jb_tg pc (Op.lookupswitch.offset ps.toList d x.toInt) with
        | some t => jb_go t ls r h
        | none => none)
      else none
    | _ => none
  | .getfield _ => match st with
    | .ref r :: st' => if k = 0 ∨ k = 1 then (if r < 1000000 then (match h[r]? with
          | some (c, fs) => if c = a then (match fs[b]? with
              | some v => jb_go (pc + 3) ls (v :: st') h
              | none => none) else none
          | none => none) else none)
        else if k = 14 then (if 1000000 ≤ r ∧ r < 1000010 then jb_go (pc + 3) ls ((if a = 0 then .ref (r + 100) else .int 0) :: st') h else none)
        else none
    | _ => none
  | .putfield _ => match st with
    | v :: .ref r :: st' => if (k = 0 ∨ k = 1) ∧ r < 1000000 then (match h[r]? with
          | some (c, fs) => if c = a ∧ b < fs.length ∧ narrow (jb_Ty a b) v = v ∧ fits (jb_Ty a b) v = true ∧ ((jb_T a b).2.2.2 = false ∨ ((jb_y i).name = "<init>" ∧ a = jb_ow i ∧ k = 0)) then jb_go (pc + 3) ls st' (h.set r (c, fs.set b v)) else none
          | none => none)
        else none
    | _ => none
  | .iaload => match st with
    | .int j :: .ref r :: st' => if r < 1000000 then (match h[r]? with
        | some (c, fs) => if c = 12 ∧ ¬ (j < 0 ∨ fs.length ≤ j.toNatClampNeg) then (match fs[j.toNatClampNeg]? with
            | some (.int x) => jb_go (pc + 1) ls (.int x :: st') h
            | _ => none) else none
        | none => none) else none
    | _ => none
  | .iastore => match st with
    | .int x :: .int j :: .ref r :: st' => if r < 1000000 then (match h[r]? with
        | some (c, fs) => if c = 12 ∧ ¬ (j < 0 ∨ fs.length ≤ j.toNatClampNeg) then jb_go (pc + 1) ls st' (h.set r (c, fs.set j.toNatClampNeg (.int x))) else none
        | none => none) else none
    | _ => none
  | .baload => match st with
    | .int j :: .ref r :: st' => if 1000100 ≤ r ∧ r < 1000110 ∧ ¬ (j < 0 ∨ (jb_SB.getD (r - 1000100) []).length ≤ j.toNatClampNeg) then jb_go (pc + 1) ls (.int ((jb_SB.getD (r - 1000100) []).getD j.toNatClampNeg 0) :: st') h else none
    | _ => none
  | .aaload => match st with
    | .int j :: .ref r :: st' => if r < 1000000 then (match h[r]? with
        | some (c, fs) => if c = 13 ∧ ¬ (j < 0 ∨ fs.length ≤ j.toNatClampNeg) then (match fs[j.toNatClampNeg]? with
            | some (.ref x) => if x < 1000000 then jb_go (pc + 1) ls (.ref x :: st') h else none
            | some .null => jb_go (pc + 1) ls (.null :: st') h
            | _ => none) else none
        | none => none) else none
    | _ => none
  | .aastore => match st with
    | .ref v :: .int j :: .ref r :: st' => if r < 1000000 ∧ v < 1000000 ∧ (h[v]?).map (·.1) = some 9 then (match h[r]? with
        | some (c, fs) => if c = 13 ∧ ¬ (j < 0 ∨ fs.length ≤ j.toNatClampNeg) then jb_go (pc + 1) ls st' (h.set r (c, fs.set j.toNatClampNeg (.ref v))) else none
        | none => none) else none
    | _ => none
  | .arraylength => match st with
    | .ref r :: st' => if r < 1000000 then (match h[r]? with
        | some (c, fs) => if c = 12 ∨ c = 13 then jb_go (pc + 1) ls (.int (Int32.ofNat fs.length) :: st') h else none
        | none => none)
      else if 1000100 ≤ r ∧ r < 1000110 then jb_go (pc + 1) ls (.int (Int32.ofNat (jb_SB.getD (r - 1000100) []).length) :: st') h else none
    | _ => none
  | .new _ => if k = 9 ∧ h.length < 999999 then jb_go (pc + 3) ls (.ref h.length :: st) (h ++ [(a, jb_def a)]) else none
  | .newarray t => match st with
    | .int n :: st' => if t = .int ∧ ¬ n < 0 ∧ n.toNatClampNeg ≤ 100000 ∧ h.length < 999999 then jb_go (pc + 2) ls (.ref h.length :: st') (h ++ [(12, List.replicate n.toNatClampNeg (.int 0))]) else none
    | _ => none
  | .anewarray _ => match st with
    | .int n :: st' => if k = 10 ∧ ¬ n < 0 ∧ n.toNatClampNeg ≤ 100000 ∧ h.length < 999999 then jb_go (pc + 3) ls (.ref h.length :: st') (h ++ [(13, List.replicate n.toNatClampNeg .null)]) else none
    | _ => none
  | .invokevirtual _ => if k = 2 ∨ k = 3 then jb_invV F pc a b ls st h else none
  | .invokestatic _ => if k = 4 ∨ k = 5 then jb_invS F pc a b ls st h else if k = 15 then (match st with
      | .int y :: r => if a = 2 then (if jb_sum r ≤ 8 then jb_go (pc + 3) ls (.int (if 0 ≤ y then y else 0 - y) :: r) h else none) else (match r with
        | .int x :: r' => if jb_sum r' ≤ 8 then jb_go (pc + 3) ls (.int (if a = 0 then (if x < y then y else x) else (if y < x then y else x)) :: r') h else none
        | _ => none)
      | _ => none) else none
  | .invokespecial _ => if k = 6 ∨ k = 7 then jb_invV F pc a b ls st h else if k = 8 then (match st with
      | .ref r :: st' => if jb_sum st' ≤ 8 ∧ r < 1000000 then jb_go (pc + 3) ls st' h else none
      | _ => none) else none
  | .ldc _ => if k = 11 then jb_go (pc + 2) ls (.ref (1000000 + a) :: st) h else none
  | .ldc_w _ => if k = 11 then jb_go (pc + 3) ls (.ref (1000000 + a) :: st) h else none
  | .ldc2_w _ => if k = 12 then jb_go (pc + 3) ls (.double (UInt64.ofNat a) :: st) h else none
  | .getstatic _ => if k = 13 then jb_go (pc + 3) ls ((if a = 0 then .int 1 else .ref 1000200) :: st) h else none
  | .i2d => match st with
    | .int x :: r => jb_go (pc + 1) ls (.double (FP.i2d x) :: r) h
    | _ => none
  | .i2f => match st with
    | .int x :: r => jb_go (pc + 1) ls (.float (FP.i2f x) :: r) h
    | _ => none
  | .ddiv => match st with
    | .double y :: .double x :: r => if FP.ddiv x y &&& 0x7fffffffffffffff ≤ 0x7ff0000000000000 then jb_go (pc + 1) ls (.double (FP.ddiv x y) :: r) h else none
    | _ => none
  | .fdiv => match st with
    | .float y :: .float x :: r => if FP.fdiv x y &&& 0x7fffffff ≤ 0x7f800000 then jb_go (pc + 1) ls (.float (FP.fdiv x y) :: r) h else none
    | _ => none
  | .fconst n => if (n : Nat) = 0 then jb_go (pc + 1) ls (.float FP.fconst0 :: st) h else none
  | .ireturn => match st with
    | [.int x] => match jb_ret i with
      | some t => if (t = .int ∨ t = .boolean ∨ t = .char ∨ t = .byte) ∧ narrow t (.int x) = .int x then some (.inl (some (.int x), h)) else none
      | none => none
    | _ => none
  | .dreturn => match st with
    | [.double x] => if jb_ret i = some .double then some (.inl (some (.double x), h)) else none
    | _ => none
  | .freturn => match st with
    | [.float x] => if jb_ret i = some .float then some (.inl (some (.float x), h)) else none
    | _ => none
  | .areturn => match st with
    | [.ref x] => match jb_ret i with
      | some (.object _) => some (.inl (some (.ref x), h))
      | _ => none
    | [.null] => match jb_ret i with
      | some (.object _) => some (.inl (some .null, h))
      | _ => none
    | _ => none
  | .return_ => match st with
    | [] => if jb_ret i = none then some (.inl (none, h)) else none
    | _ => none
  | _ => none
def jb_stp (F : Nat → List Value → jb_H → Option jb_Res) (i : Nat) (c : jb_Cfg) : jb_St := match jb_op i c.1 with
  | none => none
  | some q => jb_ex F i q.1 q.2.1 q.2.2.1 q.2.2.2 c.1 c.2.1 c.2.2.1 c.2.2.2
def jb_run (F : Nat → List Value → jb_H → Option jb_Res) (i : Nat) : Nat → jb_Cfg → Option jb_Res
  | 0, _ => none
  | n + 1, c => match jb_stp F i c with
    | none => none
    | some (.inl r) => some r
    | some (.inr c') => jb_run F i n c'
theorem jb_run_succ {F : Nat → List Value → jb_H → Option jb_Res} {i : Nat} {r : jb_Res} : ∀ {n : Nat} {c : jb_Cfg}, jb_run F i n c = some r → jb_run F i (n + 1) c = some r
  | 0, _, h => by cases h
  | n + 1, c, h => by
    rw [jb_run] at h ⊢
    cases hs : jb_stp F i c with
    | none => rw [hs] at h; cases h
    | some q =>
      rw [hs] at h
      cases q with
      | inl r' => exact h
      | inr c' => exact jb_run_succ (n := n) h
theorem jb_run_mono {F : Nat → List Value → jb_H → Option jb_Res} {i : Nat} {r : jb_Res} {n : Nat} {c : jb_Cfg} (h : jb_run F i n c = some r) : ∀ k, jb_run F i (n + k) c = some r
  | 0 => h
  | k + 1 => jb_run_succ (jb_run_mono h k)
theorem jb_run_det {F : Nat → List Value → jb_H → Option jb_Res} {i : Nat} {r r' : jb_Res} {n n' : Nat} {c : jb_Cfg} (h : jb_run F i n c = some r) (h' : jb_run F i n' c = some r') : r = r' := by
  have h1 := jb_run_mono h n'
  have h2 := jb_run_mono h' n
  rw [Nat.add_comm] at h2
  exact Option.some.inj (h1.symm.trans h2)
/-- what a run comes to, if it ends -/
noncomputable def jb_to (F : Nat → List Value → jb_H → Option jb_Res) (i : Nat) (c : jb_Cfg) : Option jb_Res :=
  @dite _ (∃ n r, jb_run F i n c = some r) (Classical.propDecidable _) (fun h => some (Classical.choose (Classical.choose_spec h))) (fun _ => none)
theorem jb_to_iff {F : Nat → List Value → jb_H → Option jb_Res} {i : Nat} {c : jb_Cfg} {r : jb_Res} : jb_to F i c = some r ↔ ∃ n, jb_run F i n c = some r := by
  unfold jb_to
  by_cases h : ∃ n r, jb_run F i n c = some r
  · rw [dif_pos h]
    have h1 := Classical.choose_spec (Classical.choose_spec h)
    constructor
    · intro e
      exact ⟨_, by rw [h1]; exact e⟩
    · rintro ⟨n, e⟩
      rw [jb_run_det h1 e]
  · rw [dif_neg h]
    constructor
    · intro e; cases e
    · rintro ⟨n, e⟩; exact absurd ⟨n, r, e⟩ h
theorem jb_to_ext {F : Nat → List Value → jb_H → Option jb_Res} {i : Nat} {c c' : jb_Cfg} (h : ∀ r, (∃ n, jb_run F i n c = some r) ↔ ∃ n, jb_run F i n c' = some r) : jb_to F i c = jb_to F i c' := by
  apply Option.ext
  intro r
  rw [jb_to_iff, jb_to_iff]
  exact h r
theorem jb_to_next {F : Nat → List Value → jb_H → Option jb_Res} {i : Nat} {c c' : jb_Cfg} (h : jb_stp F i c = some (.inr c')) : jb_to F i c = jb_to F i c' := by
  apply jb_to_ext
  intro r
  constructor
  · rintro ⟨n, e⟩
    cases n with
    | zero => cases e
    | succ n =>
      rw [jb_run, h] at e
      exact ⟨n, e⟩
  · rintro ⟨n, e⟩
    exact ⟨n + 1, by rw [jb_run, h]; exact e⟩
theorem jb_to_ret {F : Nat → List Value → jb_H → Option jb_Res} {i : Nat} {c : jb_Cfg} {r : jb_Res} (h : jb_stp F i c = some (.inl r)) : jb_to F i c = some r :=
  jb_to_iff.mpr ⟨1, by rw [jb_run, h]⟩
theorem jb_to_none {F : Nat → List Value → jb_H → Option jb_Res} {i : Nat} {c : jb_Cfg} (h : jb_stp F i c = none) : jb_to F i c = none := by
  cases e : jb_to F i c with
  | none => rfl
  | some r =>
    obtain ⟨n, e⟩ := jb_to_iff.mp e
    cases n with
    | zero => cases e
    | succ n => rw [jb_run, h] at e; cases e
def jb_entry (i : Nat) (args : List Value) : List Value := args ++ List.replicate (jb_ml i - args.length) (.retAddr 0)
/-- the methods of less height than d -/
noncomputable def jb_G : Nat → Nat → List Value → jb_H → Option jb_Res
  | 0 => fun _ _ _ => none
  | d + 1 => fun i args h => if jb_ht i = d then (if args.length ≤ jb_ml i ∧ args.all (fun v => v.category == 1) = true then jb_to (jb_G d) i (0, jb_entry i args, [], h) else none) else jb_G d i args h
/-- a method's run -/
noncomputable def jb_Ev (i : Nat) (args : List Value) (h : jb_H) : Option jb_Res := jb_G (jb_ht i + 1) i args h
noncomputable def jb_Ex (i : Nat) (c : jb_Cfg) : Option jb_Res := jb_to (jb_G (jb_ht i)) i c
theorem jb_G_succ (d i : Nat) (args : List Value) (h : jb_H) : jb_G (d + 1) i args h = if jb_ht i = d then (if args.length ≤ jb_ml i ∧ args.all (fun v => v.category == 1) = true then jb_to (jb_G d) i (0, jb_entry i args, [], h) else none) else jb_G d i args h := rfl
theorem jb_G_low {i : Nat} : ∀ {d : Nat}, jb_ht i < d → jb_G d i = jb_Ev i
  | 0, h => absurd h (Nat.not_lt_zero _)
  | d + 1, h => by
    by_cases e : jb_ht i = d
    · funext args hh
      rw [jb_Ev, e]
    · funext args hh
      rw [jb_G_succ, if_neg e, jb_G_low (d := d) (by omega)]
theorem jb_Ev_eq {i : Nat} {args : List Value} {h : jb_H} (ha : args.length ≤ jb_ml i ∧ args.all (fun v => v.category == 1) = true) : jb_Ev i args h = jb_Ex i (0, jb_entry i args, [], h) := by
  rw [jb_Ev, jb_G_succ, if_pos rfl, if_pos ha, jb_Ex]
