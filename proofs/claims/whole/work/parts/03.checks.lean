/-! ===== the lists are right: by the kernel, once ===== -/
def jb_me (i : Nat) : jb_Me := jb_M.getD i (⟨"", "", ""⟩, ⟨#[]⟩, 0, none, 0, 0, 0, 0, 0, 0)
abbrev jb_y (i : Nat) : MethodName := (jb_me i).1
abbrev jb_b (i : Nat) : ByteArray := (jb_me i).2.1
abbrev jb_ml (i : Nat) : Nat := (jb_me i).2.2.1
abbrev jb_ret (i : Nat) : Option FieldType := (jb_me i).2.2.2.1
abbrev jb_ow (i : Nat) : Nat := (jb_me i).2.2.2.2.1
abbrev jb_ht (i : Nat) : Nat := (jb_me i).2.2.2.2.2.1
abbrev jb_p1 (i : Nat) : Nat := (jb_me i).2.2.2.2.2.2.1
abbrev jb_p2 (i : Nat) : Nat := (jb_me i).2.2.2.2.2.2.2.1
abbrev jb_p3 (i : Nat) : Nat := (jb_me i).2.2.2.2.2.2.2.2.1
abbrev jb_p4 (i : Nat) : Nat := (jb_me i).2.2.2.2.2.2.2.2.2
def jb_W : List Cond := lw_tbl.filter goodWord
theorem jb_inW {p : Nat} {w : Cond} (h : lw_tbl[p]? = some w) (hg : goodWord w = true) : w ∈ jb_W := List.mem_filter.mpr ⟨List.mem_of_getElem? h, hg⟩
/-- a method's own words stand in the table -/
def jb_okM (i : Nat) : Bool := decide (lw_tbl[jb_p2 i]? = some (.initialized (jb_y i).cls)) && decide ((jb_y i).cls = jb_O (jb_ow i)) && plainName (jb_y i).cls && decide ((jb_y i).cls ≠ "java/lang/invoke/MethodHandle" ∧ (jb_y i).cls ≠ "java/lang/invoke/VarHandle") && decide (jb_ml i ≤ 8)
set_option maxRecDepth 100000 in
theorem jb_okM_all : (List.range 248).all jb_okM = true := by decide +kernel

/-- a link's words stand in the table -/
def jb_okL (q : Nat × Nat × Nat × Nat × Nat × Nat) : Bool := match q with
  | (o, x, k, a, b, p) => match k with
    | 0 => decide (a < 12) && decide (b < jb_N a) && decide (lw_tbl[p]? = some (.fieldLink (jb_O o) x (jb_T a b).1 (jb_T a b).2.1 (jb_T a b).2.2.1)) && decide ((jb_T a b).1 = jb_O a)
    | 1 => decide (a < 12) && decide (b < jb_N a) && decide (lw_tbl[p]? = some (.fieldLinkNest (jb_O o) x (jb_T a b).1 (jb_T a b).2.1 (jb_T a b).2.2.1 "DrownedBells")) && decide ((jb_T a b).1 = jb_O a)
    | 2 => decide (a < 248) && decide (lw_tbl[p]? = some (.methodLink (jb_O o) x (jb_y a))) && decide (lw_tbl[jb_p3 a]? = some (.instanceMethod (jb_y a))) && decide (lw_tbl[jb_p4 a]? = some (.selects (jb_y a).cls (jb_y a) (jb_y a))) && decide ((parseMethodDescriptor (jb_y a).desc).map (fun d => d.parameters.length) = some b)
    | 3 => decide (a < 248) && decide (lw_tbl[p]? = some (.methodLinkNest (jb_O o) x (jb_y a) "DrownedBells")) && decide (lw_tbl[jb_p3 a]? = some (.instanceMethod (jb_y a))) && decide (lw_tbl[jb_p4 a]? = some (.selects (jb_y a).cls (jb_y a) (jb_y a))) && decide ((parseMethodDescriptor (jb_y a).desc).map (fun d => d.parameters.length) = some b)
    | 4 => decide (a < 248) && decide (lw_tbl[p]? = some (.methodLink (jb_O o) x (jb_y a))) && decide (lw_tbl[jb_p3 a]? = some (.static (jb_y a))) && decide ((parseMethodDescriptor (jb_y a).desc).map (fun d => d.parameters.length) = some b)
    | 5 => decide (a < 248) && decide (lw_tbl[p]? = some (.methodLinkNest (jb_O o) x (jb_y a) "DrownedBells")) && decide (lw_tbl[jb_p3 a]? = some (.static (jb_y a))) && decide ((parseMethodDescriptor (jb_y a).desc).map (fun d => d.parameters.length) = some b)
    | 6 => decide (a < 248) && decide (lw_tbl[p]? = some (.methodLink (jb_O o) x (jb_y a))) && decide (lw_tbl[jb_p3 a]? = some (.instanceMethod (jb_y a))) && decide ((jb_y a).name = "<init>") && decide (jb_ret a = none) && decide ((parseMethodDescriptor (jb_y a).desc).map (fun d => d.parameters.length) = some b)
    | 7 => decide (a < 248) && decide (lw_tbl[p]? = some (.methodLinkNest (jb_O o) x (jb_y a) "DrownedBells")) && decide (lw_tbl[jb_p3 a]? = some (.instanceMethod (jb_y a))) && decide ((jb_y a).name = "<init>") && decide (jb_ret a = none) && decide ((parseMethodDescriptor (jb_y a).desc).map (fun d => d.parameters.length) = some b)
    | 8 => decide (lw_tbl[p]? = some (.methodLink (jb_O o) x Lib.objectInit))
    | 9 => decide (a < 12) && decide (lw_tbl[p]? = some (.classLink (jb_O o) x (jb_O a)))
    | 10 => decide (a = 9) && decide (lw_tbl[p]? = some (.classLink (jb_O o) x (jb_O a)))
    | 11 => decide (a < 10) && decide (lw_tbl[p]? = some (.stringRef (jb_O o) x (jb_S.getD a "")))
    | 12 => decide (a < 18446744073709551616) && decide (lw_tbl[p]? = some (.constantDouble (jb_O o) x (UInt64.ofNat a)))
    | 13 => if a = 0 then decide (lw_tbl[p]? = some (.fieldLink (jb_O o) x "java/lang/String" "COMPACT_STRINGS" "Z")) else decide (lw_tbl[p]? = some (.fieldLink (jb_O o) x "jdk/internal/util/Preconditions" "SIOOBE_FORMATTER" "Ljava/util/function/BiFunction;"))
    | 14 => if a = 0 then decide (lw_tbl[p]? = some (.fieldLink (jb_O o) x "java/lang/String" "value" "[B")) else decide (lw_tbl[p]? = some (.fieldLink (jb_O o) x "java/lang/String" "coder" "B"))
    | 15 => decide (a < 3) && decide (lw_tbl[p]? = some (.methodLink (jb_O o) x (if a = 0 then Lib.Math.max.name else if a = 1 then Lib.Math.min.name else Lib.Math.abs.name)))
    | _ => false
set_option maxRecDepth 100000 in
theorem jb_okL_all : jb_L.all jb_okL = true := by decide +kernel
/-- a link of the right kind for an instruction -/
def jb_lk (ins : Instr) (x k : Nat) : Bool := match ins with
  | .getfield y => decide (x = y ∧ (k = 0 ∨ k = 1 ∨ k = 14))
  | .putfield y => decide (x = y ∧ (k = 0 ∨ k = 1))
  | .invokevirtual y => decide (x = y ∧ (k = 2 ∨ k = 3))
  | .invokestatic y => decide (x = y ∧ (k = 4 ∨ k = 5 ∨ k = 15))
  | .invokespecial y => decide (x = y ∧ (k = 6 ∨ k = 7 ∨ k = 8))
  | .new y => decide (x = y ∧ k = 9)
  | .anewarray y => decide (x = y ∧ k = 10)
  | .ldc y => decide (x = y ∧ k = 11)
  | .ldc_w y => decide (x = y ∧ k = 11)
  | .ldc2_w y => decide (x = y ∧ k = 12)
  | .getstatic y => decide (x = y ∧ k = 13)
  | _ => false
/-- an instruction's bytes are what the list says; its link is of the method's own class -/
def jb_okI (i : Nat) (e : Nat × Instr × Nat × Nat) : Bool := decide (decode (jb_b i) e.1 = .ok (e.2.1, e.2.2.1)) && (e.2.2.2 == 0 || ((jb_L[e.2.2.2 - 1]?).map (fun q => decide (q.1 = jb_ow i) && jb_lk e.2.1 q.2.1 q.2.2.1)).getD false)
def jb_okIs (i : Nat) : Bool := (jb_I.getD i []).all (jb_okI i)
/-- the classes' words -/
def jb_okC (c : Nat) : Bool := (List.range (jb_N c)).all (fun k => decide (u_lay (jb_O c) (jb_T c) k ∈ jb_W) && decide (parseFieldDescriptor (jb_T c k).2.2.1 = some (jb_Ty c k)) && (List.range (jb_N c)).all (fun j => decide (j = k) || decide ((jb_T c j).2.1 ≠ (jb_T c k).2.1))) && decide (Cond.instantiable (jb_O c) (jb_N c) ∈ jb_W) && decide (Cond.initialized (jb_O c) ∈ jb_W)
set_option maxRecDepth 100000 in
theorem jb_okC_all : (List.range 12).all jb_okC = true := by decide +kernel
