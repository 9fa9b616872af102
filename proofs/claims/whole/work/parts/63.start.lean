/-! ===== the start: what the constructors come to ===== -/
def jc_G (N : Nat) : Nat → Nat → List Value → jb_H → Option jb_Res
  | 0 => fun _ _ _ => none
  | d + 1 => fun i args h => if jb_ht i = d then (if args.length ≤ jb_ml i ∧ args.all (fun v => v.category == 1) = true then jb_run (jc_G N d) i N (0, jb_entry i args, [], h) else none) else jc_G N d i args h
abbrev jFn : Type := Nat → List Value → jb_H → Option jb_Res
def jFle (F F' : jFn) : Prop := ∀ i a h r, F i a h = some r → F' i a h = some r
theorem jinvV_mono {F F' : jFn} (hF : jFle F F') {pc a b : Nat} {ls st : List Value} {h : jb_H} {x : jb_Res ⊕ jb_Cfg} (e : jb_invV F pc a b ls st h = some x) : jb_invV F' pc a b ls st h = some x := by
  unfold jb_invV at e ⊢
  by_cases h1 : b ≤ st.length
  · rw [if_pos h1] at e ⊢
    split at e
    · rename_i r rest hd
      by_cases h2 : jb_recv h r (jb_ow a) = true ∧ jb_sum rest ≤ 8
      · rw [if_pos h2] at e ⊢
        cases hq : F a (.ref r :: (st.take b).reverse) h with
        | none => rw [hq] at e; cases e
        | some q => rw [hF _ _ _ _ hq]; rw [hq] at e; exact e
      · rw [if_neg h2] at e; cases e
    · cases e
  · rw [if_neg h1] at e; cases e
theorem jinvS_mono {F F' : jFn} (hF : jFle F F') {pc a b : Nat} {ls st : List Value} {h : jb_H} {x : jb_Res ⊕ jb_Cfg} (e : jb_invS F pc a b ls st h = some x) : jb_invS F' pc a b ls st h = some x := by
  unfold jb_invS at e ⊢
  by_cases h1 : b ≤ st.length ∧ jb_sum (st.drop b) ≤ 8
  · rw [if_pos h1] at e ⊢
    cases hq : F a (st.take b).reverse h with
    | none => rw [hq] at e; cases e
    | some q => rw [hF _ _ _ _ hq]; rw [hq] at e; exact e
  · rw [if_neg h1] at e; cases e
theorem jex_mono {F F' : jFn} (hF : jFle F F') {i : Nat} {ins : Instr} {k a b pc : Nat} {ls st : List Value} {h : jb_H} {x : jb_Res ⊕ jb_Cfg} (e : jb_ex F i ins k a b pc ls st h = some x) : jb_ex F' i ins k a b pc ls st h = some x := by
  cases ins
  case invokevirtual y =>
    unfold jb_ex at e ⊢
    dsimp only at e ⊢
    by_cases c : k = 2 ∨ k = 3
    · rw [if_pos c] at e ⊢; exact jinvV_mono hF e
    · rw [if_neg c] at e; cases e
  case invokestatic y =>
    unfold jb_ex at e ⊢
    dsimp only at e ⊢
    by_cases c : k = 4 ∨ k = 5
    · rw [if_pos c] at e ⊢; exact jinvS_mono hF e
    · rw [if_neg c] at e ⊢; exact e
  case invokespecial y =>
    unfold jb_ex at e ⊢
    dsimp only at e ⊢
    by_cases c : k = 6 ∨ k = 7
    · rw [if_pos c] at e ⊢; exact jinvV_mono hF e
    · rw [if_neg c] at e ⊢; exact e
  all_goals exact e
theorem jstp_mono {F F' : jFn} (hF : jFle F F') {i : Nat} {c : jb_Cfg} {x : jb_Res ⊕ jb_Cfg} (e : jb_stp F i c = some x) : jb_stp F' i c = some x := by
  unfold jb_stp at e ⊢
  split at e
  · cases e
  · exact jex_mono hF e
theorem jrun_mono {F F' : jFn} (hF : jFle F F') {i : Nat} {r : jb_Res} : ∀ {n : Nat} {c : jb_Cfg}, jb_run F i n c = some r → jb_run F' i n c = some r
  | 0, _, h => by cases h
  | n + 1, c, h => by
    rw [jb_run] at h ⊢
    cases hs : jb_stp F i c with
    | none => rw [hs] at h; cases h
    | some q =>
      rw [hs] at h
      rw [jstp_mono hF hs]
      cases q with
      | inl r' => exact h
      | inr c' => exact jrun_mono hF h
theorem jc_G_of {N : Nat} : ∀ d, jFle (jc_G N d) (jb_G d)
  | 0 => fun i a h r e => by cases e
  | d + 1 => fun i a h r e => by
    rw [jb_G_succ]
    rw [jc_G] at e
    dsimp only at e
    by_cases h1 : jb_ht i = d
    · rw [if_pos h1] at e ⊢
      by_cases h2 : a.length ≤ jb_ml i ∧ a.all (fun v => v.category == 1) = true
      · rw [if_pos h2] at e ⊢
        exact jb_to_iff.mpr ⟨N, jrun_mono (jc_G_of d) e⟩
      · rw [if_neg h2] at e; cases e
    · rw [if_neg h1] at e ⊢
      exact jc_G_of d i a h r e
theorem jc_Ev {N i : Nat} {a : List Value} {h : jb_H} {r : jb_Res} (e : jc_G N (jb_ht i + 1) i a h = some r) : jb_Ev i a h = some r := jc_G_of _ _ _ _ _ e
/-- the same, with some calls' ends known -/
def jo_G (O : jFn) (N : Nat) : Nat → Nat → List Value → jb_H → Option jb_Res
  | 0 => fun _ _ _ => none
  | d + 1 => fun i args h => if jb_ht i = d then (match O i args h with
    | some r => some r
    | none => if args.length ≤ jb_ml i ∧ args.all (fun v => v.category == 1) = true then jb_run (jo_G O N d) i N (0, jb_entry i args, [], h) else none) else jo_G O N d i args h
theorem jo_G_of {O : jFn} (hO : jFle O jb_Ev) {N : Nat} : ∀ d, jFle (jo_G O N d) (jb_G d)
  | 0 => fun i a h r e => by cases e
  | d + 1 => fun i a h r e => by
    rw [jo_G] at e
    dsimp only at e
    by_cases h1 : jb_ht i = d
    · rw [if_pos h1] at e
      cases ho : O i a h with
      | some r' =>
        rw [ho] at e
        rw [jb_G_low (by omega)]
        rw [← e]
        exact hO _ _ _ _ ho
      | none =>
        rw [ho] at e
        dsimp only at e
        rw [jb_G_succ, if_pos h1]
        by_cases h2 : a.length ≤ jb_ml i ∧ a.all (fun v => v.category == 1) = true
        · rw [if_pos h2] at e ⊢
          exact jb_to_iff.mpr ⟨N, jrun_mono (jo_G_of hO d) e⟩
        · rw [if_neg h2] at e; cases e
    · rw [if_neg h1] at e
      rw [jb_G_succ, if_neg h1]
      exact jo_G_of hO d i a h r e
theorem jo_Ev {O : jFn} (hO : jFle O jb_Ev) {N i : Nat} {a : List Value} {h : jb_H} {r : jb_Res} (e : jo_G O N (jb_ht i + 1) i a h = some r) : jb_Ev i a h = some r := jo_G_of hO _ _ _ _ _ e
