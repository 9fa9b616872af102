/-! ===== the commands one after another ===== -/
def jrn (u : Nat → Nat) : List (Nat × Nat × Nat) → Nat → (Nat → Nat) → (Nat → Nat) ⊕ (Nat × Nat × Nat)
  | [], _, w => .inl w
  | q :: l, k, w => match jqx u q.1 q.2.1 q.2.2 w with
    | none => .inr (k, 0, 0)
    | some (.inl p) => jrn u l (k + 1) p.2
    | some (.inr p) => .inr (k, p.1, p.2)
def jri (u : Nat → Nat) : List (Nat × Nat × Nat) → (Nat → Nat) → Prop
  | [], _ => True
  | q :: l, w => ∀ a w', jqx u q.1 q.2.1 q.2.2 w = some (.inl (a, w')) → jInv w' ∧ jri u l w'
theorem jLz_dr {L : List (Nat × Nat × Nat)} {k : Nat} (hk : k < L.length) : L.drop k = jLz L k :: L.drop (k + 1) := by
  rw [List.drop_eq_getElem_cons hk]
  congr 1
  unfold jLz
  rw [List.getD_eq_getElem?_getD, List.getElem?_eq_getElem hk]
  rfl
def jcR (σ σ' : jm_S) : Prop := ∀ q j, ¬ (1 ≤ q ∧ q < 26 ∨ q = 278 ∨ 295 ≤ q ∧ q < 297) → σ' q j = σ q j
def jcO (w0 : Nat → Nat) (N : Nat) (σ : jm_S) (r : (Nat → Nat) ⊕ (Nat × Nat × Nat)) (e : Option jb_Res) : Prop := match r with
  | .inl w => ∃ σ', e = some (some (.int (jI N)), jm_hp σ') ∧ jInv w ∧ jV σ' 1 w ∧ jcR σ σ' ∧ (∀ j, σ' 278 j = σ 278 j)
  | .inr (k, y, z) => ∃ σ', e = some (some (.int (-5)), jm_hp σ') ∧ y ≤ 7 ∧ jV σ' 1 w0 ∧ jcR σ σ' ∧ σ' 278 0 = jI 7 ∧ σ' 278 1 = jI k ∧ (y = 0 → σ' 278 2 = -6 ∧ σ' 278 3 = -6) ∧ (y ≠ 0 → σ' 278 2 = jI y ∧ σ' 278 3 = jI z)
theorem jcO.mv {w0 : Nat → Nat} {N : Nat} {σ τ : jm_S} {r : (Nat → Nat) ⊕ (Nat × Nat × Nat)} {e : Option jb_Res} (h : jcO w0 N τ r e) (hf : jcR σ τ) (h8 : ∀ j, τ 278 j = σ 278 j) : jcO w0 N σ r e := by
  cases r with
  | inl w =>
    obtain ⟨σ', a, b, c, d, f⟩ := h
    exact ⟨σ', a, b, c, fun q j z => (d q j z).trans (hf q j z), fun j => (f j).trans (h8 j)⟩
  | inr p =>
    obtain ⟨σ', a, b, c, d, f⟩ := h
    exact ⟨σ', a, b, c, fun q j z => (d q j z).trans (hf q j z), f⟩
theorem jqx_y {u : Nat → Nat} {c s e y z : Nat} {w : Nat → Nat} (h : jqx u c s e w = some (.inr (y, z))) : y ≠ 0 ∧ y ≤ 7 := by
  unfold jqx at h
  split at h
  · split at h
    · cases h
    · exact jqbec_y (Option.some.inj h)
  split at h
  · exact jqren_y (Option.some.inj h)
  split at h
  · exact jqent_y (Option.some.inj h)
  split at h
  · split at h
    · cases h
    · cases h
  split at h
  · split at h
    · cases h
    · exact jqcom_y (Option.some.inj h)
  split at h
  · split at h
    · exact jqbec_y (Option.some.inj h)
    · cases h
  split at h
  · split at h
    · cases h
    · cases h
  · exact jqrin_y (Option.some.inj h)
section RN
variable {n : Nat} {t : Nat → Nat} {w0 : Nat → Nat}
theorem jrefC {σ : jm_S} {k y z : Nat} {b : Bool} (hb : b = true → σ 278 0 = jI y ∧ σ 278 1 = jI z) : ∃ σ', jb_Ev 86 [.ref (278 : Nat), .int (jI k), .int (jBI b)] (jm_hp σ) = some (some (.int (-5)), jm_hp σ') ∧ (∀ q j, q ≠ 278 → σ' q j = σ q j) ∧ σ' 278 0 = jI 7 ∧ σ' 278 1 = jI k ∧ (b = false → σ' 278 2 = -6 ∧ σ' 278 3 = -6) ∧ (b = true → σ' 278 2 = jI y ∧ σ' 278 3 = jI z) := by
  have fr : ∀ (τ : jm_S) (a b c d e f : Int32), (∀ q j, q ≠ 278 → (jm_up (jm_up (jm_up (jm_up (jm_up (jm_up τ 278 0 a) 278 1 b) 278 2 c) 278 3 d) 278 2 e) 278 3 f) q j = τ q j) ∧ (jm_up (jm_up (jm_up (jm_up (jm_up (jm_up τ 278 0 a) 278 1 b) 278 2 c) 278 3 d) 278 2 e) 278 3 f) 278 0 = a ∧ (jm_up (jm_up (jm_up (jm_up (jm_up (jm_up τ 278 0 a) 278 1 b) 278 2 c) 278 3 d) 278 2 e) 278 3 f) 278 1 = b ∧ (jm_up (jm_up (jm_up (jm_up (jm_up (jm_up τ 278 0 a) 278 1 b) 278 2 c) 278 3 d) 278 2 e) 278 3 f) 278 2 = e ∧ (jm_up (jm_up (jm_up (jm_up (jm_up (jm_up τ 278 0 a) 278 1 b) 278 2 c) 278 3 d) 278 2 e) 278 3 f) 278 3 = f := by
    intro τ a b c d e f
    refine ⟨fun q j hq => ?_, ?_, ?_, ?_, ?_⟩
    · rw [jm_up_o _ _ hq, jm_up_o _ _ hq, jm_up_o _ _ hq, jm_up_o _ _ hq, jm_up_o _ _ hq, jm_up_o _ _ hq]
    · rw [jm_up_j _ _ (by decide), jm_up_j _ _ (by decide), jm_up_j _ _ (by decide), jm_up_j _ _ (by decide), jm_up_j _ _ (by decide), jm_up_same]
    · rw [jm_up_j _ _ (by decide), jm_up_j _ _ (by decide), jm_up_j _ _ (by decide), jm_up_j _ _ (by decide), jm_up_same]
    · rw [jm_up_j _ _ (by decide), jm_up_same]
    · rw [jm_up_same]
  rw [jt_Reasons_refuseCommand_0]
  cases b with
  | false =>
    rw [if_pos (by decide +kernel), jt_Reasons_refuse_0, jb_K_v]
    obtain ⟨f1, f2, f3, f4, f5⟩ := fr σ (jI 7) (jI k) (-6) (-6) (-6) (-6)
    exact ⟨_, jt_Reasons_refuseCommand_36, f1, f2, f3, fun _ => ⟨f4, f5⟩, fun z => by cases z⟩
  | true =>
    obtain ⟨b1, b2⟩ := hb rfl
    rw [if_neg (by decide +kernel), jt_Reasons_refuse_0, jb_K_v, b1, b2]
    obtain ⟨f1, f2, f3, f4, f5⟩ := fr σ (jI 7) (jI k) (-6) (-6) (jI y) (jI z)
    exact ⟨_, jt_Reasons_refuseCommand_36, f1, f2, f3, fun z => (by cases z), fun _ => ⟨f4, f5⟩⟩
theorem jC_runL {L : List (Nat × Nat × Nat)} (ht : jtx n t) (hL : L.length < 1000) (hok : ∀ i, i < L.length → jok (jtu n t) n (jLz L i).1 (jLz L i).2.1 (jLz L i).2.2) : ∀ (m k : Nat) (τ : jm_S) (w : Nat → Nat) (u2 : Value), k + m = L.length → jV τ 1 w → jInv w → jV τ 26 w0 → jRn τ 283 n t → jrW τ L → jcO w0 L.length τ (jrn (jtu n t) (L.drop k) k w) (jb_Ex 240 (2, [.ref (0 : Nat), .int (jI k), u2], [], jm_hp τ)) ∧ jri (jtu n t) (L.drop k) w
  | 0, k, τ, w, u2, hk, hV, hw, hB, hr, hW => by
    have hz := jR_size hW.1
    rw [List.drop_eq_nil_of_le (by omega), jrn]
    refine ⟨⟨τ, ?_, hw, hV, fun _ _ _ => rfl, fun _ => rfl⟩, trivial⟩
    rw [jt_D_performAll_2, hz, jb_K_v]
    refine Eq.trans jt_D_performAll_13 ?_
    rw [if_pos ((jI_le (by omega) (by omega)).mpr (by omega)), hz, jb_K_v]
    exact jt_D_performAll_73
  | m + 1, k, τ, w, u2, hk, hV, hw, hB, hr, hW => by
    have hz := jR_size hW.1
    have hkL : k < L.length := by omega
    have h0 : jb_Ex 240 (2, [.ref (0 : Nat), .int (jI k), u2], [], jm_hp τ) = jb_K (jb_Ev 231 [.ref (0 : Nat), .int (jI k)] (jm_hp τ)) (fun v h => jb_Ex 240 (21, [.ref (0 : Nat), .int (jI k), u2], v.toList ++ [], h)) := by
      rw [jt_D_performAll_2, hz, jb_K_v]
      refine Eq.trans jt_D_performAll_13 ?_
      rw [if_neg (by rw [jI_le (by omega) (by omega)]; omega)]
    rw [h0, jLz_dr hkL, jrn]
    rcases jC_perform hV hw hr ht hW hkL (c := (jLz L k).1) (s := (jLz L k).2.1) (e := (jLz L k).2.2) rfl (hok k hkL) with ⟨g1, x, x1, x2, σ1, e1, A1⟩ | ⟨q, g1, σ0, A0, g2⟩
    · rw [g1]
      obtain ⟨σ2, e2, v2, A2⟩ := jV_take (v := 1) (u := 26) jc_1 jc_26 (by omega) (hB.A A1 (by omega))
      obtain ⟨σ3, e3, f1, f2, f3, f4, f5⟩ := jrefC (σ := σ2) (k := k) (y := 0) (z := 0) (b := false) (fun z => by cases z)
      refine ⟨⟨σ3, ?_, Nat.zero_le _, ?_, ?_, f2, f3, fun _ => f4 rfl, fun z => absurd rfl z⟩, fun a w' h => by rw [g1] at h; cases h⟩
      · rw [e1, jb_K_v]
        refine Eq.trans jt_D_performAll_21 ?_
        rw [if_neg (Int32.not_le.mpr x1), e2, jb_K_n]
        refine Eq.trans jt_D_performAll_37 ?_
        rw [if_neg x2]
        rw [show jI 0 = jBI false from rfl, e3, jb_K_v]
        exact jt_D_performAll_56
      · exact v2.A (a := 278) (b := 279) (fun a b hab => f1 a b (by omega)) (by omega)
      · intro a b hab
        rw [f1 a b (by omega), A2 a b (by omega), A1 a b (by omega)]
    · rw [g1]
      cases q with
      | inl p =>
        obtain ⟨a, w'⟩ := p
        obtain ⟨q1, q2, σ1, e1, v1, A1⟩ := g2
        have ih := jC_runL ht hL hok m (k + 1) σ1 w' (.int (jI a)) (by omega) v1 q2 ((hB.A A0 (by omega)).A A1 (by omega)) ((hr.A A0 (by omega)).A A1 (by omega)) ⟨(hW.1.A A0 (by omega)).A A1 (by omega), (hW.2.1.A A0 (by omega)).A A1 (by omega), (hW.2.2.A A0 (by omega)).A A1 (by omega)⟩
        have e2 : jb_K (jb_Ev 231 [.ref (0 : Nat), .int (jI k)] (jm_hp τ)) (fun v h => jb_Ex 240 (21, [.ref (0 : Nat), .int (jI k), u2], v.toList ++ [], h)) = jb_Ex 240 (2, [.ref (0 : Nat), .int (jI (k + 1)), .int (jI a)], [], jm_hp σ1) := by
          rw [e1, jb_K_v]
          refine Eq.trans jt_D_performAll_21 ?_
          rw [if_pos ((jI_nn q1).mpr trivial), jI_add]
        rw [e2]
        refine ⟨ih.1.mv (fun a b hab => by rw [A1 a b (by omega), A0 a b (by omega)]) (fun j => by rw [A1 _ _ (by omega), A0 _ _ (by omega)]), fun a2 w2 h => ?_⟩
        rw [g1] at h
        cases h
        exact ⟨q2, ih.2⟩
      | inr p =>
        obtain ⟨y, z⟩ := p
        obtain ⟨⟨q1, q2⟩, e1⟩ := g2
        have A1 : jA 278 279 σ0 (jrs σ0 y z) := jA_ups (jA_ups (jA_ups (jA_up (by omega) (by omega)) (by omega) (by omega)) (by omega) (by omega)) (by omega) (by omega)
        have r0 : (jrs σ0 y z) 278 0 = jI y := by
          unfold jrs
          rw [jm_up_j _ _ (by decide), jm_up_j _ _ (by decide), jm_up_j _ _ (by decide), jm_up_same]
        have r1 : (jrs σ0 y z) 278 1 = jI z := by
          unfold jrs
          rw [jm_up_j _ _ (by decide), jm_up_j _ _ (by decide), jm_up_same]
        generalize jrs σ0 y z = σ1 at *
        obtain ⟨σ2, e2, v2, A2⟩ := jV_take (v := 1) (u := 26) jc_1 jc_26 (by omega) ((hB.A A0 (by omega)).A A1 (by omega))
        obtain ⟨σ3, e3, f1, f2, f3, f4, f5⟩ := jrefC (σ := σ2) (k := k) (y := y) (z := z) (b := true) (fun _ => ⟨by rw [A2 _ _ (by omega)]; exact r0, by rw [A2 _ _ (by omega)]; exact r1⟩)
        refine ⟨⟨σ3, ?_, q2, ?_, ?_, f2, f3, fun x => absurd x q1, fun _ => f5 rfl⟩, fun a w' h => by rw [g1] at h; cases h⟩
        · rw [e1, jb_K_v]
          refine Eq.trans jt_D_performAll_21 ?_
          rw [if_neg (by decide), e2, jb_K_n]
          refine Eq.trans jt_D_performAll_37 ?_
          rw [if_pos rfl]
          rw [show jI 1 = jBI true from rfl, e3, jb_K_v]
          exact jt_D_performAll_56
        · exact v2.A (a := 278) (b := 279) (fun a b hab => f1 a b (by omega)) (by omega)
        · intro a b hab
          rw [f1 a b (by omega), A2 a b (by omega), A1 a b (by omega), A0 a b (by omega)]
def jmR (σ σ' : jm_S) : Prop := ∀ q j, ¬ (q = 308 ∨ q = 311 ∨ q = 315 ∨ q = 307 ∧ (5 ≤ j ∧ j ≤ 9 ∨ j = 17 ∨ j = 18 ∨ j = 20)) → σ' q j = σ q j
def jmR' (σ σ' : jm_S) : Prop := ∀ q j, ¬ (q = 308 ∨ q = 315 ∨ q = 307 ∧ (j = 17 ∨ j = 18 ∨ j = 20)) → σ' q j = σ q j
def jmO' (w0 : Nat → Nat) (N : Nat) (H : Nat → Nat → Nat) (h : Nat) (σ : jm_S) (r : (Nat → Nat) ⊕ (Nat × Nat × Nat)) (e : Option jb_Res) : Prop := match r with
  | .inl w => ∃ σ', e = some (some (.int (jI N)), jm_hp σ') ∧ jAr σ' 308 146 w ∧ jMH σ' (jpn h) (jpH h H w0) ∧ jmR σ σ' ∧ (∀ j, 6 ≤ j → j ≤ 9 → σ' 307 j = σ 307 j)
  | .inr (k, y, z) => ∃ σ', e = some (some (.int (-5)), jm_hp σ') ∧ jAr σ' 308 146 w0 ∧ jmR σ σ' ∧ σ' 307 5 = σ 307 5 ∧ (∀ j, σ' 311 j = σ 311 j) ∧ σ' 307 6 = jI 7 ∧ σ' 307 7 = jI k ∧ σ' 307 8 = jI y ∧ (y ≠ 0 → σ' 307 9 = jI z)
theorem jmO'.mv {w0 : Nat → Nat} {N : Nat} {H : Nat → Nat → Nat} {h : Nat} {σ τ : jm_S} {r : (Nat → Nat) ⊕ (Nat × Nat × Nat)} {e : Option jb_Res} (g : jmO' w0 N H h τ r e) (hf : jmR' σ τ) : jmO' w0 N H h σ r e := by
  cases r with
  | inl w =>
    obtain ⟨σ', a, b, c, d, f⟩ := g
    exact ⟨σ', a, b, c, fun q j z => (d q j z).trans (hf q j (by omega)), fun j j1 j2 => (f j j1 j2).trans (hf _ _ (by omega))⟩
  | inr p =>
    obtain ⟨σ', a, c, d, d1, d2, f⟩ := g
    exact ⟨σ', a, c, fun q j z => (d q j z).trans (hf q j (by omega)), d1.trans (hf _ _ (by omega)), fun j => (d2 j).trans (hf _ _ (by omega)), f⟩
theorem jM_runL {L : List (Nat × Nat × Nat)} {H : Nat → Nat → Nat} {h : Nat} (hh : h ≤ 8) (ht : jtx n t) (hL : L.length < 30) (hok : ∀ i, i < L.length → jok (jtu n t) n (jLz L i).1 (jLz L i).2.1 (jLz L i).2.2) : ∀ (m k : Nat) (τ : jm_S) (w : Nat → Nat) (u2 u3 : Value), k + m = L.length → jAr τ 308 146 w → jInv w → jAr τ 309 146 w0 → τ 307 17 = jI 0 → τ 307 29 = jI L.length → jAr τ 313 n t → jMH τ h H → jnA (jtu n t) L 0 τ → jri (jtu n t) (L.drop k) w → jmO' w0 L.length H h τ (jrn (jtu n t) (L.drop k) k w) (jb_Ex 247 (29, [.ref (307 : Nat), .int (jI k), u2, u3], [], jm_hp τ))
  | 0, k, τ, w, u2, u3, hk, hA, hw, hB, h17, h29, hT, hH, hN, hri => by
    obtain ⟨σ', e1, f1, f2⟩ := jM_ends_ok hh hH hB h17 (jI L.length)
    rw [List.drop_eq_nil_of_le (by omega), jrn]
    refine ⟨σ', ?_, fun j hj => by rw [f2 _ _ (by omega)]; exact hA j hj, f1, fun a b hab => f2 a b (by omega), fun j j1 j2 => f2 _ _ (by omega)⟩
    rw [jt_M_read_29, h29, if_pos ((jI_le (by omega) (by omega)).mpr (by omega)), e1, jb_K_v]
    exact jt_M_read_110
  | m + 1, k, τ, w, u2, u3, hk, hA, hw, hB, h17, h29, hT, hH, hN, hri => by
    have hkL : k < L.length := by omega
    rw [jLz_dr hkL] at hri
    obtain ⟨n0, nB⟩ := hN k hkL
    rw [Nat.zero_add] at n0 nB
    have hR := jM_isRight (k := k) hA hw (by omega) n0 nB (hok k hkL)
    have h0 : jb_Ex 247 (29, [.ref (307 : Nat), .int (jI k), u2, u3], [], jm_hp τ) = jb_Ex 247 (44, [.ref (307 : Nat), .int (jI k), u2, u3], [.int (jBI (jqx (jtu n t) (jLz L k).1 (jLz L k).2.1 (jLz L k).2.2 w).isSome)], jm_hp τ) := by
      rw [jt_M_read_29, h29, if_neg (by rw [jI_le (by omega) (by omega)]; omega), jI_mul, hR, jb_K_v]
    rw [h0, jLz_dr hkL, jrn]
    cases hq : jqx (jtu n t) (jLz L k).1 (jLz L k).2.1 (jLz L k).2.2 w with
    | none =>
      obtain ⟨σ1, e1, f1, ⟨f2, f3, f4, f5⟩, f6⟩ := jM_refuses hB (jI 7) (jI k) (jI 0) (τ 307 18)
      refine ⟨σ1, ?_, f1, fun a b hab => f6 a b (by omega), f6 _ _ (by omega), fun j => f6 _ _ (by omega), f2, f3, f4, fun z => absurd rfl z⟩
      refine Eq.trans jt_M_read_44 ?_
      rw [if_pos (by decide +kernel), e1, jb_K_v]
      exact jt_M_read_95
    | some q =>
      obtain ⟨σ0, F0, g⟩ := jM_does hA hw h17 hT ht (by omega) n0 nB (hok k hkL) hq
      have h1 : jb_Ex 247 (44, [.ref (307 : Nat), .int (jI k), u2, u3], [.int (jBI (some q).isSome)], jm_hp τ) = jb_K (jb_Ev 213 [.ref (307 : Nat), .int (jI (4 * k))] (jm_hp τ)) (fun v h => jb_Ex 247 (56, [.ref (307 : Nat), .int (jI k), .int (jI 1), u3], v.toList ++ [], h)) := by
        refine Eq.trans jt_M_read_44 ?_
        rw [show jBI (some q).isSome = jI 1 from rfl, if_neg (show ¬ jI 1 = 0 by decide +kernel), jI_mul]
      rw [h1]
      cases q with
      | inl p =>
        obtain ⟨a, w'⟩ := p
        obtain ⟨σ1, e1, f1, f2, f3⟩ := g
        have fr : ∀ q j, ¬ (q = 308 ∨ q = 315 ∨ q = 307 ∧ (j = 17 ∨ j = 18 ∨ j = 20)) → σ1 q j = τ q j := fun q j z => by rw [f3 q j (by omega), F0 q j (by omega)]
        obtain ⟨hw', hri'⟩ := hri a w' hq
        have ih := jM_runL hh ht hL hok m (k + 1) σ1 w' (.int (jI 1)) (.int (jI a)) (by omega) f1 hw' (fun j hj => by rw [fr _ _ (by omega)]; exact hB j hj) f2 (by rw [fr _ _ (by omega)]; exact h29) (fun j hj => by rw [fr _ _ (by omega)]; exact hT j hj) ⟨by rw [fr _ _ (by omega)]; exact hH.1, fun k j hk hj => by rw [fr _ _ (by omega)]; exact hH.2 k j hk hj⟩ (fun i hi => ⟨by rw [fr _ _ (by omega)]; exact (hN i hi).1, (hN i hi).2.mv (fun j j1 j2 => fr _ _ (by omega))⟩) hri'
        have e2 : jb_K (jb_Ev 213 [.ref (307 : Nat), .int (jI (4 * k))] (jm_hp τ)) (fun v h => jb_Ex 247 (56, [.ref (307 : Nat), .int (jI k), .int (jI 1), u3], v.toList ++ [], h)) = jb_Ex 247 (29, [.ref (307 : Nat), .int (jI (k + 1)), .int (jI 1), .int (jI a)], [], jm_hp σ1) := by
          rw [e1, jb_K_v]
          refine Eq.trans jt_M_read_56 ?_
          rw [if_neg (by decide +kernel), f2, if_pos (by decide +kernel), jI_add]
        rw [e2]
        exact ih.mv fr
      | inr p =>
        obtain ⟨y, z⟩ := p
        obtain ⟨x, σ1, e1, f1, f2, f3⟩ := g
        have fr : ∀ q j, ¬ (q = 308 ∨ q = 315 ∨ q = 307 ∧ (j = 17 ∨ j = 18 ∨ j = 20)) → σ1 q j = τ q j := fun q j z => by rw [f3 q j (by omega), F0 q j (by omega)]
        obtain ⟨y1, y2⟩ := jqx_y hq
        obtain ⟨σ2, e2, k1, ⟨k2, k3, k4, k5⟩, k6⟩ := jM_refuses (w := w0) (fun j hj => by rw [fr _ _ (by omega)]; exact hB j hj) (jI 7) (jI k) (jI y) (jI z) (σ := σ1)
        refine ⟨σ2, ?_, k1, fun a b hab => ?_, ?_, fun j => ?_, k2, k3, k4, fun _ => k5⟩
        · rw [e1, jb_K_v]
          refine Eq.trans jt_M_read_56 ?_
          rw [if_neg (by decide +kernel), f1, if_neg (by rw [jI_eq0 (by omega)]; exact y1), f2, e2, jb_K_v]
          exact jt_M_read_95
        · rw [k6 a b (by omega), fr a b (by omega)]
        · rw [k6 _ _ (by omega), fr _ _ (by omega)]
        · rw [k6 _ _ (by omega), fr _ _ (by omega)]
end RN
