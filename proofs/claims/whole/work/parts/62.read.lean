/-! ===== read ===== -/
def jrS (S : jSt) : jSt := js0 S 9 (jn0 (S 9) 3 0)
def jrB (S : jSt) (q : Nat) : jSt := js0 S 9 (jn0 (jn0 (S 9) 3 0) 9 (q + 1))
def jrR (S : jSt) (k y z : Nat) : jSt := js0 S 9 (jn0 (jn0 (jn0 (jn0 (jn0 (S 9) 3 0) 5 7) 6 k) 7 y) 8 z)
theorem jpZ_len {n : Nat} {t : Nat → Nat} : ∀ (k s : Nat), (jpZ (jtu n t) n k s).2.length ≤ k
  | 0, s => Nat.le_refl _
  | k + 1, s => by
    rw [jpZ]
    split
    · exact Nat.zero_le _
    · split
      · simp only [List.length_cons, List.length_nil]; omega
      · split
        · have := jpZ_len (n := n) (t := t) k (jen (jtu n t) n s (jcm (jtu n t) s) + 1)
          simp only [List.length_cons]; omega
        · simp only [List.length_cons, List.length_nil]; omega
theorem jpZ_q {n : Nat} {t : Nat → Nat} (hn : n ≤ 60) : ∀ (k s q : Nat), s ≤ n → (jpZ (jtu n t) n k s).1 = some q → q ≤ 90
  | 0, s, q, hs, h => by
    have := Option.some.inj h; omega
  | k + 1, s, q, hs, h => by
    rw [jpZ] at h
    rcases jcm_cases (jtu n t) s with h8 | ⟨h8, hm⟩
    · rw [if_pos h8] at h
      have hx : ∀ c < 8, jmt (jfm c) (jtu n t) s ≤ 8 := by
        intro c hc
        have h1 := jmt_le (jfm c) (jtu n t) s
        rw [jfm_ln hc] at h1
        have := jln_b c; omega
      have a0 := hx 0 (by omega); have a1 := hx 1 (by omega); have a2 := hx 2 (by omega); have a3 := hx 3 (by omega); have a4 := hx 4 (by omega); have a5 := hx 5 (by omega); have a6 := hx 6 (by omega); have a7 := hx 7 (by omega)
      have : jlm (jtu n t) s ≤ 8 := by
        unfold jlm
        simp only [jmx_max]
        omega
      have := Option.some.inj h; omega
    · rw [if_neg (show jcm (jtu n t) s ≠ 8 by omega)] at h
      obtain ⟨b1, b2, b3⟩ := jcm_in h8 hm
      generalize jen (jtu n t) n s (jcm (jtu n t) s) = e at *
      by_cases he : n ≤ e
      · rw [if_pos he] at h; cases h
      · rw [if_neg he] at h
        by_cases h59 : jtu n t e = 59
        · rw [if_pos h59] at h
          exact jpZ_q hn k (e + 1) q (by omega) h
        · rw [if_neg h59] at h
          have := Option.some.inj h; omega
def jcQ (σ σ' : jm_S) : Prop := ∀ a b, ¬ (a = 0 ∧ b = 16 ∨ a = 283 ∨ 285 ≤ a ∧ a < 291) → σ' a b = σ a b
theorem jRn.Q {σ σ' : jm_S} {r n : Nat} {f : Nat → Nat} (h : jRn σ r n f) (k : jcQ σ σ') (hr : r ≠ 0 ∧ r ≠ 283 ∧ r + 1 ≠ 283 ∧ (r + 1 < 285 ∨ 291 ≤ r)) : jRn σ' r n f := jR.eq h (k _ _ (by omega)) (fun j _ => k _ _ (by omega))
theorem jV.Q {σ σ' : jm_S} {v : Nat} {w : Nat → Nat} (h : jV σ v w) (k : jcQ σ σ') (hv : 1 ≤ v ∧ v + 25 ≤ 283) : jV σ' v w := by
  have : jA 0 1 (fun a b => if a = 0 ∨ 283 ≤ a then σ a b else σ' a b) (fun a b => if a = 0 ∨ 283 ≤ a then σ a b else σ' a b) := jA.rf
  let τ : jm_S := fun a b => if 283 ≤ a then σ' a b else σ a b
  have h1 : jV τ v w := h.A (a := 283) (b := 400000) (fun a b hab => by
    show (if 283 ≤ a then σ' a b else σ a b) = σ a b
    by_cases z : 283 ≤ a
    · have h2 : 400000 ≤ a := by omega
      rw [if_pos z, k a b (by omega)]
    · rw [if_neg z]) (by omega)
  exact h1.A (a := 0) (b := 1) (fun a b hab => by
    show σ' a b = (if 283 ≤ a then σ' a b else σ a b)
    by_cases z : 283 ≤ a
    · rw [if_pos z]
    · rw [if_neg z, k a b (by omega)]) (by omega)
theorem jCH.Q {σ σ' : jm_S} {n : Nat} {H : Nat → Nat → Nat} (h : jCH σ n H) (k : jcQ σ σ') (hn : n ≤ 8) : jCH σ' n H := by
  obtain ⟨a1, o, a2, a3, a4⟩ := h
  exact ⟨by rw [k _ _ (by omega)]; exact a1, o, a2, by rw [k _ _ (by omega)]; exact a3, fun j hj => (a4 j hj).Q k (by omega)⟩
theorem jrH {σ : jm_S} {S : jSt} {n : Nat} {f : Nat → Nat} (h : jCH σ n (fun k => S (10 + k))) : jCH σ n (fun k => js0 S 9 f (10 + k)) := by
  rw [show (fun k => js0 S 9 f (10 + k)) = (fun k => S (10 + k)) from funext (fun k => js0_H S f k)]
  exact h
theorem jV.fr {σ σ' : jm_S} {v : Nat} {w : Nat → Nat} (h : jV σ v w) (k : ∀ q j, (v ≤ q ∧ q < v + 25 ∨ 400000 ≤ q) → σ' q j = σ q j) (hv : v + 25 ≤ 400000) : jV σ' v w := by
  let τ : jm_S := fun a b => if a < v then σ' a b else σ a b
  have h1 : jV τ v w := h.A (a := 0) (b := v) (fun a b hab => by
    show (if a < v then σ' a b else σ a b) = σ a b
    rw [if_neg (by omega)]) (by omega)
  exact h1.A (a := v + 25) (b := 400000) (fun a b hab => by
    show σ' a b = (if a < v then σ' a b else σ a b)
    by_cases z : a < v
    · rw [if_pos z]
    · rw [if_neg z, k a b (by omega)]) (by omega)
theorem jCH.fr {σ σ' : jm_S} {n : Nat} {H : Nat → Nat → Nat} (h : jCH σ n H) (k : ∀ q j, (76 ≤ q ∧ q < 278 ∨ 400000 ≤ q) → σ' q j = σ q j) (hn : n ≤ 8) : jCH σ' n H := by
  obtain ⟨a1, o, a2, a3, a4⟩ := h
  exact ⟨by rw [k _ _ (by omega)]; exact a1, o, a2, by rw [k _ _ (by omega)]; exact a3, fun j hj => (a4 j hj).fr (fun a b hab => k _ _ (by omega)) (by omega)⟩
theorem jrS_I {S : jSt} (hI : JI S) : JI (jrS S) := by
  obtain ⟨i1, ⟨i2, i3⟩, i4, i5, ⟨i6, i7⟩, i8, i9, i10, i11⟩ := hI
  refine ⟨i1, ⟨i2, fun k hk => ?_⟩, i4, i5, ⟨Nat.zero_le _, fun k hk => absurd hk (Nat.not_lt_zero _)⟩, i8, i9, i10, i11⟩
  show jInv (js0 S 9 _ (10 + k))
  rw [js0_H]; exact i3 k hk
section RD
variable {σ : jm_S} {S : jSt}
theorem jClr {σ : jm_S} {n : Nat} {f : Nat → Nat} (h : jRn σ 283 n f) : jb_Ev 13 [.ref (283 : Nat)] (jm_hp σ) = some (none, jm_hp (jm_up σ 283 1 (jI 0))) ∧ jRn (jm_up σ 283 1 (jI 0)) 283 0 f ∧ jA 283 284 σ (jm_up σ 283 1 (jI 0)) := ⟨jt_Row_clear_0 jc_283, ⟨jc_283, Nat.zero_le _, jm_up_same _ _ _ _, fun k hk => absurd hk (Nat.not_lt_zero _)⟩, fun a b hab => jm_up_o _ _ (by omega)⟩
theorem o_read (hC : JC σ S) (hM : JM σ S) (hI : JI S) : jOp σ 244 247 [] := by
  obtain ⟨i1, ⟨i2, i3⟩, i4, i5, ⟨i6, i7⟩, i8, i9, i10, i11⟩ := id hI
  have ht : jtx (S 9 3) (S 3) := ⟨i6, i7⟩
  obtain ⟨c1, c2, ⟨c3, c4⟩, ⟨c5, c6, c7⟩, c8, c9⟩ := id hC
  obtain ⟨σ1, e1, W1, A1⟩ := jText_findFault c6 ht
  have hlen := jpZ_len (n := S 9 3) (t := S 3) 13 0
  have hq90 := jpZ_q (n := S 9 3) (t := S 3) i6 13 0
  have hok := jpZ_ok (n := S 9 3) (t := S 3) 13 0
  have hMr (τ : jm_S) (hτ : JM τ S) := jM_readsAll hτ.2.2.2.2.1.1 hτ.2.2.2.2.1.2 ht
  have hE : jb_Ev 244 [.ref (0 : Nat)] (jm_hp σ) = jb_Ex 244 (7, [.ref (0 : Nat), .retAddr 0, .retAddr 0], [.int (jZi (jpZ (jtu (S 9 3) (S 3)) (S 9 3) 13 0).1)], jm_hp σ1) := by
    rw [jt_D_read_0, e1, jb_K_v]
  generalize jpZ (jtu (S 9 3) (S 3)) (S 9 3) 13 0 = Z at *
  obtain ⟨Z1, L⟩ := Z
  dsimp only at *
  cases Z1 with
  | some q =>
    have hq := hq90 q (Nat.zero_le _) rfl
    obtain ⟨k1, k2, k3⟩ := jClr (σ := jm_up σ1 0 16 (jI q)) (n := S 9 3) (f := S 3) (jR.eq (c6.A A1 (by omega)) (jm_up_o _ _ (by omega)) (fun k _ => jm_up_o _ _ (by omega)))
    have fr : ∀ a b, ¬ (a = 0 ∧ b = 16 ∨ a = 283 ∨ 285 ≤ a ∧ a < 291) → (jm_up (jm_up σ1 0 16 (jI q)) 283 1 (jI 0)) a b = σ a b := fun a b hab => by
      rw [k3 a b (by omega)]
      unfold jm_up
      rw [if_neg (by omega), A1 a b (by omega)]
    have hE2 : jb_Ev 244 [.ref (0 : Nat)] (jm_hp σ) = some (some (.int (-2)), jm_hp (jm_up (jm_up σ1 0 16 (jI q)) 283 1 (jI 0))) := by
      rw [hE, jt_D_read_7, jZi_s, if_neg (fun z => (jI_m1 (by omega)).mp z)]
      show jb_K (jb_Ev 13 [.ref (283 : Nat)] (jm_hp (jm_up σ1 0 16 (jI q)))) _ = _
      rw [k1, jb_K_n]
      exact jt_D_read_28
    have h16 : (jm_up (jm_up σ1 0 16 (jI q)) 283 1 (jI 0)) 0 16 = jI q := by rw [jm_up_o _ _ (by omega), jm_up_same]
    generalize jm_up (jm_up σ1 0 16 (jI q)) 283 1 (jI 0) = σ2 at *
    have A2 : jcQ σ σ2 := fr
    refine jOp_of (S' := jrB S q) (v := .int (-2)) hM ⟨σ2, hE2, ?_, fun a b hab => fr a b (by omega)⟩ (fun τ hτ => ?_) ?_
    · refine ⟨c1.Q A2 (by omega), jrH (c2.Q A2 i2), ⟨(fr _ _ (by omega)).trans c3, fun z => (c4 z).Q A2 (by omega)⟩, ⟨c5.Q A2 (by omega), k2, c7.Q A2 (by omega)⟩, ?_, h16⟩
      unfold jCR at c8 ⊢
      rw [fr 278 0 (by omega), fr 278 1 (by omega), fr 278 2 (by omega), fr 278 3 (by omega)]
      exact c8
    · obtain ⟨τ1, g1, g2, g3, g4, g5, g6⟩ := hMr τ hτ
      refine ⟨jm_up τ1 307 10 (jI q), ?_, ?_, fun a b hab => by rw [jm_up_o _ _ (by omega), g2 a b (by omega)]⟩
      · rw [jt_M_read_0, g1, jb_K_n]
        refine Eq.trans jt_M_read_4 ?_
        rw [g4, jZi_s, if_neg (fun z => (jI_m1 (by omega)).mp z)]
      · have fm : ∀ a b, ¬ (a = 320 ∨ a = 307 ∧ (b = 10 ∨ b = 14 ∨ b = 26 ∨ b = 27 ∨ b = 28 ∨ b = 29)) → (jm_up τ1 307 10 (jI q)) a b = τ a b := fun a b hab => by
          unfold jm_up
          rw [if_neg (by omega), g2 a b (by omega)]
        obtain ⟨m1, ⟨m2, m2'⟩, ⟨m3, m4⟩, ⟨m5, m6⟩, ⟨m7, m8⟩, ⟨m9, m10⟩, m11, m12⟩ := id hτ
        refine ⟨fun j hj => (fm _ _ (by omega)).trans (m1 j hj), ⟨(fm _ _ (by omega)).trans m2, fun k j hk hj => ?_⟩, ⟨(fm _ _ (by omega)).trans m3, fun z j hj => (fm _ _ (by omega)).trans (m4 z j hj)⟩, ⟨(fm _ _ (by omega)).trans m5, fun j hj => (fm _ _ (by omega)).trans (m6 j hj)⟩, ⟨?_, fun j hj => absurd hj (Nat.not_lt_zero _)⟩, ⟨(fm _ _ (by omega)).trans m9, fun j hj => (fm _ _ (by omega)).trans (m10 j hj)⟩, ?_, jm_up_same _ _ _ _⟩
        · show _ = jI (js0 S 9 _ (10 + k) j)
          rw [js0_H]
          exact (fm _ _ (by omega)).trans (m2' k j hk hj)
        · rw [jm_up_j _ _ (by decide)]; exact g3
        · unfold jMR at m11 ⊢
          rw [fm 307 6 (by omega), fm 307 7 (by omega), fm 307 8 (by omega), fm 307 9 (by omega)]
          exact m11
    · refine ⟨i1, ⟨i2, fun k hk => ?_⟩, i4, i5, ⟨Nat.zero_le _, fun k hk => absurd hk (Nat.not_lt_zero _)⟩, i8, i9, i10, ?_⟩
      · show jInv (js0 S 9 _ (10 + k))
        rw [js0_H]; exact i3 k hk
      · show q + 1 ≤ 100
        omega
  | none =>
    have V1 := c1.A A1 (by omega)
    obtain ⟨σ2, e2, v2, A2⟩ := jV_take (v := 26) (u := 1) jc_26 jc_1 (by omega) V1
    obtain ⟨hO, hri⟩ := jC_runL ht (show L.length < 1000 by omega) hok L.length 0 σ2 (S 0) (.retAddr 0) (by omega) (V1.A A2 (by omega)) i1 v2 ((c6.A A1 (by omega)).A A2 (by omega)) ⟨W1.1.A A2 (by omega), W1.2.1.A A2 (by omega), W1.2.2.A A2 (by omega)⟩
    rw [List.drop_zero] at hO hri
    have hE2 : jb_Ev 244 [.ref (0 : Nat)] (jm_hp σ) = jb_K (jb_Ex 240 (2, [.ref (0 : Nat), .int (jI 0), .retAddr 0], [], jm_hp σ2)) (fun v h => jb_Ex 244 (46, [.ref (0 : Nat), .int (-1), .retAddr 0], v.toList ++ [], h)) := by
      rw [hE, jt_D_read_7, jZi_n, if_pos rfl, e2, jb_K_n]
      refine Eq.trans jt_D_read_42 ?_
      rw [jt_D_performAll_0]
    have hMO : ∀ τ, JM τ S → ∃ τ2, jb_Ev 247 [.ref (307 : Nat)] (jm_hp τ) = jb_Ex 247 (29, [.ref (307 : Nat), .int (jI 0), .retAddr 0, .retAddr 0], [], jm_hp τ2) ∧ jmO' (S 0) L.length (fun k => jrS S (10 + k)) (S 9 1) τ2 (jrn (jtu (S 9 3) (S 3)) L 0 (S 0)) (jb_Ex 247 (29, [.ref (307 : Nat), .int (jI 0), .retAddr 0, .retAddr 0], [], jm_hp τ2)) ∧ (∀ a b, ¬ (a = 309 ∨ a = 320 ∨ a = 307 ∧ (b = 14 ∨ b = 17 ∨ b = 26 ∨ b = 27 ∨ b = 28 ∨ b = 29)) → τ2 a b = τ a b) ∧ τ2 307 14 = jI 0 := by
      intro τ hτ
      obtain ⟨τ1, g1, g2, g3, g4, g5, g6⟩ := hMr τ hτ
      obtain ⟨m1, ⟨m2, m2'⟩, ⟨m3, m4⟩, ⟨m5, m6⟩, ⟨m7, m8⟩, ⟨m9, m10⟩, m11, m12⟩ := id hτ
      obtain ⟨g7, g8⟩ := g6 rfl
      obtain ⟨τ2, e3, b3, s3, f3⟩ := jM_starts (w := S 0) (σ := τ1) (fun j hj => (g2 _ _ (by omega)).trans (m1 j hj))
      have fm : ∀ a b, ¬ (a = 309 ∨ a = 320 ∨ a = 307 ∧ (b = 14 ∨ b = 17 ∨ b = 26 ∨ b = 27 ∨ b = 28 ∨ b = 29)) → τ2 a b = τ a b := fun a b hab => by rw [f3 a b (by omega), g2 a b (by omega)]
      have hrun := jM_runL (w0 := S 0) (H := fun k => jrS S (10 + k)) (h := S 9 1) i2 ht (show L.length < 30 by omega) hok L.length 0 τ2 (S 0) (.retAddr 0) (.retAddr 0) (by omega) (fun j hj => (fm _ _ (by omega)).trans (m1 j hj)) i1 b3 s3 (by rw [f3 _ _ (by omega)]; exact g7) (fun j hj => (fm _ _ (by omega)).trans (m8 j hj)) ⟨(fm _ _ (by omega)).trans m2, fun k j hk hj => by
        show _ = jI (js0 S 9 _ (10 + k) j)
        rw [js0_H]
        exact (fm _ _ (by omega)).trans (m2' k j hk hj)⟩ (fun i hi => ⟨by rw [f3 _ _ (by omega)]; exact (g8 i hi).1, (g8 i hi).2.mv (fun j j1 j2 => f3 _ _ (by omega))⟩) (by rw [List.drop_zero]; exact hri)
      rw [List.drop_zero] at hrun
      refine ⟨τ2, ?_, hrun, fm, by rw [f3 _ _ (by omega)]; exact g3⟩
      rw [jt_M_read_0, g1, jb_K_n]
      refine Eq.trans jt_M_read_4 ?_
      rw [g4, jZi_n, if_pos rfl, e3, jb_K_n]
      exact jt_M_read_27
    generalize jrn (jtu (S 9 3) (S 3)) L 0 (S 0) = r at *
    have c4b : S 9 0 ≠ 0 → jV σ2 51 (S 1) := fun z => ((c4 z).A A1 (by omega)).A A2 (by omega)
    cases r with
    | inl w' =>
      obtain ⟨σ3, e3, hw', v3, F3, f278⟩ := hO
      obtain ⟨k1, k2, k3⟩ := jClr (σ := σ3) (n := S 9 3) (f := S 3) (((c6.A A1 (by omega)).A A2 (by omega)).k (P := fun q => 1 ≤ q ∧ q < 26 ∨ q = 278 ∨ 295 ≤ q ∧ q < 297) F3 (by omega) (by omega))
      generalize jm_up σ3 283 1 (jI 0) = σ4 at *
      have T4 : ∀ a b, ¬ (1 ≤ a ∧ a < 51 ∨ a = 278 ∨ a = 283 ∨ 285 ≤ a ∧ a < 291 ∨ 295 ≤ a ∧ a < 297) → σ4 a b = σ a b := fun a b hab => by rw [k3 a b (by omega), F3 a b (by omega), A2 a b (by omega), A1 a b (by omega)]
      have cH4 : jCH σ4 (S 9 1) (fun k => jrS S (10 + k)) := jrH (c2.fr (fun a b hab => T4 a b (by omega)) i2)
      have v26 : jV σ4 26 (S 0) := v2.fr (fun a b hab => by rw [k3 a b (by omega), F3 a b (by omega)]) (by omega)
      obtain ⟨σ5, e5, cH5, A5⟩ := jsettled_ok (a := L.length) (by omega) i2 cH4 v26
      have T5 : ∀ a b, ¬ (1 ≤ a ∧ a < 51 ∨ 76 ≤ a ∧ a < 279 ∨ a = 283 ∨ 285 ≤ a ∧ a < 291 ∨ 295 ≤ a ∧ a < 297) → σ5 a b = σ a b := fun a b hab => by rw [A5 a b (by omega), T4 a b (by omega)]
      have T278 : ∀ j, σ5 278 j = σ 278 j := fun j => by rw [A5 _ _ (by omega), k3 _ _ (by omega), f278 j, A2 _ _ (by omega), A1 _ _ (by omega)]
      refine jOp_of (S' := jpush (jrS S) w') (v := .int (jI L.length)) hM ⟨σ5, ?_, ?_, fun a b hab => T5 a b (by omega)⟩ (fun τ hτ => ?_) (JI_push (jrS_I hI) hw')
      · rw [hE2, e3, jb_K_v]
        refine Eq.trans jt_D_read_46 ?_
        rw [k1, jb_K_n]
        refine Eq.trans jt_D_read_57 ?_
        rw [e5, jb_K_v]
        exact jt_D_read_62
      · refine ⟨(v3.A k3 (by omega)).A A5 (by omega), cH5.congr (jpn_le i2) (fun k hk => (jpush_H (jrS S) w' hk).symm), ⟨(T5 _ _ (by omega)).trans c3, fun z => (c4b z).fr (fun a b hab => by rw [A5 a b (by omega), k3 a b (by omega), F3 a b (by omega)]) (by omega)⟩, ⟨c5.mv (fun a b h1 h2 => T5 a b (by omega)) rfl (fun _ _ => rfl), k2.A A5 (by omega), c7.mv (fun a b h1 h2 => T5 a b (by omega)) rfl (fun _ _ => rfl)⟩, ?_, (T5 _ _ (by omega)).trans c9⟩
        unfold jCR at c8 ⊢
        rw [T278, T278, T278, T278]
        exact c8
      · obtain ⟨τ2, h1, ⟨τ3, h2, h3, h4, h5, h6⟩, h7, h8⟩ := hMO τ hτ
        obtain ⟨m1, ⟨m2, m2'⟩, ⟨m3, m4⟩, ⟨m5, m6⟩, ⟨m7, m8⟩, ⟨m9, m10⟩, m11, m12⟩ := id hτ
        have fm : ∀ a b, ¬ (a = 308 ∨ a = 309 ∨ a = 311 ∨ a = 315 ∨ a = 320 ∨ a = 307 ∧ (5 ≤ b ∧ b ≤ 9 ∨ b = 14 ∨ b = 17 ∨ b = 18 ∨ b = 20 ∨ 26 ≤ b)) → τ3 a b = τ a b := fun a b hab => by rw [h5 a b (by omega), h7 a b (by omega)]
        refine ⟨τ3, h1.trans h2, ?_, fun a b hab => fm a b (by omega)⟩
        refine ⟨h3, h4.congr (jpn_le i2) (fun k hk => (jpush_H (jrS S) w' hk).symm), ⟨(fm _ _ (by omega)).trans m3, fun z j hj => (fm _ _ (by omega)).trans (m4 z j hj)⟩, ⟨(fm _ _ (by omega)).trans m5, fun j hj => (fm _ _ (by omega)).trans (m6 j hj)⟩, ⟨by rw [h5 _ _ (by omega)]; exact h8, fun j hj => absurd hj (Nat.not_lt_zero _)⟩, ⟨(fm _ _ (by omega)).trans m9, fun j hj => (fm _ _ (by omega)).trans (m10 j hj)⟩, ?_, (fm _ _ (by omega)).trans m12⟩
        have f6 : ∀ j, 6 ≤ j → j ≤ 9 → τ3 307 j = τ 307 j := fun j j1 j2 => by rw [h6 j j1 j2, h7 _ _ (by omega)]
        unfold jMR at m11 ⊢
        rw [f6 6 (by omega) (by omega), f6 7 (by omega) (by omega), f6 8 (by omega) (by omega), f6 9 (by omega) (by omega)]
        exact m11
    | inr p =>
      obtain ⟨k, y, z⟩ := p
      obtain ⟨σ3, e3, y7, v3, F3, r0, r1, r2, r3⟩ := hO
      obtain ⟨k1, k2, k3⟩ := jClr (σ := σ3) (n := S 9 3) (f := S 3) (((c6.A A1 (by omega)).A A2 (by omega)).k (P := fun q => 1 ≤ q ∧ q < 26 ∨ q = 278 ∨ 295 ≤ q ∧ q < 297) F3 (by omega) (by omega))
      generalize jm_up σ3 283 1 (jI 0) = σ4 at *
      have T4 : ∀ a b, ¬ (1 ≤ a ∧ a < 51 ∨ a = 278 ∨ a = 283 ∨ 285 ≤ a ∧ a < 291 ∨ 295 ≤ a ∧ a < 297) → σ4 a b = σ a b := fun a b hab => by rw [k3 a b (by omega), F3 a b (by omega), A2 a b (by omega), A1 a b (by omega)]
      have cH4 : jCH σ4 (S 9 1) (fun k => S (10 + k)) := c2.fr (fun a b hab => T4 a b (by omega)) i2
      have e5 := jsettled_no (σ := σ4) (show (-5 : Int32) < 0 by decide)
      refine jOp_of (S' := jrR S k y z) (v := .int (-5)) hM ⟨σ4, ?_, ?_, fun a b hab => T4 a b (by omega)⟩ (fun τ hτ => ?_) ?_
      · rw [hE2, e3, jb_K_v]
        refine Eq.trans jt_D_read_46 ?_
        rw [k1, jb_K_n]
        refine Eq.trans jt_D_read_57 ?_
        rw [e5, jb_K_v]
        exact jt_D_read_62
      · refine ⟨v3.A k3 (by omega), jrH cH4, ⟨(T4 _ _ (by omega)).trans c3, fun z => (c4b z).fr (fun a b hab => by rw [k3 a b (by omega), F3 a b (by omega)]) (by omega)⟩, ⟨c5.mv (fun a b h1 h2 => T4 a b (by omega)) rfl (fun _ _ => rfl), k2, c7.mv (fun a b h1 h2 => T4 a b (by omega)) rfl (fun _ _ => rfl)⟩, ?_, (T4 _ _ (by omega)).trans c9⟩
        have q (j : Nat) : σ4 278 j = σ3 278 j := k3 _ _ (by omega)
        refine ⟨fun z => absurd z (show ¬ (7 : Nat) = 0 by decide), fun _ => ⟨by rw [q, r0]; rfl, by rw [q, r1]; rfl, fun h => ?_, fun h => ?_⟩⟩
        · rw [q, q]; exact r2 h
        · rw [q, q]; exact r3 h
      · obtain ⟨τ2, h1, ⟨τ3, h2, h3, h5, h5b, h5c, h6, h6b, h6c, h6d⟩, h7, h8⟩ := hMO τ hτ
        obtain ⟨m1, ⟨m2, m2'⟩, ⟨m3, m4⟩, ⟨m5, m6⟩, ⟨m7, m8⟩, ⟨m9, m10⟩, m11, m12⟩ := id hτ
        have fm : ∀ a b, ¬ (a = 308 ∨ a = 309 ∨ a = 311 ∨ a = 315 ∨ a = 320 ∨ a = 307 ∧ (5 ≤ b ∧ b ≤ 9 ∨ b = 14 ∨ b = 17 ∨ b = 18 ∨ b = 20 ∨ 26 ≤ b)) → τ3 a b = τ a b := fun a b hab => by rw [h5 a b (by omega), h7 a b (by omega)]
        refine ⟨τ3, h1.trans h2, ?_, fun a b hab => fm a b (by omega)⟩
        refine ⟨h3, ⟨by rw [h5b, h7 _ _ (by omega)]; exact m2, fun i j hi hj => ?_⟩, ⟨(fm _ _ (by omega)).trans m3, fun z j hj => (fm _ _ (by omega)).trans (m4 z j hj)⟩, ⟨(fm _ _ (by omega)).trans m5, fun j hj => (fm _ _ (by omega)).trans (m6 j hj)⟩, ⟨by rw [h5 _ _ (by omega)]; exact h8, fun j hj => absurd hj (Nat.not_lt_zero _)⟩, ⟨(fm _ _ (by omega)).trans m9, fun j hj => (fm _ _ (by omega)).trans (m10 j hj)⟩, ⟨h6, fun _ => ⟨h6b, h6c, h6d⟩⟩, (fm _ _ (by omega)).trans m12⟩
        show _ = jI (js0 S 9 _ (10 + i) j)
        rw [js0_H, h5c, h7 _ _ (by omega)]
        exact m2' i j hi hj
      · refine ⟨i1, ⟨i2, fun k hk => ?_⟩, i4, i5, ⟨Nat.zero_le _, fun k hk => absurd hk (Nat.not_lt_zero _)⟩, i8, ?_, y7, i11⟩
        · show jInv (js0 S 9 _ (10 + k))
          rw [js0_H]; exact i3 k hk
        · show (7 : Nat) ≤ 7
          omega
end RD
