/-! ===== the plain form: the text in commands ===== -/
theorem jnm_0 : ∀ c < 8, ∀ f ∈ jnm c, f ≠ 0 := by decide +kernel
theorem jrst_len : ∀ c < 8, (jrst c).length + jnl c = jln c := by decide +kernel
theorem jnB.mv {u : Nat → Nat} {s e w k : Nat} {σ σ' : jm_S} (h : jnB u s e w k σ) (hf : ∀ j, 4 * k < j → j ≤ 4 * k + 3 → σ' 320 j = σ 320 j) : jnB u s e w k σ' := by
  unfold jnB at h ⊢
  rw [hf (4 * k + 1) (by omega) (by omega), hf (4 * k + 2) (by omega) (by omega), hf (4 * k + 3) (by omega) (by omega)]
  exact h
def jcF (m : Nat) (σ σ' : jm_S) : Prop := ∀ q j, ¬ (q = 320 ∧ 4 * m ≤ j ∨ q = 307 ∧ (j = 27 ∨ j = 28 ∨ j = 29)) → σ' q j = σ q j
theorem jcF.rf {k : Nat} {σ : jm_S} : jcF k σ σ := fun _ _ _ => rfl
theorem jcF.tr {k k' : Nat} {σ σ' σ'' : jm_S} (h : jcF k σ σ') (h' : jcF k' σ' σ'') (hk : k ≤ k') : jcF k σ σ'' := fun q j x => (h' q j (by omega)).trans (h q j x)
theorem jcF.u {k : Nat} {σ σ' : jm_S} (h : jcF k σ σ') {q j : Nat} {x : Int32} (hq : q = 320 ∧ 4 * k ≤ j ∨ q = 307 ∧ (j = 27 ∨ j = 28 ∨ j = 29)) : jcF k σ (jm_up σ' q j x) := by
  intro a b hab
  unfold jm_up
  rw [if_neg (fun z => hab (by rw [z.1, z.2]; exact hq))]
  exact h a b hab
theorem jMt.v {σ : jm_S} {n p j : Nat} {t : Nat → Nat} {x : Int32} (h : jMt σ n t p) (hj : j = 29) : jMt (jm_up σ 307 j x) n t p := by
  obtain ⟨h1, h2, h4, h3⟩ := h
  refine ⟨?_, ?_, ?_, fun k hk => ?_⟩
  · unfold jm_up; rw [if_neg (by omega)]; exact h1
  · unfold jm_up; rw [if_neg (by omega)]; exact h2
  · unfold jm_up; rw [if_neg (by omega)]; exact h4
  · unfold jm_up; rw [if_neg (by omega)]; exact h3 k hk
/-- the numbers of all commands -/
def jnA (u : Nat → Nat) (L : List (Nat × Nat × Nat)) (m : Nat) (σ : jm_S) : Prop := ∀ i, i < L.length → σ 320 (4 * (m + i)) = jI (jLz L i).1 ∧ jnB u (jLz L i).2.1 (jLz L i).2.2 (jLz L i).1 (m + i) σ
section MA
variable {n : Nat} {t : Nat → Nat}
theorem jM_command {σ : jm_S} {s k : Nat} (hM : jMt σ n t s) (ht : jtx n t) (hs : s ≤ n) (hk : k < 30) (h29 : σ 307 29 = jI k) : ∃ σ', jb_Ev 234 [.ref (307 : Nat)] (jm_hp σ) = some (none, jm_hp σ') ∧ jcF k σ σ' ∧ σ' 307 29 = jI (k + 1) ∧ ((jcm (jtu n t) s < 8 ∧ σ' 307 28 = -1 ∧ σ' 307 27 = jI (jen (jtu n t) n s (jcm (jtu n t) s)) ∧ σ' 320 (4 * k) = jI (jcm (jtu n t) s) ∧ jnB (jtu n t) s (jen (jtu n t) n s (jcm (jtu n t) s)) (jcm (jtu n t) s) k σ') ∨ (jcm (jtu n t) s = 8 ∧ s + jlm (jtu n t) s < 1000 ∧ σ' 307 28 = jI (s + jlm (jtu n t) s))) := by
  have h60 := ht.1
  have hmul : jI 4 * σ 307 29 = jI (4 * k) := by rw [h29, jI_mul]
  rw [jt_M_readsCommand_0, hmul]
  rcases jM_kindHere hM ht (by omega) with ⟨w, w1, w2, w3⟩ | ⟨w1, w2, w3⟩
  · rw [w3, jb_K_v]
    have hb := jnl_b w w1
    have hin : s + jnl w ≤ n := by
      have := jmt_in n t (jnm w) s (jnm_0 w w1)
      rw [w2] at this; omega
    have hM2 : jMt (jm_up (jm_up (jm_up σ 307 27 (jI (s + jnl w))) 320 (4 * k) (jI w)) 307 29 (jI (k + 1))) n t (s + jnl w) := ((hM.nx (s + jnl w)).u).v rfl
    obtain ⟨σ', e, f, g⟩ := jM_rest w1 hM2 ht hin hk
    have hx : jb_Ex 234 (11, [.ref (307 : Nat), .int (jI (4 * k)), .retAddr 0], [.int (jI w)], jm_hp (jm_up σ 307 27 (jI (s + jnl w)))) = some (none, jm_hp σ') := by
      rw [jt_M_readsCommand_11, if_pos ((jx_I (by omega)).mpr (by omega)), jI_cl (by omega)]
      rw [show (jm_up (jm_up σ 307 27 (jI (s + jnl w))) 320 (4 * k) (jI w)) 307 29 = jI k by rw [jm_up_o _ _ (by omega), jm_up_j _ _ (show (29 : Nat) ≠ 27 by decide)]; exact h29, jI_add, if_pos hM2.2.2.1, e, jb_K_n]
      exact jt_M_readsCommand_43
    have hrl := jrst_len w w1
    have hjn := jcm_name w1 w2
    have hfm := jmt_name w1 (jtu n t) s
    rw [if_pos w2] at hfm
    have h4k : σ' 320 (4 * k) = jI w := by rw [f _ _ (by omega), jm_up_o _ _ (by omega), jm_up_same]
    refine ⟨σ', hx, (((jcF.rf.u (by omega)).u (by omega)).u (by omega)).tr (fun q j z => f q j (by omega)) (Nat.le_refl _), by rw [f _ _ (by omega), jm_up_same], ?_⟩
    rcases g with ⟨g1, g2, g3, g4⟩ | ⟨g1, g2⟩
    · have hc := hjn.1 (by omega)
      rw [hc]
      exact Or.inl ⟨w1, g2, g3, h4k, g4⟩
    · obtain ⟨hc, hl⟩ := hjn.2 (by omega)
      have hle := jmt_le (jfm w) (jtu n t) s
      rw [jfm_ln w1] at hle
      have hlb := jln_b w
      refine Or.inr ⟨hc, by omega, ?_⟩
      rw [g2, hl, hfm, Nat.add_assoc]
  · rw [w3, jb_K_v]
    obtain ⟨c1, c2⟩ := jcm_none w1
    refine ⟨jm_up (jm_up (jm_up (jm_up σ 307 28 (jI (jfar (jtu n t) s))) 307 27 (jI s)) 320 (4 * k) (-1)) 307 29 (jI (k + 1)), ?_, (((jcF.rf.u (by omega)).u (by omega)).u (by omega)).u (by omega), jm_up_same _ _ _ _, Or.inr ⟨c1, ?_, ?_⟩⟩
    · refine Eq.trans jt_M_readsCommand_11 ?_
      rw [if_pos ((jx_I (by omega)).mpr (by omega)), jI_cl (by omega)]
      rw [show (jm_up (jm_up (jm_up σ 307 28 (jI (jfar (jtu n t) s))) 307 27 (jI s)) 320 (4 * k) (-1)) 307 29 = jI k by rw [jm_up_o _ _ (by omega), jm_up_j _ _ (show (29 : Nat) ≠ 27 by decide), jm_up_j _ _ (show (29 : Nat) ≠ 28 by decide)]; exact h29, jI_add]
      rw [if_neg]
      · exact jt_M_readsCommand_43
      · rw [jm_up_j _ _ (show (28 : Nat) ≠ 29 by decide), jm_up_o _ _ (by omega), jm_up_j _ _ (show (28 : Nat) ≠ 27 by decide), jm_up_same]
        exact fun z => (jI_m1 (by omega)).mp z
    · have : jlm (jtu n t) s ≤ 8 := by
        have hx : ∀ c < 8, jmt (jfm c) (jtu n t) s ≤ 8 := by
          intro c hc
          have h1 := jmt_le (jfm c) (jtu n t) s
          rw [jfm_ln hc] at h1
          have := jln_b c; omega
        have a0 := hx 0 (by omega); have a1 := hx 1 (by omega); have a2 := hx 2 (by omega); have a3 := hx 3 (by omega); have a4 := hx 4 (by omega); have a5 := hx 5 (by omega); have a6 := hx 6 (by omega); have a7 := hx 7 (by omega)
        unfold jlm
        simp only [jmx_max]
        omega
      omega
    · rw [jm_up_j _ _ (show (28 : Nat) ≠ 29 by decide), jm_up_o _ _ (by omega), jm_up_j _ _ (show (28 : Nat) ≠ 27 by decide), jm_up_same, c2]
theorem jM_allL (ht : jtx n t) : ∀ (k many s : Nat) (σ : jm_S), many + k = 13 → 5 * many ≤ s → s ≤ n → jMt σ n t s → σ 307 29 = jI many → ∃ σ1, jb_Ev 234 [.ref (307 : Nat)] (jm_hp σ) = some (none, jm_hp σ1) ∧ ∀ u1, ∃ σ', jb_Ex 243 (32, [.ref (307 : Nat), u1], [], jm_hp σ1) = some (none, jm_hp σ') ∧ jcF many σ σ' ∧ σ' 307 28 = jZi (jpZ (jtu n t) n k s).1 ∧ (∀ q, (jpZ (jtu n t) n k s).1 = some q → q < 1000) ∧ ((jpZ (jtu n t) n k s).1 = none → σ' 307 29 = jI (many + (jpZ (jtu n t) n k s).2.length) ∧ jnA (jtu n t) (jpZ (jtu n t) n k s).2 many σ')
  | 0, many, s, σ, hk, h5, hs, hM, h29 => by have := ht.1; omega
  | k + 1, many, s, σ, hk, h5, hs, hM, h29 => by
    have h60 := ht.1
    obtain ⟨σ1, e1, f1, g1, hc⟩ := jM_command hM ht hs (by omega) h29
    refine ⟨σ1, e1, fun u1 => ?_⟩
    rw [jpZ]
    rcases hc with ⟨h8, a1, a2, a3, a4⟩ | ⟨h8, hb, a1⟩
    · have hm := (jcm_cases (jtu n t) s).resolve_left (by omega)
      obtain ⟨b1, b2, b3⟩ := jcm_in h8 hm.2
      have hlb := jln_b (jcm (jtu n t) s)
      rw [if_neg (show jcm (jtu n t) s ≠ 8 by omega)]
      generalize jcm (jtu n t) s = c at *
      generalize jen (jtu n t) n s c = e at *
      have h26 : σ1 307 26 = jI n := by rw [f1 _ _ (by omega)]; exact hM.1
      have hM1 : jMt σ1 n t e := ⟨h26, a2, a1, fun j hj => by rw [f1 _ _ (by omega)]; exact hM.2.2.2 j hj⟩
      have h0 : jb_Ex 243 (32, [.ref (307 : Nat), u1], [], jm_hp σ1) = _ := jt_M_readsAll_32
      rw [if_pos a1, h26, a2] at h0
      by_cases he : n ≤ e
      · rw [if_pos ((jI_le (by omega) (by omega)).mpr he)] at h0
        rw [if_pos he]
        refine ⟨σ1, h0, f1, a1, fun q hq => (by cases hq), fun _ => ⟨g1, fun i hi => ?_⟩⟩
        have : i = 0 := by simp only [List.length_cons, List.length_nil] at hi; omega
        subst this
        exact ⟨a3, a4⟩
      · rw [if_neg (by rw [jI_le (by omega) (by omega)]; exact he)] at h0
        rw [if_neg he]
        rcases jM_reads hM1 ht (by omega) (l := 59) (h := 59) (by omega) with ⟨r0, r1, r2, r3⟩ | ⟨r1, r3⟩
        · rw [if_pos (show jtu n t e = 59 by omega)]
          rw [r3, jb_K_v] at h0
          have hM2 := hM1.nx (e + 1)
          obtain ⟨σ2, e2, g2⟩ := jM_allL ht k (many + 1) (e + 1) (jm_up σ1 307 27 (jI (e + 1))) (by omega) (by omega) (by omega) hM2 (by rw [jm_up_j _ _ (show (29 : Nat) ≠ 27 by decide)]; exact g1)
          obtain ⟨σ', k1, k2, k3, k3', k4⟩ := g2 (.int (jI (jtu n t e - 59)))
          refine ⟨σ', ?_, (f1.u (by omega)).tr k2 (by omega), k3, k3', fun hz => ?_⟩
          · refine h0.trans ?_
            refine Eq.trans jt_M_readsAll_59 ?_
            rw [if_pos hM2.2.2.1, e2, jb_K_n]
            exact Eq.trans jt_M_readsAll_72 k1
          · obtain ⟨m1, m2⟩ := k4 hz
            refine ⟨?_, fun i hi => ?_⟩
            · rw [m1, List.length_cons]; congr 1; omega
            · cases i with
              | zero =>
                refine ⟨?_, ?_⟩
                · show σ' 320 (4 * (many + 0)) = jI c
                  rw [k2 _ _ (by omega), jm_up_o _ _ (by omega)]; exact a3
                · show jnB (jtu n t) s e c (many + 0) σ'
                  exact jnB.mv a4 (fun j j1 j2 => by rw [k2 _ _ (by omega), jm_up_o _ _ (by omega)])
              | succ i =>
                have hi2 : i < (jpZ (jtu n t) n k (e + 1)).2.length := by simp only [List.length_cons] at hi; omega
                have := m2 i hi2
                rw [show many + 1 + i = many + (i + 1) by omega] at this
                exact this
        · rw [if_neg (show ¬ jtu n t e = 59 by omega)]
          rw [r3, jb_K_v] at h0
          refine ⟨jm_up σ1 307 28 (jI e), ?_, f1.u (by omega), jm_up_same _ _ _ _, fun q hq => ?_, fun hz => (by cases hz)⟩
          · refine h0.trans ?_
            refine Eq.trans jt_M_readsAll_59 ?_
            rw [jm_up_same, if_neg (fun z => (jI_m1 (by omega)).mp z), jt_M_readsAll_72, jt_M_readsAll_32, jm_up_same, if_neg (fun z => (jI_m1 (by omega)).mp z)]
          · cases hq; omega
    · rw [if_pos h8]
      refine ⟨σ1, ?_, f1, a1, fun q hq => ?_, fun hz => (by cases hz)⟩
      · rw [jt_M_readsAll_32, a1, if_neg (fun z => (jI_m1 (by omega)).mp z)]
      · cases hq; exact hb
theorem jM_readsAll {σ : jm_S} (h14 : σ 307 14 = jI n) (hA : jAr σ 313 n t) (ht : jtx n t) : ∃ σ', jb_Ev 243 [.ref (307 : Nat)] (jm_hp σ) = some (none, jm_hp σ') ∧ (∀ q j, ¬ (q = 320 ∨ q = 307 ∧ (j = 14 ∨ j = 26 ∨ j = 27 ∨ j = 28 ∨ j = 29)) → σ' q j = σ q j) ∧ σ' 307 14 = jI 0 ∧ σ' 307 28 = jZi (jpZ (jtu n t) n 13 0).1 ∧ (∀ q, (jpZ (jtu n t) n 13 0).1 = some q → q < 1000) ∧ ((jpZ (jtu n t) n 13 0).1 = none → σ' 307 29 = jI (jpZ (jtu n t) n 13 0).2.length ∧ jnA (jtu n t) (jpZ (jtu n t) n 13 0).2 0 σ') := by
  have hM : jMt (jm_up (jm_up (jm_up (jm_up (jm_up σ 307 26 (jI n)) 307 14 (jI 0)) 307 27 (jI 0)) 307 28 (-1)) 307 29 (jI 0)) n t 0 := by
    refine ⟨?_, ?_, ?_, fun j hj => ?_⟩
    · rw [jm_up_j _ _ (by decide), jm_up_j _ _ (by decide), jm_up_j _ _ (by decide), jm_up_j _ _ (by decide), jm_up_same]
    · rw [jm_up_j _ _ (by decide), jm_up_j _ _ (by decide), jm_up_same]
    · rw [jm_up_j _ _ (by decide), jm_up_same]
    · rw [jm_up_o _ _ (by omega), jm_up_o _ _ (by omega), jm_up_o _ _ (by omega), jm_up_o _ _ (by omega), jm_up_o _ _ (by omega)]; exact hA j hj
  obtain ⟨σ1, e1, g1⟩ := jM_allL ht 13 0 0 _ (by omega) (by omega) (Nat.zero_le _) hM (jm_up_same _ _ _ _)
  obtain ⟨σ', k1, k2, k3, k3', k4⟩ := g1 (.retAddr 0)
  refine ⟨σ', ?_, fun q j hq => ?_, ?_, k3, k3', fun hz => ?_⟩
  · rw [jt_M_readsAll_0, h14, e1, jb_K_n]; exact k1
  · rw [k2 q j (by omega)]
    unfold jm_up
    rw [if_neg (by omega), if_neg (by omega), if_neg (by omega), if_neg (by omega), if_neg (by omega)]
  · rw [k2 _ _ (by omega), jm_up_j _ _ (by decide), jm_up_j _ _ (by decide), jm_up_j _ _ (by decide), jm_up_same]
  · have := k4 hz
    rw [Nat.zero_add] at this
    exact this
end MA
