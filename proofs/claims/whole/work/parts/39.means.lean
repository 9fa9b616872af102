/-! ===== the plain form: what a row means ===== -/
section MM
variable {σ : jm_S} {w f : Nat → Nat} {n : Nat}
theorem mMeansF (hw : jInv w) (hM : jMw σ w n f) (hf : ∀ k, k < n → f k ≤ 5) (hn : n ≤ 20) (hz : f (n - 1) ≠ 5) {p k : Nat} (hp : p < n) (hk : k < 3) (hv : jMv σ w n f 0) (h5 : f p ≠ 5) (h1 : jW w n f p k = 1) : ∀ (m i : Nat) (u5 : Value), i + m = w 0 → ∃ v5, jb_Ex 194 (51, [.ref (307 : Nat), .int (jI p), .int (jI k), .int (if jfw w n f p k < i then jI (jfw w n f p k) else -1), .int (jI i), u5], [], jm_hp σ) = jb_Ex 194 (51, [.ref (307 : Nat), .int (jI p), .int (jI k), .int (jI (jfw w n f p k)), .int (jI (w 0)), v5], [], jm_hp σ)
  | 0, i, u5, hm => by
    obtain rfl : i = w 0 := by omega
    refine ⟨u5, ?_⟩
    rw [if_pos (jfw_1 hw hp h5 h1).1]
  | m + 1, i, u5, hm => by
    have b0 := hw.b0
    obtain ⟨w1, w2, w3, w4, w5⟩ := jfw_1 hw hp h5 h1
    obtain ⟨a1, a2, a3, a4, a5, a6⟩ := hw.2.1.2.1 i (by omega)
    have h0 := hM.1 0 (by omega)
    have hkd := hM.1 (21 + 6 * i) (by omega)
    have hsz := hM.1 (22 + 6 * i) (by omega)
    have e1 : 21 + 6 * i + 1 = 22 + 6 * i := by omega
    have hst := mM_here hw hM hf (by omega) (show i < w 0 by omega) (show p ≤ 60 by omega)
    have hv' : jMv σ w n f (p + 1) := ⟨fun q l z1 z2 z3 => hv.1 q l (Nat.zero_le _) z2 z3, fun q l z1 z2 z3 z4 => hv.2.1 q l (Nat.zero_le _) z2 z3 z4, hv.2.2⟩
    by_cases ei : i = jfw w n f p k
    · rw [← ei] at w2 w3 w4
      have hend := mEnd (k := k) hw hM hn hv' (show i < w 0 by omega) w3
      rw [if_neg hz, w4] at hend
      rw [jB_t w3] at hst
      obtain ⟨v5, g⟩ := mMeansF hw hM hf hn hz hp hk hv h5 h1 m (i + 1) (.int (jI 1)) (by omega)
      refine ⟨v5, ?_⟩
      rw [if_pos (by omega), ← ei] at g
      rw [if_neg (by omega), ← ei, ← g, jt_M_means_51]
      rw [w2] at hkd
      simp (disch := omega) only [jb_K_n, jb_K_v, ↓reduceIte, jT_lt, jF_lt, jT_le, jF_le, jT_eq, jF_eq, jT_z, jF_z, jF_neg, jT_nn, jT_pos, jF_pos, jT_le0, jF_le0, jT_x, jF_m1, jF_m1r, jT_tt, jI_add, jI_mul, jI_sub, jI_cl, jm_up_same, jm_up_o, jm_up_j, jbR_T, jbR_F, h0, jt_M_wordAt_0, jt_M_means_71, Nat.add_zero, hkd, hst, jt_M_means_85, jt_M_means_111, e1, hsz, mNext hk, jt_M_means_119, hend, jt_M_means_122]
    · have hg := w5 i (by omega) ei
      have hX : (if jfw w n f p k < i + 1 then jI (jfw w n f p k) else (-1 : Int32)) = (if jfw w n f p k < i then jI (jfw w n f p k) else -1) := by
        by_cases z : jfw w n f p k < i
        · rw [if_pos z, if_pos (by omega)]
        · rw [if_neg z, if_neg (by omega)]
      have IH := mMeansF hw hM hf hn hz hp hk hv h5 h1 m (i + 1)
      rw [hX] at IH
      generalize (if jfw w n f p k < i then jI (jfw w n f p k) else (-1 : Int32)) = X at IH
      by_cases c1 : w (21 + 6 * i) = k
      · by_cases c2 : jst w n f i p = true
        · have hend := mEnd (k := k) hw hM hn hv' (show i < w 0 by omega) c2
          have hg' : jW w n f (p + w (22 + 6 * i)) (jnk k) = 0 := by
            have : jg w n f p k i = jW w n f (p + w (22 + 6 * i)) (jnk k) := if_pos ⟨c1, c2⟩
            rw [← this]; exact hg
          rw [if_neg hz, hg'] at hend
          rw [jB_t c2] at hst
          obtain ⟨v5, g⟩ := IH (.int (jI 1)) (by omega)
          refine ⟨v5, ?_⟩
          rw [← g, jt_M_means_51]
          rw [c1] at hkd
          simp (disch := omega) only [jb_K_n, jb_K_v, ↓reduceIte, jT_lt, jF_lt, jT_le, jF_le, jT_eq, jF_eq, jT_z, jF_z, jF_neg, jT_nn, jT_pos, jF_pos, jT_le0, jF_le0, jT_x, jF_m1, jF_m1r, jT_tt, jI_add, jI_mul, jI_sub, jI_cl, jm_up_same, jm_up_o, jm_up_j, jbR_T, jbR_F, h0, jt_M_wordAt_0, jt_M_means_71, Nat.add_zero, hkd, hst, jt_M_means_85, jt_M_means_111, e1, hsz, mNext hk, jt_M_means_119, hend, jt_M_means_122]
        · have c2' : jst w n f i p = false := Bool.not_eq_true _ |>.mp c2
          rw [jB_f c2'] at hst
          obtain ⟨v5, g⟩ := IH (.int (jI 0)) (by omega)
          refine ⟨v5, ?_⟩
          rw [← g, jt_M_means_51]
          rw [c1] at hkd
          simp (disch := omega) only [jb_K_n, jb_K_v, ↓reduceIte, jT_lt, jF_lt, jT_le, jF_le, jT_eq, jF_eq, jT_z, jF_z, jF_neg, jT_nn, jT_pos, jF_pos, jT_le0, jF_le0, jT_x, jF_m1, jF_m1r, jT_tt, jI_add, jI_mul, jI_sub, jI_cl, jm_up_same, jm_up_o, jm_up_j, jbR_T, jbR_F, h0, jt_M_wordAt_0, jt_M_means_71, Nat.add_zero, hkd, hst, jt_M_means_85]
      · obtain ⟨v5, g⟩ := IH (.int (jI 0)) (by omega)
        refine ⟨v5, ?_⟩
        rw [← g, jt_M_means_51]
        simp (disch := omega) only [jb_K_n, jb_K_v, ↓reduceIte, jT_lt, jF_lt, jT_le, jF_le, jT_eq, jF_eq, jT_z, jF_z, jF_neg, jT_nn, jT_pos, jF_pos, jT_le0, jF_le0, jT_x, jF_m1, jF_m1r, jT_tt, jI_add, jI_mul, jI_sub, jI_cl, jm_up_same, jm_up_o, jm_up_j, jbR_T, jbR_F, h0, jt_M_wordAt_0, jt_M_means_71, Nat.add_zero, hkd]
def jM8 (σ σ' : jm_S) : Prop := ∀ q j, q ≠ 316 → q ≠ 317 → q ≠ 318 → ¬ (q = 307 ∧ j = 24) → σ' q j = σ q j
theorem jMw.k8 {σ' : jm_S} (h : jMw σ w n f) (hk : jM8 σ σ') : jMw σ' w n f := ⟨fun j hj => (hk _ _ (by omega) (by omega) (by omega) (by omega)).trans (h.1 j hj), (hk _ _ (by omega) (by omega) (by omega) (by omega)).trans h.2.1, fun j hj => (hk _ _ (by omega) (by omega) (by omega) (by omega)).trans (h.2.2 j hj)⟩
theorem mMeansS (hw : jInv w) (hM : jMw σ w n f) (hn : n ≤ 20) (hz : f (n - 1) ≠ 5) {k : Nat} (hk : k < 3) (hv : jMv σ w n f 0) : ∀ (m p : Nat) (u3 u4 u5 : Value), p + m = n → 0 < m → jW w n f p k = 1 → ∃ q, p ≤ q ∧ q < n ∧ (∀ j, p ≤ j → j < q → f j = 5) ∧ f q ≠ 5 ∧ jW w n f q k = 1 ∧ jb_Ex 194 (27, [.ref (307 : Nat), .int (jI p), .int (jI k), u3, u4, u5], [], jm_hp σ) = jb_Ex 194 (51, [.ref (307 : Nat), .int (jI q), .int (jI k), .int (-1 : Int32), .int (jI 0), u5], [], jm_hp σ)
  | 0, p, u3, u4, u5, hm, h0, h1 => absurd h0 (Nat.lt_irrefl _)
  | m + 1, p, u3, u4, u5, hm, h0, h1 => by
    have hs := hv.1 p k (Nat.zero_le _) (by omega) hk
    unfold jV2 at hs
    rw [if_neg hz] at hs
    by_cases e : f p = 5
    · rw [if_pos e] at hs
      have hk0 : k ≠ 0 := fun z => by
        rw [jW_sil (by omega) e, if_pos z] at h1
        cases h1
      have hp1 : p + 1 ≠ n := fun z => hz (by rw [← z]; exact e)
      rw [jW_sil (by omega) e, if_neg hk0] at h1
      obtain ⟨q, q1, q2, q3, q4, q5, q6⟩ := mMeansS hw hM hn hz hk hv m (p + 1) u3 u4 u5 (by omega) (by omega) h1
      refine ⟨q, by omega, q2, fun j z1 z2 => ?_, q4, q5, ?_⟩
      · by_cases z : j = p
        · rw [z]; exact e
        · exact q3 j (by omega) z2
      · rw [← q6, jt_M_means_27]
        simp (disch := omega) only [jb_K_n, jb_K_v, ↓reduceIte, jT_lt, jF_lt, jT_le, jF_le, jT_eq, jF_eq, jT_z, jF_z, jF_neg, jT_nn, jT_pos, jF_pos, jT_le0, jF_le0, jT_x, jF_m1, jF_m1r, jT_tt, jI_add, jI_mul, jI_sub, jI_cl, jm_up_same, jm_up_o, jm_up_j, jbR_T, jbR_F, hs]
    · rw [if_neg e, h1] at hs
      refine ⟨p, Nat.le_refl _, by omega, fun j z1 z2 => by omega, e, h1, ?_⟩
      rw [jt_M_means_27]
      simp (disch := omega) only [jb_K_n, jb_K_v, ↓reduceIte, jT_lt, jF_lt, jT_le, jF_le, jT_eq, jF_eq, jT_z, jF_z, jF_neg, jT_nn, jT_pos, jF_pos, jT_le0, jF_le0, jT_x, jF_m1, jF_m1r, jT_tt, jI_add, jI_mul, jI_sub, jI_cl, jm_up_same, jm_up_o, jm_up_j, jbR_T, jbR_F, hs]
theorem jPath_sils {l : List Nat} {q k : Nat} : ∀ (d p : Nat), p + d = q → (∀ j, p ≤ j → j < q → f j = 5) → jPath w n f l q k → jPath w n f l p k
  | 0, p, h, _, hl => by
    obtain rfl : p = q := by omega
    exact hl
  | d + 1, p, h, h5, hl => jPath_sil (h5 p (by omega) (by omega)) (jPath_sils d (p + 1) (by omega) (fun j z1 z2 => h5 j (by omega) z2) hl)
theorem mMeansL (hw : jInv w) (hM : jMw σ w n f) (hf : ∀ k, k < n → f k ≤ 5) (hn : n ≤ 20) (hz : f (n - 1) ≠ 5) (hv : jMv σ w n f 0) : ∀ (m p k : Nat) (τ : jm_S) (u3 u4 u5 : Value) (L : List Nat), p + m = n → k < 3 → jW w n f p k = 1 → (∀ q j, q ≠ 318 → ¬ (q = 307 ∧ j = 24) → τ q j = σ q j) → τ 307 24 = jI L.length → (∀ j, j < L.length → τ 318 j = jI (L.getD j 0)) → L.length ≤ p → jsl w L ≤ p → (∀ i ∈ L, i < w 0) → (∀ l, jPath w n f l p k → jPath w n f (L ++ l) 0 0) → ∃ τ' L', jb_Ex 194 (19, [.ref (307 : Nat), .int (jI p), .int (jI k), u3, u4, u5], [], jm_hp τ) = some (some (.int (jI 1)), jm_hp τ') ∧ (∀ q j, q ≠ 318 → ¬ (q = 307 ∧ j = 24) → τ' q j = σ q j) ∧ τ' 307 24 = jI L'.length ∧ (∀ j, j < L'.length → τ' 318 j = jI (L'.getD j 0)) ∧ L'.length ≤ n ∧ jsl w L' ≤ n ∧ (∀ i ∈ L', i < w 0) ∧ jPath w n f L' 0 0 := by
  intro m
  induction m using Nat.strongRecOn with
  | _ m IH =>
    intro p k τ u3 u4 u5 L hm hk h1 hF h24 hL hLl hsl hLw hpath
    have b0 := hw.b0
    have hM' : jMw τ w n f := hM.k8 (fun q j z1 z2 z3 z4 => hF q j z3 z4)
    have hv' : jMv τ w n f 0 := ⟨fun q l z1 z2 z3 => (hF _ _ (by omega) (by omega)).trans (hv.1 q l z1 z2 z3), fun q l z1 z2 z3 z4 => (hF _ _ (by omega) (by omega)).trans (hv.2.1 q l z1 z2 z3 z4), fun l z => (hF _ _ (by omega) (by omega)).trans (hv.2.2 l z)⟩
    by_cases ep : p = n
    · subst ep
      refine ⟨τ, L, ?_, hF, h24, hL, hLl, hsl, hLw, ?_⟩
      · rw [jt_M_means_19, hM'.2.1, if_pos (by rw [jI_le (by omega) (by omega)]; omega)]
      · have := hpath [] (fun j z1 z2 => by omega)
        rw [List.append_nil] at this
        exact this
    · obtain ⟨q, q1, q2, q3, q4, q5, q6⟩ := mMeansS hw hM' hn hz hk hv' m p u3 u4 u5 hm (by omega) h1
      obtain ⟨w1, w2, w3, w4, -⟩ := jfw_1 hw q2 q4 q5
      obtain ⟨a1, a2, a3, a4, a5, a6⟩ := hw.2.1.2.1 _ w1
      have n4 := (jst_ne hw w1 w3).2.2.2
      obtain ⟨v5, g1⟩ := mMeansF hw hM' hf hn hz q2 hk hv' q4 q5 (w 0) 0 u5 (Nat.zero_add _)
      rw [if_neg (Nat.not_lt_zero _)] at g1
      have h0 := hM'.1 0 (by omega)
      have hF2 : ∀ q' j, q' ≠ 318 → ¬ (q' = 307 ∧ j = 24) → jm_up (jm_up τ 318 L.length (jI (jfw w n f q k))) 307 24 (jI (L.length + 1)) q' j = σ q' j := fun q' j z1 z2 => by
        by_cases z : q' = 307
        · subst z
          rw [jm_up_j _ _ (by omega), jm_up_o _ _ (by omega)]
          exact hF _ _ z1 z2
        · rw [jm_up_o _ _ z, jm_up_o _ _ z1]
          exact hF _ _ z1 z2
      have hsz := hM'.1 (22 + 6 * jfw w n f q k) (by omega)
      have e1 : 21 + 6 * jfw w n f q k + 1 = 22 + 6 * jfw w n f q k := by omega
      obtain ⟨τ', L', g2, g3⟩ := IH (m - (q - p) - w (22 + 6 * jfw w n f q k)) (by omega) (q + w (22 + 6 * jfw w n f q k)) (jnk k) (jm_up (jm_up τ 318 L.length (jI (jfw w n f q k))) 307 24 (jI (L.length + 1))) (.int (jI (jfw w n f q k))) (.int (jI (w 0))) v5 (L ++ [jfw w n f q k]) (by omega) (by have := jnk_le k; omega) w4 hF2 (by rw [jm_up_same, List.length_append]; rfl) (fun j hj => by
          rw [List.length_append] at hj
          have hj' : j < L.length + 1 := hj
          rw [jm_up_o _ _ (by omega), ← jgd_app hj']
          by_cases z : j = L.length
          · rw [z, jm_up_same, jn0_s]
          · rw [jm_up_j _ _ z, jn0_o z]
            exact hL j (by omega)) (by rw [List.length_append]; show L.length + 1 ≤ _; omega) (by rw [jsl_app]; omega) (fun i hi => by
          rcases List.mem_append.mp hi with z | z
          · exact hLw i z
          · rw [List.mem_singleton.mp z]; exact w1) (fun l hl => by
          rw [List.append_assoc]
          exact hpath _ (jPath_sils (q - p) p (by omega) q3 (jPath_wd q2 q4 hl)))
      refine ⟨τ', L', ?_, g3⟩
      rw [← g2, jt_M_means_19, hM'.2.1, if_neg (by rw [jI_le (by omega) (by omega)]; omega), q6, g1, jt_M_means_51]
      simp (disch := omega) only [jb_K_n, jb_K_v, ↓reduceIte, jT_lt, jF_lt, jT_le, jF_le, jT_eq, jF_eq, jT_z, jF_z, jF_neg, jT_nn, jT_pos, jF_pos, jT_le0, jF_le0, jT_x, jF_m1, jF_m1r, jT_tt, jI_add, jI_mul, jI_sub, jI_cl, jm_up_same, jm_up_o, jm_up_j, jbR_T, jbR_F, h0, h24, jt_M_wordAt_0, jt_M_means_167, e1, hsz, mNext hk, jt_M_means_176]
theorem mMeans (hw : jInv w) (hM : jMw σ w n f) (hf : ∀ k, k < n → f k ≤ 5) (hn : n ≤ 20) : ∃ σ' L, jb_Ev 194 [.ref (307 : Nat)] (jm_hp σ) = some (some (.int (if jP w n f = 1 then jI 1 else jI 0)), jm_hp σ') ∧ jM8 σ σ' ∧ σ' 307 24 = jI L.length ∧ (∀ j, j < L.length → σ' 318 j = jI (L.getD j 0)) ∧ L.length ≤ n ∧ (∀ i ∈ L, i < w 0) ∧ (jP w n f ≠ 1 → L = []) ∧ (jP w n f = 1 → jPath w n f L 0 0 ∧ jsl w L ≤ n) := by
  have k0 : jM8 σ (jm_up σ 307 24 (jI 0)) := fun q j z1 z2 z3 z4 => by
    by_cases z : q = 307
    · subst z
      exact jm_up_j _ _ (by omega)
    · exact jm_up_o _ _ z
  have hM1 := hM.k8 k0
  have h240 : jm_up σ 307 24 (jI 0) 307 24 = jI 0 := jm_up_same _ _ _ _
  generalize hτ : jm_up σ 307 24 (jI 0) = τ at k0 hM1 h240
  obtain ⟨υ, e1, f1, v1⟩ := mParses hw hM1 hf hn
  have hcap := jcap_le (jP w n f)
  have k1 : jM8 σ υ := fun q j z1 z2 z3 z4 => (f1 q j z1 z2).trans (k0 q j z1 z2 z3 z4)
  have h24 := (f1 307 24 (by omega) (by omega)).trans h240
  by_cases e : jP w n f = 1
  · have hne : ¬ (n = 0 ∨ f (n - 1) = 5) := fun z => by
      unfold jP at e
      rw [if_pos z] at e
      cases e
    have hW : jW w n f 0 0 = 1 := by
      unfold jP at e
      rw [if_neg hne] at e
      exact e
    have hc1 : jcap (jP w n f) = 1 := jcap_1.mpr e
    obtain ⟨ρ, L, g1, g2, g3, g4, g5, g6, g7, g8⟩ := mMeansL (σ := υ) hw (hM.k8 k1) hf hn (by omega) v1 n 0 0 υ (.retAddr 0) (.retAddr 0) (.retAddr 0) [] (Nat.zero_add _) (by omega) hW (fun _ _ _ _ => rfl) h24 (fun j hj => absurd hj (Nat.not_lt_zero _)) (Nat.zero_le _) (Nat.zero_le _) (fun i hi => absurd hi List.not_mem_nil) (fun l hl => hl)
    refine ⟨ρ, L, ?_, fun q j z1 z2 z3 z4 => (g2 q j z3 z4).trans (k1 q j z1 z2 z3 z4), g3, g4, g5, g7, fun z => absurd e z, fun _ => ⟨g8, g6⟩⟩
    rw [if_pos e, jt_M_means_0, hτ, e1, jb_K_v, jt_M_means_9, if_pos (by rw [hc1]), g1]
  · have hc1 : jcap (jP w n f) ≠ 1 := fun z => e (jcap_1.mp z)
    refine ⟨υ, [], ?_, k1, h24, fun j hj => absurd hj (Nat.not_lt_zero _), Nat.zero_le _, fun i hi => absurd hi List.not_mem_nil, fun _ => rfl, fun z => absurd z e⟩
    rw [if_neg e, jt_M_means_0, hτ, e1, jb_K_v, jt_M_means_9, if_neg (by rw [jI_eq (by omega) (by omega)]; exact hc1)]
end MM
