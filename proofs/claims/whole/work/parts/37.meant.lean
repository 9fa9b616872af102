/-! ===== the class: what a row means ===== -/
def jsl (w : Nat → Nat) : List Nat → Nat
  | [] => 0
  | i :: l => w (22 + 6 * i) + jsl w l
theorem jsl_app {w : Nat → Nat} {i : Nat} : ∀ {L : List Nat}, jsl w (L ++ [i]) = jsl w L + w (22 + 6 * i)
  | [] => by show w (22 + 6 * i) + 0 = 0 + _; omega
  | j :: l => by
    show w (22 + 6 * j) + jsl w (l ++ [i]) = w (22 + 6 * j) + jsl w l + _
    rw [jsl_app]
    omega
theorem jgd_app {L : List Nat} {i k : Nat} (hk : k < L.length + 1) : jn0 (fun k => L.getD k 0) L.length i k = (L ++ [i]).getD k 0 := by
  by_cases e : k = L.length
  · rw [jn0_e e, e, List.getD_eq_getElem?_getD, List.getElem?_append_right (Nat.le_refl _), Nat.sub_self]
    rfl
  · rw [jn0_o e, List.getD_eq_getElem?_getD, List.getD_eq_getElem?_getD, List.getElem?_append_left (by omega)]
section MN
variable {σ : jm_S} {w f : Nat → Nat} {n r : Nat}
theorem cOnWayL (hV : jV σ 1 w) (hw : jInv w) (hr : jRn σ r n f) (hf : ∀ k, k < n → f k ≤ 5) (h : jRn σ 280 ((n + 1) * 3) (fun c => jcap (jW w n f (c / 3) (c % 3)))) {p k : Nat} (hp : p < n) (hn : n ≤ 20) (hk : k ≤ 2) : ∀ (m i : Nat) (u6 : Value), i + m = w 0 → jb_Ex 135 (3, [.ref (279 : Nat), .ref (9 : Nat), .ref r, .int (jI p), .int (jI k), .int (jI i), u6], [], jm_hp σ) = some (some (.int (if jfd (fun i => decide (jg w n f p k i ≠ 0)) m i < w 0 then jI (jfd (fun i => decide (jg w n f p k i ≠ 0)) m i) else -1)), jm_hp σ)
  | 0, i, u6, hm => by
    have b0 := hw.b0
    rw [if_neg (by unfold jfd; omega), jt_Parser_wordOnTheWay_3 hr.1, hV.kn, jb_K_v, jt_Parser_wordOnTheWay_12 hr.1, if_pos (by rw [jI_le (by omega) (by omega)]; omega)]
  | m + 1, i, u6, hm => by
    have b0 := hw.b0
    have IH := cOnWayL hV hw hr hf h hp hn hk m (i + 1)
    obtain ⟨a1, a2, a3, a4, a5, a6⟩ := hw.2.1.2.1 i (by omega)
    have hkd := hV.kd (show i < w 0 by omega)
    have hst := cBook_stands hV hw hr hf (show i < w 0 by omega) (show p < 10000 by omega)
    rw [jt_Parser_wordOnTheWay_3 hr.1]
    unfold jfd
    by_cases e1 : w (21 + 6 * i) = k
    · by_cases e2 : jst w n f i p = true
      · rw [jB_t e2] at hst
        obtain ⟨-, -, -, n4⟩ := jst_ne hw (show i < w 0 by omega) e2
        have l1 := jnk_le (w (21 + 6 * i))
        have hbh := cBehind hV hw h (show i < w 0 by omega) (show p < 1000 by omega) rfl (by omega)
        rw [show ((p + w (22 + 6 * i)) * 3 + jnk (w (21 + 6 * i))) / 3 = p + w (22 + 6 * i) by omega, show ((p + w (22 + 6 * i)) * 3 + jnk (w (21 + 6 * i))) % 3 = jnk (w (21 + 6 * i)) by omega, e1] at hbh
        have hg : jg w n f p k i = jW w n f (p + w (22 + 6 * i)) (jnk k) := if_pos ⟨e1, e2⟩
        have hc := jcap_le (jW w n f (p + w (22 + 6 * i)) (jnk k))
        by_cases e3 : jW w n f (p + w (22 + 6 * i)) (jnk k) = 0
        · rw [if_neg (show ¬ (decide (jg w n f p k i ≠ 0) = true) from fun z => absurd (hg.trans e3) (of_decide_eq_true z))]
          have hc0 := jcap_0.mpr e3
          simp (disch := omega) only [jb_K_n, jb_K_v, ↓reduceIte, jT_lt, jF_lt, jT_le, jF_le, jT_eq, jF_eq, jT_z, jF_z, jF_neg, jT_nn, jT_pos, jF_pos, jT_le0, jF_le0, jT_x, jF_m1, jF_m1r, jT_tt, jI_add, jI_mul, jI_sub, jI_cl, jm_up_same, jm_up_o, jm_up_j, jbR_T, jbR_F, hV.kn, jt_Parser_wordOnTheWay_12 hr.1, hkd, e1, jt_Parser_wordOnTheWay_24 hr.1, hst, jt_Parser_wordOnTheWay_37 hr.1, hbh, jt_Parser_wordOnTheWay_60 hr.1]
          exact IH _ (by omega)
        · rw [if_pos (decide_eq_true (by rw [hg]; exact e3)), if_pos (by omega)]
          have hc0 : 0 < jcap (jW w n f (p + w (22 + 6 * i)) (jnk k)) := Nat.pos_of_ne_zero (fun z => e3 (jcap_0.mp z))
          simp (disch := omega) only [jb_K_n, jb_K_v, ↓reduceIte, jT_lt, jF_lt, jT_le, jF_le, jT_eq, jF_eq, jT_z, jF_z, jF_neg, jT_nn, jT_pos, jF_pos, jT_le0, jF_le0, jT_x, jF_m1, jF_m1r, jT_tt, jI_add, jI_mul, jI_sub, jI_cl, jm_up_same, jm_up_o, jm_up_j, jbR_T, jbR_F, hV.kn, jt_Parser_wordOnTheWay_12 hr.1, hkd, e1, jt_Parser_wordOnTheWay_24 hr.1, hst, jt_Parser_wordOnTheWay_37 hr.1, hbh, jt_Parser_wordOnTheWay_60 hr.1]
      · have e2' : jst w n f i p = false := Bool.not_eq_true _ |>.mp e2
        rw [jB_f e2'] at hst
        have hg : jg w n f p k i = 0 := if_neg (fun z => e2 z.2)
        rw [if_neg (show ¬ (decide (jg w n f p k i ≠ 0) = true) from fun z => absurd hg (of_decide_eq_true z))]
        simp (disch := omega) only [jb_K_n, jb_K_v, ↓reduceIte, jT_lt, jF_lt, jT_le, jF_le, jT_eq, jF_eq, jT_z, jF_z, jF_neg, jT_nn, jT_pos, jF_pos, jT_le0, jF_le0, jT_x, jF_m1, jF_m1r, jT_tt, jI_add, jI_mul, jI_sub, jI_cl, jm_up_same, jm_up_o, jm_up_j, jbR_T, jbR_F, hV.kn, jt_Parser_wordOnTheWay_12 hr.1, hkd, e1, jt_Parser_wordOnTheWay_24 hr.1, hst, jt_Parser_wordOnTheWay_37 hr.1]
        exact IH _ (by omega)
    · have hg : jg w n f p k i = 0 := if_neg (fun z => e1 z.1)
      rw [if_neg (show ¬ (decide (jg w n f p k i ≠ 0) = true) from fun z => absurd hg (of_decide_eq_true z))]
      simp (disch := omega) only [jb_K_n, jb_K_v, ↓reduceIte, jT_lt, jF_lt, jT_le, jF_le, jT_eq, jF_eq, jT_z, jF_z, jF_neg, jT_nn, jT_pos, jF_pos, jT_le0, jF_le0, jT_x, jF_m1, jF_m1r, jT_tt, jI_add, jI_mul, jI_sub, jI_cl, jm_up_same, jm_up_o, jm_up_j, jbR_T, jbR_F, hV.kn, jt_Parser_wordOnTheWay_12 hr.1, hkd, jt_Parser_wordOnTheWay_24 hr.1]
      exact IH _ (by omega)
theorem cOnWay (hV : jV σ 1 w) (hw : jInv w) (hr : jRn σ r n f) (hf : ∀ k, k < n → f k ≤ 5) (h : jRn σ 280 ((n + 1) * 3) (fun c => jcap (jW w n f (c / 3) (c % 3)))) {p k : Nat} (hp : p < n) (hn : n ≤ 20) (hk : k ≤ 2) (h5 : f p ≠ 5) (h1 : jW w n f p k = 1) : jb_Ev 135 [.ref (279 : Nat), .ref (9 : Nat), .ref r, .int (jI p), .int (jI k)] (jm_hp σ) = some (some (.int (jI (jfw w n f p k))), jm_hp σ) := by
  rw [jt_Parser_wordOnTheWay_0 hr.1, cOnWayL hV hw hr hf h hp hn hk (w 0) 0 _ (Nat.zero_add _)]
  have := (jfw_1 hw hp h5 h1).1
  unfold jfw at this ⊢
  rw [if_pos this]
theorem cMeantL {r3 : Nat} (hV : jV σ 1 w) (hw : jInv w) (hr : jRn σ r n f) (hf : ∀ k, k < n → f k ≤ 5) (h : jRn σ 280 ((n + 1) * 3) (fun c => jcap (jW w n f (c / 3) (c % 3)))) (hn : n ≤ 12) (h0 : n ≠ 0) (hz : f (n - 1) ≠ 5) (hc3 : jm_c r3 = 6) (hl3 : 12 ≤ jm_ln (r3 + 1)) (hr3 : 282 ≤ r3) (hrr : r + 1 < 279 ∨ 282 ≤ r ∧ (r + 1 < r3 ∨ r3 + 1 < r)) : ∀ (m p k s : Nat) (τ : jm_S) (u7 : Value) (L : List Nat), p + m = n → s ≤ p → k ≤ 2 → jW w n f p k = 1 → jRn τ r3 L.length (fun j => L.getD j 0) → jsl w L ≤ p → L.length ≤ p → (∀ i ∈ L, i < w 0) → τ 279 1 = jI (p - jsl w L) → (∀ q j, ¬ (q = 279 ∨ q = r3 ∨ q = r3 + 1) → τ q j = σ q j) → (∀ l, jPath w n f l p k → jPath w n f (L ++ l) 0 0) → ∃ τ' L', jb_Ex 172 (30, [.ref (279 : Nat), .ref (9 : Nat), .ref r, .ref r3, .int (jI p), .int (jI k), .int (jI s), u7], [], jm_hp τ) = some (some (.int (jI 1)), jm_hp τ') ∧ jRn τ' r3 L'.length (fun j => L'.getD j 0) ∧ L'.length ≤ 12 ∧ jPath w n f L' 0 0 ∧ (∀ i ∈ L', i < w 0) ∧ jsl w L' ≤ n ∧ τ' 279 1 = jI (n - jsl w L') ∧ (∀ q j, ¬ (q = 279 ∨ q = r3 ∨ q = r3 + 1) → τ' q j = σ q j) := by
  intro m
  induction m using Nat.strongRecOn with
  | _ m IH =>
    intro p k s τ u7 L hm hs hk h1 hL hsl hLl hLw h279 hF hpath
    have hr' : jRn τ r n f := hr.k (P := fun q => q = 279 ∨ q = r3 ∨ q = r3 + 1) hF (by omega) (by omega)
    have hsz := jR_size hr'
    by_cases ep : p = n
    · subst ep
      refine ⟨τ, L, ?_, hL, by omega, ?_, hLw, hsl, h279, hF⟩
      · rw [jt_Parser_isMeant_30 hr.1 hc3, hsz, jb_K_v, jt_Parser_isMeant_36 hr.1 hc3]
        by_cases es : p ≤ s
        · rw [if_pos (by rw [jI_le (by omega) (by omega)]; exact es)]
        · rw [if_neg (by rw [jI_le (by omega) (by omega)]; exact es), hsz, jb_K_v, jt_Parser_isMeant_45 hr.1 hc3, if_pos (by rw [jI_le (by omega) (by omega)]; omega)]
      · have := hpath [] (fun j z1 z2 => by omega)
        rw [List.append_nil] at this
        exact this
    · have hat := jRn_at hr' (show p < n by omega)
      have h5 := hf p (by omega)
      by_cases e : f p = 5
      · rw [e] at hat
        have hk0 : k ≠ 0 := fun z => by
          rw [jW_sil (by omega) e, if_pos z] at h1
          cases h1
        rw [jW_sil (by omega) e, if_neg hk0] at h1
        have hF2 : ∀ q j, ¬ (q = 279 ∨ q = r3 ∨ q = r3 + 1) → jm_up τ 279 1 (jI (p - jsl w L + 1)) q j = σ q j := fun q j z => (jm_up_o _ _ (by omega)).trans (hF q j z)
        obtain ⟨τ', L', g1, g2⟩ := IH (m - 1) (by omega) (p + 1) k (s + 1) (jm_up τ 279 1 (jI (p - jsl w L + 1))) u7 L (by omega) (by omega) hk h1 (hL.k (P := fun q => q = 279) (fun q j z => jm_up_o _ _ z) (by omega) (by omega)) (by omega) (by omega) hLw (by rw [jm_up_same]; congr 1; omega) hF2 (fun l hl => hpath l (jPath_sil e hl))
        refine ⟨τ', L', ?_, g2⟩
        rw [← g1, jt_Parser_isMeant_30 hr.1 hc3]
        simp (disch := omega) only [jb_K_n, jb_K_v, ↓reduceIte, jT_lt, jF_lt, jT_le, jF_le, jT_eq, jF_eq, jT_z, jF_z, jF_neg, jT_nn, jT_pos, jF_pos, jT_le0, jF_le0, jT_x, jF_m1, jF_m1r, jT_tt, jI_add, jI_mul, jI_sub, jI_cl, jm_up_same, jm_up_o, jm_up_j, jbR_T, jbR_F, hsz, jt_Parser_isMeant_36 hr.1 hc3, jt_Parser_isMeant_45 hr.1 hc3, hat, jt_Parser_isMeant_54 hr.1 hc3, h279]
      · obtain ⟨w1, w2, w3, w4, -⟩ := jfw_1 hw (show p < n by omega) e h1
        obtain ⟨a1, a2, a3, a4, a5, a6⟩ := hw.2.1.2.1 _ w1
        have hV' : jV τ 1 w := hV.A (a := 279) (b := r3 + 300) (fun q j z => hF q j (by omega)) (by omega)
        have h' : jRn τ 280 ((n + 1) * 3) (fun c => jcap (jW w n f (c / 3) (c % 3))) := h.k (P := fun q => q = 279 ∨ q = r3 ∨ q = r3 + 1) hF (by omega) (by omega)
        have how := cOnWay hV' hw hr' hf h' (show p < n by omega) (by omega) hk e h1
        have n4 := (jst_ne hw w1 w3).2.2.2
        have hadd := jR_add hL (show L.length < jm_ln (r3 + 1) by omega) (jI (jfw w n f p k))
        have hL2 := (jRn_add hL (show L.length < jm_ln (r3 + 1) by omega) (jfw w n f p k)).congr (m := (L ++ [jfw w n f p k]).length) (g := fun j => (L ++ [jfw w n f p k]).getD j 0) (by rw [List.length_append]; rfl) (fun j hj => jgd_app hj)
        have hF2 : ∀ q j, ¬ (q = 279 ∨ q = r3 ∨ q = r3 + 1) → jm_up (jm_up τ (r3 + 1) L.length (jI (jfw w n f p k))) r3 1 (jI (L.length + 1)) q j = σ q j := fun q j z => (jm_up_o _ _ (by omega)).trans ((jm_up_o _ _ (by omega)).trans (hF q j z))
        have h279' : jm_up (jm_up τ (r3 + 1) L.length (jI (jfw w n f p k))) r3 1 (jI (L.length + 1)) 279 1 = τ 279 1 := (jm_up_o _ _ (by omega)).trans (jm_up_o _ _ (by omega))
        generalize jm_up (jm_up τ (r3 + 1) L.length (jI (jfw w n f p k))) r3 1 (jI (L.length + 1)) = υ at hadd hL2 hF2 h279'
        have hV2 : jV υ 1 w := hV.A (a := 279) (b := r3 + 300) (fun q j z => hF2 q j (by omega)) (by omega)
        have hs2 := hV2.sz w1
        obtain ⟨τ', L', g1, g2⟩ := IH (m - w (22 + 6 * jfw w n f p k)) (by omega) (p + w (22 + 6 * jfw w n f p k)) (jnk k) (s + 1) υ (.int (jI (jfw w n f p k))) (L ++ [jfw w n f p k]) (by omega) (by omega) (jnk_le _) w4 hL2 (by rw [jsl_app]; omega) (by rw [List.length_append]; show L.length + 1 ≤ _; omega) (fun i hi => by
          rcases List.mem_append.mp hi with z | z
          · exact hLw i z
          · rw [List.mem_singleton.mp z]; exact w1) (by rw [h279', h279, jsl_app]; congr 1; omega) hF2 (fun l hl => by
          rw [List.append_assoc]
          exact hpath _ (jPath_wd (by omega) e hl))
        refine ⟨τ', L', ?_, g2⟩
        rw [← g1, jt_Parser_isMeant_30 hr.1 hc3]
        simp (disch := omega) only [jb_K_n, jb_K_v, ↓reduceIte, jT_lt, jF_lt, jT_le, jF_le, jT_eq, jF_eq, jT_z, jF_z, jF_neg, jT_nn, jT_pos, jF_pos, jT_le0, jF_le0, jT_x, jF_m1, jF_m1r, jT_tt, jI_add, jI_mul, jI_sub, jI_cl, jm_up_same, jm_up_o, jm_up_j, jbR_T, jbR_F, hsz, jt_Parser_isMeant_36 hr.1 hc3, jt_Parser_isMeant_45 hr.1 hc3, hat, jt_Parser_isMeant_54 hr.1 hc3, how, jt_Parser_isMeant_84 hr.1 hc3, hadd, jt_Parser_isMeant_92 hr.1 hc3, hs2, jt_Parser_isMeant_103 hr.1 hc3, cStage hk, jt_Parser_isMeant_111 hr.1 hc3]
theorem cMeant {r3 : Nat} (hV : jV σ 1 w) (hw : jInv w) (hr : jRn σ r n f) (hf : ∀ k, k < n → f k ≤ 5) (hn : n ≤ 12) (hc3 : jm_c r3 = 6) (hl3 : 12 ≤ jm_ln (r3 + 1)) (hr3 : 282 ≤ r3) (hrr : r + 1 < 279 ∨ 282 ≤ r ∧ (r + 1 < r3 ∨ r3 + 1 < r)) : ∃ σ' L, jb_Ev 172 [.ref (279 : Nat), .ref (9 : Nat), .ref r, .ref r3] (jm_hp σ) = some (some (.int (if jP w n f = 1 then jI 1 else jI 0)), jm_hp σ') ∧ (∀ q j, ¬ (279 ≤ q ∧ q < 282 ∨ q = r3 ∨ q = r3 + 1) → σ' q j = σ q j) ∧ jRn σ' r3 L.length (fun j => L.getD j 0) ∧ L.length ≤ 12 ∧ (∀ i ∈ L, i < w 0) ∧ (jP w n f ≠ 1 → L = []) ∧ (jP w n f = 1 → jPath w n f L 0 0 ∧ jsl w L ≤ n ∧ σ' 279 1 = jI (n - jsl w L)) := by
  have kF : ∀ q j, ¬ (q = 279 ∨ q = r3 ∨ q = r3 + 1) → jm_up (jm_up σ r3 1 (jI 0)) 279 1 (jI 0) q j = σ q j := fun q j z => (jm_up_o _ _ (by omega)).trans (jm_up_o _ _ (by omega))
  have hcl : jb_Ev 13 [.ref r3] (jm_hp σ) = some (none, jm_hp (jm_up σ r3 1 (jI 0))) := jt_Row_clear_0 hc3
  have hL0 : jRn (jm_up (jm_up σ r3 1 (jI 0)) 279 1 (jI 0)) r3 ([] : List Nat).length (fun j => ([] : List Nat).getD j 0) := ⟨hc3, Nat.zero_le _, by rw [jm_up_o _ _ (by omega), jm_up_same]; rfl, fun k hk => absurd hk (Nat.not_lt_zero _)⟩
  have h0 : jm_up (jm_up σ r3 1 (jI 0)) 279 1 (jI 0) 279 1 = jI 0 := jm_up_same _ _ _ _
  have hr1 : jRn (jm_up (jm_up σ r3 1 (jI 0)) 279 1 (jI 0)) r n f := hr.k (P := fun q => q = 279 ∨ q = r3 ∨ q = r3 + 1) kF (by omega) (by omega)
  have hV1 : jV (jm_up (jm_up σ r3 1 (jI 0)) 279 1 (jI 0)) 1 w := hV.A (a := 279) (b := r3 + 300) (fun q j z => kF q j (by omega)) (by omega)
  generalize hτ : jm_up (jm_up σ r3 1 (jI 0)) 279 1 (jI 0) = τ at kF hL0 h0 hr1 hV1
  obtain ⟨υ, e1, A1, c1⟩ := cBack hV1 hw hr1 (by omega) hf (by omega)
  have hcap := jcap_le (jP w n f)
  by_cases e : jP w n f = 1
  · have hne : ¬ (n = 0 ∨ f (n - 1) = 5) := fun z => by
      unfold jP at e
      rw [if_pos z] at e
      cases e
    have hW : jW w n f 0 0 = 1 := by
      unfold jP at e
      rw [if_neg hne] at e
      exact e
    have hc1 : jcap (jP w n f) = 1 := jcap_1.mpr e
    obtain ⟨ρ, L, g1, g2, g3, g4, g5, g6, g7, g8⟩ := cMeantL (σ := υ) (hV1.A A1 (by omega)) hw (hr1.A A1 (by omega)) hf (c1 hne) hn (by omega) (by omega) hc3 hl3 hr3 hrr n 0 0 0 υ (.retAddr 0) [] (Nat.zero_add _) (Nat.le_refl _) (by omega) hW (hL0.A A1 (by omega)) (Nat.le_refl _) (Nat.zero_le _) (fun i hi => absurd hi List.not_mem_nil) (by rw [A1 _ _ (by omega), h0]; rfl) (fun _ _ _ => rfl) (fun l hl => hl)
    refine ⟨ρ, L, ?_, fun q j z => (g8 q j (by omega)).trans ((A1 q j (by omega)).trans (kF q j (by omega))), g2, g3, g5, fun z => absurd e z, fun _ => ⟨g4, g6, g7⟩⟩
    rw [if_pos e, jt_Parser_isMeant_0 hr.1 hc3, hcl, jb_K_n, jt_Parser_isMeant_4 hr.1 hc3, hτ, e1, jb_K_v, jt_Parser_isMeant_15 hr.1 hc3, if_pos (by rw [hc1]), g1]
  · have hc1 : jcap (jP w n f) ≠ 1 := fun z => e (jcap_1.mp z)
    refine ⟨υ, [], ?_, fun q j z => (A1 q j (by omega)).trans (kF q j (by omega)), hL0.A A1 (by omega), Nat.zero_le _, fun i hi => absurd hi List.not_mem_nil, fun _ => rfl, fun z => absurd z e⟩
    rw [if_neg e, jt_Parser_isMeant_0 hr.1 hc3, hcl, jb_K_n, jt_Parser_isMeant_4 hr.1 hc3, hτ, e1, jb_K_v, jt_Parser_isMeant_15 hr.1 hc3, if_neg (by rw [jI_eq (by omega) (by omega)]; exact hc1)]
end MN
