/-! ===== what stays ===== -/
theorem jn_284 : jm_ln 284 = 60 := by decide +kernel
theorem jn_292 : jm_ln 292 = 20 := by decide +kernel
theorem jCH.A {σ σ' : jm_S} {a b n : Nat} {H : Nat → Nat → Nat} (h : jCH σ n H) (hA : jA a b σ σ') (hd : 278 ≤ a ∨ b ≤ 76) : jCH σ' n H := by
  obtain ⟨h1, o, h2, h3, h4⟩ := h
  exact ⟨by rw [hA _ _ (by omega)]; exact h1, o, h2, by rw [hA _ _ (by omega)]; exact h3, fun k hk => (h4 k hk).A hA (by omega)⟩
theorem jCR.A {σ σ' : jm_S} {a b : Nat} {s : Nat → Nat} (h : jCR σ s) (hA : jA a b σ σ') (hd : 279 ≤ a ∨ b ≤ 278) : jCR σ' s := by
  unfold jCR at h ⊢
  rw [hA 278 0 (by omega), hA 278 1 (by omega), hA 278 2 (by omega), hA 278 3 (by omega)]
  exact h
theorem jRn.congr {σ : jm_S} {r n m : Nat} {f g : Nat → Nat} (h : jRn σ r n f) (hn : n = m) (hg : ∀ k, k < n → f k = g k) : jRn σ r m g := by
  subst hn
  exact jR.congr h (fun k hk => by rw [hg k hk])
theorem jAr.congr {σ : jm_S} {q n : Nat} {f g : Nat → Nat} (h : jAr σ q n f) (hg : ∀ k, k < n → f k = g k) : jAr σ q n g := fun j hj => by rw [← hg j hj]; exact h j hj
theorem js0_K {S : jSt} {a : Nat} {f : Nat → Nat} (ha : a < 10) : (fun k => js0 S a f (10 + k)) = (fun k => S (10 + k)) := funext (fun k => if_neg (by omega))
/-- the class's scratch, the plain form's scratch -/
def jcS (σ σ' : jm_S) : Prop := ∀ q j, ¬ (26 ≤ q ∧ q < 51 ∨ 279 ≤ q ∧ q < 282 ∨ 285 ≤ q ∧ q < 291 ∨ 295 ≤ q ∧ q < 307) → σ' q j = σ q j
def jmS (σ σ' : jm_S) : Prop := ∀ q j, ¬ (q = 309 ∨ 315 ≤ q ∨ q = 307 ∧ 17 ≤ j) → σ' q j = σ q j
theorem jcS.rf {σ : jm_S} : jcS σ σ := fun _ _ _ => rfl
theorem jmS.rf {σ : jm_S} : jmS σ σ := fun _ _ _ => rfl
theorem jcS.tr {σ σ' σ'' : jm_S} (h : jcS σ σ') (h' : jcS σ' σ'') : jcS σ σ'' := fun q j x => (h' q j x).trans (h q j x)
theorem jmS.tr {σ σ' σ'' : jm_S} (h : jmS σ σ') (h' : jmS σ' σ'') : jmS σ σ'' := fun q j x => (h' q j x).trans (h q j x)
theorem jA.cS {a b : Nat} {σ σ' : jm_S} (h : jA a b σ σ') (hd : 26 ≤ a ∧ b ≤ 51 ∨ 279 ≤ a ∧ b ≤ 282 ∨ 285 ≤ a ∧ b ≤ 291 ∨ 295 ≤ a ∧ b ≤ 307) : jcS σ σ' := fun q j x => h q j (by omega)
theorem jcS.Hi {σ σ' : jm_S} (h : jcS σ σ') : jHi σ σ' := fun q j hq => h q j (by omega)
theorem jmS.Lo {σ σ' : jm_S} (h : jmS σ σ') : jLo σ σ' := fun q j hq => h q j (by omega)
theorem jV.cS {σ σ' : jm_S} {v : Nat} {w : Nat → Nat} (h : jV σ v w) (hl : jcS σ σ') (hv : v + 25 ≤ 26 ∨ 51 ≤ v ∧ v + 25 ≤ 279) : jV σ' v w := by
  obtain ⟨g, h, hg⟩ := h
  refine ⟨g, ?_, hg⟩
  obtain ⟨h1, h2, h3, h4, h5, h6, h7, h8, h9, h10, h11, h12, h13⟩ := h
  have key : ∀ {o n : Nat} {f : Nat → Nat}, o + 1 < 25 → jRn σ (v + o) n f → jRn σ' (v + o) n f := fun ho hr => jR.eq hr (hl _ _ (by omega)) (fun k _ => hl _ _ (by omega))
  exact ⟨key (by omega) h1, key (by omega) h2, key (by omega) h3, key (by omega) h4, key (by omega) h5, key (by omega) h6, key (by omega) h7, key (by omega) h8, key (by omega) h9, key (by omega) h10, by rw [hl v 4 (by omega)]; exact h11, by rw [hl v 5 (by omega)]; exact h12, by rw [hl v 6 (by omega)]; exact h13⟩
theorem JC.cS {σ σ' : jm_S} {S : jSt} (h : JC σ S) (hl : jcS σ σ') : JC σ' S := by
  obtain ⟨h1, ⟨a1, o, a2, a3, a4⟩, ⟨h3, h4⟩, ⟨h5, h6, h7⟩, h8, h9⟩ := h
  refine ⟨h1.cS hl (by omega), ⟨by rw [hl _ _ (by omega)]; exact a1, o, a2, by rw [hl _ _ (by omega)]; exact a3, fun k hk => (a4 k hk).cS hl (by omega)⟩, ⟨by rw [hl _ _ (by omega)]; exact h3, fun z => (h4 z).cS hl (by omega)⟩, ⟨jR.eq h5 (hl _ _ (by omega)) (fun k _ => hl _ _ (by omega)), jR.eq h6 (hl _ _ (by omega)) (fun k _ => hl _ _ (by omega)), jR.eq h7 (hl _ _ (by omega)) (fun k _ => hl _ _ (by omega))⟩, ?_, by rw [hl _ _ (by omega)]; exact h9⟩
  unfold jCR at h8 ⊢
  rw [hl 278 0 (by omega), hl 278 1 (by omega), hl 278 2 (by omega), hl 278 3 (by omega)]
  exact h8
theorem JC.keep {σ σ' : jm_S} {S : jSt} {a b : Nat} (h : JC σ S) (hA : jA a b σ σ') : ((26 ≤ a ∨ b ≤ 1) → jV σ' 1 (S 0)) ∧ ((278 ≤ a ∨ b ≤ 76) → jCH σ' (S 9 1) (fun k => S (10 + k))) ∧ (1 ≤ a → σ' 0 15 = jI (S 9 0)) ∧ ((76 ≤ a ∨ b ≤ 51) → S 9 0 ≠ 0 → jV σ' 51 (S 1)) ∧ ((293 ≤ a ∨ b ≤ 291) → jRn σ' 291 (S 9 2) (S 2)) ∧ ((285 ≤ a ∨ b ≤ 283) → jRn σ' 283 (S 9 3) (S 3)) ∧ ((295 ≤ a ∨ b ≤ 293) → jRn σ' 293 (S 9 4) (S 4)) ∧ ((279 ≤ a ∨ b ≤ 278) → jCR σ' (S 9)) ∧ (1 ≤ a → σ' 0 16 = (if S 9 9 = 0 then -1 else jI (S 9 9 - 1))) := by
  obtain ⟨h1, h2, ⟨h3, h4⟩, ⟨h5, h6, h7⟩, h8, h9⟩ := h
  exact ⟨fun d => h1.A hA (by omega), fun d => h2.A hA (by omega), fun d => by rw [hA _ _ (by omega)]; exact h3, fun d z => (h4 z).A hA (by omega), fun d => h5.A hA (by omega), fun d => h6.A hA (by omega), fun d => h7.A hA (by omega), fun d => h8.A hA (by omega), fun d => by rw [hA _ _ (by omega)]; exact h9⟩
def jU (P : Nat → Nat → Prop) (σ σ' : jm_S) : Prop := ∀ q j, ¬ P q j → σ' q j = σ q j
theorem JM.keep {σ σ' : jm_S} {S : jSt} (h : JM σ S) {P : Nat → Nat → Prop} (k : jU P σ σ') : ((∀ j, ¬ P 308 j) → jAr σ' 308 146 (S 0)) ∧ ((∀ j, ¬ P 311 j ∧ ¬ P 307 5) → jMH σ' (S 9 1) (fun k => S (10 + k))) ∧ (¬ P 307 4 → σ' 307 4 = jI (S 9 0)) ∧ ((∀ j, ¬ P 310 j) → S 9 0 ≠ 0 → jAr σ' 310 146 (S 1)) ∧ ((∀ j, ¬ P 312 j ∧ ¬ P 307 12) → σ' 307 12 = jI (S 9 2) ∧ jAr σ' 312 (S 9 2) (S 2)) ∧ ((∀ j, ¬ P 313 j ∧ ¬ P 307 14) → σ' 307 14 = jI (S 9 3) ∧ jAr σ' 313 (S 9 3) (S 3)) ∧ ((∀ j, ¬ P 314 j ∧ ¬ P 307 16) → σ' 307 16 = jI (S 9 4) ∧ jAr σ' 314 (S 9 4) (S 4)) ∧ ((∀ j, 6 ≤ j ∧ j ≤ 9 → ¬ P 307 j) → jMR σ' (S 9)) ∧ (¬ P 307 10 → σ' 307 10 = (if S 9 9 = 0 then -3 else jI (S 9 9 - 1))) := by
  obtain ⟨m1, ⟨m2, m2'⟩, ⟨m3, m4⟩, ⟨m5, m6⟩, ⟨m7, m8⟩, ⟨m9, m10⟩, m11, m12⟩ := h
  refine ⟨fun d j hj => (k _ _ (d j)).trans (m1 j hj), fun d => ⟨(k _ _ (d 0).2).trans m2, fun x j hx hj => (k _ _ (d _).1).trans (m2' x j hx hj)⟩, fun d => (k _ _ d).trans m3, fun d z j hj => (k _ _ (d j)).trans (m4 z j hj), fun d => ⟨(k _ _ (d 0).2).trans m5, fun j hj => (k _ _ (d j).1).trans (m6 j hj)⟩, fun d => ⟨(k _ _ (d 0).2).trans m7, fun j hj => (k _ _ (d j).1).trans (m8 j hj)⟩, fun d => ⟨(k _ _ (d 0).2).trans m9, fun j hj => (k _ _ (d j).1).trans (m10 j hj)⟩, fun d => ?_, fun d => (k _ _ d).trans m12⟩
  unfold jMR at m11 ⊢
  rw [k 307 6 (d 6 (by omega)), k 307 7 (d 7 (by omega)), k 307 8 (d 8 (by omega)), k 307 9 (d 9 (by omega))]
  exact m11
theorem JM.mS {σ σ' : jm_S} {S : jSt} (h : JM σ S) (k : jmS σ σ') : JM σ' S := by
  obtain ⟨k1, k2, k3, k4, k5, k6, k7, k8, k9⟩ := h.keep (P := fun q j => q = 309 ∨ 315 ≤ q ∨ q = 307 ∧ 17 ≤ j) k
  exact ⟨k1 (fun j => by omega), k2 (fun j => by omega), ⟨k3 (by omega), k4 (fun j => by omega)⟩, k5 (fun j => by omega), k6 (fun j => by omega), k7 (fun j => by omega), k8 (fun j => by omega), k9 (by omega)⟩
theorem jOp_q {σ : jm_S} {S : jSt} {nc nm : Nat} {as : List Value} {v : Value} (hC : JC σ S) (hM : JM σ S) (hI : JI S) (hc : ∃ σ1, jb_Ev nc (.ref (0 : Nat) :: as) (jm_hp σ) = some (some v, jm_hp σ1) ∧ jcS σ σ1) (hm : ∀ τ, JM τ S → ∃ σ1, jb_Ev nm (.ref (307 : Nat) :: as) (jm_hp τ) = some (some v, jm_hp σ1) ∧ jmS τ σ1) : jOp σ nc nm as := by
  refine jOp_of (S' := S) (v := v) hM ?_ (fun τ hτ => ?_) hI
  · obtain ⟨σ1, e, f⟩ := hc
    exact ⟨σ1, e, hC.cS f, f.Hi⟩
  · obtain ⟨σ1, e, f⟩ := hm τ hτ
    exact ⟨σ1, e, hτ.mS f, f.Lo⟩
/-! ===== lay, append, written ===== -/
section OPS
variable {σ : jm_S} {S : jSt}
def jlay (S : jSt) (k : Nat) : jSt := js0 (js0 S 2 (jn0 (S 2) (S 9 2) k)) 9 (jn0 (S 9) 2 (S 9 2 + 1))
def japp (S : jSt) (k : Nat) : jSt := js0 (js0 S 3 (jn0 (S 3) (S 9 3) k)) 9 (jn0 (S 9) 3 (S 9 3 + 1))
theorem jlay_H (S : jSt) (k : Nat) : (fun i => jlay S k (10 + i)) = (fun i => S (10 + i)) := by
  unfold jlay
  rw [js0_K (by omega), js0_K (by omega)]
theorem japp_H (S : jSt) (k : Nat) : (fun i => japp S k (10 + i)) = (fun i => S (10 + i)) := by
  unfold japp
  rw [js0_K (by omega), js0_K (by omega)]
theorem jRn_add {r n : Nat} {f : Nat → Nat} (h : jRn σ r n f) (hn : n < jm_ln (r + 1)) (x : Nat) : jRn (jm_up (jm_up σ (r + 1) n (jI x)) r 1 (jI (n + 1))) r (n + 1) (jn0 f n x) := (jR.add h hn (jI x)).congr (fun k _ => by
  unfold jn0
  by_cases e : k = n
  · rw [if_pos e, if_pos e]
  · rw [if_neg e, if_neg e])
theorem jJC_lay (hC : JC σ S) {k : Nat} (hn : S 9 2 < 20) : JC (jm_up (jm_up σ 292 (S 9 2) (jI k)) 291 1 (jI (S 9 2 + 1))) (jlay S k) := by
  have hA : jA 291 293 σ (jm_up (jm_up σ 292 (S 9 2) (jI k)) 291 1 (jI (S 9 2 + 1))) := jA_ups (jA_up (by omega) (by omega)) (by omega) (by omega)
  obtain ⟨k1, k2, k3, k4, k5, k6, k7, k8, k9⟩ := hC.keep hA
  refine ⟨k1 (by omega), ?_, ⟨k3 (by omega), k4 (by omega)⟩, ⟨jRn_add hC.2.2.2.1.1 (by rw [show (291 : Nat) + 1 = 292 from rfl, jn_292]; exact hn) k, k6 (by omega), k7 (by omega)⟩, k8 (by omega), k9 (by omega)⟩
  rw [jlay_H]
  exact k2 (by omega)
theorem jJC_app (hC : JC σ S) {k : Nat} (hn : S 9 3 < 60) : JC (jm_up (jm_up σ 284 (S 9 3) (jI k)) 283 1 (jI (S 9 3 + 1))) (japp S k) := by
  have hA : jA 283 285 σ (jm_up (jm_up σ 284 (S 9 3) (jI k)) 283 1 (jI (S 9 3 + 1))) := jA_ups (jA_up (by omega) (by omega)) (by omega) (by omega)
  obtain ⟨k1, k2, k3, k4, k5, k6, k7, k8, k9⟩ := hC.keep hA
  refine ⟨k1 (by omega), ?_, ⟨k3 (by omega), k4 (by omega)⟩, ⟨k5 (by omega), jRn_add hC.2.2.2.1.2.1 (by rw [show (283 : Nat) + 1 = 284 from rfl, jn_284]; exact hn) k, k7 (by omega)⟩, k8 (by omega), k9 (by omega)⟩
  rw [japp_H]
  exact k2 (by omega)
theorem jJM_lay (hM : JM σ S) {k : Nat} : JM (jm_up (jm_up σ 312 (S 9 2) (jI k)) 307 12 (jI (S 9 2 + 1))) (jlay S k) := by
  obtain ⟨k1, k2, k3, k4, k5, k6, k7, k8, k9⟩ := hM.keep (P := fun q j => q = 312 ∨ q = 307 ∧ j = 12) (σ' := jm_up (jm_up σ 312 (S 9 2) (jI k)) 307 12 (jI (S 9 2 + 1))) (fun q j z => by
    by_cases e : q = 307
    · subst e
      rw [jm_up_j _ _ (by omega), jm_up_o _ _ (by omega)]
    · rw [jm_up_o _ _ e, jm_up_o _ _ (by omega)])
  refine ⟨k1 (fun j => by omega), ?_, ⟨k3 (by omega), k4 (fun j => by omega)⟩, ⟨jm_up_same _ _ _ _, fun j hj => ?_⟩, k6 (fun j => by omega), k7 (fun j => by omega), k8 (fun j => by omega), k9 (by omega)⟩
  · rw [jlay_H]
    exact k2 (fun j => by omega)
  · have hj : j < S 9 2 + 1 := hj
    show _ = jI (jn0 (S 2) (S 9 2) k j)
    rw [jm_up_o _ _ (by omega)]
    unfold jn0
    by_cases e : j = S 9 2
    · rw [e, jm_up_same, if_pos rfl]
    · rw [jm_up_j _ _ e, if_neg e]
      exact hM.2.2.2.1.2 j (by omega)
theorem jJM_app (hM : JM σ S) {k : Nat} : JM (jm_up (jm_up σ 313 (S 9 3) (jI k)) 307 14 (jI (S 9 3 + 1))) (japp S k) := by
  obtain ⟨k1, k2, k3, k4, k5, k6, k7, k8, k9⟩ := hM.keep (P := fun q j => q = 313 ∨ q = 307 ∧ j = 14) (σ' := jm_up (jm_up σ 313 (S 9 3) (jI k)) 307 14 (jI (S 9 3 + 1))) (fun q j z => by
    by_cases e : q = 307
    · subst e
      rw [jm_up_j _ _ (by omega), jm_up_o _ _ (by omega)]
    · rw [jm_up_o _ _ e, jm_up_o _ _ (by omega)])
  refine ⟨k1 (fun j => by omega), ?_, ⟨k3 (by omega), k4 (fun j => by omega)⟩, k5 (fun j => by omega), ⟨jm_up_same _ _ _ _, fun j hj => ?_⟩, k7 (fun j => by omega), k8 (fun j => by omega), k9 (by omega)⟩
  · rw [japp_H]
    exact k2 (fun j => by omega)
  · have hj : j < S 9 3 + 1 := hj
    show _ = jI (jn0 (S 3) (S 9 3) k j)
    rw [jm_up_o _ _ (by omega)]
    unfold jn0
    by_cases e : j = S 9 3
    · rw [e, jm_up_same, if_pos rfl]
    · rw [jm_up_j _ _ e, if_neg e]
      exact hM.2.2.2.2.1.2 j (by omega)
theorem jJI_lay (hI : JI S) {k : Nat} (hk : k ≤ 5) (hn : S 9 2 < 20) : JI (jlay S k) := by
  obtain ⟨h1, ⟨h2, h3⟩, h4, ⟨h5, h5'⟩, h6, h7⟩ := hI
  refine ⟨h1, ⟨h2, fun i hi => ?_⟩, h4, ⟨hn, fun i hi => ?_⟩, h6, h7⟩
  · have : jlay S k (10 + i) = S (10 + i) := congrFun (jlay_H S k) i
    rw [this]
    exact h3 i hi
  · have hi : i < S 9 2 + 1 := hi
    show jn0 (S 2) (S 9 2) k i ≤ 5
    unfold jn0
    by_cases e : i = S 9 2
    · rw [if_pos e]; exact hk
    · rw [if_neg e]; exact h5' i (by omega)
theorem jJI_app (hI : JI S) {k : Nat} (hk : 32 ≤ k) (hk2 : k ≤ 126) (hn : S 9 3 < 60) : JI (japp S k) := by
  obtain ⟨h1, ⟨h2, h3⟩, h4, h5, ⟨h6, h6'⟩, h7⟩ := hI
  refine ⟨h1, ⟨h2, fun i hi => ?_⟩, h4, h5, ⟨hn, fun i hi => ?_⟩, h7⟩
  · have : japp S k (10 + i) = S (10 + i) := congrFun (japp_H S k) i
    rw [this]
    exact h3 i hi
  · have hi : i < S 9 3 + 1 := hi
    show 32 ≤ jn0 (S 3) (S 9 3) k i ∧ jn0 (S 3) (S 9 3) k i ≤ 126
    unfold jn0
    by_cases e : i = S 9 3
    · rw [if_pos e]; exact ⟨hk, hk2⟩
    · rw [if_neg e]; exact h6' i (by omega)
/-- a letter as a sign, of both -/
theorem jD_sign {x : Nat} (hx : x < 2147483648) : (∃ k, k ≤ 5 ∧ (x = 46 ∧ k = 5 ∨ x ≠ 46 ∧ k < 5 ∧ x = 97 + k) ∧ jb_Ev 10 [.int (jI x)] (jm_hp σ) = some (some (.int (jI k)), jm_hp σ)) ∨ (x ≠ 46 ∧ (x < 97 ∨ 101 < x) ∧ jb_Ev 10 [.int (jI x)] (jm_hp σ) = some (some (.int (-1)), jm_hp σ)) := by
  rw [jt_D_signOfCharacter_0]
  by_cases h1 : x = 46
  · exact Or.inl ⟨5, by omega, by omega, by simp (disch := omega) only [jb_K_n, jb_K_v, ↓reduceIte, jT_lt, jF_lt, jT_le, jF_le, jT_eq, jF_eq, jT_z, jF_z, jF_neg, jT_nn, jT_pos, jF_pos, jT_le0, jF_le0, jT_x, jF_m1, jF_m1r, jT_tt, jI_add, jI_mul, jI_sub, jI_cl, jm_up_same, jm_up_o, jm_up_j, jbR_T, jbR_F]⟩
  · by_cases h2 : x < 97
    · exact Or.inr ⟨h1, by omega, by simp (disch := omega) only [jb_K_n, jb_K_v, ↓reduceIte, jT_lt, jF_lt, jT_le, jF_le, jT_eq, jF_eq, jT_z, jF_z, jF_neg, jT_nn, jT_pos, jF_pos, jT_le0, jF_le0, jT_x, jF_m1, jF_m1r, jT_tt, jI_add, jI_mul, jI_sub, jI_cl, jm_up_same, jm_up_o, jm_up_j, jbR_T, jbR_F]⟩
    · by_cases h3 : 101 < x
      · exact Or.inr ⟨h1, by omega, by simp (disch := omega) only [jb_K_n, jb_K_v, ↓reduceIte, jT_lt, jF_lt, jT_le, jF_le, jT_eq, jF_eq, jT_z, jF_z, jF_neg, jT_nn, jT_pos, jF_pos, jT_le0, jF_le0, jT_x, jF_m1, jF_m1r, jT_tt, jI_add, jI_mul, jI_sub, jI_cl, jm_up_same, jm_up_o, jm_up_j, jbR_T, jbR_F]⟩
      · exact Or.inl ⟨x - 97, by omega, by omega, by simp (disch := omega) only [jb_K_n, jb_K_v, ↓reduceIte, jT_lt, jF_lt, jT_le, jF_le, jT_eq, jF_eq, jT_z, jF_z, jF_neg, jT_nn, jT_pos, jF_pos, jT_le0, jF_le0, jT_x, jF_m1, jF_m1r, jT_tt, jI_add, jI_mul, jI_sub, jI_cl, jm_up_same, jm_up_o, jm_up_j, jbR_T, jbR_F]⟩
theorem o_lay (hC : JC σ S) (hM : JM σ S) (hI : JI S) {x : Nat} (hx : x < 65536) : jOp σ 59 98 [.int (jI x)] := by
  have hd := hC.2.2.2.1.1
  have hl : S 9 2 ≤ 20 := hI.2.2.2.1.1
  rcases jD_sign (σ := σ) (x := x) (by omega) with ⟨k, h1, h2, e⟩ | ⟨h1, h2, e⟩
  · by_cases hn : S 9 2 < 20
    · refine jOp_of (S' := jlay S k) (v := .int (jI (S 9 2 + 1))) hM ⟨_, ?_, jJC_lay hC hn, ?_⟩ (fun τ hτ => ⟨_, ?_, jJM_lay hτ, ?_⟩) (jJI_lay hI h1 hn)
      · have hn' : S 9 2 < jm_ln (291 + 1) := by rw [show (291 : Nat) + 1 = 292 from rfl, jn_292]; exact hn
        simp (disch := omega) only [jb_K_n, jb_K_v, ↓reduceIte, jT_lt, jF_lt, jT_le, jF_le, jT_eq, jF_eq, jT_z, jF_z, jF_neg, jT_nn, jT_pos, jF_pos, jT_le0, jF_le0, jT_x, jF_m1, jF_m1r, jT_tt, jI_add, jI_mul, jI_sub, jI_cl, jm_up_same, jm_up_o, jm_up_j, jbR_T, jbR_F, jt_D_lay_0, jt_D_lay_4, jt_D_lay_20, jt_D_lay_34, jt_D_lay_41, e, jR_fullN hd hn', jR_add hd hn' (jI k), jR_size (jRn_add hd hn' k)]
      · exact (jA_ups (jA_up (a := 291) (b := 293) (by omega) (by omega)) (by omega) (by omega)).Hi (by omega)
      · have h12 : τ 307 12 = jI (S 9 2) := hτ.2.2.2.1.1
        rcases h2 with ⟨rfl, rfl⟩ | ⟨h2, h3, rfl⟩
        · simp (disch := omega) only [jb_K_n, jb_K_v, ↓reduceIte, jT_lt, jF_lt, jT_le, jF_le, jT_eq, jF_eq, jT_z, jF_z, jF_neg, jT_nn, jT_pos, jF_pos, jT_le0, jF_le0, jT_x, jF_m1, jF_m1r, jT_tt, jI_add, jI_mul, jI_sub, jI_cl, jm_up_same, jm_up_o, jm_up_j, jbR_T, jbR_F, jt_M_lay_0, jM_inY, jt_M_lay_21, h12]
        · simp (disch := omega) only [jb_K_n, jb_K_v, ↓reduceIte, jT_lt, jF_lt, jT_le, jF_le, jT_eq, jF_eq, jT_z, jF_z, jF_neg, jT_nn, jT_pos, jF_pos, jT_le0, jF_le0, jT_x, jF_m1, jF_m1r, jT_tt, jI_add, jI_mul, jI_sub, jI_cl, jm_up_same, jm_up_o, jm_up_j, jbR_T, jbR_F, jt_M_lay_0, jM_inY, jt_M_lay_21, h12, Nat.add_sub_cancel_left]
      · intro q j hq
        rw [jm_up_o _ _ (by omega), jm_up_o _ _ (by omega)]
    · refine jOp_q (v := .int (-4)) hC hM hI ⟨σ, ?_, jcS.rf⟩ (fun τ hτ => ⟨τ, ?_, jmS.rf⟩)
      · have hn' : jm_ln (291 + 1) ≤ S 9 2 := by rw [show (291 : Nat) + 1 = 292 from rfl, jn_292]; omega
        simp (disch := omega) only [jb_K_n, jb_K_v, ↓reduceIte, jT_lt, jF_lt, jT_le, jF_le, jT_eq, jF_eq, jT_z, jF_z, jF_neg, jT_nn, jT_pos, jF_pos, jT_le0, jF_le0, jT_x, jF_m1, jF_m1r, jT_tt, jI_add, jI_mul, jI_sub, jI_cl, jm_up_same, jm_up_o, jm_up_j, jbR_T, jbR_F, jt_D_lay_0, jt_D_lay_4, jt_D_lay_20, jt_D_lay_34, jt_D_lay_41, e, jR_fullY hd hn']
      · have h12 : τ 307 12 = jI (S 9 2) := hτ.2.2.2.1.1
        rcases h2 with ⟨rfl, rfl⟩ | ⟨h2, h3, rfl⟩
        · simp (disch := omega) only [jb_K_n, jb_K_v, ↓reduceIte, jT_lt, jF_lt, jT_le, jF_le, jT_eq, jF_eq, jT_z, jF_z, jF_neg, jT_nn, jT_pos, jF_pos, jT_le0, jF_le0, jT_x, jF_m1, jF_m1r, jT_tt, jI_add, jI_mul, jI_sub, jI_cl, jm_up_same, jm_up_o, jm_up_j, jbR_T, jbR_F, jt_M_lay_0, jM_inY, jt_M_lay_21, h12]
        · simp (disch := omega) only [jb_K_n, jb_K_v, ↓reduceIte, jT_lt, jF_lt, jT_le, jF_le, jT_eq, jF_eq, jT_z, jF_z, jF_neg, jT_nn, jT_pos, jF_pos, jT_le0, jF_le0, jT_x, jF_m1, jF_m1r, jT_tt, jI_add, jI_mul, jI_sub, jI_cl, jm_up_same, jm_up_o, jm_up_j, jbR_T, jbR_F, jt_M_lay_0, jM_inY, jt_M_lay_21, h12, Nat.add_sub_cancel_left]
  · refine jOp_q (v := .int (-2)) hC hM hI ⟨σ, ?_, jcS.rf⟩ (fun τ hτ => ⟨τ, ?_, jmS.rf⟩)
    · simp (disch := omega) only [jb_K_n, jb_K_v, ↓reduceIte, jT_lt, jF_lt, jT_le, jF_le, jT_eq, jF_eq, jT_z, jF_z, jF_neg, jT_nn, jT_pos, jF_pos, jT_le0, jF_le0, jT_x, jF_m1, jF_m1r, jT_tt, jI_add, jI_mul, jI_sub, jI_cl, jm_up_same, jm_up_o, jm_up_j, jbR_T, jbR_F, jt_D_lay_0, jt_D_lay_4, jt_D_lay_20, jt_D_lay_34, jt_D_lay_41, e]
    · by_cases h3 : x = 102
      · subst h3
        simp (disch := omega) only [jb_K_n, jb_K_v, ↓reduceIte, jT_lt, jF_lt, jT_le, jF_le, jT_eq, jF_eq, jT_z, jF_z, jF_neg, jT_nn, jT_pos, jF_pos, jT_le0, jF_le0, jT_x, jF_m1, jF_m1r, jT_tt, jI_add, jI_mul, jI_sub, jI_cl, jm_up_same, jm_up_o, jm_up_j, jbR_T, jbR_F, jt_M_lay_0, jM_inY, jt_M_lay_21]
      · have hb : ¬ jbt (jI x - jI 97) 0 5 := by
          rintro ⟨k, a1, a2, a3⟩
          have a4 : jI x = jI (k + 97) := by
            rw [← jI_add, ← a3, Int32.sub_add_cancel]
          have := (jI_eq (by omega) (by omega)).mp a4
          omega
        rw [jt_M_lay_0, if_neg (by rw [jI_eq (by omega) (by omega)]; exact h1), jM_inN hb (by omega) (by omega)]
        simp (disch := omega) only [jb_K_n, jb_K_v, ↓reduceIte, jT_lt, jF_lt, jT_le, jF_le, jT_eq, jF_eq, jT_z, jF_z, jF_neg, jT_nn, jT_pos, jF_pos, jT_le0, jF_le0, jT_x, jF_m1, jF_m1r, jT_tt, jI_add, jI_mul, jI_sub, jI_cl, jm_up_same, jm_up_o, jm_up_j, jbR_T, jbR_F, jt_M_lay_21]
theorem o_append (hC : JC σ S) (hM : JM σ S) (hI : JI S) {x : Nat} (hx : x < 65536) : jOp σ 81 118 [.int (jI x)] := by
  have hd := hC.2.2.2.1.2.1
  have hl : S 9 3 ≤ 60 := hI.2.2.2.2.1.1
  by_cases h1 : 32 ≤ x ∧ x ≤ 126
  · obtain ⟨h1, h2⟩ := h1
    by_cases hn : S 9 3 < 60
    · refine jOp_of (S' := japp S x) (v := .int (jI (S 9 3 + 1))) hM ⟨_, ?_, jJC_app hC hn, ?_⟩ (fun τ hτ => ⟨_, ?_, jJM_app hτ, ?_⟩) (jJI_app hI h1 h2 hn)
      · have hn' : S 9 3 < jm_ln (283 + 1) := by rw [show (283 : Nat) + 1 = 284 from rfl, jn_284]; exact hn
        simp (disch := omega) only [jb_K_n, jb_K_v, ↓reduceIte, jT_lt, jF_lt, jT_le, jF_le, jT_eq, jF_eq, jT_z, jF_z, jF_neg, jT_nn, jT_pos, jF_pos, jT_le0, jF_le0, jT_x, jF_m1, jF_m1r, jT_tt, jI_add, jI_mul, jI_sub, jI_cl, jm_up_same, jm_up_o, jm_up_j, jbR_T, jbR_F, jt_D_append_0, jt_D_append_25, jt_D_append_42, jt_D_append_52, jR_fullN hd hn', jR_add hd hn' (jI x), jR_size (jRn_add hd hn' x)]
      · exact (jA_ups (jA_up (a := 283) (b := 285) (by omega) (by omega)) (by omega) (by omega)).Hi (by omega)
      · have h12 : τ 307 14 = jI (S 9 3) := hτ.2.2.2.2.1.1
        simp (disch := omega) only [jb_K_n, jb_K_v, ↓reduceIte, jT_lt, jF_lt, jT_le, jF_le, jT_eq, jF_eq, jT_z, jF_z, jF_neg, jT_nn, jT_pos, jF_pos, jT_le0, jF_le0, jT_x, jF_m1, jF_m1r, jT_tt, jI_add, jI_mul, jI_sub, jI_cl, jm_up_same, jm_up_o, jm_up_j, jbR_T, jbR_F, jt_M_append_0, jM_inY, jt_M_append_8, h12]
      · intro q j hq
        rw [jm_up_o _ _ (by omega), jm_up_o _ _ (by omega)]
    · refine jOp_q (v := .int (-4)) hC hM hI ⟨σ, ?_, jcS.rf⟩ (fun τ hτ => ⟨τ, ?_, jmS.rf⟩)
      · have hn' : jm_ln (283 + 1) ≤ S 9 3 := by rw [show (283 : Nat) + 1 = 284 from rfl, jn_284]; omega
        simp (disch := omega) only [jb_K_n, jb_K_v, ↓reduceIte, jT_lt, jF_lt, jT_le, jF_le, jT_eq, jF_eq, jT_z, jF_z, jF_neg, jT_nn, jT_pos, jF_pos, jT_le0, jF_le0, jT_x, jF_m1, jF_m1r, jT_tt, jI_add, jI_mul, jI_sub, jI_cl, jm_up_same, jm_up_o, jm_up_j, jbR_T, jbR_F, jt_D_append_0, jt_D_append_25, jt_D_append_42, jt_D_append_52, jR_fullY hd hn']
      · have h12 : τ 307 14 = jI (S 9 3) := hτ.2.2.2.2.1.1
        simp (disch := omega) only [jb_K_n, jb_K_v, ↓reduceIte, jT_lt, jF_lt, jT_le, jF_le, jT_eq, jF_eq, jT_z, jF_z, jF_neg, jT_nn, jT_pos, jF_pos, jT_le0, jF_le0, jT_x, jF_m1, jF_m1r, jT_tt, jI_add, jI_mul, jI_sub, jI_cl, jm_up_same, jm_up_o, jm_up_j, jbR_T, jbR_F, jt_M_append_0, jM_inY, jt_M_append_8, h12]
  · refine jOp_q (v := .int (-2)) hC hM hI ⟨σ, ?_, jcS.rf⟩ (fun τ hτ => ⟨τ, ?_, jmS.rf⟩)
    · by_cases h2 : x < 32
      · simp (disch := omega) only [jb_K_n, jb_K_v, ↓reduceIte, jT_lt, jF_lt, jT_le, jF_le, jT_eq, jF_eq, jT_z, jF_z, jF_neg, jT_nn, jT_pos, jF_pos, jT_le0, jF_le0, jT_x, jF_m1, jF_m1r, jT_tt, jI_add, jI_mul, jI_sub, jI_cl, jm_up_same, jm_up_o, jm_up_j, jbR_T, jbR_F, jt_D_append_0, jt_D_append_25, jt_D_append_42, jt_D_append_52]
      · simp (disch := omega) only [jb_K_n, jb_K_v, ↓reduceIte, jT_lt, jF_lt, jT_le, jF_le, jT_eq, jF_eq, jT_z, jF_z, jF_neg, jT_nn, jT_pos, jF_pos, jT_le0, jF_le0, jT_x, jF_m1, jF_m1r, jT_tt, jI_add, jI_mul, jI_sub, jI_cl, jm_up_same, jm_up_o, jm_up_j, jbR_T, jbR_F, jt_D_append_0, jt_D_append_25, jt_D_append_42, jt_D_append_52]
    · have hb : ¬ jbt (jI x) 32 126 := fun ⟨k, a1, a2, a3⟩ => by
        have := (jI_eq (by omega) (by omega)).mp a3
        omega
      simp (disch := omega) only [jb_K_n, jb_K_v, ↓reduceIte, jT_lt, jF_lt, jT_le, jF_le, jT_eq, jF_eq, jT_z, jF_z, jF_neg, jT_nn, jT_pos, jF_pos, jT_le0, jF_le0, jT_x, jF_m1, jF_m1r, jT_tt, jI_add, jI_mul, jI_sub, jI_cl, jm_up_same, jm_up_o, jm_up_j, jbR_T, jbR_F, jt_M_append_0, jM_inN hb, jt_M_append_8]
theorem o_written (hC : JC σ S) (hM : JM σ S) (hI : JI S) (x : Int32) : jOp σ 80 117 [.int x] := by
  have hd := hC.2.2.2.1.2.2
  have hl : S 9 4 ≤ 64 := hI.2.2.2.2.2.1
  by_cases h : jlt x (S 9 4)
  · obtain ⟨k, hk, rfl⟩ := h
    refine jOp_q (v := .int (jI (S 4 k))) hC hM hI ⟨σ, ?_, jcS.rf⟩ (fun τ hτ => ⟨τ, ?_, jmS.rf⟩)
    · simp (disch := omega) only [jb_K_n, jb_K_v, ↓reduceIte, jT_lt, jF_lt, jT_le, jF_le, jT_eq, jF_eq, jT_z, jF_z, jF_neg, jT_nn, jT_pos, jF_pos, jT_le0, jF_le0, jT_x, jF_m1, jF_m1r, jT_tt, jI_add, jI_mul, jI_sub, jI_cl, jm_up_same, jm_up_o, jm_up_j, jbR_T, jbR_F, jt_D_written_0, jt_D_written_8, jt_D_written_19, jR_hasY hd hk, jR_at hd hk]
    · obtain ⟨h1, h2⟩ := hτ.2.2.2.2.2.1
      have h2 := h2 k hk
      rw [jt_M_written_0, h1, jM_ltY hk (by omega)]
      simp (disch := omega) only [jb_K_n, jb_K_v, ↓reduceIte, jT_lt, jF_lt, jT_le, jF_le, jT_eq, jF_eq, jT_z, jF_z, jF_neg, jT_nn, jT_pos, jF_pos, jT_le0, jF_le0, jT_x, jF_m1, jF_m1r, jT_tt, jI_add, jI_mul, jI_sub, jI_cl, jm_up_same, jm_up_o, jm_up_j, jbR_T, jbR_F, jt_M_written_11, h2]
  · refine jOp_q (v := .int (-1)) hC hM hI ⟨σ, ?_, jcS.rf⟩ (fun τ hτ => ⟨τ, ?_, jmS.rf⟩)
    · simp (disch := omega) only [jb_K_n, jb_K_v, ↓reduceIte, jT_lt, jF_lt, jT_le, jF_le, jT_eq, jF_eq, jT_z, jF_z, jF_neg, jT_nn, jT_pos, jF_pos, jT_le0, jF_le0, jT_x, jF_m1, jF_m1r, jT_tt, jI_add, jI_mul, jI_sub, jI_cl, jm_up_same, jm_up_o, jm_up_j, jbR_T, jbR_F, jt_D_written_0, jt_D_written_8, jt_D_written_19, jR_hasN hd h]
    · obtain ⟨h1, h2⟩ := hτ.2.2.2.2.2.1
      rw [jt_M_written_0, h1, jM_ltN h (by omega)]
      simp (disch := omega) only [jb_K_n, jb_K_v, ↓reduceIte, jT_lt, jF_lt, jT_le, jF_le, jT_eq, jF_eq, jT_z, jF_z, jF_neg, jT_nn, jT_pos, jF_pos, jT_le0, jF_le0, jT_x, jF_m1, jF_m1r, jT_tt, jI_add, jI_mul, jI_sub, jI_cl, jm_up_same, jm_up_o, jm_up_j, jbR_T, jbR_F, jt_M_written_11]
theorem o_fault (hC : JC σ S) (hM : JM σ S) (hI : JI S) : jOp σ 27 44 [] := by
  have h9 := hC.2.2.2.2.2
  have hl : S 9 9 ≤ 100 := hI.2.2.2.2.2.2.2.2
  by_cases h : S 9 9 = 0
  · rw [if_pos h] at h9
    refine jOp_q (v := .int (-3)) hC hM hI ⟨σ, ?_, jcS.rf⟩ (fun τ hτ => ⟨τ, ?_, jmS.rf⟩)
    · rw [jt_D_fault_0, h9, if_pos rfl]
    · have h12 := hτ.2.2.2.2.2.2.2
      rw [if_pos h] at h12
      rw [jt_M_fault_0, h12]
  · rw [if_neg h] at h9
    refine jOp_q (v := .int (jI (S 9 9 - 1))) hC hM hI ⟨σ, ?_, jcS.rf⟩ (fun τ hτ => ⟨τ, ?_, jmS.rf⟩)
    · rw [jt_D_fault_0, h9]
      simp (disch := omega) only [jb_K_n, jb_K_v, ↓reduceIte, jT_lt, jF_lt, jT_le, jF_le, jT_eq, jF_eq, jT_z, jF_z, jF_neg, jT_nn, jT_pos, jF_pos, jT_le0, jF_le0, jT_x, jF_m1, jF_m1r, jT_tt, jI_add, jI_mul, jI_sub, jI_cl, jm_up_same, jm_up_o, jm_up_j, jbR_T, jbR_F]
    · have h12 := hτ.2.2.2.2.2.2.2
      rw [if_neg h] at h12
      rw [jt_M_fault_0, h12]
theorem o_reason (hC : JC σ S) (hM : JM σ S) (hI : JI S) (x y : Int32) : jOp σ 28 87 [.int x, .int y] := by
  obtain ⟨c1, c2⟩ := hC.2.2.2.2.1
  have i1 : S 9 5 ≤ 7 := hI.2.2.2.2.2.2.1
  have i2 : S 9 7 ≤ 7 := hI.2.2.2.2.2.2.2.1
  have key : ∀ τ, JM τ S → jMR τ (S 9) := fun τ h => h.2.2.2.2.2.2.1
  by_cases hx : jlt x 2
  · obtain ⟨k, hk, rfl⟩ := hx
    by_cases h5 : S 9 5 = 0
    · refine jOp_q (v := .int (-3)) hC hM hI ⟨σ, ?_, jcS.rf⟩ (fun τ hτ => ⟨τ, ?_, jmS.rf⟩)
      · simp (disch := omega) only [jb_K_n, jb_K_v, ↓reduceIte, jT_lt, jF_lt, jT_le, jF_le, jT_eq, jF_eq, jT_z, jF_z, jF_neg, jT_nn, jT_pos, jF_pos, jT_le0, jF_le0, jT_x, jF_m1, jF_m1r, jT_tt, jI_add, jI_mul, jI_sub, jI_cl, jm_up_same, jm_up_o, jm_up_j, jbR_T, jbR_F, jt_D_reason_0, c1 h5]
      · have h1 := (key τ hτ).1
        simp (disch := omega) only [jb_K_n, jb_K_v, ↓reduceIte, jT_lt, jF_lt, jT_le, jF_le, jT_eq, jF_eq, jT_z, jF_z, jF_neg, jT_nn, jT_pos, jF_pos, jT_le0, jF_le0, jT_x, jF_m1, jF_m1r, jT_tt, jI_add, jI_mul, jI_sub, jI_cl, jm_up_same, jm_up_o, jm_up_j, jbR_T, jbR_F, jt_M_reason_0, jt_M_reason_6, jM_inY, h1]
    · obtain ⟨c3, c4, c5, c6⟩ := c2 h5
      have hm6 : ¬ jI (S 9 5) = (-6 : Int32) := jI_neneg (x := -6) (by omega) (by decide) |> fun z e => z e.symm
      by_cases h0 : k = 0
      · subst h0
        by_cases hy : y = 0
        · refine jOp_q (v := .int (jI (S 9 5))) hC hM hI ⟨σ, ?_, jcS.rf⟩ (fun τ hτ => ⟨τ, ?_, jmS.rf⟩)
          · simp (disch := omega) only [jb_K_n, jb_K_v, ↓reduceIte, jT_lt, jF_lt, jT_le, jF_le, jT_eq, jF_eq, jT_z, jF_z, jF_neg, jT_nn, jT_pos, jF_pos, jT_le0, jF_le0, jT_x, jF_m1, jF_m1r, jT_tt, jI_add, jI_mul, jI_sub, jI_cl, jm_up_same, jm_up_o, jm_up_j, jbR_T, jbR_F, jt_D_reason_0, c3, hm6, hy]
          · obtain ⟨h1, h2⟩ := key τ hτ
            simp (disch := omega) only [jb_K_n, jb_K_v, ↓reduceIte, jT_lt, jF_lt, jT_le, jF_le, jT_eq, jF_eq, jT_z, jF_z, jF_neg, jT_nn, jT_pos, jF_pos, jT_le0, jF_le0, jT_x, jF_m1, jF_m1r, jT_tt, jI_add, jI_mul, jI_sub, jI_cl, jm_up_same, jm_up_o, jm_up_j, jbR_T, jbR_F, jt_M_reason_0, jt_M_reason_6, jM_inY, h1, hy]
        · refine jOp_q (v := .int (jI (S 9 6))) hC hM hI ⟨σ, ?_, jcS.rf⟩ (fun τ hτ => ⟨τ, ?_, jmS.rf⟩)
          · simp (disch := omega) only [jb_K_n, jb_K_v, ↓reduceIte, jT_lt, jF_lt, jT_le, jF_le, jT_eq, jF_eq, jT_z, jF_z, jF_neg, jT_nn, jT_pos, jF_pos, jT_le0, jF_le0, jT_x, jF_m1, jF_m1r, jT_tt, jI_add, jI_mul, jI_sub, jI_cl, jm_up_same, jm_up_o, jm_up_j, jbR_T, jbR_F, jt_D_reason_0, c3, c4, hm6, hy]
          · obtain ⟨h1, h2⟩ := key τ hτ
            obtain ⟨h2, -⟩ := h2 h5
            simp (disch := omega) only [jb_K_n, jb_K_v, ↓reduceIte, jT_lt, jF_lt, jT_le, jF_le, jT_eq, jF_eq, jT_z, jF_z, jF_neg, jT_nn, jT_pos, jF_pos, jT_le0, jF_le0, jT_x, jF_m1, jF_m1r, jT_tt, jI_add, jI_mul, jI_sub, jI_cl, jm_up_same, jm_up_o, jm_up_j, jbR_T, jbR_F, jt_M_reason_0, jt_M_reason_6, jM_inY, h1, h2, hy]
      · obtain rfl : k = 1 := by omega
        by_cases h7 : S 9 7 = 0
        · obtain ⟨c7, c8⟩ := c5 h7
          refine jOp_q (v := .int (-6)) hC hM hI ⟨σ, ?_, jcS.rf⟩ (fun τ hτ => ⟨τ, ?_, jmS.rf⟩)
          · by_cases hy : y = 0
            · simp (disch := omega) only [jb_K_n, jb_K_v, ↓reduceIte, jT_lt, jF_lt, jT_le, jF_le, jT_eq, jF_eq, jT_z, jF_z, jF_neg, jT_nn, jT_pos, jF_pos, jT_le0, jF_le0, jT_x, jF_m1, jF_m1r, jT_tt, jI_add, jI_mul, jI_sub, jI_cl, jm_up_same, jm_up_o, jm_up_j, jbR_T, jbR_F, jt_D_reason_0, c3, c7, hm6, hy]
            · simp (disch := omega) only [jb_K_n, jb_K_v, ↓reduceIte, jT_lt, jF_lt, jT_le, jF_le, jT_eq, jF_eq, jT_z, jF_z, jF_neg, jT_nn, jT_pos, jF_pos, jT_le0, jF_le0, jT_x, jF_m1, jF_m1r, jT_tt, jI_add, jI_mul, jI_sub, jI_cl, jm_up_same, jm_up_o, jm_up_j, jbR_T, jbR_F, jt_D_reason_0, c3, c8, hm6, hy]
          · obtain ⟨h1, h2⟩ := key τ hτ
            obtain ⟨-, h3, -⟩ := h2 h5
            simp (disch := omega) only [jb_K_n, jb_K_v, ↓reduceIte, jT_lt, jF_lt, jT_le, jF_le, jT_eq, jF_eq, jT_z, jF_z, jF_neg, jT_nn, jT_pos, jF_pos, jT_le0, jF_le0, jT_x, jF_m1, jF_m1r, jT_tt, jI_add, jI_mul, jI_sub, jI_cl, jm_up_same, jm_up_o, jm_up_j, jbR_T, jbR_F, jt_M_reason_0, jt_M_reason_6, jM_inY, h1, h3]
        · obtain ⟨c7, c8⟩ := c6 h7
          by_cases hy : y = 0
          · refine jOp_q (v := .int (jI (S 9 7))) hC hM hI ⟨σ, ?_, jcS.rf⟩ (fun τ hτ => ⟨τ, ?_, jmS.rf⟩)
            · simp (disch := omega) only [jb_K_n, jb_K_v, ↓reduceIte, jT_lt, jF_lt, jT_le, jF_le, jT_eq, jF_eq, jT_z, jF_z, jF_neg, jT_nn, jT_pos, jF_pos, jT_le0, jF_le0, jT_x, jF_m1, jF_m1r, jT_tt, jI_add, jI_mul, jI_sub, jI_cl, jm_up_same, jm_up_o, jm_up_j, jbR_T, jbR_F, jt_D_reason_0, c3, c7, hm6, hy]
            · obtain ⟨h1, h2⟩ := key τ hτ
              obtain ⟨-, h3, h4⟩ := h2 h5
              simp (disch := omega) only [jb_K_n, jb_K_v, ↓reduceIte, jT_lt, jF_lt, jT_le, jF_le, jT_eq, jF_eq, jT_z, jF_z, jF_neg, jT_nn, jT_pos, jF_pos, jT_le0, jF_le0, jT_x, jF_m1, jF_m1r, jT_tt, jI_add, jI_mul, jI_sub, jI_cl, jm_up_same, jm_up_o, jm_up_j, jbR_T, jbR_F, jt_M_reason_0, jt_M_reason_6, jM_inY, h1, h3, hy]
          · refine jOp_q (v := .int (jI (S 9 8))) hC hM hI ⟨σ, ?_, jcS.rf⟩ (fun τ hτ => ⟨τ, ?_, jmS.rf⟩)
            · simp (disch := omega) only [jb_K_n, jb_K_v, ↓reduceIte, jT_lt, jF_lt, jT_le, jF_le, jT_eq, jF_eq, jT_z, jF_z, jF_neg, jT_nn, jT_pos, jF_pos, jT_le0, jF_le0, jT_x, jF_m1, jF_m1r, jT_tt, jI_add, jI_mul, jI_sub, jI_cl, jm_up_same, jm_up_o, jm_up_j, jbR_T, jbR_F, jt_D_reason_0, c3, c8, hm6, hy]
            · obtain ⟨h1, h2⟩ := key τ hτ
              obtain ⟨-, h3, h4⟩ := h2 h5
              simp (disch := omega) only [jb_K_n, jb_K_v, ↓reduceIte, jT_lt, jF_lt, jT_le, jF_le, jT_eq, jF_eq, jT_z, jF_z, jF_neg, jT_nn, jT_pos, jF_pos, jT_le0, jF_le0, jT_x, jF_m1, jF_m1r, jT_tt, jI_add, jI_mul, jI_sub, jI_cl, jm_up_same, jm_up_o, jm_up_j, jbR_T, jbR_F, jt_M_reason_0, jt_M_reason_6, jM_inY, h1, h3, h4 h7, hy]
  · refine jOp_q (v := .int (-2)) hC hM hI ⟨σ, ?_, jcS.rf⟩ (fun τ hτ => ⟨τ, ?_, jmS.rf⟩)
    · rcases jlt_n hx with z | ⟨a, z1, z2, rfl⟩
      · rw [jt_D_reason_0, if_pos z]
      · simp (disch := omega) only [jb_K_n, jb_K_v, ↓reduceIte, jT_lt, jF_lt, jT_le, jF_le, jT_eq, jF_eq, jT_z, jF_z, jF_neg, jT_nn, jT_pos, jF_pos, jT_le0, jF_le0, jT_x, jF_m1, jF_m1r, jT_tt, jI_add, jI_mul, jI_sub, jI_cl, jm_up_same, jm_up_o, jm_up_j, jbR_T, jbR_F, jt_D_reason_0]
    · have hb : ¬ jbt x 0 1 := fun ⟨k, a1, a2, a3⟩ => hx ⟨k, by omega, a3⟩
      simp (disch := omega) only [jb_K_n, jb_K_v, ↓reduceIte, jT_lt, jF_lt, jT_le, jF_le, jT_eq, jF_eq, jT_z, jF_z, jF_neg, jT_nn, jT_pos, jF_pos, jT_le0, jF_le0, jT_x, jF_m1, jF_m1r, jT_tt, jI_add, jI_mul, jI_sub, jI_cl, jm_up_same, jm_up_o, jm_up_j, jbR_T, jbR_F, jt_M_reason_0, jt_M_reason_6, jM_inN hb]
end OPS
