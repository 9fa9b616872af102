/-! ===== words: where they stand, how they are spelt ===== -/
def jB (b : Bool) : Int32 := if b = true then jI 1 else jI 0
theorem jB_t {b : Bool} (h : b = true) : jB b = jI 1 := if_pos h
theorem jB_f {b : Bool} (h : b = false) : jB b = jI 0 := if_neg (by rw [h]; decide)
def jst (w : Nat → Nat) (n : Nat) (f : Nat → Nat) (i p : Nat) : Bool := decide (p + w (22 + 6 * i) ≤ n ∧ ∀ k, k < w (22 + 6 * i) → f (p + k) = w (23 + 6 * i + k))
theorem jst_t {w : Nat → Nat} {n : Nat} {f : Nat → Nat} {i p : Nat} : jst w n f i p = true ↔ p + w (22 + 6 * i) ≤ n ∧ ∀ k, k < w (22 + 6 * i) → f (p + k) = w (23 + 6 * i + k) := decide_eq_true_iff
theorem jst_f {w : Nat → Nat} {n : Nat} {f : Nat → Nat} {i p : Nat} : jst w n f i p = false ↔ ¬ (p + w (22 + 6 * i) ≤ n ∧ ∀ k, k < w (22 + 6 * i) → f (p + k) = w (23 + 6 * i + k)) := decide_eq_false_iff_not
/-- the least place from k on, of m, where it is so; else the end -/
def jfd (P : Nat → Bool) : Nat → Nat → Nat
  | 0, k => k
  | m + 1, k => if P k = true then k else jfd P m (k + 1)
theorem jfd_le (P : Nat → Bool) : ∀ m k, k ≤ jfd P m k ∧ jfd P m k ≤ k + m
  | 0, k => ⟨Nat.le_refl _, Nat.le_refl _⟩
  | m + 1, k => by
    have := jfd_le P m (k + 1)
    unfold jfd
    split <;> omega
theorem jfd_is {P : Nat → Bool} : ∀ {m k}, jfd P m k < k + m → P (jfd P m k) = true
  | 0, k, h => absurd h (by unfold jfd; omega)
  | m + 1, k, h => by
    unfold jfd at h ⊢
    by_cases e : P k = true
    · rw [if_pos e]; exact e
    · rw [if_neg e] at h ⊢
      exact jfd_is (by omega)
theorem jfd_no {P : Nat → Bool} : ∀ {m k j}, k ≤ j → j < jfd P m k → P j = false
  | 0, k, j, h, h2 => absurd h2 (by unfold jfd; omega)
  | m + 1, k, j, h, h2 => by
    unfold jfd at h2
    by_cases e : P k = true
    · rw [if_pos e] at h2; omega
    · rw [if_neg e] at h2
      by_cases e2 : j = k
      · rw [e2]; exact Bool.not_eq_true _ |>.mp e
      · exact jfd_no (k := k + 1) (m := m) (by omega) h2
def jdf (n : Nat) (f : Nat → Nat) (k : Nat) : Nat := if k < n then (if f k = 5 then 1 else f k + 2) else 0
def jspf (n : Nat) (f : Nat → Nat) : Nat := ((jdf n f 0 * 8 + jdf n f 1) * 8 + jdf n f 2) * 8 + jdf n f 3
theorem jspl_jspf {w : Nat → Nat} {i : Nat} : jspl w i = jspf (w (22 + 6 * i)) (fun k => w (23 + 6 * i + k)) := rfl
theorem jdf_lt {n : Nat} {f : Nat → Nat} (hf : ∀ k, k < n → f k ≤ 5) (k : Nat) : jdf n f k < 8 := by
  unfold jdf
  split
  · have := hf k (by assumption)
    split <;> omega
  · omega
theorem jspf_lt {n : Nat} {f : Nat → Nat} (hf : ∀ k, k < n → f k ≤ 5) : jspf n f < 4096 := by
  have h0 := jdf_lt hf 0
  have h1 := jdf_lt hf 1
  have h2 := jdf_lt hf 2
  have h3 := jdf_lt hf 3
  unfold jspf
  omega
theorem jspf_inj {n n' : Nat} {f f' : Nat → Nat} (hf : ∀ k, k < n → f k ≤ 5) (hf' : ∀ k, k < n' → f' k ≤ 5) (hn : n ≤ 4) (hn' : n' ≤ 4) : jspf n f = jspf n' f' ↔ n = n' ∧ ∀ k, k < n → f k = f' k := by
  constructor
  · intro h
    have a0 := jdf_lt hf 0
    have a1 := jdf_lt hf 1
    have a2 := jdf_lt hf 2
    have a3 := jdf_lt hf 3
    have b0 := jdf_lt hf' 0
    have b1 := jdf_lt hf' 1
    have b2 := jdf_lt hf' 2
    have b3 := jdf_lt hf' 3
    unfold jspf at h
    have e : ∀ k, k < 4 → jdf n f k = jdf n' f' k := by
      intro k hk
      rcases (show k = 0 ∨ k = 1 ∨ k = 2 ∨ k = 3 by omega) with rfl | rfl | rfl | rfl <;> omega
    have key : ∀ k, k < 4 → (k < n ↔ k < n') ∧ (k < n → f k = f' k) := by
      intro k hk
      have := e k hk
      unfold jdf at this
      by_cases c1 : k < n <;> by_cases c2 : k < n'
      · rw [if_pos c1, if_pos c2] at this
        refine ⟨⟨fun _ => c2, fun _ => c1⟩, fun _ => ?_⟩
        split at this <;> split at this <;> omega
      · rw [if_pos c1, if_neg c2] at this
        split at this <;> omega
      · rw [if_neg c1, if_pos c2] at this
        split at this <;> omega
      · exact ⟨⟨fun z => absurd z c1, fun z => absurd z c2⟩, fun z => absurd z c1⟩
    refine ⟨?_, fun k hk => (key k (by omega)).2 hk⟩
    have k0 := (key 0 (by omega)).1
    have k1 := (key 1 (by omega)).1
    have k2 := (key 2 (by omega)).1
    have k3 := (key 3 (by omega)).1
    omega
  · rintro ⟨rfl, h⟩
    have e : ∀ k, jdf n f k = jdf n f' k := by
      intro k
      unfold jdf
      by_cases c : k < n
      · rw [if_pos c, if_pos c, h k c]
      · rw [if_neg c, if_neg c]
    unfold jspf
    rw [e, e, e, e]
theorem jsh0 : ∀ k, k < 4 → ∀ a, a < 64 → ∀ b, b < 64 → (jI (64 * a + b) >>> ((jI 3 * (jI 3 - jI k)) &&& 31)) &&& jI 7 = jI ((64 * a + b) / 8 ^ (3 - k) % 8) := by decide +kernel
theorem jsh (k : Nat) (hk : k < 4) (x : Nat) (hx : x < 4096) : (jI x >>> ((jI 3 * (jI 3 - jI k)) &&& 31)) &&& jI 7 = jI (x / 8 ^ (3 - k) % 8) := by
  have := jsh0 k hk (x / 64) (by omega) (x % 64) (by omega)
  rw [Nat.div_add_mod] at this
  exact this
theorem jspf_d {n : Nat} {f : Nat → Nat} (hf : ∀ k, k < n → f k ≤ 5) {k : Nat} (hk : k < 4) : jspf n f / 8 ^ (3 - k) % 8 = jdf n f k := by
  have a0 := jdf_lt hf 0
  have a1 := jdf_lt hf 1
  have a2 := jdf_lt hf 2
  have a3 := jdf_lt hf 3
  unfold jspf
  rcases (show k = 0 ∨ k = 1 ∨ k = 2 ∨ k = 3 by omega) with rfl | rfl | rfl | rfl
  · show _ / 512 % 8 = _
    omega
  · show _ / 64 % 8 = _
    omega
  · show _ / 8 % 8 = _
    omega
  · show _ / 1 % 8 = _
    omega
section WD
variable {σ : jm_S} {w : Nat → Nat}
theorem jV.kn (h : jV σ 1 w) : jb_Ev 12 [.ref (10 : Nat)] (jm_hp σ) = some (some (.int (jI (w 0))), jm_hp σ) := jR_size h.k.1
theorem jV.kd (h : jV σ 1 w) {i : Nat} (hi : i < w 0) : jb_Ev 6 [.ref (10 : Nat), .int (jI i)] (jm_hp σ) = some (some (.int (jI (w (21 + 6 * i)))), jm_hp σ) := jR_at h.k.1 hi
theorem jV.sz (h : jV σ 1 w) {i : Nat} (hi : i < w 0) : jb_Ev 6 [.ref (12 : Nat), .int (jI i)] (jm_hp σ) = some (some (.int (jI (w (22 + 6 * i)))), jm_hp σ) := jR_at h.k.2.1 hi
theorem jV.sn (h : jV σ 1 w) : jb_Ev 12 [.ref (14 : Nat)] (jm_hp σ) = some (some (.int (jI (w 0))), jm_hp σ) := jR_size h.k.2.2
theorem jV.sp (h : jV σ 1 w) {i : Nat} (hi : i < w 0) : jb_Ev 6 [.ref (14 : Nat), .int (jI i)] (jm_hp σ) = some (some (.int (jI (jspl w i))), jm_hp σ) := jR_at h.k.2.2 hi
theorem jV.wn (h : jV σ 1 w) : jb_Ev 12 [.ref (17 : Nat)] (jm_hp σ) = some (some (.int (jI (w 1))), jm_hp σ) := jR_size h.s.1
theorem jV.wd (h : jV σ 1 w) {i : Nat} (hi : i < w 1) : jb_Ev 6 [.ref (17 : Nat), .int (jI i)] (jm_hp σ) = some (some (.int (jI (w (69 + 2 * i)))), jm_hp σ) := jR_at h.s.1 hi
theorem jV.wr (h : jV σ 1 w) {i : Nat} (hi : i < w 1) : jb_Ev 6 [.ref (19 : Nat), .int (jI i)] (jm_hp σ) = some (some (.int (jI (w (70 + 2 * i)))), jm_hp σ) := jR_at h.s.2 hi
theorem jV.bd (h : jV σ 1 w) {b : Nat} (hb : b < 5) : jb_Ev 6 [.ref (3 : Nat), .int (jI b)] (jm_hp σ) = some (some (.int (jI (w (6 + 3 * b)))), jm_hp σ) := jR_at h.b.1 hb
theorem jV.bw (h : jV σ 1 w) {b : Nat} (hb : b < 5) : jb_Ev 6 [.ref (5 : Nat), .int (jI b)] (jm_hp σ) = some (some (.int (jI (w (7 + 3 * b)))), jm_hp σ) := jR_at h.b.2.1 hb
theorem jV.br (h : jV σ 1 w) {b : Nat} (hb : b < 5) : jb_Ev 6 [.ref (7 : Nat), .int (jI b)] (jm_hp σ) = some (some (.int (jI (w (8 + 3 * b)))), jm_hp σ) := jR_at h.b.2.2 hb
theorem jV.pn (h : jV σ 1 w) : jb_Ev 12 [.ref (22 : Nat)] (jm_hp σ) = some (some (.int (jI (w 2))), jm_hp σ) := by
  obtain ⟨g, h1, -⟩ := h.p
  exact jR_size h1
theorem jV.pz (h : jV σ 1 w) {p : Nat} (hp : p < w 2) : jb_Ev 6 [.ref (22 : Nat), .int (jI p)] (jm_hp σ) = some (some (.int (jI (w (81 + 13 * p)))), jm_hp σ) := by
  obtain ⟨g, h1, -⟩ := h.p
  exact jR_at h1 hp
theorem jRn_at {r n k : Nat} {f : Nat → Nat} (h : jRn σ r n f) (hk : k < n) : jb_Ev 6 [.ref r, .int (jI k)] (jm_hp σ) = some (some (.int (jI (f k))), jm_hp σ) := jR_at h hk
theorem cBook_signIn (hw : jInv w) {i k : Nat} (hi : i < w 0) (hk : k < w (22 + 6 * i)) : jb_Ev 14 [.int (jI (jspl w i)), .int (jI k)] (jm_hp σ) = some (some (.int (jI (w (23 + 6 * i + k)))), jm_hp σ) := by
  obtain ⟨a1, a2, a3, a4, a5, a6⟩ := hw.2.1.2.1 i hi
  have h4 := a4 k hk
  have hs := jsh k (by omega) (jspl w i) (by rw [jspl_jspf]; exact jspf_lt a4)
  rw [jspl_jspf, jspf_d a4 (by omega), ← jspl_jspf] at hs
  unfold jdf at hs
  rw [if_pos hk] at hs
  rw [jt_Book_signIn_0, hs]
  by_cases e : w (23 + 6 * i + k) = 5
  · rw [if_pos e, if_pos rfl, e]
  · rw [if_neg e]
    simp (disch := omega) only [jb_K_n, jb_K_v, ↓reduceIte, jT_lt, jF_lt, jT_le, jF_le, jT_eq, jF_eq, jT_z, jF_z, jF_neg, jT_nn, jT_pos, jF_pos, jT_le0, jF_le0, jT_x, jF_m1, jF_m1r, jT_tt, jI_add, jI_mul, jI_sub, jI_cl, jm_up_same, jm_up_o, jm_up_j, jbR_T, jbR_F, Nat.add_sub_cancel]
theorem cBook_standsL (hV : jV σ 1 w) (hw : jInv w) {r n i p : Nat} {f : Nat → Nat} (hr : jRn σ r n f) (hf : ∀ k, k < n → f k ≤ 5) (hi : i < w 0) (hp : p < 10000) : ∀ (m k : Nat), k + m = w (22 + 6 * i) → (∀ j, j < k → p + j < n ∧ f (p + j) = w (23 + 6 * i + j)) → jb_Ex 73 (13, [.ref (9 : Nat), .int (jI i), .ref r, .int (jI p), .int (jI (jspl w i)), .int (jI k)], [], jm_hp σ) = some (some (.int (jB (jst w n f i p))), jm_hp σ)
  | 0, k, hm, h => by
    obtain ⟨a1, a2, a3, a4, a5, a6⟩ := hw.2.1.2.1 i hi
    have hB : jst w n f i p = true := jst_t.mpr ⟨by have := h (k - 1) (by omega); omega, fun j hj => (h j (by omega)).2⟩
    rw [jB_t hB, jt_Book_standsAt_13 hr.1, hV.sz hi, jb_K_v, jt_Book_standsAt_23 hr.1, if_pos (by rw [jI_le (by omega) (by omega)]; omega)]
  | m + 1, k, hm, h => by
    obtain ⟨a1, a2, a3, a4, a5, a6⟩ := hw.2.1.2.1 i hi
    have h4 := a4 k (by omega)
    rw [jt_Book_standsAt_13 hr.1, hV.sz hi, jb_K_v, jt_Book_standsAt_23 hr.1, if_neg (by rw [jI_le (by omega) (by omega)]; omega), cBook_signIn hw hi (by omega), jb_K_v, jt_Book_standsAt_33 hr.1, jI_add]
    by_cases e : p + k < n
    · have h5 := hf _ e
      rw [jRn_at hr e, jb_K_v, jt_Book_standsAt_41 hr.1]
      by_cases e2 : f (p + k) = w (23 + 6 * i + k)
      · rw [if_pos (by rw [e2]), jI_add]
        refine cBook_standsL hV hw hr hf hi hp m (k + 1) (by omega) (fun j hj => ?_)
        by_cases e3 : j = k
        · rw [e3]; exact ⟨e, e2⟩
        · exact h j (by omega)
      · have hB : jst w n f i p = false := jst_f.mpr (fun z => e2 (z.2 k (by omega)))
        rw [jB_f hB, if_neg (by rw [jI_eq (by omega) (by omega)]; omega)]
    · have hB : jst w n f i p = false := jst_f.mpr (fun z => by omega)
      rw [jB_f hB, jR_ato hr (by omega) (by omega), jb_K_v, jt_Book_standsAt_41 hr.1, if_neg (by rw [jI_m1 (by omega)]; exact id)]
theorem cBook_stands (hV : jV σ 1 w) (hw : jInv w) {r n i p : Nat} {f : Nat → Nat} (hr : jRn σ r n f) (hf : ∀ k, k < n → f k ≤ 5) (hi : i < w 0) (hp : p < 10000) : jb_Ev 73 [.ref (9 : Nat), .int (jI i), .ref r, .int (jI p)] (jm_hp σ) = some (some (.int (jB (jst w n f i p))), jm_hp σ) := by
  rw [jt_Book_standsAt_0 hr.1, hV.sp hi, jb_K_v, jt_Book_standsAt_8 hr.1]
  exact cBook_standsL hV hw hr hf hi hp _ 0 (Nat.zero_add _) (fun j hj => absurd hj (Nat.not_lt_zero _))
/-- the plain form's row and what it wants -/
def jMw (σ : jm_S) (w : Nat → Nat) (n : Nat) (f : Nat → Nat) : Prop := jAr σ 308 146 w ∧ σ 307 20 = jI n ∧ jAr σ 315 n f
theorem mM_hereL (hw : jInv w) {n i p : Nat} {f : Nat → Nat} (hM : jMw σ w n f) (hf : ∀ k, k < n → f k ≤ 5) (hn : n ≤ 60) (hi : i < w 0) (hp : p + w (22 + 6 * i) ≤ n) : ∀ (m k : Nat), k + m = w (22 + 6 * i) → (∀ j, j < k → f (p + j) = w (23 + 6 * i + j)) → jb_Ex 100 (36, [.ref (307 : Nat), .int (jI i), .int (jI p), .int (jI (21 + 6 * i)), .int (jI (w (22 + 6 * i))), .int (jI 1), .int (jI k)], [], jm_hp σ) = some (some (.int (jB (jst w n f i p))), jm_hp σ)
  | 0, k, hm, h => by
    obtain ⟨a1, a2, a3, a4, a5, a6⟩ := hw.2.1.2.1 i hi
    have hB : jst w n f i p = true := jst_t.mpr ⟨hp, fun j hj => h j (by omega)⟩
    rw [jB_t hB, jt_M_isWordHere_36, if_pos (by rw [jI_le (by omega) (by omega)]; omega), jbR_T]
  | m + 1, k, hm, h => by
    have b0 := hw.b0
    obtain ⟨a1, a2, a3, a4, a5, a6⟩ := hw.2.1.2.1 i hi
    have h4 := a4 k (by omega)
    have h5 := hf (p + k) (by omega)
    have m1 := hM.1 (23 + 6 * i + k) (by omega)
    have m2 := hM.2.2 (p + k) (by omega)
    have e0 : 21 + 6 * i + 2 + k = 23 + 6 * i + k := by omega
    rw [jt_M_isWordHere_36]
    by_cases e2 : f (p + k) = w (23 + 6 * i + k)
    · rw [e2] at m2
      have := mM_hereL hw hM hf hn hi hp m (k + 1) (by omega) (fun j hj => by
        by_cases e3 : j = k
        · rw [e3]; exact e2
        · exact h j (by omega))
      simp (disch := omega) only [jb_K_n, jb_K_v, ↓reduceIte, jT_lt, jF_lt, jT_le, jF_le, jT_eq, jF_eq, jT_z, jF_z, jF_neg, jT_nn, jT_pos, jF_pos, jT_le0, jF_le0, jT_x, jF_m1, jF_m1r, jT_tt, jI_add, jI_mul, jI_sub, jI_cl, jm_up_same, jm_up_o, jm_up_j, jbR_T, jbR_F, e0, m1, m2, this]
    · have hB : jst w n f i p = false := jst_f.mpr (fun z => e2 (z.2 k (by omega)))
      rw [jB_f hB]
      simp (disch := omega) only [jb_K_n, jb_K_v, ↓reduceIte, jT_lt, jF_lt, jT_le, jF_le, jT_eq, jF_eq, jT_z, jF_z, jF_neg, jT_nn, jT_pos, jF_pos, jT_le0, jF_le0, jT_x, jF_m1, jF_m1r, jT_tt, jI_add, jI_mul, jI_sub, jI_cl, jm_up_same, jm_up_o, jm_up_j, jbR_T, jbR_F, e0, m1, m2]
      rw [jt_M_isWordHere_36]
      by_cases e4 : w (22 + 6 * i) ≤ k + 1
      · rw [if_pos (by rw [jI_le (by omega) (by omega)]; exact e4), jbR_F]
      · rw [if_neg (by rw [jI_le (by omega) (by omega)]; exact e4), if_pos jI_zero, jbR_F]
theorem mM_here (hw : jInv w) {n i p : Nat} {f : Nat → Nat} (hM : jMw σ w n f) (hf : ∀ k, k < n → f k ≤ 5) (hn : n ≤ 60) (hi : i < w 0) (hp : p ≤ 60) : jb_Ev 100 [.ref (307 : Nat), .int (jI i), .int (jI p)] (jm_hp σ) = some (some (.int (jB (jst w n f i p))), jm_hp σ) := by
  have b0 := hw.b0
  obtain ⟨a1, a2, a3, a4, a5, a6⟩ := hw.2.1.2.1 i hi
  have m1 := hM.1 (22 + 6 * i) (by omega)
  have e0 : 21 + 6 * i + 1 = 22 + 6 * i := by omega
  by_cases e : p + w (22 + 6 * i) ≤ n
  · have := mM_hereL hw hM hf hn hi e _ 0 (Nat.zero_add _) (fun j hj => absurd hj (Nat.not_lt_zero _))
    simp (disch := omega) only [jb_K_n, jb_K_v, ↓reduceIte, jT_lt, jF_lt, jT_le, jF_le, jT_eq, jF_eq, jT_z, jF_z, jF_neg, jT_nn, jT_pos, jF_pos, jT_le0, jF_le0, jT_x, jF_m1, jF_m1r, jT_tt, jI_add, jI_mul, jI_sub, jI_cl, jm_up_same, jm_up_o, jm_up_j, jbR_T, jbR_F, jt_M_isWordHere_0, jt_M_wordAt_0, jt_M_isWordHere_4, e0, m1, hM.2.1, this]
  · have hB : jst w n f i p = false := jst_f.mpr (fun z => e z.1)
    rw [jB_f hB]
    simp (disch := omega) only [jb_K_n, jb_K_v, ↓reduceIte, jT_lt, jF_lt, jT_le, jF_le, jT_eq, jF_eq, jT_z, jF_z, jF_neg, jT_nn, jT_pos, jF_pos, jT_le0, jF_le0, jT_x, jF_m1, jF_m1r, jT_tt, jI_add, jI_mul, jI_sub, jI_cl, jm_up_same, jm_up_o, jm_up_j, jbR_T, jbR_F, jt_M_isWordHere_0, jt_M_wordAt_0, jt_M_isWordHere_4, e0, m1, hM.2.1]
    rw [jt_M_isWordHere_36, if_neg (by rw [jI_le (by omega) (by omega)]; omega), if_pos jI_zero, jbR_F]
end WD
