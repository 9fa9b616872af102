/-! ===== lines ===== -/
theorem jn_294 : jm_ln 294 = 64 := by decide +kernel
def jcs (s : Nat) : Nat := if s = 5 then 46 else 97 + s
def jck (k : Nat) : Nat := if k = 0 then 110 else if k = 1 then 100 else 116
def jts (f : Nat → Nat) : Nat → List Nat
  | 0 => []
  | k + 1 => jts f k ++ [jcs (f k)]
def jtl (w : Nat → Nat) (L : List Nat) : Nat → List Nat
  | 0 => []
  | k + 1 => ((jtl w L k ++ [if k = 0 then 61 else 32]) ++ [jck (w (21 + 6 * L.getD k 0))]) ++ [48 + L.getD k 0]
def jtb (w : Nat → Nat) : Nat → List Nat
  | 0 => []
  | i + 1 => (((jtb w i ++ (if i = 0 then [] else [32])) ++ [jck (w (21 + 6 * i))]) ++ [58]) ++ jts (fun k => w (23 + 6 * i + k)) (w (22 + 6 * i))
theorem jts_len {f : Nat → Nat} : ∀ {n : Nat}, (jts f n).length = n
  | 0 => rfl
  | n + 1 => by
    show (jts f n ++ [_]).length = n + 1
    rw [List.length_append, jts_len]
    rfl
theorem jtl_len {w : Nat → Nat} {L : List Nat} : ∀ {n : Nat}, (jtl w L n).length = 3 * n
  | 0 => rfl
  | n + 1 => by
    show (((jtl w L n ++ [_]) ++ [_]) ++ [_]).length = _
    rw [List.length_append, List.length_append, List.length_append, jtl_len]
    show 3 * n + 1 + 1 + 1 = _
    omega
theorem jtb_len {w : Nat → Nat} (hw : jInv w) : ∀ {n : Nat}, n ≤ w 0 → (jtb w n).length ≤ 7 * n
  | 0, _ => Nat.zero_le _
  | n + 1, h => by
    have IH := jtb_len hw (n := n) (by omega)
    obtain ⟨a1, a2, a3, -⟩ := hw.2.1.2.1 n (by omega)
    show ((((jtb w n ++ (if n = 0 then [] else [32])) ++ [_]) ++ [_]) ++ jts _ _).length ≤ _
    rw [List.length_append, List.length_append, List.length_append, List.length_append, jts_len]
    have : (if n = 0 then ([] : List Nat) else [32]).length ≤ 1 := by split <;> simp
    show (jtb w n).length + _ + 1 + 1 + _ ≤ _
    omega
/-- a line, as the class and as the plain form have it -/
def jLc (σ : jm_S) (T : List Nat) : Prop := jRn σ 293 T.length (fun j => T.getD j 0)
def jLm (σ : jm_S) (T : List Nat) : Prop := ∀ j, j < T.length → σ 314 j = jI (T.getD j 0)
def jline (S : jSt) (T : List Nat) : jSt := js2 S 4 (fun j => T.getD j 0) 4 T.length
section WR
variable {σ : jm_S} {w f : Nat → Nat} {n : Nat} {S : jSt}
theorem jLc_add {T : List Nat} (h : jLc σ T) (hl : T.length < 64) (c : Nat) : ∃ σ', jb_Ev 1 [.ref (293 : Nat), .int (jI c)] (jm_hp σ) = some (none, jm_hp σ') ∧ jLc σ' (T ++ [c]) ∧ jA 293 295 σ σ' := by
  have hca : T.length < jm_ln (293 + 1) := by rw [show (293 : Nat) + 1 = 294 from rfl, jn_294]; exact hl
  refine ⟨_, jR_add h hca (jI c), (jRn_add h hca c).congr (by rw [List.length_append]; rfl) (fun j hj => jgd_app hj), (jF_add T.length (jI c) (jI (T.length + 1))).A (by omega) (by omega)⟩
theorem jLm_add {T : List Nat} (h : jLm σ T) (hl : T.length < 80) (c : Nat) : ∃ σ', jb_Ev 43 [.ref (307 : Nat), .int (jI T.length), .int (jI c)] (jm_hp σ) = some (some (.int (jI (T ++ [c]).length)), jm_hp σ') ∧ jLm σ' (T ++ [c]) ∧ (∀ q j, q ≠ 314 → σ' q j = σ q j) := by
  refine ⟨jm_up σ 314 T.length (jI c), ?_, fun j hj => ?_, fun q j z => jm_up_o _ _ z⟩
  · rw [List.length_append]
    show _ = some (some (Value.int (jI (T.length + 1))), _)
    simp (disch := omega) only [jb_K_n, jb_K_v, ↓reduceIte, jT_lt, jF_lt, jT_le, jF_le, jT_eq, jF_eq, jT_z, jF_z, jF_neg, jT_nn, jT_pos, jF_pos, jT_le0, jF_le0, jT_x, jF_m1, jF_m1r, jT_tt, jI_add, jI_mul, jI_sub, jI_cl, jm_up_same, jm_up_o, jm_up_j, jbR_T, jbR_F, jt_M_put_0]
  · rw [List.length_append] at hj
    have hj' : j < T.length + 1 := hj
    rw [← jgd_app hj']
    by_cases e : j = T.length
    · rw [e, jm_up_same, jn0_s]
    · rw [jm_up_j _ _ e, jn0_o e]
      exact h j (by omega)
theorem cCharS {s : Nat} (hs : s ≤ 5) : jb_Ev 18 [.int (jI s)] (jm_hp σ) = some (some (.int (jI (jcs s))), jm_hp σ) := by
  unfold jcs
  by_cases e : s = 5
  · rw [if_pos e]
    simp (disch := omega) only [jb_K_n, jb_K_v, ↓reduceIte, jT_lt, jF_lt, jT_le, jF_le, jT_eq, jF_eq, jT_z, jF_z, jF_neg, jT_nn, jT_pos, jF_pos, jT_le0, jF_le0, jT_x, jF_m1, jF_m1r, jT_tt, jI_add, jI_mul, jI_sub, jI_cl, jm_up_same, jm_up_o, jm_up_j, jbR_T, jbR_F, jt_D_characterOfSign_0]
  · rw [if_neg e]
    simp (disch := omega) only [jb_K_n, jb_K_v, ↓reduceIte, jT_lt, jF_lt, jT_le, jF_le, jT_eq, jF_eq, jT_z, jF_z, jF_neg, jT_nn, jT_pos, jF_pos, jT_le0, jF_le0, jT_x, jF_m1, jF_m1r, jT_tt, jI_add, jI_mul, jI_sub, jI_cl, jm_up_same, jm_up_o, jm_up_j, jbR_T, jbR_F, jt_D_characterOfSign_0]
theorem cCharK {k : Nat} (hk : k ≤ 2) : jb_Ev 19 [.int (jI k)] (jm_hp σ) = some (some (.int (jI (jck k))), jm_hp σ) := by
  unfold jck
  by_cases e : k = 0
  · rw [if_pos e]
    simp (disch := omega) only [jb_K_n, jb_K_v, ↓reduceIte, jT_lt, jF_lt, jT_le, jF_le, jT_eq, jF_eq, jT_z, jF_z, jF_neg, jT_nn, jT_pos, jF_pos, jT_le0, jF_le0, jT_x, jF_m1, jF_m1r, jT_tt, jI_add, jI_mul, jI_sub, jI_cl, jm_up_same, jm_up_o, jm_up_j, jbR_T, jbR_F, jt_D_characterOfKind_0]
  · rw [if_neg e]
    by_cases e2 : k = 1
    · rw [if_pos e2]
      simp (disch := omega) only [jb_K_n, jb_K_v, ↓reduceIte, jT_lt, jF_lt, jT_le, jF_le, jT_eq, jF_eq, jT_z, jF_z, jF_neg, jT_nn, jT_pos, jF_pos, jT_le0, jF_le0, jT_x, jF_m1, jF_m1r, jT_tt, jI_add, jI_mul, jI_sub, jI_cl, jm_up_same, jm_up_o, jm_up_j, jbR_T, jbR_F, jt_D_characterOfKind_0]
    · rw [if_neg e2]
      simp (disch := omega) only [jb_K_n, jb_K_v, ↓reduceIte, jT_lt, jF_lt, jT_le, jF_le, jT_eq, jF_eq, jT_z, jF_z, jF_neg, jT_nn, jT_pos, jF_pos, jT_le0, jF_le0, jT_x, jF_m1, jF_m1r, jT_tt, jI_add, jI_mul, jI_sub, jI_cl, jm_up_same, jm_up_o, jm_up_j, jbR_T, jbR_F, jt_D_characterOfKind_0]
theorem mPutS {T : List Nat} (h : jLm σ T) (hl : T.length < 80) {s : Nat} (hs : s ≤ 5) : ∃ σ', jb_Ev 115 [.ref (307 : Nat), .int (jI T.length), .int (jI s)] (jm_hp σ) = some (some (.int (jI (T ++ [jcs s]).length)), jm_hp σ') ∧ jLm σ' (T ++ [jcs s]) ∧ (∀ q j, q ≠ 314 → σ' q j = σ q j) := by
  obtain ⟨σ', e1, l1, f1⟩ := jLm_add h hl (jcs s)
  refine ⟨σ', ?_, l1, f1⟩
  unfold jcs at e1 ⊢
  by_cases e : s = 5
  · rw [if_pos e] at e1 ⊢
    simp (disch := omega) only [jb_K_n, jb_K_v, ↓reduceIte, jT_lt, jF_lt, jT_le, jF_le, jT_eq, jF_eq, jT_z, jF_z, jF_neg, jT_nn, jT_pos, jF_pos, jT_le0, jF_le0, jT_x, jF_m1, jF_m1r, jT_tt, jI_add, jI_mul, jI_sub, jI_cl, jm_up_same, jm_up_o, jm_up_j, jbR_T, jbR_F, jt_M_putSign_0, jt_M_putSign_19, e1]
  · rw [if_neg e] at e1 ⊢
    simp (disch := omega) only [jb_K_n, jb_K_v, ↓reduceIte, jT_lt, jF_lt, jT_le, jF_le, jT_eq, jF_eq, jT_z, jF_z, jF_neg, jT_nn, jT_pos, jF_pos, jT_le0, jF_le0, jT_x, jF_m1, jF_m1r, jT_tt, jI_add, jI_mul, jI_sub, jI_cl, jm_up_same, jm_up_o, jm_up_j, jbR_T, jbR_F, jt_M_putSign_0, jt_M_putSign_19, e1]
theorem mPutK {T : List Nat} (hA : jAr σ 308 146 w) (hw : jInv w) (h : jLm σ T) (hl : T.length < 80) {i : Nat} (hi : i < w 0) : ∃ σ', jb_Ev 116 [.ref (307 : Nat), .int (jI T.length), .int (jI i)] (jm_hp σ) = some (some (.int (jI (T ++ [jck (w (21 + 6 * i))]).length)), jm_hp σ') ∧ jLm σ' (T ++ [jck (w (21 + 6 * i))]) ∧ (∀ q j, q ≠ 314 → σ' q j = σ q j) := by
  have b0 := hw.b0
  obtain ⟨a1, -⟩ := hw.2.1.2.1 i hi
  have h1 := hA (21 + 6 * i) (by omega)
  obtain ⟨σ', e1, l1, f1⟩ := jLm_add h hl (jck (w (21 + 6 * i)))
  refine ⟨σ', ?_, l1, f1⟩
  unfold jck at e1 ⊢
  by_cases e : w (21 + 6 * i) = 0
  · rw [if_pos e] at e1 ⊢
    simp (disch := omega) only [jb_K_n, jb_K_v, ↓reduceIte, jT_lt, jF_lt, jT_le, jF_le, jT_eq, jF_eq, jT_z, jF_z, jF_neg, jT_nn, jT_pos, jF_pos, jT_le0, jF_le0, jT_x, jF_m1, jF_m1r, jT_tt, jI_add, jI_mul, jI_sub, jI_cl, jm_up_same, jm_up_o, jm_up_j, jbR_T, jbR_F, jt_M_putKind_0, jt_M_putKind_8, jt_M_putKind_38, jt_M_wordAt_0, Nat.add_zero, h1, e1]
  · rw [if_neg e] at e1 ⊢
    by_cases e2 : w (21 + 6 * i) = 1
    · rw [if_pos e2] at e1 ⊢
      simp (disch := omega) only [jb_K_n, jb_K_v, ↓reduceIte, jT_lt, jF_lt, jT_le, jF_le, jT_eq, jF_eq, jT_z, jF_z, jF_neg, jT_nn, jT_pos, jF_pos, jT_le0, jF_le0, jT_x, jF_m1, jF_m1r, jT_tt, jI_add, jI_mul, jI_sub, jI_cl, jm_up_same, jm_up_o, jm_up_j, jbR_T, jbR_F, jt_M_putKind_0, jt_M_putKind_8, jt_M_putKind_38, jt_M_wordAt_0, Nat.add_zero, h1, e1]
    · rw [if_neg e2] at e1 ⊢
      simp (disch := omega) only [jb_K_n, jb_K_v, ↓reduceIte, jT_lt, jF_lt, jT_le, jF_le, jT_eq, jF_eq, jT_z, jF_z, jF_neg, jT_nn, jT_pos, jF_pos, jT_le0, jF_le0, jT_x, jF_m1, jF_m1r, jT_tt, jI_add, jI_mul, jI_sub, jI_cl, jm_up_same, jm_up_o, jm_up_j, jbR_T, jbR_F, jt_M_putKind_0, jt_M_putKind_8, jt_M_putKind_38, jt_M_wordAt_0, Nat.add_zero, h1, e1]
/-! the ends of both -/
theorem jJC_line {σ' : jm_S} {T : List Nat} (hC : JC σ S) (hA : jA 293 295 σ σ') (h : jLc σ' T) : JC σ' (jline S T) := by
  obtain ⟨k1, k2, k3, k4, k5, k6, k7, k8, k9⟩ := hC.keep hA
  refine ⟨k1 (by omega), ?_, ⟨k3 (by omega), k4 (by omega)⟩, ⟨k5 (by omega), k6 (by omega), h⟩, k8 (by omega), k9 (by omega)⟩
  unfold jline
  rw [js2_H _ _ _ _ (by omega)]
  exact k2 (by omega)
theorem jJM_line {σ' : jm_S} {T : List Nat} (hM : JM σ S) (hA : ∀ q j, ¬ (q = 314 ∨ q = 307 ∧ j = 16) → σ' q j = σ q j) (h : jLm σ' T) (h16 : σ' 307 16 = jI T.length) : JM σ' (jline S T) := by
  obtain ⟨k1, k2, k3, k4, k5, k6, k7, k8, k9⟩ := hM.keep (P := fun q j => q = 314 ∨ q = 307 ∧ j = 16) hA
  refine ⟨k1 (fun j => by omega), ?_, ⟨k3 (by omega), k4 (fun j => by omega)⟩, k5 (fun j => by omega), k6 (fun j => by omega), ⟨h16, h⟩, k8 (fun j => by omega), k9 (by omega)⟩
  unfold jline
  rw [js2_H _ _ _ _ (by omega)]
  exact k2 (fun j => by omega)
theorem jJI_line {T : List Nat} (hI : JI S) (h : T.length ≤ 64) : JI (jline S T) := by
  obtain ⟨h1, ⟨h2, h3⟩, h4, h5, h6, h7, h8⟩ := hI
  refine ⟨h1, ⟨h2, fun k hk => ?_⟩, h4, h5, h6, h, h8⟩
  have : jline S T (10 + k) = S (10 + k) := congrFun (js2_H S (fun j => T.getD j 0) 4 T.length (a := 4) (by omega)) k
  rw [this]
  exact h3 k hk
/-! write -/
theorem cWrS {x1 x2 : Int32} (h : jRn σ 297 n f) (hf : ∀ j, j < n → f j ≤ 5) (hn : n ≤ 12) : ∀ (m k : Nat) (τ : jm_S), k + m = n → jLc τ (jts f k) → jA 293 295 σ τ → ∃ τ', jb_Ex 228 (31, [.ref (0 : Nat), .int x1, .int x2, .int (jI k)], [], jm_hp τ) = jb_Ex 228 (68, [.ref (0 : Nat), .int x1, .int x2, .int (jI 0)], [], jm_hp τ') ∧ jLc τ' (jts f n) ∧ jA 293 295 σ τ'
  | 0, k, τ, hm, h1, h2 => by
    obtain rfl : k = n := by omega
    refine ⟨τ, ?_, h1, h2⟩
    rw [jt_D_write_31]
    simp (disch := omega) only [jb_K_n, jb_K_v, ↓reduceIte, jT_lt, jF_lt, jT_le, jF_le, jT_eq, jF_eq, jT_z, jF_z, jF_neg, jT_nn, jT_pos, jF_pos, jT_le0, jF_le0, jT_x, jF_m1, jF_m1r, jT_tt, jI_add, jI_mul, jI_sub, jI_cl, jm_up_same, jm_up_o, jm_up_j, jbR_T, jbR_F, jR_size (h.A h2 (by omega)), jt_D_write_39]
  | m + 1, k, τ, hm, h1, h2 => by
    have hat := jRn_at (h.A h2 (by omega)) (show k < n by omega)
    have hc := cCharS (σ := τ) (hf k (by omega))
    obtain ⟨τ1, e1, l1, f1⟩ := jLc_add h1 (by rw [jts_len]; omega) (jcs (f k))
    obtain ⟨τ', g1, g2⟩ := cWrS (x1 := x1) (x2 := x2) h hf hn m (k + 1) τ1 (by omega) l1 (h2.tr f1)
    refine ⟨τ', ?_, g2⟩
    rw [← g1, jt_D_write_31]
    simp (disch := omega) only [jb_K_n, jb_K_v, ↓reduceIte, jT_lt, jF_lt, jT_le, jF_le, jT_eq, jF_eq, jT_z, jF_z, jF_neg, jT_nn, jT_pos, jF_pos, jT_le0, jF_le0, jT_x, jF_m1, jF_m1r, jT_tt, jI_add, jI_mul, jI_sub, jI_cl, jm_up_same, jm_up_o, jm_up_j, jbR_T, jbR_F, jR_size (h.A h2 (by omega)), jt_D_write_39, hat, jt_D_write_54, hc, jt_D_write_57, e1, jt_D_write_60]
theorem cWrW {x1 : Int32} {A L : List Nat} (hV : jV σ 1 w) (hw : jInv w) (h : jRn σ 299 L.length (fun j => L.getD j 0)) (hl : L.length ≤ 12) (hLw : ∀ i ∈ L, i < w 0) (hA : A.length ≤ 12) : ∀ (m k : Nat) (τ : jm_S), k + m = L.length → jLc τ (A ++ jtl w L k) → jA 293 295 σ τ → ∃ τ', jb_Ex 228 (68, [.ref (0 : Nat), .int x1, .int (jI 1), .int (jI k)], [], jm_hp τ) = some (some (.int (jI (A ++ jtl w L L.length).length)), jm_hp τ') ∧ jLc τ' (A ++ jtl w L L.length) ∧ jA 293 295 σ τ'
  | 0, k, τ, hm, h1, h2 => by
    obtain rfl : k = L.length := by omega
    refine ⟨τ, ?_, h1, h2⟩
    rw [jt_D_write_68]
    simp (disch := omega) only [jb_K_n, jb_K_v, ↓reduceIte, jT_lt, jF_lt, jT_le, jF_le, jT_eq, jF_eq, jT_z, jF_z, jF_neg, jT_nn, jT_pos, jF_pos, jT_le0, jF_le0, jT_x, jF_m1, jF_m1r, jT_tt, jI_add, jI_mul, jI_sub, jI_cl, jm_up_same, jm_up_o, jm_up_j, jbR_T, jbR_F, jR_size (h.A h2 (by omega)), jt_D_write_80, jR_size h1, jt_D_write_163]
  | m + 1, k, τ, hm, h1, h2 => by
    have b0 := hw.b0
    have hi : L.getD k 0 < w 0 := hLw _ (jl_mem (by omega))
    obtain ⟨a1, -⟩ := hw.2.1.2.1 _ hi
    have hlen : (A ++ jtl w L k).length = A.length + 3 * k := by rw [List.length_append, jtl_len]
    obtain ⟨τ1, e1, l1, f1⟩ := jLc_add h1 (by rw [hlen]; omega) (if k = 0 then 61 else 32)
    obtain ⟨τ2, e2, l2, f2⟩ := jLc_add l1 (by rw [List.length_append, hlen]; show _ + 1 < _; omega) (jck (w (21 + 6 * L.getD k 0)))
    obtain ⟨τ3, e3, l3, f3⟩ := jLc_add l2 (by rw [List.length_append, List.length_append, hlen]; show _ + 1 + 1 < _; omega) (48 + L.getD k 0)
    have hA1 := h2.tr f1
    have hA2 := hA1.tr f2
    have l3' : jLc τ3 (A ++ jtl w L (k + 1)) := by
      show jLc τ3 (A ++ (((jtl w L k ++ [_]) ++ [_]) ++ [_]))
      rw [← List.append_assoc, ← List.append_assoc, ← List.append_assoc]
      exact l3
    obtain ⟨τ', g1, g2⟩ := cWrW (x1 := x1) hV hw h hl hLw hA m (k + 1) τ3 (by omega) l3' (hA2.tr f3)
    refine ⟨τ', ?_, g2⟩
    have at1 := jRn_at (h.A hA1 (by omega)) (show k < L.length by omega)
    have at2 := jRn_at (h.A hA2 (by omega)) (show k < L.length by omega)
    have kd := (hV.A hA1 (by omega)).kd hi
    have hc := cCharK (σ := τ1) a1
    rw [← g1, jt_D_write_68]
    by_cases e : k = 0
    · rw [if_pos e] at e1
      simp (disch := omega) only [jb_K_n, jb_K_v, ↓reduceIte, jT_lt, jF_lt, jT_le, jF_le, jT_eq, jF_eq, jT_z, jF_z, jF_neg, jT_nn, jT_pos, jF_pos, jT_le0, jF_le0, jT_x, jF_m1, jF_m1r, jT_tt, jI_add, jI_mul, jI_sub, jI_cl, jm_up_same, jm_up_o, jm_up_j, jbR_T, jbR_F, jR_size (h.A h2 (by omega)), jt_D_write_80, e1, jt_D_write_101, at1, jt_D_write_123, kd, jt_D_write_126, hc, jt_D_write_129, e2, jt_D_write_132, at2, jt_D_write_146, e3, jt_D_write_150]
    · rw [if_neg e] at e1
      simp (disch := omega) only [jb_K_n, jb_K_v, ↓reduceIte, jT_lt, jF_lt, jT_le, jF_le, jT_eq, jF_eq, jT_z, jF_z, jF_neg, jT_nn, jT_pos, jF_pos, jT_le0, jF_le0, jT_x, jF_m1, jF_m1r, jT_tt, jI_add, jI_mul, jI_sub, jI_cl, jm_up_same, jm_up_o, jm_up_j, jbR_T, jbR_F, jR_size (h.A h2 (by omega)), jt_D_write_80, e1, jt_D_write_101, at1, jt_D_write_123, kd, jt_D_write_126, hc, jt_D_write_129, e2, jt_D_write_132, at2, jt_D_write_146, e3, jt_D_write_150]
theorem mWrS {x1 : Int32} (h20 : σ 307 20 = jI n) (hr : jAr σ 315 n f) (hf : ∀ j, j < n → f j ≤ 5) (hn : n ≤ 12) : ∀ (m k : Nat) (τ : jm_S), k + m = n → jLm τ (jts f k) → (∀ q j, q ≠ 314 → τ q j = σ q j) → ∃ τ', jb_Ex 211 (19, [.ref (307 : Nat), .int x1, .int (jI (jts f k).length), .int (jI k), .retAddr 0], [], jm_hp τ) = jb_K (jb_Ev 194 [.ref (307 : Nat)] (jm_hp τ')) (fun v h => jb_Ex 211 (49, [.ref (307 : Nat), .int x1, .int (jI (jts f n).length), .int (jI n), .retAddr 0], v.toList ++ [], h)) ∧ jLm τ' (jts f n) ∧ (∀ q j, q ≠ 314 → τ' q j = σ q j)
  | 0, k, τ, hm, h1, h2 => by
    obtain rfl : k = n := by omega
    refine ⟨τ, ?_, h1, h2⟩
    rw [jt_M_write_19, (h2 307 20 (by omega)).trans h20, if_pos (by rw [jI_le (by omega) (by omega)]; omega)]
  | m + 1, k, τ, hm, h1, h2 => by
    have h3 := (h2 307 20 (by omega)).trans h20
    have h4 := (h2 315 k (by omega)).trans (hr k (by omega))
    obtain ⟨τ1, e1, l1, f1⟩ := mPutS h1 (by rw [jts_len]; omega) (hf k (by omega))
    obtain ⟨τ', g1, g2⟩ := mWrS (x1 := x1) h20 hr hf hn m (k + 1) τ1 (by omega) l1 (fun q j z => (f1 q j z).trans (h2 q j z))
    refine ⟨τ', ?_, g2⟩
    rw [← g1, jt_M_write_19]
    simp (disch := omega) only [jb_K_n, jb_K_v, ↓reduceIte, jT_lt, jF_lt, jT_le, jF_le, jT_eq, jF_eq, jT_z, jF_z, jF_neg, jT_nn, jT_pos, jF_pos, jT_le0, jF_le0, jT_x, jF_m1, jF_m1r, jT_tt, jI_add, jI_mul, jI_sub, jI_cl, jm_up_same, jm_up_o, jm_up_j, jbR_T, jbR_F, h3, h4, e1, jt_M_write_38]
    rfl
theorem mWrW {x1 : Int32} {A L : List Nat} (hA0 : jAr σ 308 146 w) (hw : jInv w) (h24 : σ 307 24 = jI L.length) (hL : ∀ j, j < L.length → σ 318 j = jI (L.getD j 0)) (hl : L.length ≤ 12) (hLw : ∀ i ∈ L, i < w 0) (hA : A.length ≤ 12) : ∀ (m k : Nat) (τ : jm_S), k + m = L.length → jLm τ (A ++ jtl w L k) → (∀ q j, q ≠ 314 → τ q j = σ q j) → ∃ τ', jb_Ex 211 (53, [.ref (307 : Nat), .int x1, .int (jI (A ++ jtl w L k).length), .int (jI 1), .int (jI k)], [], jm_hp τ) = some (some (.int (jI (A ++ jtl w L L.length).length)), jm_hp (jm_up τ' 307 16 (jI (A ++ jtl w L L.length).length))) ∧ jLm τ' (A ++ jtl w L L.length) ∧ (∀ q j, q ≠ 314 → τ' q j = σ q j)
  | 0, k, τ, hm, h1, h2 => by
    obtain rfl : k = L.length := by omega
    refine ⟨τ, ?_, h1, h2⟩
    rw [jt_M_write_53, (h2 307 24 (by omega)).trans h24, if_pos (by rw [jI_le (by omega) (by omega)]; omega)]
  | m + 1, k, τ, hm, h1, h2 => by
    have b0 := hw.b0
    have hi : L.getD k 0 < w 0 := hLw _ (jl_mem (by omega))
    obtain ⟨a1, -⟩ := hw.2.1.2.1 _ hi
    have hlen : (A ++ jtl w L k).length = A.length + 3 * k := by rw [List.length_append, jtl_len]
    obtain ⟨τ1, e1, l1, f1⟩ := jLm_add h1 (by rw [hlen]; omega) (if k = 0 then 61 else 32)
    have hA1 : jAr τ1 308 146 w := fun j hj => (f1 _ _ (by omega)).trans ((h2 _ _ (by omega)).trans (hA0 j hj))
    obtain ⟨τ2, e2, l2, f2⟩ := mPutK hA1 hw l1 (by rw [List.length_append, hlen]; show _ + 1 < _; omega) hi
    obtain ⟨τ3, e3, l3, f3⟩ := jLm_add l2 (by rw [List.length_append, List.length_append, hlen]; show _ + 1 + 1 < _; omega) (48 + L.getD k 0)
    have hT : A ++ jtl w L (k + 1) = (((A ++ jtl w L k) ++ [if k = 0 then 61 else 32]) ++ [jck (w (21 + 6 * L.getD k 0))]) ++ [48 + L.getD k 0] := by
      show A ++ (((jtl w L k ++ [_]) ++ [_]) ++ [_]) = _
      rw [← List.append_assoc, ← List.append_assoc, ← List.append_assoc]
    obtain ⟨τ', g1, g2⟩ := mWrW (x1 := x1) hA0 hw h24 hL hl hLw hA m (k + 1) τ3 (by omega) (by rw [hT]; exact l3) (fun q j z => (f3 q j z).trans ((f2 q j z).trans ((f1 q j z).trans (h2 q j z))))
    refine ⟨τ', ?_, g2⟩
    rw [hT] at g1
    have h24' := (h2 307 24 (by omega)).trans h24
    have s1 : τ1 318 k = jI (L.getD k 0) := (f1 _ _ (by omega)).trans ((h2 _ _ (by omega)).trans (hL k (by omega)))
    have s2 : τ2 318 k = jI (L.getD k 0) := (f2 _ _ (by omega)).trans s1
    rw [← g1, jt_M_write_53]
    by_cases e : k = 0
    · rw [if_pos e] at e1 e2 e3 ⊢
      simp (disch := omega) only [jb_K_n, jb_K_v, ↓reduceIte, jT_lt, jF_lt, jT_le, jF_le, jT_eq, jF_eq, jT_z, jF_z, jF_neg, jT_nn, jT_pos, jF_pos, jT_le0, jF_le0, jT_x, jF_m1, jF_m1r, jT_tt, jI_add, jI_mul, jI_sub, jI_cl, jm_up_same, jm_up_o, jm_up_j, jbR_T, jbR_F, h24', e1, jt_M_write_84, s1, e2, jt_M_write_94, s2, e3, jt_M_write_110]
    · rw [if_neg e] at e1 e2 e3 ⊢
      simp (disch := omega) only [jb_K_n, jb_K_v, ↓reduceIte, jT_lt, jF_lt, jT_le, jF_le, jT_eq, jF_eq, jT_z, jF_z, jF_neg, jT_nn, jT_pos, jF_pos, jT_le0, jF_le0, jT_x, jF_m1, jF_m1r, jT_tt, jI_add, jI_mul, jI_sub, jI_cl, jm_up_same, jm_up_o, jm_up_j, jbR_T, jbR_F, h24', e1, jt_M_write_84, s1, e2, jt_M_write_94, s2, e3, jt_M_write_110]
theorem o_write (hC : JC σ S) (hM : JM σ S) (hI : JI S) (x : Int32) : jOp σ 228 211 [.int x] := by
  have b2 := hI.1.b2
  by_cases hx : jlt x (S 0 2)
  · obtain ⟨p, hp, rfl⟩ := hx
    obtain ⟨n1, n12, n5⟩ := jp_n hI.1 hp
    have hY := cHasY hC.1 hp
    obtain ⟨σ2, L, e1, f1, r0, r1, r2, r3, r4, r5⟩ := cMeans hC.1 hI.1 hp
    have C2 := hC.cS f1
    have hcl : jb_Ev 13 [.ref (293 : Nat)] (jm_hp σ2) = some (none, jm_hp (jm_up σ2 293 1 (jI 0))) := jt_Row_clear_0 jc_293
    have hA0 : jA 293 295 σ2 (jm_up σ2 293 1 (jI 0)) := jA_up (by omega) (by omega)
    have hl0 : jLc (jm_up σ2 293 1 (jI 0)) (jts (jpf (S 0) p) 0) := ⟨jc_293, Nat.zero_le _, jm_up_same _ _ _ _, fun k hk => absurd hk (Nat.not_lt_zero _)⟩
    -- the plain form's own
    have key : ∀ τ, JM τ S → ∃ τ1 τ2 τ3, jb_Ev 109 [.ref (307 : Nat), .int (jI p)] (jm_hp τ) = some (none, jm_hp τ1) ∧ jb_Ex 211 (19, [.ref (307 : Nat), .int (jI p), .int (jI 0), .int (jI 0), .retAddr 0], [], jm_hp τ1) = jb_K (jb_Ev 194 [.ref (307 : Nat)] (jm_hp τ2)) (fun v h => jb_Ex 211 (49, [.ref (307 : Nat), .int (jI p), .int (jI (jts (jpf (S 0) p) (jpz (S 0) p)).length), .int (jI (jpz (S 0) p)), .retAddr 0], v.toList ++ [], h)) ∧ jb_Ev 194 [.ref (307 : Nat)] (jm_hp τ2) = some (some (.int (if jP (S 0) (jpz (S 0) p) (jpf (S 0) p) = 1 then jI 1 else jI 0)), jm_hp τ3) ∧ (∀ q j, q ≠ 314 → ¬ (q = 315 ∨ q = 316 ∨ q = 317 ∨ q = 318 ∨ q = 307 ∧ (j = 20 ∨ j = 24)) → τ3 q j = τ q j) ∧ jLm τ3 (jts (jpf (S 0) p) (jpz (S 0) p)) ∧ τ3 307 24 = jI L.length ∧ (∀ j, j < L.length → τ3 318 j = jI (L.getD j 0)) := fun τ hτ => by
      obtain ⟨τ1, g1, g2, g3⟩ := mPeal hτ.1 hI.1 hp
      obtain ⟨τ2, g4, g5, g6⟩ := mWrS (x1 := jI p) g2.2.1 g2.2.2 n5 n12 (jpz (S 0) p) 0 τ1 (Nat.zero_add _) (fun j hj => absurd hj (Nat.not_lt_zero _)) (fun _ _ _ => rfl)
      have M2 : jMw τ2 (S 0) (jpz (S 0) p) (jpf (S 0) p) := ⟨fun j hj => (g6 _ _ (by omega)).trans (g2.1 j hj), (g6 _ _ (by omega)).trans g2.2.1, fun j hj => (g6 _ _ (by omega)).trans (g2.2.2 j hj)⟩
      obtain ⟨τ3, L', k1, k2, k3, k4, k5, k6, k7, k8⟩ := mMeans hI.1 M2 n5 (by omega)
      have hL : L' = L := by
        by_cases e : jP (S 0) (jpz (S 0) p) (jpf (S 0) p) = 1
        · exact jPath_det (k8 e).1 (r5 e).1
        · rw [k7 e, r4 e]
      subst hL
      exact ⟨τ1, τ2, τ3, g1, g4, k1, fun q j z1 z2 => (k2 q j (by omega) (by omega) (by omega) (by omega)).trans ((g6 q j z1).trans (g3 q j (by omega) (by omega))), fun j hj => (k2 _ _ (by omega) (by omega) (by omega) (by omega)).trans (g5 j hj), k3, k4⟩
    have scr : ∀ (τ τ3 : jm_S), JM τ S → (∀ q j, q ≠ 314 → ¬ (q = 315 ∨ q = 316 ∨ q = 317 ∨ q = 318 ∨ q = 307 ∧ (j = 20 ∨ j = 24)) → τ3 q j = τ q j) → ∀ (τ4 : jm_S) (T : List Nat), jLm τ4 T → (∀ q j, q ≠ 314 → τ4 q j = τ3 q j) → JM (jm_up τ4 307 16 (jI T.length)) (jline S T) ∧ jLo τ (jm_up τ4 307 16 (jI T.length)) := fun τ τ3 hτ h3 τ4 T hT h4 => by
      refine ⟨?_, fun q j hq => (jm_up_o _ _ (by omega)).trans ((h4 q j (by omega)).trans (h3 q j (by omega) (by omega)))⟩
      have hmid : JM (fun q j => if q = 314 ∨ q = 307 ∧ j = 16 then τ q j else jm_up τ4 307 16 (jI T.length) q j) S := hτ.mS (fun q j z => by
        by_cases c : q = 314 ∨ q = 307 ∧ j = 16
        · rw [if_pos c]
        · rw [if_neg c]
          by_cases c2 : q = 307
          · subst c2
            rw [jm_up_j _ _ (by omega), h4 _ _ (by omega), h3 _ _ (by omega) (by omega)]
          · rw [jm_up_o _ _ c2, h4 _ _ (by omega), h3 _ _ (by omega) (by omega)])
      refine jJM_line hmid (fun q j z => ?_) (fun j hj => by rw [jm_up_o _ _ (by omega)]; exact hT j hj) (jm_up_same _ _ _ _)
      rw [if_neg z]
    by_cases e : jP (S 0) (jpz (S 0) p) (jpf (S 0) p) = 1
    · rw [if_pos e] at e1
      obtain ⟨σ3, g1, g2, g3⟩ := cWrS (x1 := jI p) (x2 := jI 1) r0 n5 n12 (jpz (S 0) p) 0 _ (Nat.zero_add _) hl0 hA0
      obtain ⟨σ4, g4, g5, g6⟩ := cWrW (x1 := jI p) (A := jts (jpf (S 0) p) (jpz (S 0) p)) (hC.1.cS f1 (by omega)) hI.1 r1 r2 r3 (by rw [jts_len]; exact n12) L.length 0 σ3 (Nat.zero_add _) (by
        show jLc σ3 (jts _ _ ++ [])
        rw [List.append_nil]
        exact g2) g3
      have hlen : (jts (jpf (S 0) p) (jpz (S 0) p) ++ jtl (S 0) L L.length).length ≤ 64 := by rw [List.length_append, jts_len, jtl_len]; omega
      refine jOp_of (S' := jline S (jts (jpf (S 0) p) (jpz (S 0) p) ++ jtl (S 0) L L.length)) (v := .int (jI (jts (jpf (S 0) p) (jpz (S 0) p) ++ jtl (S 0) L L.length).length)) hM ⟨σ4, ?_, jJC_line C2 g6 g5, f1.Hi.tr (g6.Hi (by omega))⟩ (fun τ hτ => ?_) (jJI_line hI hlen)
      · simp (disch := omega) only [jb_K_n, jb_K_v, ↓reduceIte, jT_lt, jF_lt, jT_le, jF_le, jT_eq, jF_eq, jT_z, jF_z, jF_neg, jT_nn, jT_pos, jF_pos, jT_le0, jF_le0, jT_x, jF_m1, jF_m1r, jT_tt, jI_add, jI_mul, jI_sub, jI_cl, jm_up_same, jm_up_o, jm_up_j, jbR_T, jbR_F, jt_D_write_0, hY, jt_D_write_11, e1, jt_D_write_21, hcl, jt_D_write_29, g1, g4]
      · obtain ⟨τ1, τ2, τ3, k1, k2, k3, k4, k5, k6, k7⟩ := key τ hτ
        rw [if_pos e] at k3
        have A3 : jAr τ3 308 146 (S 0) := fun j hj => (k4 _ _ (by omega) (by omega)).trans (hτ.1 j hj)
        obtain ⟨τ4, q1, q2, q3⟩ := mWrW (x1 := jI p) (A := jts (jpf (S 0) p) (jpz (S 0) p)) A3 hI.1 k6 k7 r2 r3 (by rw [jts_len]; exact n12) L.length 0 τ3 (Nat.zero_add _) (by
          show jLm τ3 (jts _ _ ++ [])
          rw [List.append_nil]
          exact k5) (fun _ _ _ => rfl)
        have hz : jts (jpf (S 0) p) (jpz (S 0) p) ++ jtl (S 0) L 0 = jts (jpf (S 0) p) (jpz (S 0) p) := List.append_nil _
        rw [hz] at q1
        have hY2 := jM_pealY (σ := τ) (hτ.1 2 (by omega)) hp (by omega)
        obtain ⟨m1, m2⟩ := scr τ τ3 hτ k4 τ4 _ q2 q3
        refine ⟨_, ?_, m1, m2⟩
        rw [k3, jb_K_v, jt_M_write_49, q1] at k2
        simp (disch := omega) only [jb_K_n, jb_K_v, ↓reduceIte, jT_lt, jF_lt, jT_le, jF_le, jT_eq, jF_eq, jT_z, jF_z, jF_neg, jT_nn, jT_pos, jF_pos, jT_le0, jF_le0, jT_x, jF_m1, jF_m1r, jT_tt, jI_add, jI_mul, jI_sub, jI_cl, jm_up_same, jm_up_o, jm_up_j, jbR_T, jbR_F, jt_M_write_0, hY2, jt_M_write_5, k1, jt_M_write_15, k2]
    · rw [if_neg e] at e1
      have hL0 := r4 e
      obtain ⟨σ3, g1, g2, g3⟩ := cWrS (x1 := jI p) (x2 := jI 0) r0 n5 n12 (jpz (S 0) p) 0 _ (Nat.zero_add _) hl0 hA0
      have hlen : (jts (jpf (S 0) p) (jpz (S 0) p)).length ≤ 64 := by rw [jts_len]; omega
      refine jOp_of (S' := jline S (jts (jpf (S 0) p) (jpz (S 0) p))) (v := .int (jI (jts (jpf (S 0) p) (jpz (S 0) p)).length)) hM ⟨σ3, ?_, jJC_line C2 g3 g2, f1.Hi.tr (g3.Hi (by omega))⟩ (fun τ hτ => ?_) (jJI_line hI hlen)
      · simp (disch := omega) only [jb_K_n, jb_K_v, ↓reduceIte, jT_lt, jF_lt, jT_le, jF_le, jT_eq, jF_eq, jT_z, jF_z, jF_neg, jT_nn, jT_pos, jF_pos, jT_le0, jF_le0, jT_x, jF_m1, jF_m1r, jT_tt, jI_add, jI_mul, jI_sub, jI_cl, jm_up_same, jm_up_o, jm_up_j, jbR_T, jbR_F, jt_D_write_0, hY, jt_D_write_11, e1, jt_D_write_21, hcl, jt_D_write_29, g1, jt_D_write_68, jR_size g2, jt_D_write_163]
      · obtain ⟨τ1, τ2, τ3, k1, k2, k3, k4, k5, k6, k7⟩ := key τ hτ
        rw [if_neg e] at k3
        rw [hL0] at k6
        have hY2 := jM_pealY (σ := τ) (hτ.1 2 (by omega)) hp (by omega)
        obtain ⟨m1, m2⟩ := scr τ τ3 hτ k4 τ3 _ k5 (fun _ _ _ => rfl)
        refine ⟨_, ?_, m1, m2⟩
        rw [k3, jb_K_v, jt_M_write_49, jt_M_write_53, k6, if_pos (by decide)] at k2
        simp (disch := omega) only [jb_K_n, jb_K_v, ↓reduceIte, jT_lt, jF_lt, jT_le, jF_le, jT_eq, jF_eq, jT_z, jF_z, jF_neg, jT_nn, jT_pos, jF_pos, jT_le0, jF_le0, jT_x, jF_m1, jF_m1r, jT_tt, jI_add, jI_mul, jI_sub, jI_cl, jm_up_same, jm_up_o, jm_up_j, jbR_T, jbR_F, jt_M_write_0, hY2, jt_M_write_5, k1, jt_M_write_15, k2]
  · refine jOp_q (v := .int (-1)) hC hM hI ⟨σ, ?_, jcS.rf⟩ (fun τ hτ => ⟨τ, ?_, jmS.rf⟩)
    · have hN := cHasN hC.1 hx
      simp (disch := omega) only [jb_K_n, jb_K_v, ↓reduceIte, jT_lt, jF_lt, jT_le, jF_le, jT_eq, jF_eq, jT_z, jF_z, jF_neg, jT_nn, jT_pos, jF_pos, jT_le0, jF_le0, jT_x, jF_m1, jF_m1r, jT_tt, jI_add, jI_mul, jI_sub, jI_cl, jm_up_same, jm_up_o, jm_up_j, jbR_T, jbR_F, jt_D_write_0, hN, jt_D_write_11]
    · have hN := jM_pealN (σ := τ) (hτ.1 2 (by omega)) hx (by omega)
      simp (disch := omega) only [jb_K_n, jb_K_v, ↓reduceIte, jT_lt, jF_lt, jT_le, jF_le, jT_eq, jF_eq, jT_z, jF_z, jF_neg, jT_nn, jT_pos, jF_pos, jT_le0, jF_le0, jT_x, jF_m1, jF_m1r, jT_tt, jI_add, jI_mul, jI_sub, jI_cl, jm_up_same, jm_up_o, jm_up_j, jbR_T, jbR_F, jt_M_write_0, hN, jt_M_write_5]
end WR
