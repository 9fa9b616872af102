/-! ===== needs; numbers of bells, words, swimmers ===== -/
def jch (w : Nat → Nat) (d r b : Nat) : Bool := decide (b < 5 ∧ w (6 + 3 * b) ≤ d + r ∧ d ≤ w (6 + 3 * b) + r)
def jnh (w : Nat → Nat) (s : Nat) : Nat → Nat := jsum (fun b => if jch w (w (69 + 2 * s)) (w (70 + 2 * s)) b = true then 1 else 0)
def jnb (w : Nat → Nat) (b : Nat) : Nat → Nat := jsum (fun s => if jch w (w (69 + 2 * s)) (w (70 + 2 * s)) b = true then 1 else 0)
def jsn (w : Nat → Nat) (i x : Nat) : Nat → Nat := jsum (fun k => if w (23 + 6 * i + k) = x then 1 else 0)
def jww (w : Nat → Nat) (x : Nat) : Nat → Nat := jsum (fun i => if jsn w i x (w (22 + 6 * i)) = 0 then 0 else 1)
noncomputable def jun (w : Nat → Nat) (s : Nat) : Nat → Nat := jsum (fun p => if jUn w p (w (69 + 2 * s)) (w (70 + 2 * s)) = 1 then 1 else 0)
section OF
variable {σ : jm_S} {w : Nat → Nat} {S : jSt}
theorem jsum_01 {P : Nat → Nat} (h : ∀ i, P i ≤ 1) : ∀ {n : Nat}, jsum P n ≤ n
  | 0 => Nat.le_refl _
  | n + 1 => by
    have := jsum_01 h (n := n)
    have := h n
    unfold jsum
    omega
theorem jun_le {s n : Nat} : jun w s n ≤ n := jsum_01 (fun i => by split <;> omega)
theorem jhr_eq {d r b : Nat} (hb : b < 5) : (jhr w d r b = b) = (jch w d r b = true) := by
  unfold jhr jch
  apply propext
  rw [decide_eq_true_iff]
  constructor
  · intro h
    by_cases e : b < 5 ∧ w (6 + 3 * b) ≤ d + r ∧ d ≤ w (6 + 3 * b) + r
    · exact e
    · rw [if_neg e] at h
      omega
  · intro h
    rw [if_pos h]
theorem mHear2 (hA : jAr σ 308 146 w) (hw : jInv w) {s d r : Nat} (hs : s ≤ 5) (hd : d < 10) (hr : r < 10) : jb_Ev 110 [.ref (307 : Nat), .int (jI d), .int (jI r), .int (jI s)] (jm_hp σ) = some (some (.int (if jch w d r s = true then jI 1 else jI 0)), jm_hp σ) := by
  rw [mHear hA hw hs hd hr]
  unfold jch
  simp only [decide_eq_true_eq]
theorem cBellsByL {s : Nat} (hV : jV σ 1 w) (hw : jInv w) (hs : s < w 1) (x1 : Int32) : ∀ (m k : Nat), k + m = 5 → jb_Ex 132 (36, [.ref (0 : Nat), .int x1, .int (jI (w (69 + 2 * s))), .int (jI (w (70 + 2 * s))), .int (jI (jnh w s k)), .int (jI k)], [], jm_hp σ) = some (some (.int (jI (jnh w s 5))), jm_hp σ)
  | 0, k, hm => by
    obtain rfl : k = 5 := by omega
    rw [jt_D_bellsHeardBy_36]
    simp (disch := omega) only [jb_K_n, jb_K_v, ↓reduceIte, jT_lt, jF_lt, jT_le, jF_le, jT_eq, jF_eq, jT_z, jF_z, jF_neg, jT_nn, jT_pos, jF_pos, jT_le0, jF_le0, jT_x, jF_m1, jF_m1r, jT_tt, jI_add, jI_mul, jI_sub, jI_cl, jm_up_same, jm_up_o, jm_up_j, jbR_T, jbR_F]
  | m + 1, k, hm => by
    have hB := hw.2.2.1.2 s hs
    have IH := cBellsByL hV hw hs x1 m (k + 1) (by omega)
    have hh := cHear (s := k) (d := w (69 + 2 * s)) (r := w (70 + 2 * s)) hV hw (by omega) (by omega) (by omega)
    have e1 : jnh w s (k + 1) = jnh w s k + (if jch w (w (69 + 2 * s)) (w (70 + 2 * s)) k = true then 1 else 0) := rfl
    have e2 := jhr_eq (w := w) (d := w (69 + 2 * s)) (r := w (70 + 2 * s)) (show k < 5 by omega)
    have e3 := jhr_le w (w (69 + 2 * s)) (w (70 + 2 * s)) (show k ≤ 5 by omega)
    rw [jt_D_bellsHeardBy_36]
    by_cases c : jch w (w (69 + 2 * s)) (w (70 + 2 * s)) k = true
    · have c' := e2.mpr c
      rw [e1, if_pos c] at IH
      rw [c'] at hh
      simp (disch := omega) only [jb_K_n, jb_K_v, ↓reduceIte, jT_lt, jF_lt, jT_le, jF_le, jT_eq, jF_eq, jT_z, jF_z, jF_neg, jT_nn, jT_pos, jF_pos, jT_le0, jF_le0, jT_x, jF_m1, jF_m1r, jT_tt, jI_add, jI_mul, jI_sub, jI_cl, jm_up_same, jm_up_o, jm_up_j, jbR_T, jbR_F, hh, jt_D_bellsHeardBy_56, IH]
    · have c' : jhr w (w (69 + 2 * s)) (w (70 + 2 * s)) k ≠ k := fun z => c (e2.mp z)
      rw [e1, if_neg c, Nat.add_zero] at IH
      simp (disch := omega) only [jb_K_n, jb_K_v, ↓reduceIte, jT_lt, jF_lt, jT_le, jF_le, jT_eq, jF_eq, jT_z, jF_z, jF_neg, jT_nn, jT_pos, jF_pos, jT_le0, jF_le0, jT_x, jF_m1, jF_m1r, jT_tt, jI_add, jI_mul, jI_sub, jI_cl, jm_up_same, jm_up_o, jm_up_j, jbR_T, jbR_F, hh, jt_D_bellsHeardBy_56, IH]
theorem mBellsByL {s : Nat} (hA : jAr σ 308 146 w) (hw : jInv w) (hs : s < w 1) : ∀ (m k : Nat), k + m = 5 → jb_Ex 157 (4, [.ref (307 : Nat), .int (jI s), .int (jI (jnh w s k)), .int (jI k)], [], jm_hp σ) = some (some (.int (jI (jnh w s 5))), jm_hp σ)
  | 0, k, hm => by
    obtain rfl : k = 5 := by omega
    rw [jt_M_bellsHeard_4]
    simp (disch := omega) only [jb_K_n, jb_K_v, ↓reduceIte, jT_lt, jF_lt, jT_le, jF_le, jT_eq, jF_eq, jT_z, jF_z, jF_neg, jT_nn, jT_pos, jF_pos, jT_le0, jF_le0, jT_x, jF_m1, jF_m1r, jT_tt, jI_add, jI_mul, jI_sub, jI_cl, jm_up_same, jm_up_o, jm_up_j, jbR_T, jbR_F]
  | m + 1, k, hm => by
    have b1 := hw.b1
    have hB := hw.2.2.1.2 s hs
    have IH := mBellsByL hA hw hs m (k + 1) (by omega)
    have hh := mHear2 (s := k) (d := w (69 + 2 * s)) (r := w (70 + 2 * s)) hA hw (by omega) (by omega) (by omega)
    have e1 : jnh w s (k + 1) = jnh w s k + (if jch w (w (69 + 2 * s)) (w (70 + 2 * s)) k = true then 1 else 0) := rfl
    have h1 := hA (69 + 2 * s) (by omega)
    have h2 := hA (70 + 2 * s) (by omega)
    have e0 : 69 + 2 * s + 1 = 70 + 2 * s := by omega
    rw [jt_M_bellsHeard_4]
    by_cases c : jch w (w (69 + 2 * s)) (w (70 + 2 * s)) k = true
    · rw [if_pos c] at hh
      rw [e1, if_pos c] at IH
      simp (disch := omega) only [jb_K_n, jb_K_v, ↓reduceIte, jT_lt, jF_lt, jT_le, jF_le, jT_eq, jF_eq, jT_z, jF_z, jF_neg, jT_nn, jT_pos, jF_pos, jT_le0, jF_le0, jT_x, jF_m1, jF_m1r, jT_tt, jI_add, jI_mul, jI_sub, jI_cl, jm_up_same, jm_up_o, jm_up_j, jbR_T, jbR_F, jt_M_swimmerAt_0, jt_M_bellsHeard_19, Nat.add_zero, h1, jt_M_bellsHeard_30, e0, h2, hh, jt_M_bellsHeard_37, IH]
    · rw [if_neg c] at hh
      rw [e1, if_neg c, Nat.add_zero] at IH
      simp (disch := omega) only [jb_K_n, jb_K_v, ↓reduceIte, jT_lt, jF_lt, jT_le, jF_le, jT_eq, jF_eq, jT_z, jF_z, jF_neg, jT_nn, jT_pos, jF_pos, jT_le0, jF_le0, jT_x, jF_m1, jF_m1r, jT_tt, jI_add, jI_mul, jI_sub, jI_cl, jm_up_same, jm_up_o, jm_up_j, jbR_T, jbR_F, jt_M_swimmerAt_0, jt_M_bellsHeard_19, Nat.add_zero, h1, jt_M_bellsHeard_30, e0, h2, hh, jt_M_bellsHeard_37, IH]
theorem cWhoL {b : Nat} (hV : jV σ 1 w) (hw : jInv w) (hb : b < 5) : ∀ (m k : Nat) (u4 u5 : Value), k + m = w 1 → jb_Ex 130 (4, [.ref (0 : Nat), .int (jI b), .int (jI (jnb w b k)), .int (jI k), u4, u5], [], jm_hp σ) = some (some (.int (jI (jnb w b (w 1)))), jm_hp σ)
  | 0, k, u4, u5, hm => by
    have b1 := hw.b1
    obtain rfl : k = w 1 := by omega
    rw [jt_D_swimmersWhoHear_4]
    simp (disch := omega) only [jb_K_n, jb_K_v, ↓reduceIte, jT_lt, jF_lt, jT_le, jF_le, jT_eq, jF_eq, jT_z, jF_z, jF_neg, jT_nn, jT_pos, jF_pos, jT_le0, jF_le0, jT_x, jF_m1, jF_m1r, jT_tt, jI_add, jI_mul, jI_sub, jI_cl, jm_up_same, jm_up_o, jm_up_j, jbR_T, jbR_F, hV.wn, jt_D_swimmersWhoHear_18]
  | m + 1, k, u4, u5, hm => by
    have b1 := hw.b1
    have hB := hw.2.2.1.2 k (by omega)
    have IH := cWhoL hV hw hb m (k + 1) (.int (jI (w (69 + 2 * k)))) (.int (jI (w (70 + 2 * k)))) (by omega)
    have hh := cHear (s := b) (d := w (69 + 2 * k)) (r := w (70 + 2 * k)) hV hw (by omega) (by omega) (by omega)
    have e1 : jnb w b (k + 1) = jnb w b k + (if jch w (w (69 + 2 * k)) (w (70 + 2 * k)) b = true then 1 else 0) := rfl
    have e2 := jhr_eq (w := w) (d := w (69 + 2 * k)) (r := w (70 + 2 * k)) hb
    have e3 := jhr_le w (w (69 + 2 * k)) (w (70 + 2 * k)) (show b ≤ 5 by omega)
    rw [jt_D_swimmersWhoHear_4]
    by_cases c : jch w (w (69 + 2 * k)) (w (70 + 2 * k)) b = true
    · have c' := e2.mpr c
      rw [e1, if_pos c] at IH
      rw [c'] at hh
      simp (disch := omega) only [jb_K_n, jb_K_v, ↓reduceIte, jT_lt, jF_lt, jT_le, jF_le, jT_eq, jF_eq, jT_z, jF_z, jF_neg, jT_nn, jT_pos, jF_pos, jT_le0, jF_le0, jT_x, jF_m1, jF_m1r, jT_tt, jI_add, jI_mul, jI_sub, jI_cl, jm_up_same, jm_up_o, jm_up_j, jbR_T, jbR_F, hV.wn, jt_D_swimmersWhoHear_18, hV.wd (show k < w 1 by omega), jt_D_swimmersWhoHear_35, hV.wr (show k < w 1 by omega), jt_D_swimmersWhoHear_51, hh, jt_D_swimmersWhoHear_68, IH]
    · have c' : jhr w (w (69 + 2 * k)) (w (70 + 2 * k)) b ≠ b := fun z => c (e2.mp z)
      rw [e1, if_neg c, Nat.add_zero] at IH
      simp (disch := omega) only [jb_K_n, jb_K_v, ↓reduceIte, jT_lt, jF_lt, jT_le, jF_le, jT_eq, jF_eq, jT_z, jF_z, jF_neg, jT_nn, jT_pos, jF_pos, jT_le0, jF_le0, jT_x, jF_m1, jF_m1r, jT_tt, jI_add, jI_mul, jI_sub, jI_cl, jm_up_same, jm_up_o, jm_up_j, jbR_T, jbR_F, hV.wn, jt_D_swimmersWhoHear_18, hV.wd (show k < w 1 by omega), jt_D_swimmersWhoHear_35, hV.wr (show k < w 1 by omega), jt_D_swimmersWhoHear_51, hh, jt_D_swimmersWhoHear_68, IH]
theorem mWhoL {b : Nat} (hA : jAr σ 308 146 w) (hw : jInv w) (hb : b < 5) : ∀ (m k : Nat) (u4 : Value), k + m = w 1 → jb_Ex 154 (4, [.ref (307 : Nat), .int (jI b), .int (jI (jnb w b k)), .int (jI k), u4], [], jm_hp σ) = some (some (.int (jI (jnb w b (w 1)))), jm_hp σ)
  | 0, k, u4, hm => by
    have b1 := hw.b1
    obtain rfl : k = w 1 := by omega
    have h0 := hA 1 (by omega)
    rw [jt_M_hearersOf_4]
    simp (disch := omega) only [jb_K_n, jb_K_v, ↓reduceIte, jT_lt, jF_lt, jT_le, jF_le, jT_eq, jF_eq, jT_z, jF_z, jF_neg, jT_nn, jT_pos, jF_pos, jT_le0, jF_le0, jT_x, jF_m1, jF_m1r, jT_tt, jI_add, jI_mul, jI_sub, jI_cl, jm_up_same, jm_up_o, jm_up_j, jbR_T, jbR_F, h0]
  | m + 1, k, u4, hm => by
    have b1 := hw.b1
    have h0 := hA 1 (by omega)
    have hB := hw.2.2.1.2 k (by omega)
    have IH := mWhoL hA hw hb m (k + 1) (.int (jI (69 + 2 * k))) (by omega)
    have hh := mHear2 (s := b) (d := w (69 + 2 * k)) (r := w (70 + 2 * k)) hA hw (by omega) (by omega) (by omega)
    have e1 : jnb w b (k + 1) = jnb w b k + (if jch w (w (69 + 2 * k)) (w (70 + 2 * k)) b = true then 1 else 0) := rfl
    have h1 := hA (69 + 2 * k) (by omega)
    have h2 := hA (70 + 2 * k) (by omega)
    have e0 : 69 + 2 * k + 1 = 70 + 2 * k := by omega
    rw [jt_M_hearersOf_4]
    by_cases c : jch w (w (69 + 2 * k)) (w (70 + 2 * k)) b = true
    · rw [if_pos c] at hh
      rw [e1, if_pos c] at IH
      simp (disch := omega) only [jb_K_n, jb_K_v, ↓reduceIte, jT_lt, jF_lt, jT_le, jF_le, jT_eq, jF_eq, jT_z, jF_z, jF_neg, jT_nn, jT_pos, jF_pos, jT_le0, jF_le0, jT_x, jF_m1, jF_m1r, jT_tt, jI_add, jI_mul, jI_sub, jI_cl, jm_up_same, jm_up_o, jm_up_j, jbR_T, jbR_F, h0, jt_M_swimmerAt_0, jt_M_hearersOf_18, Nat.add_zero, h1, e0, h2, hh, jt_M_hearersOf_44, IH]
    · rw [if_neg c] at hh
      rw [e1, if_neg c, Nat.add_zero] at IH
      simp (disch := omega) only [jb_K_n, jb_K_v, ↓reduceIte, jT_lt, jF_lt, jT_le, jF_le, jT_eq, jF_eq, jT_z, jF_z, jF_neg, jT_nn, jT_pos, jF_pos, jT_le0, jF_le0, jT_x, jF_m1, jF_m1r, jT_tt, jI_add, jI_mul, jI_sub, jI_cl, jm_up_same, jm_up_o, jm_up_j, jbR_T, jbR_F, h0, jt_M_swimmerAt_0, jt_M_hearersOf_18, Nat.add_zero, h1, e0, h2, hh, jt_M_hearersOf_44, IH]
/-! signs of words -/
theorem cBook_sign (hV : jV σ 1 w) (hw : jInv w) {i k : Nat} (hi : i < w 0) (hk : k < w (22 + 6 * i)) : jb_Ev 69 [.ref (9 : Nat), .int (jI i), .int (jI k)] (jm_hp σ) = some (some (.int (jI (w (23 + 6 * i + k)))), jm_hp σ) := by
  simp (disch := omega) only [jb_K_n, jb_K_v, ↓reduceIte, jT_lt, jF_lt, jT_le, jF_le, jT_eq, jF_eq, jT_z, jF_z, jF_neg, jT_nn, jT_pos, jF_pos, jT_le0, jF_le0, jT_x, jF_m1, jF_m1r, jT_tt, jI_add, jI_mul, jI_sub, jI_cl, jm_up_same, jm_up_o, jm_up_j, jbR_T, jbR_F, jt_Book_signAt_0, jt_Book_signAt_8, jt_Book_signAt_12, hV.sp hi, cBook_signIn hw hi hk]
theorem cCountL {i x : Nat} (hV : jV σ 1 w) (hw : jInv w) (hi : i < w 0) (hx : x < 1000) : ∀ (m k : Nat), k + m = w (22 + 6 * i) → jb_Ex 131 (5, [.ref (9 : Nat), .int (jI i), .int (jI x), .int (jI (jsn w i x k)), .int (jI k)], [], jm_hp σ) = some (some (.int (jI (jsn w i x (w (22 + 6 * i))))), jm_hp σ)
  | 0, k, hm => by
    obtain ⟨a1, a2, a3, a4, a5, a6⟩ := hw.2.1.2.1 i hi
    obtain rfl : k = w (22 + 6 * i) := by omega
    rw [jt_Book_count_5]
    simp (disch := omega) only [jb_K_n, jb_K_v, ↓reduceIte, jT_lt, jF_lt, jT_le, jF_le, jT_eq, jF_eq, jT_z, jF_z, jF_neg, jT_nn, jT_pos, jF_pos, jT_le0, jF_le0, jT_x, jF_m1, jF_m1r, jT_tt, jI_add, jI_mul, jI_sub, jI_cl, jm_up_same, jm_up_o, jm_up_j, jbR_T, jbR_F, hV.sz hi, jt_Book_count_15]
  | m + 1, k, hm => by
    obtain ⟨a1, a2, a3, a4, a5, a6⟩ := hw.2.1.2.1 i hi
    have h4 := a4 k (by omega)
    have IH := cCountL hV hw hi hx m (k + 1) (by omega)
    have hs := cBook_sign hV hw hi (show k < w (22 + 6 * i) by omega)
    have e1 : jsn w i x (k + 1) = jsn w i x k + (if w (23 + 6 * i + k) = x then 1 else 0) := rfl
    rw [jt_Book_count_5]
    by_cases c : w (23 + 6 * i + k) = x
    · rw [e1, if_pos c] at IH
      simp (disch := omega) only [jb_K_n, jb_K_v, ↓reduceIte, jT_lt, jF_lt, jT_le, jF_le, jT_eq, jF_eq, jT_z, jF_z, jF_neg, jT_nn, jT_pos, jF_pos, jT_le0, jF_le0, jT_x, jF_m1, jF_m1r, jT_tt, jI_add, jI_mul, jI_sub, jI_cl, jm_up_same, jm_up_o, jm_up_j, jbR_T, jbR_F, hV.sz hi, jt_Book_count_15, hs, jt_Book_count_25, IH]
    · rw [e1, if_neg c, Nat.add_zero] at IH
      simp (disch := omega) only [jb_K_n, jb_K_v, ↓reduceIte, jT_lt, jF_lt, jT_le, jF_le, jT_eq, jF_eq, jT_z, jF_z, jF_neg, jT_nn, jT_pos, jF_pos, jT_le0, jF_le0, jT_x, jF_m1, jF_m1r, jT_tt, jI_add, jI_mul, jI_sub, jI_cl, jm_up_same, jm_up_o, jm_up_j, jbR_T, jbR_F, hV.sz hi, jt_Book_count_15, hs, jt_Book_count_25, IH]
theorem mCountL {i x : Nat} (hA : jAr σ 308 146 w) (hw : jInv w) (hi : i < w 0) (hx : x < 1000) : ∀ (m k : Nat), k + m = w (22 + 6 * i) → jb_Ex 111 (5, [.ref (307 : Nat), .int (jI i), .int (jI x), .int (jI (jsn w i x k)), .int (jI k)], [], jm_hp σ) = some (some (.int (jI (jsn w i x (w (22 + 6 * i))))), jm_hp σ)
  | 0, k, hm => by
    have b0 := hw.b0
    obtain ⟨a1, a2, a3, a4, a5, a6⟩ := hw.2.1.2.1 i hi
    have h1 := hA (22 + 6 * i) (by omega)
    have e0 : 21 + 6 * i + 1 = 22 + 6 * i := by omega
    obtain rfl : k = w (22 + 6 * i) := by omega
    rw [jt_M_signsOf_5]
    simp (disch := omega) only [jb_K_n, jb_K_v, ↓reduceIte, jT_lt, jF_lt, jT_le, jF_le, jT_eq, jF_eq, jT_z, jF_z, jF_neg, jT_nn, jT_pos, jF_pos, jT_le0, jF_le0, jT_x, jF_m1, jF_m1r, jT_tt, jI_add, jI_mul, jI_sub, jI_cl, jm_up_same, jm_up_o, jm_up_j, jbR_T, jbR_F, jt_M_wordAt_0, jt_M_signsOf_15, e0, h1]
  | m + 1, k, hm => by
    have b0 := hw.b0
    obtain ⟨a1, a2, a3, a4, a5, a6⟩ := hw.2.1.2.1 i hi
    have h4 := a4 k (by omega)
    have h1 := hA (22 + 6 * i) (by omega)
    have h2 := hA (23 + 6 * i + k) (by omega)
    have e0 : 21 + 6 * i + 1 = 22 + 6 * i := by omega
    have e2 : 21 + 6 * i + 2 + k = 23 + 6 * i + k := by omega
    have IH := mCountL hA hw hi hx m (k + 1) (by omega)
    have e1 : jsn w i x (k + 1) = jsn w i x k + (if w (23 + 6 * i + k) = x then 1 else 0) := rfl
    rw [jt_M_signsOf_5]
    by_cases c : w (23 + 6 * i + k) = x
    · rw [e1, if_pos c] at IH
      simp (disch := omega) only [jb_K_n, jb_K_v, ↓reduceIte, jT_lt, jF_lt, jT_le, jF_le, jT_eq, jF_eq, jT_z, jF_z, jF_neg, jT_nn, jT_pos, jF_pos, jT_le0, jF_le0, jT_x, jF_m1, jF_m1r, jT_tt, jI_add, jI_mul, jI_sub, jI_cl, jm_up_same, jm_up_o, jm_up_j, jbR_T, jbR_F, jt_M_wordAt_0, jt_M_signsOf_15, e0, h1, jt_M_signsOf_30, e2, h2, IH]
    · rw [e1, if_neg c, Nat.add_zero] at IH
      simp (disch := omega) only [jb_K_n, jb_K_v, ↓reduceIte, jT_lt, jF_lt, jT_le, jF_le, jT_eq, jF_eq, jT_z, jF_z, jF_neg, jT_nn, jT_pos, jF_pos, jT_le0, jF_le0, jT_x, jF_m1, jF_m1r, jT_tt, jI_add, jI_mul, jI_sub, jI_cl, jm_up_same, jm_up_o, jm_up_j, jbR_T, jbR_F, jt_M_wordAt_0, jt_M_signsOf_15, e0, h1, jt_M_signsOf_30, e2, h2, Nat.add_zero, IH]
theorem jsn_le {i x n : Nat} : jsn w i x n ≤ n := jsum_01 (fun i => by split <;> omega)
theorem cCount {i x : Nat} (hV : jV σ 1 w) (hw : jInv w) (hi : i < w 0) (hx : x < 1000) : jb_Ev 131 [.ref (9 : Nat), .int (jI i), .int (jI x)] (jm_hp σ) = some (some (.int (jI (jsn w i x (w (22 + 6 * i))))), jm_hp σ) := by
  rw [jt_Book_count_0]
  exact cCountL hV hw hi hx (w (22 + 6 * i)) 0 (Nat.zero_add _)
theorem mCount {i x : Nat} (hA : jAr σ 308 146 w) (hw : jInv w) (hi : i < w 0) (hx : x < 1000) : jb_Ev 111 [.ref (307 : Nat), .int (jI i), .int (jI x)] (jm_hp σ) = some (some (.int (jI (jsn w i x (w (22 + 6 * i))))), jm_hp σ) := by
  rw [jt_M_signsOf_0]
  exact mCountL hA hw hi hx (w (22 + 6 * i)) 0 (Nat.zero_add _)
theorem cWithL {x : Nat} (hV : jV σ 1 w) (hw : jInv w) (hx : x < 1000) : ∀ (m k : Nat), k + m = w 0 → jb_Ex 170 (4, [.ref (9 : Nat), .int (jI x), .int (jI (jww w x k)), .int (jI k)], [], jm_hp σ) = some (some (.int (jI (jww w x (w 0)))), jm_hp σ)
  | 0, k, hm => by
    have b0 := hw.b0
    obtain rfl : k = w 0 := by omega
    rw [jt_Book_wordsWith_4]
    simp (disch := omega) only [jb_K_n, jb_K_v, ↓reduceIte, jT_lt, jF_lt, jT_le, jF_le, jT_eq, jF_eq, jT_z, jF_z, jF_neg, jT_nn, jT_pos, jF_pos, jT_le0, jF_le0, jT_x, jF_m1, jF_m1r, jT_tt, jI_add, jI_mul, jI_sub, jI_cl, jm_up_same, jm_up_o, jm_up_j, jbR_T, jbR_F, hV.kn, jt_Book_wordsWith_12]
  | m + 1, k, hm => by
    have b0 := hw.b0
    obtain ⟨a1, a2, a3, a4, a5, a6⟩ := hw.2.1.2.1 k (by omega)
    have IH := cWithL hV hw hx m (k + 1) (by omega)
    have hc := cCount hV hw (show k < w 0 by omega) hx
    have hle := jsn_le (w := w) (i := k) (x := x) (n := w (22 + 6 * k))
    have e1 : jww w x (k + 1) = jww w x k + (if jsn w k x (w (22 + 6 * k)) = 0 then 0 else 1) := rfl
    rw [jt_Book_wordsWith_4]
    by_cases c : jsn w k x (w (22 + 6 * k)) = 0
    · rw [e1, if_pos c, Nat.add_zero] at IH
      simp (disch := omega) only [jb_K_n, jb_K_v, ↓reduceIte, jT_lt, jF_lt, jT_le, jF_le, jT_eq, jF_eq, jT_z, jF_z, jF_neg, jT_nn, jT_pos, jF_pos, jT_le0, jF_le0, jT_x, jF_m1, jF_m1r, jT_tt, jI_add, jI_mul, jI_sub, jI_cl, jm_up_same, jm_up_o, jm_up_j, jbR_T, jbR_F, hV.kn, jt_Book_wordsWith_12, hc, jt_Book_wordsWith_21, IH]
    · rw [e1, if_neg c] at IH
      simp (disch := omega) only [jb_K_n, jb_K_v, ↓reduceIte, jT_lt, jF_lt, jT_le, jF_le, jT_eq, jF_eq, jT_z, jF_z, jF_neg, jT_nn, jT_pos, jF_pos, jT_le0, jF_le0, jT_x, jF_m1, jF_m1r, jT_tt, jI_add, jI_mul, jI_sub, jI_cl, jm_up_same, jm_up_o, jm_up_j, jbR_T, jbR_F, hV.kn, jt_Book_wordsWith_12, hc, jt_Book_wordsWith_21, IH]
theorem mWithL {x : Nat} (hA : jAr σ 308 146 w) (hw : jInv w) (hx : x < 1000) : ∀ (m k : Nat), k + m = w 0 → jb_Ex 155 (4, [.ref (307 : Nat), .int (jI x), .int (jI (jww w x k)), .int (jI k)], [], jm_hp σ) = some (some (.int (jI (jww w x (w 0)))), jm_hp σ)
  | 0, k, hm => by
    have b0 := hw.b0
    have h0 := hA 0 (by omega)
    obtain rfl : k = w 0 := by omega
    rw [jt_M_wordsWith_4]
    simp (disch := omega) only [jb_K_n, jb_K_v, ↓reduceIte, jT_lt, jF_lt, jT_le, jF_le, jT_eq, jF_eq, jT_z, jF_z, jF_neg, jT_nn, jT_pos, jF_pos, jT_le0, jF_le0, jT_x, jF_m1, jF_m1r, jT_tt, jI_add, jI_mul, jI_sub, jI_cl, jm_up_same, jm_up_o, jm_up_j, jbR_T, jbR_F, h0]
  | m + 1, k, hm => by
    have b0 := hw.b0
    have h0 := hA 0 (by omega)
    obtain ⟨a1, a2, a3, a4, a5, a6⟩ := hw.2.1.2.1 k (by omega)
    have IH := mWithL hA hw hx m (k + 1) (by omega)
    have hc := mCount hA hw (show k < w 0 by omega) hx
    have hle := jsn_le (w := w) (i := k) (x := x) (n := w (22 + 6 * k))
    have e1 : jww w x (k + 1) = jww w x k + (if jsn w k x (w (22 + 6 * k)) = 0 then 0 else 1) := rfl
    rw [jt_M_wordsWith_4]
    by_cases c : jsn w k x (w (22 + 6 * k)) = 0
    · rw [e1, if_pos c, Nat.add_zero] at IH
      simp (disch := omega) only [jb_K_n, jb_K_v, ↓reduceIte, jT_lt, jF_lt, jT_le, jF_le, jT_eq, jF_eq, jT_z, jF_z, jF_neg, jT_nn, jT_pos, jF_pos, jT_le0, jF_le0, jT_x, jF_m1, jF_m1r, jT_tt, jI_add, jI_mul, jI_sub, jI_cl, jm_up_same, jm_up_o, jm_up_j, jbR_T, jbR_F, h0, hc, jt_M_wordsWith_21, IH, Nat.add_zero]
    · rw [e1, if_neg c] at IH
      simp (disch := omega) only [jb_K_n, jb_K_v, ↓reduceIte, jT_lt, jF_lt, jT_le, jF_le, jT_eq, jF_eq, jT_z, jF_z, jF_neg, jT_nn, jT_pos, jF_pos, jT_le0, jF_le0, jT_x, jF_m1, jF_m1r, jT_tt, jI_add, jI_mul, jI_sub, jI_cl, jm_up_same, jm_up_o, jm_up_j, jbR_T, jbR_F, h0, hc, jt_M_wordsWith_21, IH]
/-! peals understood -/
theorem cUnderL {s : Nat} (hw : jInv w) (hs : s < w 1) : ∀ (m k : Nat) (τ : jm_S), k + m = w 2 → jV τ 1 w → ∃ τ', jb_Ex 222 (36, [.ref (0 : Nat), .int (jI s), .int (jI (w (69 + 2 * s))), .int (jI (w (70 + 2 * s))), .int (jI (jun w s k)), .int (jI k)], [], jm_hp τ) = some (some (.int (jI (jun w s (w 2)))), jm_hp τ') ∧ jcT τ τ'
  | 0, k, τ, hm, hV => by
    have b2 := hw.b2
    obtain rfl : k = w 2 := by omega
    refine ⟨τ, ?_, jcT.rf⟩
    rw [jt_D_pealsUnderstoodBy_36]
    simp (disch := omega) only [jb_K_n, jb_K_v, ↓reduceIte, jT_lt, jF_lt, jT_le, jF_le, jT_eq, jF_eq, jT_z, jF_z, jF_neg, jT_nn, jT_pos, jF_pos, jT_le0, jF_le0, jT_x, jF_m1, jF_m1r, jT_tt, jI_add, jI_mul, jI_sub, jI_cl, jm_up_same, jm_up_o, jm_up_j, jbR_T, jbR_F, hV.pn, jt_D_pealsUnderstoodBy_51]
  | m + 1, k, τ, hm, hV => by
    have b2 := hw.b2
    have hB := hw.2.2.1.2 s hs
    obtain ⟨τ1, e1, f1⟩ := cUnd (p := k) (d := w (69 + 2 * s)) (r := w (70 + 2 * s)) hV hw (by omega) (by omega) (by omega)
    obtain ⟨τ2, e2, f2⟩ := cUnderL hw hs m (k + 1) τ1 (by omega) (hV.cS f1.s (by omega))
    have e3 : jun w s (k + 1) = jun w s k + (if jUn w k (w (69 + 2 * s)) (w (70 + 2 * s)) = 1 then 1 else 0) := rfl
    have e4 := jUn_le (w := w) (p := k) (d := w (69 + 2 * s)) (r := w (70 + 2 * s))
    refine ⟨τ2, ?_, f1.tr f2⟩
    rw [jt_D_pealsUnderstoodBy_36]
    by_cases c : jUn w k (w (69 + 2 * s)) (w (70 + 2 * s)) = 1
    · rw [e3, if_pos c] at e2
      rw [c] at e1
      simp (disch := omega) only [jb_K_n, jb_K_v, ↓reduceIte, jT_lt, jF_lt, jT_le, jF_le, jT_eq, jF_eq, jT_z, jF_z, jF_neg, jT_nn, jT_pos, jF_pos, jT_le0, jF_le0, jT_x, jF_m1, jF_m1r, jT_tt, jI_add, jI_mul, jI_sub, jI_cl, jm_up_same, jm_up_o, jm_up_j, jbR_T, jbR_F, hV.pn, jt_D_pealsUnderstoodBy_51, e1, jt_D_pealsUnderstoodBy_62, e2]
    · rw [e3, if_neg c, Nat.add_zero] at e2
      simp (disch := omega) only [jb_K_n, jb_K_v, ↓reduceIte, jT_lt, jF_lt, jT_le, jF_le, jT_eq, jF_eq, jT_z, jF_z, jF_neg, jT_nn, jT_pos, jF_pos, jT_le0, jF_le0, jT_x, jF_m1, jF_m1r, jT_tt, jI_add, jI_mul, jI_sub, jI_cl, jm_up_same, jm_up_o, jm_up_j, jbR_T, jbR_F, hV.pn, jt_D_pealsUnderstoodBy_51, e1, jt_D_pealsUnderstoodBy_62, e2]
theorem cUnder {s : Nat} (hV : jV σ 1 w) (hw : jInv w) (hs : s < w 1) : ∃ τ', jb_Ev 222 [.ref (0 : Nat), .int (jI s)] (jm_hp σ) = some (some (.int (jI (jun w s (w 2)))), jm_hp τ') ∧ jcT σ τ' := by
  obtain ⟨τ', e1, f1⟩ := cUnderL hw hs (w 2) 0 σ (Nat.zero_add _) hV
  have e1' : jb_Ex 222 (36, [.ref (0 : Nat), .int (jI s), .int (jI (w (69 + 2 * s))), .int (jI (w (70 + 2 * s))), .int (jI 0), .int (jI 0)], [], jm_hp σ) = _ := e1
  exact ⟨τ', by simp (disch := omega) only [jb_K_n, jb_K_v, ↓reduceIte, jT_lt, jF_lt, jT_le, jF_le, jT_eq, jF_eq, jT_z, jF_z, jF_neg, jT_nn, jT_pos, jF_pos, jT_le0, jF_le0, jT_x, jF_m1, jF_m1r, jT_tt, jI_add, jI_mul, jI_sub, jI_cl, jm_up_same, jm_up_o, jm_up_j, jbR_T, jbR_F, jt_D_pealsUnderstoodBy_0, hV.wd hs, jt_D_pealsUnderstoodBy_14, hV.wr hs, jt_D_pealsUnderstoodBy_29, e1'], f1⟩
theorem mUnderL {s : Nat} (hw : jInv w) (hs : s < w 1) : ∀ (m k : Nat) (τ : jm_S), k + m = w 2 → jAr τ 308 146 w → ∃ τ', jb_Ex 242 (4, [.ref (307 : Nat), .int (jI s), .int (jI (jun w s k)), .int (jI k)], [], jm_hp τ) = some (some (.int (jI (jun w s (w 2)))), jm_hp τ') ∧ jmS τ τ'
  | 0, k, τ, hm, hA => by
    have b2 := hw.b2
    have h2 := hA 2 (by omega)
    obtain rfl : k = w 2 := by omega
    refine ⟨τ, ?_, jmS.rf⟩
    rw [jt_M_understood_4]
    simp (disch := omega) only [jb_K_n, jb_K_v, ↓reduceIte, jT_lt, jF_lt, jT_le, jF_le, jT_eq, jF_eq, jT_z, jF_z, jF_neg, jT_nn, jT_pos, jF_pos, jT_le0, jF_le0, jT_x, jF_m1, jF_m1r, jT_tt, jI_add, jI_mul, jI_sub, jI_cl, jm_up_same, jm_up_o, jm_up_j, jbR_T, jbR_F, h2]
  | m + 1, k, τ, hm, hA => by
    have b2 := hw.b2
    have h2 := hA 2 (by omega)
    have hB := hw.2.2.1.2 s hs
    obtain ⟨τ1, e1, f1⟩ := mUndTo (p := k) hA hw (by omega) hs
    obtain ⟨τ2, e2, f2⟩ := mUnderL hw hs m (k + 1) τ1 (by omega) (hA.mS f1)
    have e3 : jun w s (k + 1) = jun w s k + (if jUn w k (w (69 + 2 * s)) (w (70 + 2 * s)) = 1 then 1 else 0) := rfl
    have e4 := jUn_le (w := w) (p := k) (d := w (69 + 2 * s)) (r := w (70 + 2 * s))
    refine ⟨τ2, ?_, f1.tr f2⟩
    rw [jt_M_understood_4]
    by_cases c : jUn w k (w (69 + 2 * s)) (w (70 + 2 * s)) = 1
    · rw [e3, if_pos c] at e2
      rw [c] at e1
      simp (disch := omega) only [jb_K_n, jb_K_v, ↓reduceIte, jT_lt, jF_lt, jT_le, jF_le, jT_eq, jF_eq, jT_z, jF_z, jF_neg, jT_nn, jT_pos, jF_pos, jT_le0, jF_le0, jT_x, jF_m1, jF_m1r, jT_tt, jI_add, jI_mul, jI_sub, jI_cl, jm_up_same, jm_up_o, jm_up_j, jbR_T, jbR_F, h2, e1, jt_M_understood_21, e2]
    · rw [e3, if_neg c, Nat.add_zero] at e2
      simp (disch := omega) only [jb_K_n, jb_K_v, ↓reduceIte, jT_lt, jF_lt, jT_le, jF_le, jT_eq, jF_eq, jT_z, jF_z, jF_neg, jT_nn, jT_pos, jF_pos, jT_le0, jF_le0, jT_x, jF_m1, jF_m1r, jT_tt, jI_add, jI_mul, jI_sub, jI_cl, jm_up_same, jm_up_o, jm_up_j, jbR_T, jbR_F, h2, e1, jt_M_understood_21, Nat.add_zero, e2]
theorem mUnder {s : Nat} (hA : jAr σ 308 146 w) (hw : jInv w) (hs : s < w 1) : ∃ τ', jb_Ev 242 [.ref (307 : Nat), .int (jI s)] (jm_hp σ) = some (some (.int (jI (jun w s (w 2)))), jm_hp τ') ∧ jmS σ τ' := by
  rw [jt_M_understood_0]
  exact mUnderL hw hs (w 2) 0 σ (Nat.zero_add _) hA
theorem o_bellOf (hC : JC σ S) (hM : JM σ S) (hI : JI S) (x y : Int32) : jOp σ 201 196 [.int x, .int y] := by
  have b2 := hI.1.b2
  have b1 := hI.1.b1
  have b0 := hI.1.b0
  by_cases hs : jlt x 5
  · obtain ⟨b, hb, rfl⟩ := hs
    have sY := jR_hasY hC.1.b.1 hb
    have bY : ∀ τ : jm_S, jb_Ev 91 [.int (jI b)] (jm_hp τ) = some (some (.int (jI 1)), jm_hp τ) := fun τ => jM_bellY hb
    by_cases hy : jlt y 5
    · obtain ⟨k, hk, rfl⟩ := hy
      rcases (show k = 0 ∨ k = 1 ∨ k = 2 ∨ k = 3 ∨ k = 4 by omega) with rfl | rfl | rfl | rfl | rfl
      · refine jOp_q (v := .int (jI (S 0 (6 + 3 * b)))) hC hM hI ⟨σ, by simp (disch := omega) only [jb_K_n, jb_K_v, ↓reduceIte, jT_lt, jF_lt, jT_le, jF_le, jT_eq, jF_eq, jT_z, jF_z, jF_neg, jT_nn, jT_pos, jF_pos, jT_le0, jF_le0, jT_x, jF_m1, jF_m1r, jT_tt, jI_add, jI_mul, jI_sub, jI_cl, jm_up_same, jm_up_o, jm_up_j, jbR_T, jbR_F, jt_D_bellOf_0, jt_D_bellOf_14, jt_D_bellOf_70, jt_D_bellOf_85, jt_D_bellOf_100, jt_D_bellOf_106, jt_D_bellOf_118, sY, hC.1.bd hb], jcS.rf⟩ (fun τ hτ => ⟨τ, ?_, jmS.rf⟩)
        have h1 := hτ.1 (6 + 3 * b) (by omega)
        simp (disch := omega) only [jb_K_n, jb_K_v, ↓reduceIte, jT_lt, jF_lt, jT_le, jF_le, jT_eq, jF_eq, jT_z, jF_z, jF_neg, jT_nn, jT_pos, jF_pos, jT_le0, jF_le0, jT_x, jF_m1, jF_m1r, jT_tt, jI_add, jI_mul, jI_sub, jI_cl, jm_up_same, jm_up_o, jm_up_j, jbR_T, jbR_F, jt_M_bellOf_0, jt_M_bellOf_4, jt_M_bellOf_52, jt_M_bellOf_61, jt_M_bellOf_67, bY, jt_M_bellAt_0, Nat.add_zero, h1]
      · refine jOp_q (v := .int (jI (S 0 (7 + 3 * b)))) hC hM hI ⟨σ, by simp (disch := omega) only [jb_K_n, jb_K_v, ↓reduceIte, jT_lt, jF_lt, jT_le, jF_le, jT_eq, jF_eq, jT_z, jF_z, jF_neg, jT_nn, jT_pos, jF_pos, jT_le0, jF_le0, jT_x, jF_m1, jF_m1r, jT_tt, jI_add, jI_mul, jI_sub, jI_cl, jm_up_same, jm_up_o, jm_up_j, jbR_T, jbR_F, jt_D_bellOf_0, jt_D_bellOf_14, jt_D_bellOf_70, jt_D_bellOf_85, jt_D_bellOf_100, jt_D_bellOf_106, jt_D_bellOf_118, sY, hC.1.bw hb], jcS.rf⟩ (fun τ hτ => ⟨τ, ?_, jmS.rf⟩)
        have h1 := hτ.1 (7 + 3 * b) (by omega)
        have e1 : 6 + 3 * b + 1 = 7 + 3 * b := by omega
        simp (disch := omega) only [jb_K_n, jb_K_v, ↓reduceIte, jT_lt, jF_lt, jT_le, jF_le, jT_eq, jF_eq, jT_z, jF_z, jF_neg, jT_nn, jT_pos, jF_pos, jT_le0, jF_le0, jT_x, jF_m1, jF_m1r, jT_tt, jI_add, jI_mul, jI_sub, jI_cl, jm_up_same, jm_up_o, jm_up_j, jbR_T, jbR_F, jt_M_bellOf_0, jt_M_bellOf_4, jt_M_bellOf_52, jt_M_bellOf_61, jt_M_bellOf_67, bY, jt_M_bellAt_0, e1, h1]
      · refine jOp_q (v := .int (jI (S 0 (8 + 3 * b)))) hC hM hI ⟨σ, by simp (disch := omega) only [jb_K_n, jb_K_v, ↓reduceIte, jT_lt, jF_lt, jT_le, jF_le, jT_eq, jF_eq, jT_z, jF_z, jF_neg, jT_nn, jT_pos, jF_pos, jT_le0, jF_le0, jT_x, jF_m1, jF_m1r, jT_tt, jI_add, jI_mul, jI_sub, jI_cl, jm_up_same, jm_up_o, jm_up_j, jbR_T, jbR_F, jt_D_bellOf_0, jt_D_bellOf_14, jt_D_bellOf_70, jt_D_bellOf_85, jt_D_bellOf_100, jt_D_bellOf_106, jt_D_bellOf_118, sY, hC.1.br hb], jcS.rf⟩ (fun τ hτ => ⟨τ, ?_, jmS.rf⟩)
        have h1 := hτ.1 (8 + 3 * b) (by omega)
        have e1 : 6 + 3 * b + 2 = 8 + 3 * b := by omega
        simp (disch := omega) only [jb_K_n, jb_K_v, ↓reduceIte, jT_lt, jF_lt, jT_le, jF_le, jT_eq, jF_eq, jT_z, jF_z, jF_neg, jT_nn, jT_pos, jF_pos, jT_le0, jF_le0, jT_x, jF_m1, jF_m1r, jT_tt, jI_add, jI_mul, jI_sub, jI_cl, jm_up_same, jm_up_o, jm_up_j, jbR_T, jbR_F, jt_M_bellOf_0, jt_M_bellOf_4, jt_M_bellOf_52, jt_M_bellOf_61, jt_M_bellOf_67, bY, jt_M_bellAt_0, e1, h1]
      · have hc := cWhoL hC.1 hI.1 hb (S 0 1) 0 (.retAddr 0) (.retAddr 0) (Nat.zero_add _)
        have hc' : jb_Ex 130 (4, [.ref (0 : Nat), .int (jI b), .int (jI 0), .int (jI 0), .retAddr 0, .retAddr 0], [], jm_hp σ) = _ := hc
        refine jOp_q (v := .int (jI (jnb (S 0) b (S 0 1)))) hC hM hI ⟨σ, by simp (disch := omega) only [jb_K_n, jb_K_v, ↓reduceIte, jT_lt, jF_lt, jT_le, jF_le, jT_eq, jF_eq, jT_z, jF_z, jF_neg, jT_nn, jT_pos, jF_pos, jT_le0, jF_le0, jT_x, jF_m1, jF_m1r, jT_tt, jI_add, jI_mul, jI_sub, jI_cl, jm_up_same, jm_up_o, jm_up_j, jbR_T, jbR_F, jt_D_bellOf_0, jt_D_bellOf_14, jt_D_bellOf_70, jt_D_bellOf_85, jt_D_bellOf_100, jt_D_bellOf_106, jt_D_bellOf_118, sY, jt_D_swimmersWhoHear_0, hc'], jcS.rf⟩ (fun τ hτ => ⟨τ, ?_, jmS.rf⟩)
        have hm := mWhoL hτ.1 hI.1 hb (S 0 1) 0 (.retAddr 0) (Nat.zero_add _)
        have hm' : jb_Ex 154 (4, [.ref (307 : Nat), .int (jI b), .int (jI 0), .int (jI 0), .retAddr 0], [], jm_hp τ) = _ := hm
        simp (disch := omega) only [jb_K_n, jb_K_v, ↓reduceIte, jT_lt, jF_lt, jT_le, jF_le, jT_eq, jF_eq, jT_z, jF_z, jF_neg, jT_nn, jT_pos, jF_pos, jT_le0, jF_le0, jT_x, jF_m1, jF_m1r, jT_tt, jI_add, jI_mul, jI_sub, jI_cl, jm_up_same, jm_up_o, jm_up_j, jbR_T, jbR_F, jt_M_bellOf_0, jt_M_bellOf_4, jt_M_bellOf_52, jt_M_bellOf_61, jt_M_bellOf_67, bY, jt_M_hearersOf_0, hm']
      · have hc := cWithL (x := b) hC.1 hI.1 (by omega) (S 0 0) 0 (Nat.zero_add _)
        have hc' : jb_Ex 170 (4, [.ref (9 : Nat), .int (jI b), .int (jI 0), .int (jI 0)], [], jm_hp σ) = _ := hc
        refine jOp_q (v := .int (jI (jww (S 0) b (S 0 0)))) hC hM hI ⟨σ, by simp (disch := omega) only [jb_K_n, jb_K_v, ↓reduceIte, jT_lt, jF_lt, jT_le, jF_le, jT_eq, jF_eq, jT_z, jF_z, jF_neg, jT_nn, jT_pos, jF_pos, jT_le0, jF_le0, jT_x, jF_m1, jF_m1r, jT_tt, jI_add, jI_mul, jI_sub, jI_cl, jm_up_same, jm_up_o, jm_up_j, jbR_T, jbR_F, jt_D_bellOf_0, jt_D_bellOf_14, jt_D_bellOf_70, jt_D_bellOf_85, jt_D_bellOf_100, jt_D_bellOf_106, jt_D_bellOf_118, sY, jt_Book_wordsWith_0, hc'], jcS.rf⟩ (fun τ hτ => ⟨τ, ?_, jmS.rf⟩)
        have hm := mWithL (x := b) hτ.1 hI.1 (by omega) (S 0 0) 0 (Nat.zero_add _)
        have hm' : jb_Ex 155 (4, [.ref (307 : Nat), .int (jI b), .int (jI 0), .int (jI 0)], [], jm_hp τ) = _ := hm
        simp (disch := omega) only [jb_K_n, jb_K_v, ↓reduceIte, jT_lt, jF_lt, jT_le, jF_le, jT_eq, jF_eq, jT_z, jF_z, jF_neg, jT_nn, jT_pos, jF_pos, jT_le0, jF_le0, jT_x, jF_m1, jF_m1r, jT_tt, jI_add, jI_mul, jI_sub, jI_cl, jm_up_same, jm_up_o, jm_up_j, jbR_T, jbR_F, jt_M_bellOf_0, jt_M_bellOf_4, jt_M_bellOf_52, jt_M_bellOf_61, jt_M_bellOf_67, bY, jt_M_wordsWith_0, hm']
    · have ne : ∀ k, k < 5 → ¬ y = jI k := fun k hk z => hy ⟨k, hk, z⟩
      refine jOp_q (v := .int (-2)) hC hM hI ⟨σ, ?_, jcS.rf⟩ (fun τ hτ => ⟨τ, ?_, jmS.rf⟩)
      · simp (disch := omega) only [jb_K_n, jb_K_v, ↓reduceIte, jT_lt, jF_lt, jT_le, jF_le, jT_eq, jF_eq, jT_z, jF_z, jF_neg, jT_nn, jT_pos, jF_pos, jT_le0, jF_le0, jT_x, jF_m1, jF_m1r, jT_tt, jI_add, jI_mul, jI_sub, jI_cl, jm_up_same, jm_up_o, jm_up_j, jbR_T, jbR_F, jt_D_bellOf_0, sY, jt_D_bellOf_14, ne 0, ne 1, ne 2, ne 3, ne 4]
      · simp (disch := omega) only [jb_K_n, jb_K_v, ↓reduceIte, jT_lt, jF_lt, jT_le, jF_le, jT_eq, jF_eq, jT_z, jF_z, jF_neg, jT_nn, jT_pos, jF_pos, jT_le0, jF_le0, jT_x, jF_m1, jF_m1r, jT_tt, jI_add, jI_mul, jI_sub, jI_cl, jm_up_same, jm_up_o, jm_up_j, jbR_T, jbR_F, jt_M_bellOf_0, bY, jt_M_bellOf_4, ne 0, ne 1, ne 2, ne 3, ne 4]
  · refine jOp_q (v := .int (-1)) hC hM hI ⟨σ, ?_, jcS.rf⟩ (fun τ hτ => ⟨τ, ?_, jmS.rf⟩)
    · have sN := jR_hasN hC.1.b.1 hs
      simp (disch := omega) only [jb_K_n, jb_K_v, ↓reduceIte, jT_lt, jF_lt, jT_le, jF_le, jT_eq, jF_eq, jT_z, jF_z, jF_neg, jT_nn, jT_pos, jF_pos, jT_le0, jF_le0, jT_x, jF_m1, jF_m1r, jT_tt, jI_add, jI_mul, jI_sub, jI_cl, jm_up_same, jm_up_o, jm_up_j, jbR_T, jbR_F, jt_D_bellOf_0, sN, jt_D_bellOf_14]
    · simp (disch := omega) only [jb_K_n, jb_K_v, ↓reduceIte, jT_lt, jF_lt, jT_le, jF_le, jT_eq, jF_eq, jT_z, jF_z, jF_neg, jT_nn, jT_pos, jF_pos, jT_le0, jF_le0, jT_x, jF_m1, jF_m1r, jT_tt, jI_add, jI_mul, jI_sub, jI_cl, jm_up_same, jm_up_o, jm_up_j, jbR_T, jbR_F, jt_M_bellOf_0, jM_bellN hs, jt_M_bellOf_4]
theorem o_wordOf (hC : JC σ S) (hM : JM σ S) (hI : JI S) (x y : Int32) : jOp σ 171 156 [.int x, .int y] := by
  have b0 := hI.1.b0
  by_cases hs : jlt x (S 0 0)
  · obtain ⟨i, hi, rfl⟩ := hs
    obtain ⟨a1, a2, a3, a4, a5, a6⟩ := hI.1.2.1.2.1 i hi
    have sY := jR_hasY hC.1.k.1 hi
    by_cases hy : jlt y 3
    · obtain ⟨k, hk, rfl⟩ := hy
      rcases (show k = 0 ∨ k = 1 ∨ k = 2 by omega) with rfl | rfl | rfl
      · refine jOp_q (v := .int (jI (S 0 (21 + 6 * i)))) hC hM hI ⟨σ, by simp (disch := omega) only [jb_K_n, jb_K_v, ↓reduceIte, jT_lt, jF_lt, jT_le, jF_le, jT_eq, jF_eq, jT_z, jF_z, jF_neg, jT_nn, jT_pos, jF_pos, jT_le0, jF_le0, jT_x, jF_m1, jF_m1r, jT_tt, jI_add, jI_mul, jI_sub, jI_cl, jm_up_same, jm_up_o, jm_up_j, jbR_T, jbR_F, jt_D_wordOf_0, jt_D_wordOf_14, jt_D_wordOf_62, jt_D_wordOf_77, jt_D_wordOf_90, sY, hC.1.kd hi], jcS.rf⟩ (fun τ hτ => ⟨τ, ?_, jmS.rf⟩)
        have h1 := hτ.1 (21 + 6 * i) (by omega)
        have hY := jM_wordY (σ := τ) (hτ.1 0 (by omega)) hi (by omega)
        simp (disch := omega) only [jb_K_n, jb_K_v, ↓reduceIte, jT_lt, jF_lt, jT_le, jF_le, jT_eq, jF_eq, jT_z, jF_z, jF_neg, jT_nn, jT_pos, jF_pos, jT_le0, jF_le0, jT_x, jF_m1, jF_m1r, jT_tt, jI_add, jI_mul, jI_sub, jI_cl, jm_up_same, jm_up_o, jm_up_j, jbR_T, jbR_F, jt_M_wordOf_0, jt_M_wordOf_5, jt_M_wordOf_21, jt_M_wordOf_30, jt_M_wordOf_41, hY, jM_inY, jt_M_wordAt_0, Nat.add_zero, h1]
      · refine jOp_q (v := .int (jI (S 0 (22 + 6 * i)))) hC hM hI ⟨σ, by simp (disch := omega) only [jb_K_n, jb_K_v, ↓reduceIte, jT_lt, jF_lt, jT_le, jF_le, jT_eq, jF_eq, jT_z, jF_z, jF_neg, jT_nn, jT_pos, jF_pos, jT_le0, jF_le0, jT_x, jF_m1, jF_m1r, jT_tt, jI_add, jI_mul, jI_sub, jI_cl, jm_up_same, jm_up_o, jm_up_j, jbR_T, jbR_F, jt_D_wordOf_0, jt_D_wordOf_14, jt_D_wordOf_62, jt_D_wordOf_77, jt_D_wordOf_90, sY, hC.1.sz hi], jcS.rf⟩ (fun τ hτ => ⟨τ, ?_, jmS.rf⟩)
        have h1 := hτ.1 (22 + 6 * i) (by omega)
        have hY := jM_wordY (σ := τ) (hτ.1 0 (by omega)) hi (by omega)
        have e1 : 21 + 6 * i + 1 = 22 + 6 * i := by omega
        simp (disch := omega) only [jb_K_n, jb_K_v, ↓reduceIte, jT_lt, jF_lt, jT_le, jF_le, jT_eq, jF_eq, jT_z, jF_z, jF_neg, jT_nn, jT_pos, jF_pos, jT_le0, jF_le0, jT_x, jF_m1, jF_m1r, jT_tt, jI_add, jI_mul, jI_sub, jI_cl, jm_up_same, jm_up_o, jm_up_j, jbR_T, jbR_F, jt_M_wordOf_0, jt_M_wordOf_5, jt_M_wordOf_21, jt_M_wordOf_30, jt_M_wordOf_41, hY, jM_inY, jt_M_wordAt_0, e1, h1]
      · have hc := cCount (x := 5) hC.1 hI.1 hi (by omega)
        refine jOp_q (v := .int (jI (jsn (S 0) i 5 (S 0 (22 + 6 * i))))) hC hM hI ⟨σ, by simp (disch := omega) only [jb_K_n, jb_K_v, ↓reduceIte, jT_lt, jF_lt, jT_le, jF_le, jT_eq, jF_eq, jT_z, jF_z, jF_neg, jT_nn, jT_pos, jF_pos, jT_le0, jF_le0, jT_x, jF_m1, jF_m1r, jT_tt, jI_add, jI_mul, jI_sub, jI_cl, jm_up_same, jm_up_o, jm_up_j, jbR_T, jbR_F, jt_D_wordOf_0, jt_D_wordOf_14, jt_D_wordOf_62, jt_D_wordOf_77, jt_D_wordOf_90, sY, hc], jcS.rf⟩ (fun τ hτ => ⟨τ, ?_, jmS.rf⟩)
        have hm := mCount (x := 5) hτ.1 hI.1 hi (by omega)
        have hY := jM_wordY (σ := τ) (hτ.1 0 (by omega)) hi (by omega)
        simp (disch := omega) only [jb_K_n, jb_K_v, ↓reduceIte, jT_lt, jF_lt, jT_le, jF_le, jT_eq, jF_eq, jT_z, jF_z, jF_neg, jT_nn, jT_pos, jF_pos, jT_le0, jF_le0, jT_x, jF_m1, jF_m1r, jT_tt, jI_add, jI_mul, jI_sub, jI_cl, jm_up_same, jm_up_o, jm_up_j, jbR_T, jbR_F, jt_M_wordOf_0, jt_M_wordOf_5, jt_M_wordOf_21, jt_M_wordOf_30, jt_M_wordOf_41, hY, hm]
    · have ne : ∀ k, k < 3 → ¬ y = jI k := fun k hk z => hy ⟨k, hk, z⟩
      refine jOp_q (v := .int (-2)) hC hM hI ⟨σ, ?_, jcS.rf⟩ (fun τ hτ => ⟨τ, ?_, jmS.rf⟩)
      · simp (disch := omega) only [jb_K_n, jb_K_v, ↓reduceIte, jT_lt, jF_lt, jT_le, jF_le, jT_eq, jF_eq, jT_z, jF_z, jF_neg, jT_nn, jT_pos, jF_pos, jT_le0, jF_le0, jT_x, jF_m1, jF_m1r, jT_tt, jI_add, jI_mul, jI_sub, jI_cl, jm_up_same, jm_up_o, jm_up_j, jbR_T, jbR_F, jt_D_wordOf_0, sY, jt_D_wordOf_14, ne 0, ne 1, ne 2]
      · have hY := jM_wordY (σ := τ) (hτ.1 0 (by omega)) hi (by omega)
        have hb : ¬ jbt y 0 1 := fun ⟨j, z1, z2, z3⟩ => hy ⟨j, by omega, z3⟩
        simp (disch := omega) only [jb_K_n, jb_K_v, ↓reduceIte, jT_lt, jF_lt, jT_le, jF_le, jT_eq, jF_eq, jT_z, jF_z, jF_neg, jT_nn, jT_pos, jF_pos, jT_le0, jF_le0, jT_x, jF_m1, jF_m1r, jT_tt, jI_add, jI_mul, jI_sub, jI_cl, jm_up_same, jm_up_o, jm_up_j, jbR_T, jbR_F, jt_M_wordOf_0, hY, jt_M_wordOf_5, ne 2, jM_inN hb, jt_M_wordOf_30]
  · refine jOp_q (v := .int (-1)) hC hM hI ⟨σ, ?_, jcS.rf⟩ (fun τ hτ => ⟨τ, ?_, jmS.rf⟩)
    · have sN := jR_hasN hC.1.k.1 hs
      simp (disch := omega) only [jb_K_n, jb_K_v, ↓reduceIte, jT_lt, jF_lt, jT_le, jF_le, jT_eq, jF_eq, jT_z, jF_z, jF_neg, jT_nn, jT_pos, jF_pos, jT_le0, jF_le0, jT_x, jF_m1, jF_m1r, jT_tt, jI_add, jI_mul, jI_sub, jI_cl, jm_up_same, jm_up_o, jm_up_j, jbR_T, jbR_F, jt_D_wordOf_0, sN, jt_D_wordOf_14]
    · have hN := jM_wordN (σ := τ) (hτ.1 0 (by omega)) hs (by omega)
      simp (disch := omega) only [jb_K_n, jb_K_v, ↓reduceIte, jT_lt, jF_lt, jT_le, jF_le, jT_eq, jF_eq, jT_z, jF_z, jF_neg, jT_nn, jT_pos, jF_pos, jT_le0, jF_le0, jT_x, jF_m1, jF_m1r, jT_tt, jI_add, jI_mul, jI_sub, jI_cl, jm_up_same, jm_up_o, jm_up_j, jbR_T, jbR_F, jt_M_wordOf_0, hN, jt_M_wordOf_5]
theorem o_swimmerOf (hC : JC σ S) (hM : JM σ S) (hI : JI S) (x y : Int32) : jOp σ 237 245 [.int x, .int y] := by
  have b1 := hI.1.b1
  by_cases hs : jlt x (S 0 1)
  · obtain ⟨i, hi, rfl⟩ := hs
    have sY := jR_hasY hC.1.s.1 hi
    by_cases hy : jlt y 4
    · obtain ⟨k, hk, rfl⟩ := hy
      rcases (show k = 0 ∨ k = 1 ∨ k = 2 ∨ k = 3 by omega) with rfl | rfl | rfl | rfl
      · refine jOp_q (v := .int (jI (S 0 (69 + 2 * i)))) hC hM hI ⟨σ, by simp (disch := omega) only [jb_K_n, jb_K_v, ↓reduceIte, jT_lt, jF_lt, jT_le, jF_le, jT_eq, jF_eq, jT_z, jF_z, jF_neg, jT_nn, jT_pos, jF_pos, jT_le0, jF_le0, jT_x, jF_m1, jF_m1r, jT_tt, jI_add, jI_mul, jI_sub, jI_cl, jm_up_same, jm_up_o, jm_up_j, jbR_T, jbR_F, jt_D_swimmerOf_0, jt_D_swimmerOf_14, jt_D_swimmerOf_66, jt_D_swimmerOf_81, jt_D_swimmerOf_87, jt_D_swimmerOf_93, sY, hC.1.wd hi], jcS.rf⟩ (fun τ hτ => ⟨τ, ?_, jmS.rf⟩)
        have h1 := hτ.1 (69 + 2 * i) (by omega)
        have hY := jM_swimY (σ := τ) (hτ.1 1 (by omega)) hi (by omega)
        simp (disch := omega) only [jb_K_n, jb_K_v, ↓reduceIte, jT_lt, jF_lt, jT_le, jF_le, jT_eq, jF_eq, jT_z, jF_z, jF_neg, jT_nn, jT_pos, jF_pos, jT_le0, jF_le0, jT_x, jF_m1, jF_m1r, jT_tt, jI_add, jI_mul, jI_sub, jI_cl, jm_up_same, jm_up_o, jm_up_j, jbR_T, jbR_F, jt_M_swimmerOf_0, jt_M_swimmerOf_5, jt_M_swimmerOf_48, jt_M_swimmerOf_57, jt_M_swimmerOf_63, hY, jt_M_swimmerAt_0, Nat.add_zero, h1]
      · refine jOp_q (v := .int (jI (S 0 (70 + 2 * i)))) hC hM hI ⟨σ, by simp (disch := omega) only [jb_K_n, jb_K_v, ↓reduceIte, jT_lt, jF_lt, jT_le, jF_le, jT_eq, jF_eq, jT_z, jF_z, jF_neg, jT_nn, jT_pos, jF_pos, jT_le0, jF_le0, jT_x, jF_m1, jF_m1r, jT_tt, jI_add, jI_mul, jI_sub, jI_cl, jm_up_same, jm_up_o, jm_up_j, jbR_T, jbR_F, jt_D_swimmerOf_0, jt_D_swimmerOf_14, jt_D_swimmerOf_66, jt_D_swimmerOf_81, jt_D_swimmerOf_87, jt_D_swimmerOf_93, sY, hC.1.wr hi], jcS.rf⟩ (fun τ hτ => ⟨τ, ?_, jmS.rf⟩)
        have h1 := hτ.1 (70 + 2 * i) (by omega)
        have hY := jM_swimY (σ := τ) (hτ.1 1 (by omega)) hi (by omega)
        have e1 : 69 + 2 * i + 1 = 70 + 2 * i := by omega
        simp (disch := omega) only [jb_K_n, jb_K_v, ↓reduceIte, jT_lt, jF_lt, jT_le, jF_le, jT_eq, jF_eq, jT_z, jF_z, jF_neg, jT_nn, jT_pos, jF_pos, jT_le0, jF_le0, jT_x, jF_m1, jF_m1r, jT_tt, jI_add, jI_mul, jI_sub, jI_cl, jm_up_same, jm_up_o, jm_up_j, jbR_T, jbR_F, jt_M_swimmerOf_0, jt_M_swimmerOf_5, jt_M_swimmerOf_48, jt_M_swimmerOf_57, jt_M_swimmerOf_63, hY, jt_M_swimmerAt_0, e1, h1]
      · have hc := cBellsByL hC.1 hI.1 hi (jI i) 5 0 (Nat.zero_add _)
        have hc' : jb_Ex 132 (36, [.ref (0 : Nat), .int (jI i), .int (jI (S 0 (69 + 2 * i))), .int (jI (S 0 (70 + 2 * i))), .int (jI 0), .int (jI 0)], [], jm_hp σ) = _ := hc
        refine jOp_q (v := .int (jI (jnh (S 0) i 5))) hC hM hI ⟨σ, by simp (disch := omega) only [jb_K_n, jb_K_v, ↓reduceIte, jT_lt, jF_lt, jT_le, jF_le, jT_eq, jF_eq, jT_z, jF_z, jF_neg, jT_nn, jT_pos, jF_pos, jT_le0, jF_le0, jT_x, jF_m1, jF_m1r, jT_tt, jI_add, jI_mul, jI_sub, jI_cl, jm_up_same, jm_up_o, jm_up_j, jbR_T, jbR_F, jt_D_swimmerOf_0, jt_D_swimmerOf_14, jt_D_swimmerOf_66, jt_D_swimmerOf_81, jt_D_swimmerOf_87, jt_D_swimmerOf_93, sY, jt_D_bellsHeardBy_0, hC.1.wd hi, jt_D_bellsHeardBy_14, hC.1.wr hi, jt_D_bellsHeardBy_29, hc'], jcS.rf⟩ (fun τ hτ => ⟨τ, ?_, jmS.rf⟩)
        have hm := mBellsByL hτ.1 hI.1 hi 5 0 (Nat.zero_add _)
        have hm' : jb_Ex 157 (4, [.ref (307 : Nat), .int (jI i), .int (jI 0), .int (jI 0)], [], jm_hp τ) = _ := hm
        have hY := jM_swimY (σ := τ) (hτ.1 1 (by omega)) hi (by omega)
        simp (disch := omega) only [jb_K_n, jb_K_v, ↓reduceIte, jT_lt, jF_lt, jT_le, jF_le, jT_eq, jF_eq, jT_z, jF_z, jF_neg, jT_nn, jT_pos, jF_pos, jT_le0, jF_le0, jT_x, jF_m1, jF_m1r, jT_tt, jI_add, jI_mul, jI_sub, jI_cl, jm_up_same, jm_up_o, jm_up_j, jbR_T, jbR_F, jt_M_swimmerOf_0, jt_M_swimmerOf_5, jt_M_swimmerOf_48, jt_M_swimmerOf_57, jt_M_swimmerOf_63, hY, jt_M_bellsHeard_0, hm']
      · obtain ⟨σ1, e1, f1⟩ := cUnder hC.1 hI.1 hi
        refine jOp_q (v := .int (jI (jun (S 0) i (S 0 2)))) hC hM hI ⟨σ1, by simp (disch := omega) only [jb_K_n, jb_K_v, ↓reduceIte, jT_lt, jF_lt, jT_le, jF_le, jT_eq, jF_eq, jT_z, jF_z, jF_neg, jT_nn, jT_pos, jF_pos, jT_le0, jF_le0, jT_x, jF_m1, jF_m1r, jT_tt, jI_add, jI_mul, jI_sub, jI_cl, jm_up_same, jm_up_o, jm_up_j, jbR_T, jbR_F, jt_D_swimmerOf_0, jt_D_swimmerOf_14, jt_D_swimmerOf_66, jt_D_swimmerOf_81, jt_D_swimmerOf_87, jt_D_swimmerOf_93, sY, e1], f1.s⟩ (fun τ hτ => ?_)
        obtain ⟨τ1, g1, g2⟩ := mUnder hτ.1 hI.1 hi
        have hY := jM_swimY (σ := τ) (hτ.1 1 (by omega)) hi (by omega)
        exact ⟨τ1, by simp (disch := omega) only [jb_K_n, jb_K_v, ↓reduceIte, jT_lt, jF_lt, jT_le, jF_le, jT_eq, jF_eq, jT_z, jF_z, jF_neg, jT_nn, jT_pos, jF_pos, jT_le0, jF_le0, jT_x, jF_m1, jF_m1r, jT_tt, jI_add, jI_mul, jI_sub, jI_cl, jm_up_same, jm_up_o, jm_up_j, jbR_T, jbR_F, jt_M_swimmerOf_0, jt_M_swimmerOf_5, jt_M_swimmerOf_48, jt_M_swimmerOf_57, jt_M_swimmerOf_63, hY, g1], g2⟩
    · have ne : ∀ k, k < 4 → ¬ y = jI k := fun k hk z => hy ⟨k, hk, z⟩
      refine jOp_q (v := .int (-2)) hC hM hI ⟨σ, ?_, jcS.rf⟩ (fun τ hτ => ⟨τ, ?_, jmS.rf⟩)
      · simp (disch := omega) only [jb_K_n, jb_K_v, ↓reduceIte, jT_lt, jF_lt, jT_le, jF_le, jT_eq, jF_eq, jT_z, jF_z, jF_neg, jT_nn, jT_pos, jF_pos, jT_le0, jF_le0, jT_x, jF_m1, jF_m1r, jT_tt, jI_add, jI_mul, jI_sub, jI_cl, jm_up_same, jm_up_o, jm_up_j, jbR_T, jbR_F, jt_D_swimmerOf_0, sY, jt_D_swimmerOf_14, ne 0, ne 1, ne 2, ne 3]
      · have hY := jM_swimY (σ := τ) (hτ.1 1 (by omega)) hi (by omega)
        simp (disch := omega) only [jb_K_n, jb_K_v, ↓reduceIte, jT_lt, jF_lt, jT_le, jF_le, jT_eq, jF_eq, jT_z, jF_z, jF_neg, jT_nn, jT_pos, jF_pos, jT_le0, jF_le0, jT_x, jF_m1, jF_m1r, jT_tt, jI_add, jI_mul, jI_sub, jI_cl, jm_up_same, jm_up_o, jm_up_j, jbR_T, jbR_F, jt_M_swimmerOf_0, hY, jt_M_swimmerOf_5, ne 0, ne 1, ne 2, ne 3]
  · refine jOp_q (v := .int (-1)) hC hM hI ⟨σ, ?_, jcS.rf⟩ (fun τ hτ => ⟨τ, ?_, jmS.rf⟩)
    · have sN := jR_hasN hC.1.s.1 hs
      simp (disch := omega) only [jb_K_n, jb_K_v, ↓reduceIte, jT_lt, jF_lt, jT_le, jF_le, jT_eq, jF_eq, jT_z, jF_z, jF_neg, jT_nn, jT_pos, jF_pos, jT_le0, jF_le0, jT_x, jF_m1, jF_m1r, jT_tt, jI_add, jI_mul, jI_sub, jI_cl, jm_up_same, jm_up_o, jm_up_j, jbR_T, jbR_F, jt_D_swimmerOf_0, sN, jt_D_swimmerOf_14]
    · have hN := jM_swimN (σ := τ) (hτ.1 1 (by omega)) hs (by omega)
      simp (disch := omega) only [jb_K_n, jb_K_v, ↓reduceIte, jT_lt, jF_lt, jT_le, jF_le, jT_eq, jF_eq, jT_z, jF_z, jF_neg, jT_nn, jT_pos, jF_pos, jT_le0, jF_le0, jT_x, jF_m1, jF_m1r, jT_tt, jI_add, jI_mul, jI_sub, jI_cl, jm_up_same, jm_up_o, jm_up_j, jbR_T, jbR_F, jt_M_swimmerOf_0, hN, jt_M_swimmerOf_5]
/-! needs -/
noncomputable def jnd (w : Nat → Nat) (p d : Nat) : Nat → Nat → Int32
  | 0, _ => -6
  | m + 1, r => if jUn w p d r = 1 then jI r else jnd w p d m (r + 1)
theorem cNeedL {p d i : Nat} (hw : jInv w) (hp : p < w 2) (hd : d < 10) : ∀ (m r : Nat) (τ : jm_S), r + m = 10 → jV τ 1 w → ∃ τ', jb_Ex 226 (51, [.ref (0 : Nat), .int (jI i), .int (jI p), .int (jI d), .int (jI r)], [], jm_hp τ) = some (some (.int (jnd w p d m r)), jm_hp τ') ∧ jcS τ τ'
  | 0, r, τ, hm, hV => by
    refine ⟨τ, ?_, jcS.rf⟩
    rw [jt_D_needs_51, if_pos (by rw [jI_lt (by omega) (by omega)]; omega)]
    rfl
  | m + 1, r, τ, hm, hV => by
    obtain ⟨τ1, e1, f1⟩ := cUnd (p := p) (d := d) (r := r) hV hw hp hd (by omega)
    obtain ⟨τ2, e2, f2⟩ := cNeedL (i := i) hw hp hd m (r + 1) τ1 (by omega) (hV.cS f1.s (by omega))
    have e4 := jUn_le (w := w) (p := p) (d := d) (r := r)
    unfold jnd
    by_cases c : jUn w p d r = 1
    · refine ⟨τ1, ?_, f1.s⟩
      rw [if_pos c, jt_D_needs_51]
      rw [c] at e1
      simp (disch := omega) only [jb_K_n, jb_K_v, ↓reduceIte, jT_lt, jF_lt, jT_le, jF_le, jT_eq, jF_eq, jT_z, jF_z, jF_neg, jT_nn, jT_pos, jF_pos, jT_le0, jF_le0, jT_x, jF_m1, jF_m1r, jT_tt, jI_add, jI_mul, jI_sub, jI_cl, jm_up_same, jm_up_o, jm_up_j, jbR_T, jbR_F, e1, jt_D_needs_66]
    · refine ⟨τ2, ?_, f1.s.tr f2⟩
      rw [if_neg c, jt_D_needs_51]
      simp (disch := omega) only [jb_K_n, jb_K_v, ↓reduceIte, jT_lt, jF_lt, jT_le, jF_le, jT_eq, jF_eq, jT_z, jF_z, jF_neg, jT_nn, jT_pos, jF_pos, jT_le0, jF_le0, jT_x, jF_m1, jF_m1r, jT_tt, jI_add, jI_mul, jI_sub, jI_cl, jm_up_same, jm_up_o, jm_up_j, jbR_T, jbR_F, e1, jt_D_needs_66, e2]
theorem mNeedL {p i : Nat} (hw : jInv w) (hp : p < w 2) (hi : i < w 1) : ∀ (r : Nat) (τ : jm_S) (m : Nat), r + m = 10 → jAr τ 308 146 w → ∃ τ', jb_Ex 233 (25, [.ref (307 : Nat), .int (jI i), .int (jI p), .int (jnd w p (w (69 + 2 * i)) m r), .int (jI r + -1)], [], jm_hp τ) = some (some (.int (jnd w p (w (69 + 2 * i)) 10 0)), jm_hp τ') ∧ jmS τ τ'
  | 0, τ, m, hm, hA => by
    obtain rfl : m = 10 := by omega
    refine ⟨τ, ?_, jmS.rf⟩
    rw [jt_M_needs_25, if_pos (by decide)]
  | r + 1, τ, m, hm, hA => by
    have b1 := hw.b1
    have hB := hw.2.2.1.2 i hi
    have h1 := hA (69 + 2 * i) (by omega)
    obtain ⟨τ1, e1, f1⟩ := mUnd (p := p) (d := w (69 + 2 * i)) (r := r) hA hw hp (by omega) (by omega)
    obtain ⟨τ2, e2, f2⟩ := mNeedL hw hp hi r τ1 (m + 1) (by omega) (hA.mS f1)
    have e4 := jUn_le (w := w) (p := p) (d := w (69 + 2 * i)) (r := r)
    refine ⟨τ2, ?_, f1.tr f2⟩
    have e5 : jnd w p (w (69 + 2 * i)) (m + 1) r = if jUn w p (w (69 + 2 * i)) r = 1 then jI r else jnd w p (w (69 + 2 * i)) m (r + 1) := rfl
    rw [e5] at e2
    rw [← e2, jI_dec (by omega), show r + 1 - 1 = r from rfl, jt_M_needs_25]
    by_cases c : jUn w p (w (69 + 2 * i)) r = 1
    · rw [if_pos c]
      rw [c] at e1
      simp (disch := omega) only [jb_K_n, jb_K_v, ↓reduceIte, jT_lt, jF_lt, jT_le, jF_le, jT_eq, jF_eq, jT_z, jF_z, jF_neg, jT_nn, jT_pos, jF_pos, jT_le0, jF_le0, jT_x, jF_m1, jF_m1r, jT_tt, jI_add, jI_mul, jI_sub, jI_cl, jm_up_same, jm_up_o, jm_up_j, jbR_T, jbR_F, jt_M_swimmerAt_0, jt_M_needs_39, Nat.add_zero, h1, e1, jt_M_needs_48]
    · rw [if_neg c]
      simp (disch := omega) only [jb_K_n, jb_K_v, ↓reduceIte, jT_lt, jF_lt, jT_le, jF_le, jT_eq, jF_eq, jT_z, jF_z, jF_neg, jT_nn, jT_pos, jF_pos, jT_le0, jF_le0, jT_x, jF_m1, jF_m1r, jT_tt, jI_add, jI_mul, jI_sub, jI_cl, jm_up_same, jm_up_o, jm_up_j, jbR_T, jbR_F, jt_M_swimmerAt_0, jt_M_needs_39, Nat.add_zero, h1, e1, jt_M_needs_48]
theorem o_needs (hC : JC σ S) (hM : JM σ S) (hI : JI S) (x y : Int32) : jOp σ 226 233 [.int x, .int y] := by
  have b2 := hI.1.b2
  have b1 := hI.1.b1
  by_cases hs : jlt x (S 0 1)
  · obtain ⟨i, hi, rfl⟩ := hs
    have hB := hI.1.2.2.1.2 i hi
    have sY := jR_hasY hC.1.s.1 hi
    by_cases hy : jlt y (S 0 2)
    · obtain ⟨p, hp, rfl⟩ := hy
      have hY := cHasY hC.1 hp
      obtain ⟨σ1, e1, f1⟩ := cNeedL (p := p) (d := S 0 (69 + 2 * i)) (i := i) hI.1 hp (by omega) 10 0 σ (by omega) hC.1
      refine jOp_q (v := .int (jnd (S 0) p (S 0 (69 + 2 * i)) 10 0)) hC hM hI ⟨σ1, by simp (disch := omega) only [jb_K_n, jb_K_v, ↓reduceIte, jT_lt, jF_lt, jT_le, jF_le, jT_eq, jF_eq, jT_z, jF_z, jF_neg, jT_nn, jT_pos, jF_pos, jT_le0, jF_le0, jT_x, jF_m1, jF_m1r, jT_tt, jI_add, jI_mul, jI_sub, jI_cl, jm_up_same, jm_up_o, jm_up_j, jbR_T, jbR_F, jt_D_needs_0, sY, jt_D_needs_14, hY, jt_D_needs_28, hC.1.wd hi, jt_D_needs_47, e1], f1⟩ (fun τ hτ => ?_)
      obtain ⟨τ1, g1, g2⟩ := mNeedL (p := p) hI.1 hp hi 10 τ 0 (by omega) hτ.1
      have g1' : jb_Ex 233 (25, [.ref (307 : Nat), .int (jI i), .int (jI p), .int (-6 : Int32), .int (jI 9)], [], jm_hp τ) = _ := g1
      have sY2 := jM_swimY (σ := τ) (hτ.1 1 (by omega)) hi (by omega)
      have hY2 := jM_pealY (σ := τ) (hτ.1 2 (by omega)) hp (by omega)
      exact ⟨τ1, by simp (disch := omega) only [jb_K_n, jb_K_v, ↓reduceIte, jT_lt, jF_lt, jT_le, jF_le, jT_eq, jF_eq, jT_z, jF_z, jF_neg, jT_nn, jT_pos, jF_pos, jT_le0, jF_le0, jT_x, jF_m1, jF_m1r, jT_tt, jI_add, jI_mul, jI_sub, jI_cl, jm_up_same, jm_up_o, jm_up_j, jbR_T, jbR_F, jt_M_needs_0, sY2, jt_M_needs_5, hY2, jt_M_needs_13, g1'], g2⟩
    · have hN := cHasN hC.1 hy
      refine jOp_q (v := .int (-1)) hC hM hI ⟨σ, by simp (disch := omega) only [jb_K_n, jb_K_v, ↓reduceIte, jT_lt, jF_lt, jT_le, jF_le, jT_eq, jF_eq, jT_z, jF_z, jF_neg, jT_nn, jT_pos, jF_pos, jT_le0, jF_le0, jT_x, jF_m1, jF_m1r, jT_tt, jI_add, jI_mul, jI_sub, jI_cl, jm_up_same, jm_up_o, jm_up_j, jbR_T, jbR_F, jt_D_needs_0, sY, jt_D_needs_14, hN, jt_D_needs_28], jcS.rf⟩ (fun τ hτ => ⟨τ, ?_, jmS.rf⟩)
      have sY2 := jM_swimY (σ := τ) (hτ.1 1 (by omega)) hi (by omega)
      have hN2 := jM_pealN (σ := τ) (hτ.1 2 (by omega)) hy (by omega)
      simp (disch := omega) only [jb_K_n, jb_K_v, ↓reduceIte, jT_lt, jF_lt, jT_le, jF_le, jT_eq, jF_eq, jT_z, jF_z, jF_neg, jT_nn, jT_pos, jF_pos, jT_le0, jF_le0, jT_x, jF_m1, jF_m1r, jT_tt, jI_add, jI_mul, jI_sub, jI_cl, jm_up_same, jm_up_o, jm_up_j, jbR_T, jbR_F, jt_M_needs_0, sY2, jt_M_needs_5, hN2, jt_M_needs_13]
  · have sN := jR_hasN hC.1.s.1 hs
    refine jOp_q (v := .int (-1)) hC hM hI ⟨σ, by simp (disch := omega) only [jb_K_n, jb_K_v, ↓reduceIte, jT_lt, jF_lt, jT_le, jF_le, jT_eq, jF_eq, jT_z, jF_z, jF_neg, jT_nn, jT_pos, jF_pos, jT_le0, jF_le0, jT_x, jF_m1, jF_m1r, jT_tt, jI_add, jI_mul, jI_sub, jI_cl, jm_up_same, jm_up_o, jm_up_j, jbR_T, jbR_F, jt_D_needs_0, sN, jt_D_needs_14], jcS.rf⟩ (fun τ hτ => ⟨τ, ?_, jmS.rf⟩)
    have sN2 := jM_swimN (σ := τ) (hτ.1 1 (by omega)) hs (by omega)
    simp (disch := omega) only [jb_K_n, jb_K_v, ↓reduceIte, jT_lt, jF_lt, jT_le, jF_le, jT_eq, jF_eq, jT_z, jF_z, jF_neg, jT_nn, jT_pos, jF_pos, jT_le0, jF_le0, jT_x, jF_m1, jF_m1r, jT_tt, jI_add, jI_mul, jI_sub, jI_cl, jm_up_same, jm_up_o, jm_up_j, jbR_T, jbR_F, jt_M_needs_0, sN2, jt_M_needs_5]
end OF
