/-! ===== what a swimmer understands ===== -/
theorem jn_304 : jm_ln 304 = 12 := by decide +kernel
noncomputable def jUn (w : Nat → Nat) (p d r : Nat) : Nat := if jP w (jpz w p) (fun j => jhr w d r (jpf w p j)) = 1 then (@ite Nat (jP w (jpz w p) (jpf w p) = 1 ∧ ∃ L, jPath w (jpz w p) (fun j => jhr w d r (jpf w p j)) L 0 0 ∧ jPath w (jpz w p) (jpf w p) L 0 0) (Classical.propDecidable _) 1 2) else 0
theorem jl_ext {L L' : List Nat} (h : L.length = L'.length) (h2 : ∀ j, j < L.length → L.getD j 0 = L'.getD j 0) : L = L' := by
  refine List.ext_getElem h (fun j z1 z2 => ?_)
  have := h2 j z1
  rw [List.getD_eq_getElem?_getD, List.getD_eq_getElem?_getD, List.getElem?_eq_getElem z1, List.getElem?_eq_getElem z2] at this
  exact this
theorem jl_mem {L : List Nat} {j : Nat} (h : j < L.length) : L.getD j 0 ∈ L := by
  rw [List.getD_eq_getElem?_getD, List.getElem?_eq_getElem h]
  exact List.getElem_mem h
section UN
variable {σ : jm_S} {w f : Nat → Nat} {n : Nat} {S : jSt}
theorem jUn_0 {p d r : Nat} (h : jP w (jpz w p) (fun j => jhr w d r (jpf w p j)) ≠ 1) : jUn w p d r = 0 := if_neg h
theorem jUn_1 {p d r : Nat} {L : List Nat} (h : jP w (jpz w p) (fun j => jhr w d r (jpf w p j)) = 1) (h2 : jP w (jpz w p) (jpf w p) = 1) (h3 : jPath w (jpz w p) (fun j => jhr w d r (jpf w p j)) L 0 0) (h4 : jPath w (jpz w p) (jpf w p) L 0 0) : jUn w p d r = 1 := by
  unfold jUn
  rw [if_pos h]
  exact @if_pos _ (Classical.propDecidable _) ⟨h2, L, h3, h4⟩ _ _ _
theorem jUn_2 {p d r : Nat} (h : jP w (jpz w p) (fun j => jhr w d r (jpf w p j)) = 1) (h2 : ¬ (jP w (jpz w p) (jpf w p) = 1 ∧ ∃ L, jPath w (jpz w p) (fun j => jhr w d r (jpf w p j)) L 0 0 ∧ jPath w (jpz w p) (jpf w p) L 0 0)) : jUn w p d r = 2 := by
  unfold jUn
  rw [if_pos h]
  exact @if_neg _ (Classical.propDecidable _) h2 _ _ _
theorem jUn_le {p d r : Nat} : jUn w p d r ≤ 2 := by
  unfold jUn
  split
  · split <;> omega
  · omega
theorem jR_likeL {r0 r1 : Nat} {L L' : List Nat} (h0 : jRn σ r0 L.length (fun j => L.getD j 0)) (h1 : jRn σ r1 L'.length (fun j => L'.getD j 0)) (hl : L.length = L'.length) (hb : ∀ i ∈ L, i < 1000) (hb' : ∀ i ∈ L', i < 1000) : ∀ (m k : Nat), k + m = L.length → (∀ j, j < k → L.getD j 0 = L'.getD j 0) → jb_Ex 75 (15, [.ref r0, .ref r1, .int (jI k)], [], jm_hp σ) = some (some (.int (if L = L' then jI 1 else jI 0)), jm_hp σ)
  | 0, k, hm, h => by
    have := jR.bd h0
    rw [if_pos (jl_ext hl (fun j hj => h j (by omega))), jt_Row_isLike_15 h0.1 h1.1, h0.2.2.1, if_pos (by rw [jI_le (by omega) (by omega)]; omega)]
  | m + 1, k, hm, h => by
    have := jR.bd h0
    have b1 := hb _ (jl_mem (show k < L.length by omega))
    have b2 := hb' _ (jl_mem (show k < L'.length by omega))
    rw [jt_Row_isLike_15 h0.1 h1.1, h0.2.2.1, if_neg (by rw [jI_le (by omega) (by omega)]; omega), jRn_at h0 (show k < L.length by omega), jb_K_v, jt_Row_isLike_28 h0.1 h1.1, jRn_at h1 (show k < L'.length by omega), jb_K_v, jt_Row_isLike_33 h0.1 h1.1]
    by_cases e : L.getD k 0 = L'.getD k 0
    · rw [if_pos (by rw [e]), jI_add]
      refine jR_likeL h0 h1 hl hb hb' m (k + 1) (by omega) (fun j hj => ?_)
      by_cases e2 : j = k
      · rw [e2]; exact e
      · exact h j (by omega)
    · rw [if_neg (by rw [jI_eq (by omega) (by omega)]; exact e), if_neg (fun z => e (by rw [z]))]
theorem jR_like {r0 r1 : Nat} {L L' : List Nat} (h0 : jRn σ r0 L.length (fun j => L.getD j 0)) (h1 : jRn σ r1 L'.length (fun j => L'.getD j 0)) (hb : ∀ i ∈ L, i < 1000) (hb' : ∀ i ∈ L', i < 1000) : jb_Ev 75 [.ref r0, .ref r1] (jm_hp σ) = some (some (.int (if L = L' then jI 1 else jI 0)), jm_hp σ) := by
  have d0 := jR.bd h0
  have d1 := jR.bd h1
  rw [jt_Row_isLike_0 h0.1 h1.1, h0.2.2.1, h1.2.2.1]
  by_cases e : L.length = L'.length
  · rw [if_pos (by rw [e])]
    exact jR_likeL h0 h1 e hb hb' L.length 0 (Nat.zero_add _) (fun j hj => absurd hj (Nat.not_lt_zero _))
  · rw [if_neg (by rw [jI_eq (by omega) (by omega)]; exact e), if_neg (fun z => e (by rw [z]))]
def jcT (σ σ' : jm_S) : Prop := ∀ q j, ¬ (279 ≤ q ∧ q < 282 ∨ 297 ≤ q ∧ q < 305) → σ' q j = σ q j
theorem jcT.rf : jcT σ σ := fun _ _ _ => rfl
theorem jcT.tr {σ' σ'' : jm_S} (h : jcT σ σ') (h' : jcT σ' σ'') : jcT σ σ'' := fun q j x => (h' q j x).trans (h q j x)
theorem jcT.s {σ' : jm_S} (h : jcT σ σ') : jcS σ σ' := fun q j x => h q j (by omega)
theorem cUndL {d r p : Nat} (hV : jV σ 1 w) (hw : jInv w) (hd : d < 10) (hr : r < 10) (h : jRn σ 297 n f) (hf : ∀ j, j < n → f j ≤ 5) (hn : n ≤ 12) : ∀ (m k : Nat) (τ : jm_S), k + m = n → jRn τ 301 k (fun j => jhr w d r (f j)) → jF 301 σ τ → ∃ σ', jb_Ex 202 (25, [.ref (0 : Nat), .int (jI d), .int (jI r), .int (jI p), .int (jI k)], [], jm_hp τ) = jb_K (jb_Ev 172 [.ref (279 : Nat), .ref (9 : Nat), .ref (301 : Nat), .ref (303 : Nat)] (jm_hp σ')) (fun v h => jb_Ex 202 (93, [.ref (0 : Nat), .int (jI d), .int (jI r), .int (jI p), .int (jI n)], v.toList ++ [], h)) ∧ jRn σ' 301 n (fun j => jhr w d r (f j)) ∧ jF 301 σ σ'
  | 0, k, τ, hm, h1, h2 => by
    obtain rfl : k = n := by omega
    refine ⟨τ, ?_, h1, h2⟩
    rw [jt_D_understanding_25, jR_size (h.fr h2 (by omega)), jb_K_v, jt_D_understanding_34, if_pos (by rw [jI_le (by omega) (by omega)]; omega)]
  | m + 1, k, τ, hm, h1, h2 => by
    have h' := h.fr h2 (by omega)
    have hV' := hV.A (h2.A (a := 301) (b := 303) (by omega) (by omega)) (by omega)
    have hat := jRn_at h' (show k < n by omega)
    have hh := cHear hV' hw (hf k (by omega)) hd hr
    have hca : k < jm_ln (301 + 1) := by rw [show (301 : Nat) + 1 = 302 from rfl, jn_302]; omega
    have hadd := jR_add h1 hca (jI (jhr w d r (f k)))
    obtain ⟨σ', g1, g2, g3⟩ := cUndL (p := p) hV hw hd hr h hf hn m (k + 1) _ (by omega) ((jRn_add h1 hca (jhr w d r (f k))).congr rfl (fun j hj => by
      by_cases e : j = k
      · rw [jn0_e e, e]
      · rw [jn0_o e])) (h2.tr (jF_add _ _ _))
    refine ⟨σ', ?_, g2, g3⟩
    rw [← g1, jt_D_understanding_25]
    simp (disch := omega) only [jb_K_n, jb_K_v, ↓reduceIte, jT_lt, jF_lt, jT_le, jF_le, jT_eq, jF_eq, jT_z, jF_z, jF_neg, jT_nn, jT_pos, jF_pos, jT_le0, jF_le0, jT_x, jF_m1, jF_m1r, jT_tt, jI_add, jI_mul, jI_sub, jI_cl, jm_up_same, jm_up_o, jm_up_j, jbR_T, jbR_F, jR_size h', jt_D_understanding_34, hat, jt_D_understanding_57, hh, jt_D_understanding_62, hadd, jt_D_understanding_65]
theorem cUnd {d r p : Nat} (hV : jV σ 1 w) (hw : jInv w) (hp : p < w 2) (hd : d < 10) (hr : r < 10) : ∃ σ', jb_Ev 202 [.ref (0 : Nat), .int (jI d), .int (jI r), .int (jI p)] (jm_hp σ) = some (some (.int (jI (jUn w p d r))), jm_hp σ') ∧ jcT σ σ' := by
  have b0 := hw.b0
  obtain ⟨n1, n12, n5⟩ := jp_n hw hp
  obtain ⟨σ1, e1, r1, f1⟩ := cCopy hV hw hp jc_297 (by rw [show (297 : Nat) + 1 = 298 from rfl, jn_298]; omega) (by omega)
  have V1 := hV.A (f1.A (a := 297) (b := 299) (by omega) (by omega)) (by omega)
  have f2 : jF 301 σ1 (jm_up σ1 301 1 (jI 0)) := jF_clear _
  have hcl : jb_Ev 13 [.ref (301 : Nat)] (jm_hp σ1) = some (none, jm_hp (jm_up σ1 301 1 (jI 0))) := jt_Row_clear_0 jc_301
  obtain ⟨σ3, e3, r3, f3⟩ := cUndL (σ := σ1) (p := p) V1 hw hd hr r1 n5 n12 (jpz w p) 0 (jm_up σ1 301 1 (jI 0)) (Nat.zero_add _) ⟨jc_301, Nat.zero_le _, jm_up_same _ _ _ _, fun k hk => absurd hk (Nat.not_lt_zero _)⟩ f2
  have h5 : ∀ j, j < jpz w p → (fun j => jhr w d r (jpf w p j)) j ≤ 5 := fun j hj => jhr_le w d r (n5 j hj)
  have V3 := V1.A (f3.A (a := 301) (b := 303) (by omega) (by omega)) (by omega)
  obtain ⟨σ4, L4, e4, k4, q4, l4, m4, z4, s4⟩ := cMeant (r3 := 303) V3 hw r3 h5 n12 jc_303 (by rw [show (303 : Nat) + 1 = 304 from rfl, jn_304]; omega) (by omega) (by omega)
  have start : ∀ X, jb_Ev 172 [.ref (279 : Nat), .ref (9 : Nat), .ref (301 : Nat), .ref (303 : Nat)] (jm_hp σ3) = some (some (.int X), jm_hp σ4) → jb_Ev 202 [.ref (0 : Nat), .int (jI d), .int (jI r), .int (jI p)] (jm_hp σ) = jb_Ex 202 (93, [.ref (0 : Nat), .int (jI d), .int (jI r), .int (jI p), .int (jI (jpz w p))], [.int X], jm_hp σ4) := fun X hX => by
    rw [hX, jb_K_v] at e3
    simp (disch := omega) only [jb_K_n, jb_K_v, ↓reduceIte, jT_lt, jF_lt, jT_le, jF_le, jT_eq, jF_eq, jT_z, jF_z, jF_neg, jT_nn, jT_pos, jF_pos, jT_le0, jF_le0, jT_x, jF_m1, jF_m1r, jT_tt, jI_add, jI_mul, jI_sub, jI_cl, jm_up_same, jm_up_o, jm_up_j, jbR_T, jbR_F, jt_D_understanding_0, e1, jt_D_understanding_15, hcl, jt_D_understanding_22, e3]
  have k14 : ∀ q j, ¬ (279 ≤ q ∧ q < 282 ∨ 297 ≤ q ∧ q < 305) → σ4 q j = σ q j := fun q j z => (k4 q j (by omega)).trans ((f3 q j (by omega) (by omega)).trans (f1 q j (by omega) (by omega)))
  by_cases eh : jP w (jpz w p) (fun j => jhr w d r (jpf w p j)) = 1
  · rw [if_pos eh] at e4
    obtain ⟨p4, -, -⟩ := s4 eh
    have V4 : jV σ4 1 w := hV.A (a := 279) (b := 307) (fun q j z => k14 q j (by omega)) (by omega)
    have r14 : jRn σ4 297 (jpz w p) (jpf w p) := (r1.fr f3 (by omega)).k (P := fun q => 279 ≤ q ∧ q < 282 ∨ q = 303 ∨ q = 303 + 1) k4 (by omega) (by omega)
    obtain ⟨σ5, L5, e5, k5, q5, l5, m5, z5, s5⟩ := cMeant (r3 := 299) V4 hw r14 n5 n12 jc_299 (by rw [show (299 : Nat) + 1 = 300 from rfl, jn_300]; omega) (by omega) (by omega)
    have q45 : jRn σ5 303 L4.length (fun j => L4.getD j 0) := q4.k (P := fun q => 279 ≤ q ∧ q < 282 ∨ q = 299 ∨ q = 299 + 1) k5 (by omega) (by omega)
    refine ⟨σ5, ?_, fun q j z => (k5 q j (by omega)).trans (k14 q j (by omega))⟩
    rw [start _ e4]
    by_cases ef : jP w (jpz w p) (jpf w p) = 1
    · rw [if_pos ef] at e5
      obtain ⟨p5, -, -⟩ := s5 ef
      have hlk := jR_like q45 q5 (fun i hi => by have := m4 i hi; omega) (fun i hi => by have := m5 i hi; omega)
      by_cases eL : L4 = L5
      · rw [if_pos eL] at hlk
        subst eL
        rw [jUn_1 eh ef p4 p5]
        simp (disch := omega) only [jb_K_n, jb_K_v, ↓reduceIte, jT_lt, jF_lt, jT_le, jF_le, jT_eq, jF_eq, jT_z, jF_z, jF_neg, jT_nn, jT_pos, jF_pos, jT_le0, jF_le0, jT_x, jF_m1, jF_m1r, jT_tt, jI_add, jI_mul, jI_sub, jI_cl, jm_up_same, jm_up_o, jm_up_j, jbR_T, jbR_F, jt_D_understanding_93, e5, jt_D_understanding_120, hlk, jt_D_understanding_138]
      · rw [if_neg eL] at hlk
        rw [jUn_2 eh (fun ⟨_, L, z1, z2⟩ => eL ((jPath_det p4 z1).trans (jPath_det p5 z2).symm))]
        simp (disch := omega) only [jb_K_n, jb_K_v, ↓reduceIte, jT_lt, jF_lt, jT_le, jF_le, jT_eq, jF_eq, jT_z, jF_z, jF_neg, jT_nn, jT_pos, jF_pos, jT_le0, jF_le0, jT_x, jF_m1, jF_m1r, jT_tt, jI_add, jI_mul, jI_sub, jI_cl, jm_up_same, jm_up_o, jm_up_j, jbR_T, jbR_F, jt_D_understanding_93, e5, jt_D_understanding_120, hlk, jt_D_understanding_138]
    · rw [if_neg ef] at e5
      rw [jUn_2 eh (fun z => ef z.1)]
      simp (disch := omega) only [jb_K_n, jb_K_v, ↓reduceIte, jT_lt, jF_lt, jT_le, jF_le, jT_eq, jF_eq, jT_z, jF_z, jF_neg, jT_nn, jT_pos, jF_pos, jT_le0, jF_le0, jT_x, jF_m1, jF_m1r, jT_tt, jI_add, jI_mul, jI_sub, jI_cl, jm_up_same, jm_up_o, jm_up_j, jbR_T, jbR_F, jt_D_understanding_93, e5, jt_D_understanding_120]
  · rw [if_neg eh] at e4
    refine ⟨σ4, ?_, fun q j z => k14 q j (by omega)⟩
    rw [start _ e4, jUn_0 eh]
    simp (disch := omega) only [jb_K_n, jb_K_v, ↓reduceIte, jT_lt, jF_lt, jT_le, jF_le, jT_eq, jF_eq, jT_z, jF_z, jF_neg, jT_nn, jT_pos, jF_pos, jT_le0, jF_le0, jT_x, jF_m1, jF_m1r, jT_tt, jI_add, jI_mul, jI_sub, jI_cl, jm_up_same, jm_up_o, jm_up_j, jbR_T, jbR_F, jt_D_understanding_93]
/-! the plain form -/
theorem mClrA {d r p : Int32} {x4 : Int32} {L : List Nat} (hl : L.length ≤ 12) (hL : ∀ j, j < L.length → σ 318 j = jI (L.getD j 0)) : ∀ (m k : Nat) (τ : jm_S), k + m = L.length → (∀ j, j < k → τ 319 j = jI (L.getD j 0)) → (∀ q j, q ≠ 319 → τ q j = σ q j) → ∃ τ', jb_Ex 210 (20, [.ref (307 : Nat), .int d, .int r, .int p, .int x4, .int (jI L.length), .int (jI k)], [], jm_hp τ) = jb_K (jb_Ev 109 [.ref (307 : Nat), .int p] (jm_hp τ')) (fun v h => jb_Ex 210 (52, [.ref (307 : Nat), .int d, .int r, .int p, .int x4, .int (jI L.length), .int (jI L.length)], v.toList ++ [], h)) ∧ (∀ j, j < L.length → τ' 319 j = jI (L.getD j 0)) ∧ (∀ q j, q ≠ 319 → τ' q j = σ q j)
  | 0, k, τ, hm, h1, h2 => by
    obtain rfl : k = L.length := by omega
    refine ⟨τ, ?_, h1, h2⟩
    rw [jt_M_clears_20, if_pos (by rw [jI_le (by omega) (by omega)]; omega)]
  | m + 1, k, τ, hm, h1, h2 => by
    have h3 := (h2 318 k (by omega)).trans (hL k (by omega))
    obtain ⟨τ', g1, g2, g3⟩ := mClrA (d := d) (r := r) (p := p) (x4 := x4) hl hL m (k + 1) (jm_up τ 319 k (jI (L.getD k 0))) (by omega) (fun j hj => by
      by_cases e : j = k
      · rw [e, jm_up_same]
      · rw [jm_up_j _ _ e]
        exact h1 j (by omega)) (fun q j z => (jm_up_o _ _ z).trans (h2 q j z))
    refine ⟨τ', ?_, g2, g3⟩
    rw [← g1, jt_M_clears_20]
    simp (disch := omega) only [jb_K_n, jb_K_v, ↓reduceIte, jT_lt, jF_lt, jT_le, jF_le, jT_eq, jF_eq, jT_z, jF_z, jF_neg, jT_nn, jT_pos, jF_pos, jT_le0, jF_le0, jT_x, jF_m1, jF_m1r, jT_tt, jI_add, jI_mul, jI_sub, jI_cl, jm_up_same, jm_up_o, jm_up_j, jbR_T, jbR_F, h3]
theorem mClrB {d r : Nat} {p x4 x5 : Int32} (hA : jAr σ 308 146 w) (hw : jInv w) (hd : d < 10) (hr : r < 10) (hf : ∀ j, j < n → f j ≤ 5) (hn : n ≤ 12) (h20 : σ 307 20 = jI n) : ∀ (m k : Nat) (τ : jm_S), k + m = n → jAr τ 315 n (fun j => if j < k then jhr w d r (f j) else f j) → (∀ q j, q ≠ 315 → τ q j = σ q j) → ∃ τ', jb_Ex 210 (55, [.ref (307 : Nat), .int (jI d), .int (jI r), .int p, .int x4, .int x5, .int (jI k)], [], jm_hp τ) = jb_K (jb_Ev 194 [.ref (307 : Nat)] (jm_hp τ')) (fun v h => jb_Ex 210 (108, [.ref (307 : Nat), .int (jI d), .int (jI r), .int p, .int x4, .int x5, .int (jI n)], v.toList ++ [], h)) ∧ jAr τ' 315 n (fun j => jhr w d r (f j)) ∧ (∀ q j, q ≠ 315 → τ' q j = σ q j)
  | 0, k, τ, hm, h1, h2 => by
    obtain rfl : k = n := by omega
    refine ⟨τ, ?_, h1.congr (fun j hj => if_pos hj), h2⟩
    rw [jt_M_clears_55, (h2 307 20 (by omega)).trans h20, if_pos (by rw [jI_le (by omega) (by omega)]; omega)]
  | m + 1, k, τ, hm, h1, h2 => by
    have h3 := (h2 307 20 (by omega)).trans h20
    have hr1 := h1 k (by omega)
    dsimp only at hr1
    rw [if_neg (Nat.lt_irrefl k)] at hr1
    have h5 := hf k (by omega)
    have hh := mHear (σ := τ) (fun j hj => (h2 308 j (by omega)).trans (hA j hj)) hw h5 hd hr
    obtain ⟨τ', g1, g2, g3⟩ := mClrB (p := p) (x4 := x4) (x5 := x5) hA hw hd hr hf hn h20 m (k + 1) (jm_up τ 315 k (jI (jhr w d r (f k)))) (by omega) ((h1.up k _).congr (fun j hj => by
      by_cases e : j = k
      · rw [jn0_e e, if_pos (by omega), e]
      · rw [jn0_o e]
        by_cases e2 : j < k
        · rw [if_pos e2, if_pos (by omega)]
        · rw [if_neg e2, if_neg (by omega)])) (fun q j z => (jm_up_o _ _ z).trans (h2 q j z))
    refine ⟨τ', ?_, g2, g3⟩
    rw [← g1, jt_M_clears_55]
    unfold jhr
    by_cases c : f k < 5 ∧ w (6 + 3 * f k) ≤ d + r ∧ d ≤ w (6 + 3 * f k) + r
    · rw [if_pos c] at hh ⊢
      simp (disch := omega) only [jb_K_n, jb_K_v, ↓reduceIte, jT_lt, jF_lt, jT_le, jF_le, jT_eq, jF_eq, jT_z, jF_z, jF_neg, jT_nn, jT_pos, jF_pos, jT_le0, jF_le0, jT_x, jF_m1, jF_m1r, jT_tt, jI_add, jI_mul, jI_sub, jI_cl, jm_up_same, jm_up_o, jm_up_j, jbR_T, jbR_F, h3, hr1, hh, jt_M_clears_83]
    · rw [if_neg c] at hh ⊢
      simp (disch := omega) only [jb_K_n, jb_K_v, ↓reduceIte, jT_lt, jF_lt, jT_le, jF_le, jT_eq, jF_eq, jT_z, jF_z, jF_neg, jT_nn, jT_pos, jF_pos, jT_le0, jF_le0, jT_x, jF_m1, jF_m1r, jT_tt, jI_add, jI_mul, jI_sub, jI_cl, jm_up_same, jm_up_o, jm_up_j, jbR_T, jbR_F, h3, hr1, hh, jt_M_clears_83]
theorem mClrC {d r p : Int32} {L L' : List Nat} (hl : L.length = L'.length) (hl12 : L.length ≤ 12) (hb : ∀ i ∈ L, i < 1000) (hb' : ∀ i ∈ L', i < 1000) (hL : ∀ j, j < L.length → σ 319 j = jI (L.getD j 0)) (hL' : ∀ j, j < L'.length → σ 318 j = jI (L'.getD j 0)) : ∀ (m k : Nat), k + m = L.length → (∀ j, j < k → L.getD j 0 = L'.getD j 0) → jb_Ex 210 (137, [.ref (307 : Nat), .int d, .int r, .int p, .int (jI 1), .int (jI L.length), .int (jI k)], [], jm_hp σ) = some (some (.int (if L = L' then jI 1 else jI 2)), jm_hp σ)
  | 0, k, hm, h => by
    rw [if_pos (jl_ext hl (fun j hj => h j (by omega))), jt_M_clears_137]
    simp (disch := omega) only [jb_K_n, jb_K_v, ↓reduceIte, jT_lt, jF_lt, jT_le, jF_le, jT_eq, jF_eq, jT_z, jF_z, jF_neg, jT_nn, jT_pos, jF_pos, jT_le0, jF_le0, jT_x, jF_m1, jF_m1r, jT_tt, jI_add, jI_mul, jI_sub, jI_cl, jm_up_same, jm_up_o, jm_up_j, jbR_T, jbR_F]
  | m + 1, k, hm, h => by
    have b1 := hb _ (jl_mem (show k < L.length by omega))
    have b2 := hb' _ (jl_mem (show k < L'.length by omega))
    have a1 := hL k (by omega)
    have a2 := hL' k (by omega)
    rw [jt_M_clears_137]
    by_cases e : L.getD k 0 = L'.getD k 0
    · have IH := mClrC (d := d) (r := r) (p := p) hl hl12 hb hb' hL hL' m (k + 1) (by omega) (fun j hj => by
        by_cases e2 : j = k
        · rw [e2]; exact e
        · exact h j (by omega))
      rw [e] at a1
      simp (disch := omega) only [jb_K_n, jb_K_v, ↓reduceIte, jT_lt, jF_lt, jT_le, jF_le, jT_eq, jF_eq, jT_z, jF_z, jF_neg, jT_nn, jT_pos, jF_pos, jT_le0, jF_le0, jT_x, jF_m1, jF_m1r, jT_tt, jI_add, jI_mul, jI_sub, jI_cl, jm_up_same, jm_up_o, jm_up_j, jbR_T, jbR_F, a1, a2, IH]
    · rw [if_neg (show ¬ L = L' from fun z => e (by rw [z]))]
      simp (disch := omega) only [jb_K_n, jb_K_v, ↓reduceIte, jT_lt, jF_lt, jT_le, jF_le, jT_eq, jF_eq, jT_z, jF_z, jF_neg, jT_nn, jT_pos, jF_pos, jT_le0, jF_le0, jT_x, jF_m1, jF_m1r, jT_tt, jI_add, jI_mul, jI_sub, jI_cl, jm_up_same, jm_up_o, jm_up_j, jbR_T, jbR_F, a1, a2]
      rw [jt_M_clears_137]
      by_cases c : L.length ≤ k + 1
      · rw [if_pos (by rw [jI_le (by omega) (by omega)]; exact c), if_pos jI_zero]
      · rw [if_neg (by rw [jI_le (by omega) (by omega)]; exact c), if_pos jI_zero]
theorem mUnd {d r p : Nat} (hA : jAr σ 308 146 w) (hw : jInv w) (hp : p < w 2) (hd : d < 10) (hr : r < 10) : ∃ σ', jb_Ev 210 [.ref (307 : Nat), .int (jI d), .int (jI r), .int (jI p)] (jm_hp σ) = some (some (.int (jI (jUn w p d r))), jm_hp σ') ∧ jmS σ σ' := by
  have b0 := hw.b0
  obtain ⟨n1, n12, n5⟩ := jp_n hw hp
  obtain ⟨σ1, σ2, L2, e1, e2, f2, k2, m2, h24, hL2, l2, w2, z2, s2⟩ := mMeansP hA hw hp
  obtain ⟨σ3, e3, hL3, k3⟩ := mClrA (σ := σ2) (d := jI d) (r := jI r) (p := jI p) (x4 := if jP w (jpz w p) (jpf w p) = 1 then jI 1 else jI 0) l2 hL2 L2.length 0 σ2 (Nat.zero_add _) (fun j hj => absurd hj (Nat.not_lt_zero _)) (fun _ _ _ => rfl)
  have A3 : jAr σ3 308 146 w := fun j hj => (k3 _ _ (by omega)).trans (m2.1 j hj)
  obtain ⟨σ4, e4, m4, k4⟩ := mPeal A3 hw hp
  obtain ⟨σ5, e5, r5, k5⟩ := mClrB (σ := σ4) (p := jI p) (x4 := if jP w (jpz w p) (jpf w p) = 1 then jI 1 else jI 0) (x5 := jI L2.length) m4.1 hw hd hr n5 n12 m4.2.1 (jpz w p) 0 σ4 (Nat.zero_add _) (m4.2.2.congr (fun j hj => by rw [if_neg (Nat.not_lt_zero _)])) (fun _ _ _ => rfl)
  have M5 : jMw σ5 w (jpz w p) (fun j => jhr w d r (jpf w p j)) := ⟨fun j hj => (k5 _ _ (by omega)).trans (m4.1 j hj), (k5 _ _ (by omega)).trans m4.2.1, r5⟩
  obtain ⟨σ6, L6, e6, k6, h624, hL6, l6, w6, z6, s6⟩ := mMeans hw M5 (fun j hj => jhr_le w d r (n5 j hj)) (by omega)
  have hS : jmS σ σ6 := fun q j z => (k6 q j (by omega) (by omega) (by omega) (by omega)).trans ((k5 q j (by omega)).trans ((k4 q j (by omega) (by omega)).trans ((k3 q j (by omega)).trans (f2 q j z))))
  have hL36 : ∀ j, j < L2.length → σ6 319 j = jI (L2.getD j 0) := fun j hj => (k6 _ _ (by omega) (by omega) (by omega) (by omega)).trans ((k5 _ _ (by omega)).trans ((k4 _ _ (by omega) (by omega)).trans (hL3 j hj)))
  refine ⟨σ6, ?_, hS⟩
  rw [e4, jb_K_n, jt_M_clears_52, e5] at e3
  have start : ∀ X Y, (if jP w (jpz w p) (jpf w p) = 1 then jI 1 else jI 0) = X → jb_Ev 194 [.ref (307 : Nat)] (jm_hp σ5) = some (some (.int Y), jm_hp σ6) → jb_Ev 210 [.ref (307 : Nat), .int (jI d), .int (jI r), .int (jI p)] (jm_hp σ) = jb_Ex 210 (108, [.ref (307 : Nat), .int (jI d), .int (jI r), .int (jI p), .int X, .int (jI L2.length), .int (jI (jpz w p))], [.int Y], jm_hp σ6) := fun X Y hX hY => by
    rw [hX] at e2 e3
    rw [hY, jb_K_v] at e3
    simp (disch := omega) only [jb_K_n, jb_K_v, ↓reduceIte, jT_lt, jF_lt, jT_le, jF_le, jT_eq, jF_eq, jT_z, jF_z, jF_neg, jT_nn, jT_pos, jF_pos, jT_le0, jF_le0, jT_x, jF_m1, jF_m1r, jT_tt, jI_add, jI_mul, jI_sub, jI_cl, jm_up_same, jm_up_o, jm_up_j, jbR_T, jbR_F, jt_M_clears_0, e1, jt_M_clears_5, e2, jt_M_clears_9, h24]
    exact e3
  by_cases eh : jP w (jpz w p) (fun j => jhr w d r (jpf w p j)) = 1
  · rw [if_pos eh] at e6
    obtain ⟨p6, -⟩ := s6 eh
    by_cases ef : jP w (jpz w p) (jpf w p) = 1
    · obtain ⟨p2, -⟩ := s2 ef
      rw [start (jI 1) (jI 1) (if_pos ef) e6, jt_M_clears_108, if_neg (by decide), if_neg (by decide), h624]
      by_cases el : L6.length = L2.length
      · rw [if_pos (by rw [el]), mClrC el.symm l2 (fun i hi => by have := w2 i hi; omega) (fun i hi => by have := w6 i hi; omega) hL36 hL6 L2.length 0 (Nat.zero_add _) (fun j hj => absurd hj (Nat.not_lt_zero _))]
        by_cases eL : L2 = L6
        · rw [if_pos eL]
          subst eL
          rw [jUn_1 eh ef p6 p2]
        · rw [if_neg eL, jUn_2 eh (fun ⟨_, L, z1, z2⟩ => eL ((jPath_det p2 z2).trans (jPath_det p6 z1).symm))]
      · rw [if_neg (by rw [jI_eq (by omega) (by omega)]; exact el), jUn_2 eh (fun ⟨_, L, z1, z2⟩ => el (by rw [jPath_det p2 z2, jPath_det p6 z1])), jt_M_clears_137]
        by_cases c : L2.length ≤ 0
        · rw [if_pos (by rw [jI_le (by omega) (by omega)]; exact c), if_pos jI_zero]
        · rw [if_neg (by rw [jI_le (by omega) (by omega)]; exact c), if_pos jI_zero]
    · rw [start (jI 0) (jI 1) (if_neg ef) e6, jUn_2 eh (fun z => ef z.1), jt_M_clears_108, if_neg (by decide), if_pos jI_zero, jt_M_clears_137]
      by_cases c : L2.length ≤ 0
      · rw [if_pos (by rw [jI_le (by omega) (by omega)]; exact c), if_pos jI_zero]
      · rw [if_neg (by rw [jI_le (by omega) (by omega)]; exact c), if_pos jI_zero]
  · rw [if_neg eh] at e6
    rw [start _ (jI 0) rfl e6, jUn_0 eh, jt_M_clears_108, if_pos jI_zero]
theorem jAr.mS {σ' : jm_S} (h : jAr σ 308 146 w) (k : jmS σ σ') : jAr σ' 308 146 w := fun j hj => (k _ _ (by omega)).trans (h j hj)
theorem mUndTo {i p : Nat} (hA : jAr σ 308 146 w) (hw : jInv w) (hp : p < w 2) (hi : i < w 1) : ∃ σ', jb_Ev 232 [.ref (307 : Nat), .int (jI i), .int (jI p)] (jm_hp σ) = some (some (.int (jI (jUn w p (w (69 + 2 * i)) (w (70 + 2 * i))))), jm_hp σ') ∧ jmS σ σ' := by
  have b1 := hw.b1
  have hB := hw.2.2.1.2 i hi
  obtain ⟨σ', e1, f1⟩ := mUnd (d := w (69 + 2 * i)) (r := w (70 + 2 * i)) hA hw hp (by omega) (by omega)
  have h1 := hA (69 + 2 * i) (by omega)
  have h2 := hA (70 + 2 * i) (by omega)
  have e0 : 69 + 2 * i + 1 = 70 + 2 * i := by omega
  exact ⟨σ', by simp (disch := omega) only [jb_K_n, jb_K_v, ↓reduceIte, jT_lt, jF_lt, jT_le, jF_le, jT_eq, jF_eq, jT_z, jF_z, jF_neg, jT_nn, jT_pos, jF_pos, jT_le0, jF_le0, jT_x, jF_m1, jF_m1r, jT_tt, jI_add, jI_mul, jI_sub, jI_cl, jm_up_same, jm_up_o, jm_up_j, jbR_T, jbR_F, jt_M_clearsTo_0, jt_M_clearsTo_4, jt_M_clearsTo_26, jt_M_swimmerAt_0, Nat.add_zero, h1, e0, h2, e1], f1⟩
theorem o_understands (hC : JC σ S) (hM : JM σ S) (hI : JI S) (x y : Int32) : jOp σ 225 241 [.int x, .int y] := by
  have b2 := hI.1.b2
  have b1 := hI.1.b1
  by_cases hs : jlt x (S 0 1)
  · obtain ⟨i, hi, rfl⟩ := hs
    have hB := hI.1.2.2.1.2 i hi
    have sY := jR_hasY hC.1.s.1 hi
    by_cases hy : jlt y (S 0 2)
    · obtain ⟨p, hp, rfl⟩ := hy
      have hY := cHasY hC.1 hp
      obtain ⟨σ1, e1, f1⟩ := cUnd (d := S 0 (69 + 2 * i)) (r := S 0 (70 + 2 * i)) hC.1 hI.1 hp (by omega) (by omega)
      refine jOp_q (v := .int (jI (jUn (S 0) p (S 0 (69 + 2 * i)) (S 0 (70 + 2 * i))))) hC hM hI ⟨σ1, by simp (disch := omega) only [jb_K_n, jb_K_v, ↓reduceIte, jT_lt, jF_lt, jT_le, jF_le, jT_eq, jF_eq, jT_z, jF_z, jF_neg, jT_nn, jT_pos, jF_pos, jT_le0, jF_le0, jT_x, jF_m1, jF_m1r, jT_tt, jI_add, jI_mul, jI_sub, jI_cl, jm_up_same, jm_up_o, jm_up_j, jbR_T, jbR_F, jt_D_understands_0, jt_D_understands_14, jt_D_understands_28, jt_D_understands_47, jt_D_understands_64, jt_D_understands_68, sY, hY, hC.1.wd hi, hC.1.wr hi, e1], f1.s⟩ (fun τ hτ => ?_)
      obtain ⟨τ1, g1, g2⟩ := mUndTo hτ.1 hI.1 hp hi
      have sY2 := jM_swimY (σ := τ) (hτ.1 1 (by omega)) hi (by omega)
      have hY2 := jM_pealY (σ := τ) (hτ.1 2 (by omega)) hp (by omega)
      exact ⟨τ1, by simp (disch := omega) only [jb_K_n, jb_K_v, ↓reduceIte, jT_lt, jF_lt, jT_le, jF_le, jT_eq, jF_eq, jT_z, jF_z, jF_neg, jT_nn, jT_pos, jF_pos, jT_le0, jF_le0, jT_x, jF_m1, jF_m1r, jT_tt, jI_add, jI_mul, jI_sub, jI_cl, jm_up_same, jm_up_o, jm_up_j, jbR_T, jbR_F, jt_M_understands_0, jt_M_understands_5, jt_M_understands_13, jt_M_understands_24, sY2, hY2, g1], g2⟩
    · have hN := cHasN hC.1 hy
      refine jOp_q (v := .int (-1)) hC hM hI ⟨σ, by simp (disch := omega) only [jb_K_n, jb_K_v, ↓reduceIte, jT_lt, jF_lt, jT_le, jF_le, jT_eq, jF_eq, jT_z, jF_z, jF_neg, jT_nn, jT_pos, jF_pos, jT_le0, jF_le0, jT_x, jF_m1, jF_m1r, jT_tt, jI_add, jI_mul, jI_sub, jI_cl, jm_up_same, jm_up_o, jm_up_j, jbR_T, jbR_F, jt_D_understands_0, jt_D_understands_14, jt_D_understands_28, jt_D_understands_47, jt_D_understands_64, jt_D_understands_68, sY, hN], jcS.rf⟩ (fun τ hτ => ⟨τ, ?_, jmS.rf⟩)
      have sY2 := jM_swimY (σ := τ) (hτ.1 1 (by omega)) hi (by omega)
      have hN2 := jM_pealN (σ := τ) (hτ.1 2 (by omega)) hy (by omega)
      simp (disch := omega) only [jb_K_n, jb_K_v, ↓reduceIte, jT_lt, jF_lt, jT_le, jF_le, jT_eq, jF_eq, jT_z, jF_z, jF_neg, jT_nn, jT_pos, jF_pos, jT_le0, jF_le0, jT_x, jF_m1, jF_m1r, jT_tt, jI_add, jI_mul, jI_sub, jI_cl, jm_up_same, jm_up_o, jm_up_j, jbR_T, jbR_F, jt_M_understands_0, jt_M_understands_5, jt_M_understands_13, jt_M_understands_24, sY2, hN2]
  · have sN := jR_hasN hC.1.s.1 hs
    refine jOp_q (v := .int (-1)) hC hM hI ⟨σ, by simp (disch := omega) only [jb_K_n, jb_K_v, ↓reduceIte, jT_lt, jF_lt, jT_le, jF_le, jT_eq, jF_eq, jT_z, jF_z, jF_neg, jT_nn, jT_pos, jF_pos, jT_le0, jF_le0, jT_x, jF_m1, jF_m1r, jT_tt, jI_add, jI_mul, jI_sub, jI_cl, jm_up_same, jm_up_o, jm_up_j, jbR_T, jbR_F, jt_D_understands_0, jt_D_understands_14, jt_D_understands_28, jt_D_understands_47, jt_D_understands_64, jt_D_understands_68, sN], jcS.rf⟩ (fun τ hτ => ⟨τ, ?_, jmS.rf⟩)
    have sN2 := jM_swimN (σ := τ) (hτ.1 1 (by omega)) hs (by omega)
    simp (disch := omega) only [jb_K_n, jb_K_v, ↓reduceIte, jT_lt, jF_lt, jT_le, jF_le, jT_eq, jF_eq, jT_z, jF_z, jF_neg, jT_nn, jT_pos, jF_pos, jT_le0, jF_le0, jT_x, jF_m1, jF_m1r, jT_tt, jI_add, jI_mul, jI_sub, jI_cl, jm_up_same, jm_up_o, jm_up_j, jbR_T, jbR_F, jt_M_understands_0, jt_M_understands_5, jt_M_understands_13, jt_M_understands_24, sN2]
end UN
