/-! ===== the law's calls: their words, and what they answer ===== -/
def lw_LK : List (Nat × Nat × Nat × Nat × Nat) := [(13, 215, 2, 369, 10), (17, 183, 2, 1136, 11), (18, 216, 1, 436, 10), (22, 184, 1, 1173, 11), (23, 59, 1, 444, 10), (27, 98, 1, 1181, 11), (28, 235, 1, 460, 10), (31, 207, 1, 1185, 11), (32, 218, 1, 489, 10), (35, 186, 1, 1211, 11), (36, 219, 2, 504, 10), (39, 187, 2, 1223, 11), (40, 220, 2, 517, 10), (43, 188, 2, 1237, 11), (44, 221, 1, 528, 10), (47, 189, 1, 1245, 11), (48, 236, 0, 537, 10), (52, 190, 0, 1253, 11), (53, 201, 2, 576, 10), (56, 196, 2, 1345, 11), (57, 171, 2, 608, 10), (60, 156, 2, 1361, 11), (61, 237, 2, 613, 10), (64, 245, 2, 1365, 11), (65, 173, 1, 691, 10), (68, 191, 1, 1266, 11), (69, 174, 1, 703, 10), (72, 192, 1, 1292, 11), (73, 175, 0, 708, 10), (76, 193, 0, 1296, 11), (77, 223, 2, 712, 10), (80, 208, 2, 1300, 11), (81, 224, 1, 720, 10), (84, 209, 1, 1308, 11), (85, 137, 2, 724, 10), (88, 152, 2, 1312, 11), (89, 138, 3, 729, 10), (93, 153, 3, 1316, 11), (94, 225, 2, 733, 10), (97, 241, 2, 1325, 11), (98, 226, 2, 737, 10), (101, 233, 2, 1337, 11), (102, 176, 2, 741, 10), (105, 195, 2, 1341, 11), (106, 238, 1, 749, 10), (109, 246, 1, 1377, 11), (110, 139, 1, 757, 10), (113, 112, 1, 1381, 11), (114, 140, 1, 761, 10), (117, 158, 1, 1385, 11), (118, 177, 0, 765, 10), (122, 42, 0, 1393, 11), (123, 142, 0, 777, 10), (127, 159, 0, 1397, 11), (128, 227, 0, 782, 10), (132, 197, 0, 1406, 11), (133, 143, 1, 786, 10), (136, 160, 1, 1410, 11), (137, 228, 1, 790, 10), (140, 211, 1, 1414, 11), (141, 144, 0, 800, 10), (144, 161, 0, 1430, 11), (145, 80, 1, 805, 10), (148, 117, 1, 1434, 11), (149, 81, 1, 809, 10), (152, 118, 1, 1438, 11), (153, 244, 0, 813, 10), (156, 247, 0, 1446, 11), (157, 27, 0, 986, 10), (160, 44, 0, 1442, 11), (161, 28, 2, 990, 10), (165, 87, 2, 1114, 11), (166, 206, 0, 994, 10), (169, 88, 0, 1121, 11), (170, 181, 0, 1002, 10), (173, 89, 0, 1128, 11), (174, 182, 0, 1006, 10), (177, 90, 0, 1132, 11)]
def lw_okK (q : Nat × Nat × Nat × Nat × Nat) : Bool := jb_okL (16, q.1, 2, q.2.1, q.2.2.1, q.2.2.2.1) && decide (jb_ht q.2.1 ≤ 8) && decide (jb_ow q.2.1 = q.2.2.2.2)
set_option maxRecDepth 100000 in
theorem lw_okK_all : lw_LK.all lw_okK = true := by decide +kernel
def lw_Kc (x a n o : Nat) : Prop := a < 248 ∧ jb_ht a ≤ 8 ∧ jb_ow a = o ∧ Cond.methodLink "DrownedBellsLaw" x (jb_y a) ∈ jb_W ∧ Cond.instanceMethod (jb_y a) ∈ jb_W ∧ Cond.selects (jb_y a).cls (jb_y a) (jb_y a) ∈ jb_W ∧ (parseMethodDescriptor (jb_y a).desc).map (fun d => d.parameters.length) = some n
theorem lw_K (k : Nat) {x a n p o : Nat} (h : lw_LK[k]? = some (x, a, n, p, o)) : lw_Kc x a n o := by
  have h := List.all_eq_true.mp lw_okK_all _ (List.mem_of_getElem? h)
  unfold lw_okK at h
  dsimp only at h
  simp only [jb_okL, Bool.and_eq_true, decide_eq_true_eq] at h
  obtain ⟨⟨⟨⟨⟨⟨h1, h2⟩, h3⟩, h4⟩, h5⟩, h6⟩, h7⟩ := h
  exact ⟨h1, h6, h7, jb_inW h2 rfl, jb_inW h3 rfl, jb_inW h4 rfl, h5⟩
theorem jb_ex_int {F : Nat → List Value → jb_H → Option jb_Res} {i k a b pc : Nat} {ls st : List Value} {h h' : jb_H} {ins : Instr} {v : Value} (hs : jb_ex F i ins k a b pc ls st h = some (.inl (some v, h'))) (hr : jb_ret i = some .int ∨ jb_ret i = some .boolean) : ∃ x, v = .int x := by
  cases ins <;> unfold jb_ex at hs <;> dsimp only at hs <;> (first | (cases hs; done) | skip) <;> (repeat' (split at hs)) <;> first
    | (cases hs; done)
    | (unfold jb_go at hs; cases hs; done)
    | (cases hs; exact ⟨_, rfl⟩)
    | (rename_i hh; exfalso; rcases hr with hr | hr <;> rw [hh] at hr <;> cases hr; done)
    | (unfold jb_invV at hs; (repeat' (split at hs)) <;> (first | (cases hs; done) | (unfold jb_go at hs; cases hs; done)))
    | (unfold jb_invS at hs; (repeat' (split at hs)) <;> (first | (cases hs; done) | (unfold jb_go at hs; cases hs; done)))
theorem jb_stp_int {F : Nat → List Value → jb_H → Option jb_Res} {i : Nat} {c : jb_Cfg} {h' : jb_H} {v : Value} (hs : jb_stp F i c = some (.inl (some v, h'))) (hr : jb_ret i = some .int ∨ jb_ret i = some .boolean) : ∃ x, v = .int x := by
  unfold jb_stp at hs
  split at hs
  · cases hs
  · exact jb_ex_int hs hr
theorem jb_run_int {F : Nat → List Value → jb_H → Option jb_Res} {i : Nat} {h' : jb_H} {v : Value} (hr : jb_ret i = some .int ∨ jb_ret i = some .boolean) : ∀ {n : Nat} {c : jb_Cfg}, jb_run F i n c = some (some v, h') → ∃ x, v = .int x
  | 0, _, h => by cases h
  | n + 1, c, h => by
    rw [jb_run] at h
    cases hs : jb_stp F i c with
    | none => rw [hs] at h; cases h
    | some q =>
      rw [hs] at h
      cases q with
      | inl r =>
        cases h
        exact jb_stp_int hs hr
      | inr c' => exact jb_run_int hr h
theorem jb_Ev_int {i : Nat} {args : List Value} {h h' : jb_H} {v : Value} (e : jb_Ev i args h = some (some v, h')) (hr : jb_ret i = some .int ∨ jb_ret i = some .boolean) : ∃ x, v = .int x := by
  rw [jb_Ev, jb_G_succ, if_pos rfl] at e
  split at e
  · obtain ⟨n, hn⟩ := jb_to_iff.mp e
    exact jb_run_int hr hn
  · cases e
def lw_T : Nat := (jm_sh.map (fun q => q.2.length)).sum
theorem lw_mapsum (L : List (Nat × List (Option Nat))) (f : Nat → Nat × List (Option Nat) → List Value) (hf : ∀ r q, (f r q).length = q.2.length) : ((L.mapIdx (fun r q => (q.1, f r q))).map (fun q => q.2.length)).sum = (L.map (fun q => q.2.length)).sum := by
  have h : (L.mapIdx (fun r q => (q.1, f r q))).map (fun q => q.2.length) = L.map (fun q => q.2.length) := by
    apply List.ext_getElem?
    intro k
    rw [List.getElem?_map, List.getElem?_map, List.getElem?_mapIdx, Option.map_map]
    cases L[k]? with
    | none => rfl
    | some q => exact congrArg some (hf k q)
  rw [h]
theorem lw_tot (σ : jm_S) : ja_tot (jm_hp σ) = lw_T := lw_mapsum jm_sh (fun r q => q.2.mapIdx (fun j t => jm_val σ r j t)) (fun r q => List.length_mapIdx)
set_option maxRecDepth 100000 in
theorem lw_T_le : lw_T ≤ 20000 := by decide +kernel
theorem lk_13 : lw_Kc 13 215 2 10 := lw_K 0 rfl
theorem lk_17 : lw_Kc 17 183 2 11 := lw_K 1 rfl
theorem lk_18 : lw_Kc 18 216 1 10 := lw_K 2 rfl
theorem lk_22 : lw_Kc 22 184 1 11 := lw_K 3 rfl
theorem lk_23 : lw_Kc 23 59 1 10 := lw_K 4 rfl
theorem lk_27 : lw_Kc 27 98 1 11 := lw_K 5 rfl
theorem lk_28 : lw_Kc 28 235 1 10 := lw_K 6 rfl
theorem lk_31 : lw_Kc 31 207 1 11 := lw_K 7 rfl
theorem lk_32 : lw_Kc 32 218 1 10 := lw_K 8 rfl
theorem lk_35 : lw_Kc 35 186 1 11 := lw_K 9 rfl
theorem lk_36 : lw_Kc 36 219 2 10 := lw_K 10 rfl
theorem lk_39 : lw_Kc 39 187 2 11 := lw_K 11 rfl
theorem lk_40 : lw_Kc 40 220 2 10 := lw_K 12 rfl
theorem lk_43 : lw_Kc 43 188 2 11 := lw_K 13 rfl
theorem lk_44 : lw_Kc 44 221 1 10 := lw_K 14 rfl
theorem lk_47 : lw_Kc 47 189 1 11 := lw_K 15 rfl
theorem lk_48 : lw_Kc 48 236 0 10 := lw_K 16 rfl
theorem lk_52 : lw_Kc 52 190 0 11 := lw_K 17 rfl
theorem lk_53 : lw_Kc 53 201 2 10 := lw_K 18 rfl
theorem lk_56 : lw_Kc 56 196 2 11 := lw_K 19 rfl
theorem lk_57 : lw_Kc 57 171 2 10 := lw_K 20 rfl
theorem lk_60 : lw_Kc 60 156 2 11 := lw_K 21 rfl
theorem lk_61 : lw_Kc 61 237 2 10 := lw_K 22 rfl
theorem lk_64 : lw_Kc 64 245 2 11 := lw_K 23 rfl
theorem lk_65 : lw_Kc 65 173 1 10 := lw_K 24 rfl
theorem lk_68 : lw_Kc 68 191 1 11 := lw_K 25 rfl
theorem lk_69 : lw_Kc 69 174 1 10 := lw_K 26 rfl
theorem lk_72 : lw_Kc 72 192 1 11 := lw_K 27 rfl
theorem lk_73 : lw_Kc 73 175 0 10 := lw_K 28 rfl
theorem lk_76 : lw_Kc 76 193 0 11 := lw_K 29 rfl
theorem lk_77 : lw_Kc 77 223 2 10 := lw_K 30 rfl
theorem lk_80 : lw_Kc 80 208 2 11 := lw_K 31 rfl
theorem lk_81 : lw_Kc 81 224 1 10 := lw_K 32 rfl
theorem lk_84 : lw_Kc 84 209 1 11 := lw_K 33 rfl
theorem lk_85 : lw_Kc 85 137 2 10 := lw_K 34 rfl
theorem lk_88 : lw_Kc 88 152 2 11 := lw_K 35 rfl
theorem lk_89 : lw_Kc 89 138 3 10 := lw_K 36 rfl
theorem lk_93 : lw_Kc 93 153 3 11 := lw_K 37 rfl
theorem lk_94 : lw_Kc 94 225 2 10 := lw_K 38 rfl
theorem lk_97 : lw_Kc 97 241 2 11 := lw_K 39 rfl
theorem lk_98 : lw_Kc 98 226 2 10 := lw_K 40 rfl
theorem lk_101 : lw_Kc 101 233 2 11 := lw_K 41 rfl
theorem lk_102 : lw_Kc 102 176 2 10 := lw_K 42 rfl
theorem lk_105 : lw_Kc 105 195 2 11 := lw_K 43 rfl
theorem lk_106 : lw_Kc 106 238 1 10 := lw_K 44 rfl
theorem lk_109 : lw_Kc 109 246 1 11 := lw_K 45 rfl
theorem lk_110 : lw_Kc 110 139 1 10 := lw_K 46 rfl
theorem lk_113 : lw_Kc 113 112 1 11 := lw_K 47 rfl
theorem lk_114 : lw_Kc 114 140 1 10 := lw_K 48 rfl
theorem lk_117 : lw_Kc 117 158 1 11 := lw_K 49 rfl
theorem lk_118 : lw_Kc 118 177 0 10 := lw_K 50 rfl
theorem lk_122 : lw_Kc 122 42 0 11 := lw_K 51 rfl
theorem lk_123 : lw_Kc 123 142 0 10 := lw_K 52 rfl
theorem lk_127 : lw_Kc 127 159 0 11 := lw_K 53 rfl
theorem lk_128 : lw_Kc 128 227 0 10 := lw_K 54 rfl
theorem lk_132 : lw_Kc 132 197 0 11 := lw_K 55 rfl
theorem lk_133 : lw_Kc 133 143 1 10 := lw_K 56 rfl
theorem lk_136 : lw_Kc 136 160 1 11 := lw_K 57 rfl
theorem lk_137 : lw_Kc 137 228 1 10 := lw_K 58 rfl
theorem lk_140 : lw_Kc 140 211 1 11 := lw_K 59 rfl
theorem lk_141 : lw_Kc 141 144 0 10 := lw_K 60 rfl
theorem lk_144 : lw_Kc 144 161 0 11 := lw_K 61 rfl
theorem lk_145 : lw_Kc 145 80 1 10 := lw_K 62 rfl
theorem lk_148 : lw_Kc 148 117 1 11 := lw_K 63 rfl
theorem lk_149 : lw_Kc 149 81 1 10 := lw_K 64 rfl
theorem lk_152 : lw_Kc 152 118 1 11 := lw_K 65 rfl
theorem lk_153 : lw_Kc 153 244 0 10 := lw_K 66 rfl
theorem lk_156 : lw_Kc 156 247 0 11 := lw_K 67 rfl
theorem lk_157 : lw_Kc 157 27 0 10 := lw_K 68 rfl
theorem lk_160 : lw_Kc 160 44 0 11 := lw_K 69 rfl
theorem lk_161 : lw_Kc 161 28 2 10 := lw_K 70 rfl
theorem lk_165 : lw_Kc 165 87 2 11 := lw_K 71 rfl
theorem lk_166 : lw_Kc 166 206 0 10 := lw_K 72 rfl
theorem lk_169 : lw_Kc 169 88 0 11 := lw_K 73 rfl
theorem lk_170 : lw_Kc 170 181 0 10 := lw_K 74 rfl
theorem lk_173 : lw_Kc 173 89 0 11 := lw_K 75 rfl
theorem lk_174 : lw_Kc 174 182 0 10 := lw_K 76 rfl
theorem lk_177 : lw_Kc 177 90 0 11 := lw_K 77 rfl
