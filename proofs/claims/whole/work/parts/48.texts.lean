/-! ===== the texts of the forms: their lengths and characters ===== -/
abbrev jsb (t : Nat) : List Int32 := jb_SB.getD (t - 1000000) []
section SZ
variable {i pc k a b : Nat} {ls st : List Value} {h : jb_H} {σ : jm_S}
theorem sy_sv {r y : Nat} (ho : jb_op i pc = some (.getfield y, 14, 0, b)) (hr : 1000000 ≤ r ∧ r < 1000010) : jb_Ex i (pc, ls, .ref r :: st, h) = jb_Ex i (pc + 3, ls, .ref (r + 100) :: st, h) := sx_of ho (by unfold jb_ex; dsimp only; rw [if_neg (by decide), if_pos rfl, if_pos hr]; rfl)
theorem sy_sc {r y : Nat} (ho : jb_op i pc = some (.getfield y, 14, a, b)) (hr : 1000000 ≤ r ∧ r < 1000010) (ha : a ≠ 0) : jb_Ex i (pc, ls, .ref r :: st, h) = jb_Ex i (pc + 3, ls, .int (jI 0) :: st, h) := sx_of ho (by unfold jb_ex; dsimp only; rw [if_neg (by decide), if_pos rfl, if_pos hr, if_neg ha]; rfl)
theorem sy_gs {y : Nat} (ho : jb_op i pc = some (.getstatic y, 13, 0, b)) : jb_Ex i (pc, ls, st, h) = jb_Ex i (pc + 3, ls, .int (jI 1) :: st, h) := sx_of ho (by unfold jb_ex; dsimp only; rw [if_pos rfl]; rfl)
theorem sy_gf {y : Nat} (ho : jb_op i pc = some (.getstatic y, 13, a, b)) (ha : a ≠ 0) : jb_Ex i (pc, ls, st, h) = jb_Ex i (pc + 3, ls, .ref 1000200 :: st, h) := sx_of ho (by unfold jb_ex; dsimp only; rw [if_pos rfl, if_neg ha]; rfl)
theorem sy_i2b {x : Int32} (ho : jb_op i pc = some (.i2b, k, a, b)) : jb_Ex i (pc, ls, .int x :: st, h) = jb_Ex i (pc + 1, ls, .int (x.toInt8.toInt32) :: st, h) := sx_un ho rfl
theorem sy_by {r : Nat} (ho : jb_op i pc = some (.arraylength, k, a, b)) (hr : 1000000 ≤ r ∧ r < 1000010) : jb_Ex i (pc, ls, .ref (r + 100) :: st, h) = jb_Ex i (pc + 1, ls, .int (jI (jsb r).length) :: st, h) := by
  have e : r + 100 - 1000100 = r - 1000000 := by omega
  exact sx_of ho (by unfold jb_ex; dsimp only; rw [if_neg (show ¬ r + 100 < 1000000 by omega), if_pos (show 1000100 ≤ r + 100 ∧ r + 100 < 1000110 by omega), e]; rfl)
theorem sy_bl {r : Nat} {j : Int32} (ho : jb_op i pc = some (.baload, k, a, b)) (hr : 1000000 ≤ r ∧ r < 1000010) : jb_Ex i (pc, ls, .int j :: .ref (r + 100) :: st, h) = if jx j (jsb r).length then jb_Ex i (pc + 1, ls, .int ((jsb r).getD j.toNatClampNeg 0) :: st, h) else none := by
  have e : r + 100 - 1000100 = r - 1000000 := by omega
  by_cases hj : jx j (jsb r).length
  · rw [if_pos hj]
    exact sx_of ho (by unfold jb_ex; dsimp only; rw [e, if_pos ⟨(show 1000100 ≤ r + 100 by omega), (show r + 100 < 1000110 by omega), hj⟩]; rfl)
  · rw [if_neg hj]
    exact sx_no ho (by unfold jb_ex; dsimp only; rw [e, if_neg (fun z => hj z.2.2)])
end SZ
theorem jo_21_0 : jb_op 21 0 = some (.getstatic 38, 13, 0, 0) := by decide +kernel
theorem jo_21_3 : jb_op 21 3 = some (.ifCond .eq (10), 99, 0, 0) := by decide +kernel
theorem jo_21_6 : jb_op 21 6 = some (.aload_n 0, 99, 0, 0) := by decide +kernel
theorem jo_21_7 : jb_op 21 7 = some (.getfield 15, 14, 1, 0) := by decide +kernel
theorem jo_21_10 : jb_op 21 10 = some (.goto 4, 99, 0, 0) := by decide +kernel
theorem jo_21_14 : jb_op 21 14 = some (.ireturn, 99, 0, 0) := by decide +kernel
theorem jr_21 : jb_ret 21 = (some .byte) := by decide +kernel
theorem jl_21 : jb_ml 21 = 1 := by decide +kernel
theorem jo_22_0 : jb_op 22 0 = some (.getstatic 38, 13, 0, 0) := by decide +kernel
theorem jo_22_3 : jb_op 22 3 = some (.ifCond .eq (14), 99, 0, 0) := by decide +kernel
theorem jo_22_6 : jb_op 22 6 = some (.aload_n 0, 99, 0, 0) := by decide +kernel
theorem jo_22_7 : jb_op 22 7 = some (.getfield 15, 14, 1, 0) := by decide +kernel
theorem jo_22_10 : jb_op 22 10 = some (.ifCond .ne (7), 99, 0, 0) := by decide +kernel
theorem jo_22_13 : jb_op 22 13 = some (.iconst 1, 99, 0, 0) := by decide +kernel
theorem jo_22_14 : jb_op 22 14 = some (.goto 4, 99, 0, 0) := by decide +kernel
theorem jo_22_18 : jb_op 22 18 = some (.ireturn, 99, 0, 0) := by decide +kernel
theorem jr_22 : jb_ret 22 = (some .boolean) := by decide +kernel
theorem jl_22 : jb_ml 22 = 1 := by decide +kernel
theorem jo_23_0 : jb_op 23 0 = some (.iload_n 0, 99, 0, 0) := by decide +kernel
theorem jo_23_1 : jb_op 23 1 = some (.ifCond .lt (8), 99, 0, 0) := by decide +kernel
theorem jo_23_4 : jb_op 23 4 = some (.iload_n 0, 99, 0, 0) := by decide +kernel
theorem jo_23_5 : jb_op 23 5 = some (.iload_n 1, 99, 0, 0) := by decide +kernel
theorem jo_23_6 : jb_op 23 6 = some (.if_icmp .lt (10), 99, 0, 0) := by decide +kernel
theorem jo_23_16 : jb_op 23 16 = some (.iload_n 0, 99, 0, 0) := by decide +kernel
theorem jo_23_17 : jb_op 23 17 = some (.ireturn, 99, 0, 0) := by decide +kernel
theorem jr_23 : jb_ret 23 = (some .int) := by decide +kernel
theorem jl_23 : jb_ml 23 = 3 := by decide +kernel
theorem jo_25_0 : jb_op 25 0 = some (.iload_n 0, 99, 0, 0) := by decide +kernel
theorem jo_25_1 : jb_op 25 1 = some (.ifCond .lt (14), 99, 0, 0) := by decide +kernel
theorem jo_25_15 : jb_op 25 15 = some (.iconst 0, 99, 0, 0) := by decide +kernel
theorem jo_25_16 : jb_op 25 16 = some (.ireturn, 99, 0, 0) := by decide +kernel
theorem jr_25 : jb_ret 25 = (some .boolean) := by decide +kernel
theorem jo_25_4 : jb_op 25 4 = some (.iload_n 0, 99, 0, 0) := by decide +kernel
theorem jo_25_5 : jb_op 25 5 = some (.sipush 255, 99, 0, 0) := by decide +kernel
theorem jo_25_8 : jb_op 25 8 = some (.if_icmp .gt (7), 99, 0, 0) := by decide +kernel
theorem jo_25_11 : jb_op 25 11 = some (.iconst 1, 99, 0, 0) := by decide +kernel
theorem jo_25_12 : jb_op 25 12 = some (.goto 4, 99, 0, 0) := by decide +kernel
theorem jl_25 : jb_ml 25 = 1 := by decide +kernel
theorem jo_26_0 : jb_op 26 0 = some (.iload_n 1, 99, 0, 0) := by decide +kernel
theorem jo_26_1 : jb_op 26 1 = some (.i2b, 99, 0, 0) := by decide +kernel
theorem jo_26_2 : jb_op 26 2 = some (.istore 4, 99, 0, 0) := by decide +kernel
theorem jo_26_4 : jb_op 26 4 = some (.iload_n 2, 99, 0, 0) := by decide +kernel
theorem jo_26_5 : jb_op 26 5 = some (.istore 5, 99, 0, 0) := by decide +kernel
theorem jo_26_7 : jb_op 26 7 = some (.iload 5, 99, 0, 0) := by decide +kernel
theorem jo_26_9 : jb_op 26 9 = some (.iload_n 3, 99, 0, 0) := by decide +kernel
theorem jo_26_10 : jb_op 26 10 = some (.if_icmp .ge (21), 99, 0, 0) := by decide +kernel
theorem jo_26_31 : jb_op 26 31 = some (.iconst (-1), 99, 0, 0) := by decide +kernel
theorem jo_26_32 : jb_op 26 32 = some (.ireturn, 99, 0, 0) := by decide +kernel
theorem jr_26 : jb_ret 26 = (some .int) := by decide +kernel
theorem jo_26_13 : jb_op 26 13 = some (.aload_n 0, 99, 0, 0) := by decide +kernel
theorem jo_26_14 : jb_op 26 14 = some (.iload 5, 99, 0, 0) := by decide +kernel
theorem jo_26_16 : jb_op 26 16 = some (.baload, 99, 0, 0) := by decide +kernel
theorem jo_26_17 : jb_op 26 17 = some (.iload 4, 99, 0, 0) := by decide +kernel
theorem jo_26_19 : jb_op 26 19 = some (.if_icmp .ne (6), 99, 0, 0) := by decide +kernel
theorem jo_26_22 : jb_op 26 22 = some (.iload 5, 99, 0, 0) := by decide +kernel
theorem jo_26_24 : jb_op 26 24 = some (.ireturn, 99, 0, 0) := by decide +kernel
theorem jo_26_25 : jb_op 26 25 = some (.iinc 5 1, 99, 0, 0) := by decide +kernel
theorem jo_26_28 : jb_op 26 28 = some (.goto (-21), 99, 0, 0) := by decide +kernel
theorem jl_26 : jb_ml 26 = 6 := by decide +kernel
theorem jo_82_0 : jb_op 82 0 = some (.aload_n 0, 99, 0, 0) := by decide +kernel
theorem jo_82_1 : jb_op 82 1 = some (.getfield 9, 14, 0, 0) := by decide +kernel
theorem jo_82_4 : jb_op 82 4 = some (.arraylength, 99, 0, 0) := by decide +kernel
theorem jo_82_5 : jb_op 82 5 = some (.aload_n 0, 99, 0, 0) := by decide +kernel
theorem jo_82_6 : jb_op 82 6 = some (.invokevirtual 335, 2, 21, 0) := by decide +kernel
theorem jh_21_82 : jb_ht 21 < jb_ht 82 := by decide +kernel
theorem jw_21 : jb_ow 21 = 13 := by decide +kernel
theorem jo_82_9 : jb_op 82 9 = some (.ishr, 99, 0, 0) := by decide +kernel
theorem jo_82_10 : jb_op 82 10 = some (.ireturn, 99, 0, 0) := by decide +kernel
theorem jr_82 : jb_ret 82 = (some .int) := by decide +kernel
theorem jl_82 : jb_ml 82 = 1 := by decide +kernel
theorem jo_83_0 : jb_op 83 0 = some (.iload_n 0, 99, 0, 0) := by decide +kernel
theorem jo_83_1 : jb_op 83 1 = some (.iload_n 1, 99, 0, 0) := by decide +kernel
theorem jo_83_2 : jb_op 83 2 = some (.getstatic 1053, 13, 1, 0) := by decide +kernel
theorem jo_83_5 : jb_op 83 5 = some (.invokestatic 1059, 4, 23, 3) := by decide +kernel
theorem jh_23_83 : jb_ht 23 < jb_ht 83 := by decide +kernel
theorem jo_83_8 : jb_op 83 8 = some (.pop, 99, 0, 0) := by decide +kernel
theorem jo_83_9 : jb_op 83 9 = some (.return_, 99, 0, 0) := by decide +kernel
theorem jr_83 : jb_ret 83 = none := by decide +kernel
theorem jl_83 : jb_ml 83 = 2 := by decide +kernel
theorem jo_85_0 : jb_op 85 0 = some (.iload_n 1, 99, 0, 0) := by decide +kernel
theorem jo_85_1 : jb_op 85 1 = some (.invokestatic 88, 4, 25, 1) := by decide +kernel
theorem jh_25_85 : jb_ht 25 < jb_ht 85 := by decide +kernel
theorem jo_85_4 : jb_op 85 4 = some (.ifCond .ne (5), 99, 0, 0) := by decide +kernel
theorem jo_85_7 : jb_op 85 7 = some (.iconst (-1), 99, 0, 0) := by decide +kernel
theorem jo_85_8 : jb_op 85 8 = some (.ireturn, 99, 0, 0) := by decide +kernel
theorem jr_85 : jb_ret 85 = (some .int) := by decide +kernel
theorem jo_85_9 : jb_op 85 9 = some (.iload_n 2, 99, 0, 0) := by decide +kernel
theorem jo_85_10 : jb_op 85 10 = some (.iconst 0, 99, 0, 0) := by decide +kernel
theorem jo_85_11 : jb_op 85 11 = some (.invokestatic 92, 15, 0, 0) := by decide +kernel
theorem jo_85_14 : jb_op 85 14 = some (.istore_n 2, 99, 0, 0) := by decide +kernel
theorem jo_85_15 : jb_op 85 15 = some (.iload_n 3, 99, 0, 0) := by decide +kernel
theorem jo_85_16 : jb_op 85 16 = some (.aload_n 0, 99, 0, 0) := by decide +kernel
theorem jo_85_17 : jb_op 85 17 = some (.arraylength, 99, 0, 0) := by decide +kernel
theorem jo_85_18 : jb_op 85 18 = some (.invokestatic 38, 15, 1, 0) := by decide +kernel
theorem jo_85_21 : jb_op 85 21 = some (.istore_n 3, 99, 0, 0) := by decide +kernel
theorem jo_85_22 : jb_op 85 22 = some (.iload_n 2, 99, 0, 0) := by decide +kernel
theorem jo_85_23 : jb_op 85 23 = some (.iload_n 3, 99, 0, 0) := by decide +kernel
theorem jo_85_24 : jb_op 85 24 = some (.if_icmp .lt (5), 99, 0, 0) := by decide +kernel
theorem jo_85_29 : jb_op 85 29 = some (.aload_n 0, 99, 0, 0) := by decide +kernel
theorem jo_85_30 : jb_op 85 30 = some (.iload_n 1, 99, 0, 0) := by decide +kernel
theorem jo_85_31 : jb_op 85 31 = some (.iload_n 2, 99, 0, 0) := by decide +kernel
theorem jo_85_32 : jb_op 85 32 = some (.iload_n 3, 99, 0, 0) := by decide +kernel
theorem jo_85_33 : jb_op 85 33 = some (.invokestatic 95, 4, 26, 4) := by decide +kernel
theorem jh_26_85 : jb_ht 26 < jb_ht 85 := by decide +kernel
theorem jo_85_27 : jb_op 85 27 = some (.iconst (-1), 99, 0, 0) := by decide +kernel
theorem jo_85_28 : jb_op 85 28 = some (.ireturn, 99, 0, 0) := by decide +kernel
theorem jo_85_36 : jb_op 85 36 = some (.ireturn, 99, 0, 0) := by decide +kernel
theorem jl_85 : jb_ml 85 = 4 := by decide +kernel
theorem jo_145_0 : jb_op 145 0 = some (.iload_n 1, 99, 0, 0) := by decide +kernel
theorem jo_145_1 : jb_op 145 1 = some (.aload_n 0, 99, 0, 0) := by decide +kernel
theorem jo_145_2 : jb_op 145 2 = some (.arraylength, 99, 0, 0) := by decide +kernel
theorem jo_145_3 : jb_op 145 3 = some (.invokestatic 9, 4, 83, 2) := by decide +kernel
theorem jh_83_145 : jb_ht 83 < jb_ht 145 := by decide +kernel
theorem jo_145_6 : jb_op 145 6 = some (.aload_n 0, 99, 0, 0) := by decide +kernel
theorem jo_145_7 : jb_op 145 7 = some (.iload_n 1, 99, 0, 0) := by decide +kernel
theorem jo_145_8 : jb_op 145 8 = some (.baload, 99, 0, 0) := by decide +kernel
theorem jo_145_9 : jb_op 145 9 = some (.sipush 255, 99, 0, 0) := by decide +kernel
theorem jo_145_12 : jb_op 145 12 = some (.iand, 99, 0, 0) := by decide +kernel
theorem jo_145_13 : jb_op 145 13 = some (.i2c, 99, 0, 0) := by decide +kernel
theorem jo_145_14 : jb_op 145 14 = some (.ireturn, 99, 0, 0) := by decide +kernel
theorem jr_145 : jb_ret 145 = (some .char) := by decide +kernel
theorem jl_145 : jb_ml 145 = 2 := by decide +kernel
theorem jo_147_0 : jb_op 147 0 = some (.aload_n 0, 99, 0, 0) := by decide +kernel
theorem jo_147_1 : jb_op 147 1 = some (.invokevirtual 492, 2, 22, 0) := by decide +kernel
theorem jh_22_147 : jb_ht 22 < jb_ht 147 := by decide +kernel
theorem jw_22 : jb_ow 22 = 13 := by decide +kernel
theorem jo_147_4 : jb_op 147 4 = some (.ifCond .eq (19), 99, 0, 0) := by decide +kernel
theorem jo_147_7 : jb_op 147 7 = some (.aload_n 0, 99, 0, 0) := by decide +kernel
theorem jo_147_8 : jb_op 147 8 = some (.getfield 9, 14, 0, 0) := by decide +kernel
theorem jo_147_11 : jb_op 147 11 = some (.iload_n 1, 99, 0, 0) := by decide +kernel
theorem jo_147_12 : jb_op 147 12 = some (.iload_n 2, 99, 0, 0) := by decide +kernel
theorem jo_147_13 : jb_op 147 13 = some (.aload_n 0, 99, 0, 0) := by decide +kernel
theorem jo_147_14 : jb_op 147 14 = some (.invokevirtual 505, 2, 82, 0) := by decide +kernel
theorem jh_82_147 : jb_ht 82 < jb_ht 147 := by decide +kernel
theorem jo_147_17 : jb_op 147 17 = some (.invokestatic 637, 4, 85, 4) := by decide +kernel
theorem jh_85_147 : jb_ht 85 < jb_ht 147 := by decide +kernel
theorem jo_147_20 : jb_op 147 20 = some (.goto 16, 99, 0, 0) := by decide +kernel
theorem jo_147_36 : jb_op 147 36 = some (.ireturn, 99, 0, 0) := by decide +kernel
theorem jr_147 : jb_ret 147 = (some .int) := by decide +kernel
theorem jl_147 : jb_ml 147 = 3 := by decide +kernel
theorem jo_178_0 : jb_op 178 0 = some (.aload_n 0, 99, 0, 0) := by decide +kernel
theorem jo_178_1 : jb_op 178 1 = some (.invokevirtual 492, 2, 22, 0) := by decide +kernel
theorem jh_22_178 : jb_ht 22 < jb_ht 178 := by decide +kernel
theorem jo_178_4 : jb_op 178 4 = some (.ifCond .eq (12), 99, 0, 0) := by decide +kernel
theorem jo_178_7 : jb_op 178 7 = some (.aload_n 0, 99, 0, 0) := by decide +kernel
theorem jo_178_8 : jb_op 178 8 = some (.getfield 9, 14, 0, 0) := by decide +kernel
theorem jo_178_11 : jb_op 178 11 = some (.iload_n 1, 99, 0, 0) := by decide +kernel
theorem jo_178_12 : jb_op 178 12 = some (.invokestatic 495, 4, 145, 2) := by decide +kernel
theorem jh_145_178 : jb_ht 145 < jb_ht 178 := by decide +kernel
theorem jo_178_15 : jb_op 178 15 = some (.ireturn, 99, 0, 0) := by decide +kernel
theorem jr_178 : jb_ret 178 = (some .char) := by decide +kernel
theorem jl_178 : jb_ml 178 = 2 := by decide +kernel
theorem jo_179_0 : jb_op 179 0 = some (.aload_n 0, 99, 0, 0) := by decide +kernel
theorem jo_179_1 : jb_op 179 1 = some (.iload_n 1, 99, 0, 0) := by decide +kernel
theorem jo_179_2 : jb_op 179 2 = some (.iconst 0, 99, 0, 0) := by decide +kernel
theorem jo_179_3 : jb_op 179 3 = some (.invokevirtual 633, 2, 147, 2) := by decide +kernel
theorem jh_147_179 : jb_ht 147 < jb_ht 179 := by decide +kernel
theorem jw_147 : jb_ow 147 = 13 := by decide +kernel
theorem jo_179_6 : jb_op 179 6 = some (.ireturn, 99, 0, 0) := by decide +kernel
theorem jr_179 : jb_ret 179 = (some .int) := by decide +kernel
theorem jl_179 : jb_ml 179 = 2 := by decide +kernel
theorem jt_Str_coder_0 {t0 : Nat} {σ : jm_S} (h_t0 : 1000000 ≤ t0 ∧ t0 < 1000010) : jb_Ev 21 [.ref t0] (jm_hp σ) = some (some (.int (jI 0)), jm_hp σ) :=
  (sx_ent (ls := [.ref t0]) (by rw [jl_21]; rfl) (by rw [jl_21]; exact Nat.le_of_ble_eq_true rfl) rfl).trans ((sy_gs jo_21_0).trans ((sy_if_eq (t := 13) jo_21_3 (by decide)).trans ((if_neg (by decide +kernel)).trans ((sx_aload_n jo_21_6 rfl).trans ((sy_sc jo_21_7 h_t0 (by decide)).trans ((sx_goto (t := 14) jo_21_10 (by decide)).trans (sx_ir jo_21_14 jr_21 (by decide) (by decide +kernel))))))))
theorem jt_Str_isLatin1_0 {t0 : Nat} {σ : jm_S} (h_t0 : 1000000 ≤ t0 ∧ t0 < 1000010) : jb_Ev 22 [.ref t0] (jm_hp σ) = some (some (.int (jI 1)), jm_hp σ) :=
  (sx_ent (ls := [.ref t0]) (by rw [jl_22]; rfl) (by rw [jl_22]; exact Nat.le_of_ble_eq_true rfl) rfl).trans ((sy_gs jo_22_0).trans ((sy_if_eq (t := 17) jo_22_3 (by decide)).trans ((if_neg (by decide +kernel)).trans ((sx_aload_n jo_22_6 rfl).trans ((sy_sc jo_22_7 h_t0 (by decide)).trans ((sy_if_ne (t := 17) jo_22_10 (by decide)).trans ((if_pos (by decide +kernel)).trans ((sy_ic (x := (jI 1)) jo_22_13 (by decide +kernel)).trans ((sx_goto (t := 18) jo_22_14 (by decide)).trans (sx_ir jo_22_18 jr_22 (by decide) (by decide +kernel)))))))))))
theorem jt_Pre_checkIndex_0 {x0 x1 : Int32} {σ : jm_S} (hp0 : ¬ x0 < 0) (hp1 : x0 < x1) : jb_Ev 23 [.int x0, .int x1, .ref 1000200] (jm_hp σ) = some (some (.int x0), jm_hp σ) :=
  (sx_ent (ls := [.int x0, .int x1, .ref 1000200]) (by rw [jl_23]; rfl) (by rw [jl_23]; exact Nat.le_of_ble_eq_true rfl) rfl).trans ((sx_iload_n jo_23_0 rfl).trans ((sy_if_lt (t := 9) jo_23_1 (by decide)).trans ((if_neg hp0).trans ((sx_iload_n jo_23_4 rfl).trans ((sx_iload_n jo_23_5 rfl).trans ((sy_ic_lt (t := 16) jo_23_6 (by decide)).trans ((if_pos hp1).trans ((sx_iload_n jo_23_16 rfl).trans (sx_ir jo_23_17 jr_23 (by decide) rfl)))))))))
theorem jt_L1_canEncode_0 {x0 : Int32} {σ : jm_S} : jb_Ev 25 [.int x0] (jm_hp σ) = (if x0 < 0 then some (some (.int (jI 0)), jm_hp σ) else (if (jI 255) < x0 then some (some (.int (jI 0)), jm_hp σ) else some (some (.int (jI 1)), jm_hp σ))) :=
  (sx_ent (ls := [.int x0]) (by rw [jl_25]; rfl) (by rw [jl_25]; exact Nat.le_of_ble_eq_true rfl) rfl).trans ((sx_iload_n jo_25_0 rfl).trans ((sy_if_lt (t := 15) jo_25_1 (by decide)).trans (jt_ite (fun hc0 => (sy_ic (x := (jI 0)) jo_25_15 (by decide +kernel)).trans (sx_ir jo_25_16 jr_25 (by decide) (by decide +kernel))) (fun hc0 => (sx_iload_n jo_25_4 rfl).trans ((sy_sp (x := (jI 255)) jo_25_5 (by decide +kernel)).trans ((sy_ic_gt (t := 15) jo_25_8 (by decide)).trans (jt_ite (fun hc1 => (sy_ic (x := (jI 0)) jo_25_15 (by decide +kernel)).trans (sx_ir jo_25_16 jr_25 (by decide) (by decide +kernel))) (fun hc1 => (sy_ic (x := (jI 1)) jo_25_11 (by decide +kernel)).trans ((sx_goto (t := 16) jo_25_12 (by decide)).trans (sx_ir jo_25_16 jr_25 (by decide) (by decide +kernel)))))))))))
theorem jt_L1_indexOfChar_0 {x1 x2 x3 : Int32} {t0 : Nat} {σ : jm_S} (h_t0 : 1000000 ≤ t0 ∧ t0 < 1000010) : jb_Ev 26 [.ref (t0 + 100), .int x1, .int x2, .int x3] (jm_hp σ) = jb_Ex 26 (7, [.ref (t0 + 100), .int x1, .int x2, .int x3, .int (x1.toInt8.toInt32), .int x2], [], jm_hp σ) :=
  (sx_ent (ls := [.ref (t0 + 100), .int x1, .int x2, .int x3, .retAddr 0, .retAddr 0]) (by rw [jl_26]; rfl) (by rw [jl_26]; exact Nat.le_of_ble_eq_true rfl) rfl).trans ((sx_iload_n jo_26_0 rfl).trans ((sy_i2b jo_26_1).trans ((sx_istore jo_26_2 (Nat.le_of_ble_eq_true rfl) rfl).trans ((sx_iload_n jo_26_4 rfl).trans (sx_istore jo_26_5 (Nat.le_of_ble_eq_true rfl) rfl)))))
theorem jt_L1_indexOfChar_7 {x1 x2 x3 x4 x5 : Int32} {t0 : Nat} {σ : jm_S} (h_t0 : 1000000 ≤ t0 ∧ t0 < 1000010) : jb_Ex 26 (7, [.ref (t0 + 100), .int x1, .int x2, .int x3, .int x4, .int x5], [], jm_hp σ) = (if x3 ≤ x5 then some (some (.int (-1 : Int32)), jm_hp σ) else (if jx x5 (jsb t0).length then (if ((jsb t0).getD x5.toNatClampNeg 0) = x4 then some (some (.int x5), jm_hp σ) else jb_Ex 26 (7, [.ref (t0 + 100), .int x1, .int x2, .int x3, .int x4, .int (x5 + (jI 1))], [], jm_hp σ)) else none)) :=
  (sx_iload jo_26_7 rfl).trans ((sx_iload_n jo_26_9 rfl).trans ((sy_ic_ge (t := 31) jo_26_10 (by decide)).trans (jt_ite (fun hc0 => (sy_ic (x := (-1 : Int32)) jo_26_31 (by decide +kernel)).trans (sx_ir jo_26_32 jr_26 (by decide) rfl)) (fun hc0 => (sx_aload_n jo_26_13 rfl).trans ((sx_iload jo_26_14 rfl).trans ((sy_bl jo_26_16 h_t0).trans (jt_ite (fun _ => (sx_iload jo_26_17 rfl).trans ((sy_ic_ne (t := 25) jo_26_19 (by decide)).trans (jt_ite (fun hc1 => (sx_iload jo_26_22 rfl).trans (sx_ir jo_26_24 jr_26 (by decide) rfl)) (fun hc1 => (sx_iinc (y := (jI 1)) jo_26_25 rfl (by decide +kernel) rfl).trans (sx_goto (t := 7) jo_26_28 (by decide)))))) (fun _ => rfl))))))))
theorem jt_Str_length_0 {t0 : Nat} {σ : jm_S} (h_t0 : 1000000 ≤ t0 ∧ t0 < 1000010) : jb_Ev 82 [.ref t0] (jm_hp σ) = jb_K (jb_Ev 21 [.ref t0] (jm_hp σ)) (fun v h => jb_Ex 82 (9, [.ref t0], v.toList ++ [.int (jI (jsb t0).length)], h)) :=
  (sx_ent (ls := [.ref t0]) (by rw [jl_82]; rfl) (by rw [jl_82]; exact Nat.le_of_ble_eq_true rfl) rfl).trans ((sx_aload_n jo_82_0 rfl).trans ((sy_sv jo_82_1 h_t0).trans ((sy_by jo_82_4 h_t0).trans ((sx_aload_n jo_82_5 rfl).trans (sy_iv (r := t0) (as := []) (rest := [.int (jI (jsb t0).length)]) jo_82_6 (Or.inl ⟨_, rfl, by decide⟩) jh_21_82 rfl rfl jw_21 (js_recv h_t0) (Nat.le_of_ble_eq_true rfl))))))
theorem jt_Str_length_9 {y0 y1 : Int32} {t0 : Nat} {σ : jm_S} (h_t0 : 1000000 ≤ t0 ∧ t0 < 1000010) : jb_Ex 82 (9, [.ref t0], [.int y0, .int y1], jm_hp σ) = some (some (.int (y1 >>> (y0 &&& 31))), jm_hp σ) :=
  (sy_ishr jo_82_9).trans (sx_ir jo_82_10 jr_82 (by decide) rfl)
theorem jt_Str_checkIndex_0 {x0 x1 : Int32} {σ : jm_S} : jb_Ev 83 [.int x0, .int x1] (jm_hp σ) = jb_K (jb_Ev 23 [.int x0, .int x1, .ref 1000200] (jm_hp σ)) (fun v h => jb_Ex 83 (8, [.int x0, .int x1], v.toList ++ [], h)) :=
  (sx_ent (ls := [.int x0, .int x1]) (by rw [jl_83]; rfl) (by rw [jl_83]; exact Nat.le_of_ble_eq_true rfl) rfl).trans ((sx_iload_n jo_83_0 rfl).trans ((sx_iload_n jo_83_1 rfl).trans ((sy_gf jo_83_2 (by decide)).trans (sx_is (as := [.int x0, .int x1, .ref 1000200]) (rest := []) jo_83_5 (by decide) jh_23_83 rfl rfl (Nat.le_of_ble_eq_true rfl)))))
theorem jt_Str_checkIndex_8 {x0 x1 y0 : Int32} {σ : jm_S} : jb_Ex 83 (8, [.int x0, .int x1], [.int y0], jm_hp σ) = some (none, jm_hp σ) :=
  (sx_pop jo_83_8 rfl).trans (sx_vr jo_83_9 jr_83)
theorem jt_L1_indexOf_0 {x1 x2 x3 : Int32} {t0 : Nat} {σ : jm_S} (h_t0 : 1000000 ≤ t0 ∧ t0 < 1000010) : jb_Ev 85 [.ref (t0 + 100), .int x1, .int x2, .int x3] (jm_hp σ) = jb_K (jb_Ev 25 [.int x1] (jm_hp σ)) (fun v h => jb_Ex 85 (4, [.ref (t0 + 100), .int x1, .int x2, .int x3], v.toList ++ [], h)) :=
  (sx_ent (ls := [.ref (t0 + 100), .int x1, .int x2, .int x3]) (by rw [jl_85]; rfl) (by rw [jl_85]; exact Nat.le_of_ble_eq_true rfl) rfl).trans ((sx_iload_n jo_85_0 rfl).trans (sx_is (as := [.int x1]) (rest := []) jo_85_1 (by decide) jh_25_85 rfl rfl (Nat.le_of_ble_eq_true rfl)))
theorem jt_L1_indexOf_4 {x1 x2 x3 y0 : Int32} {t0 : Nat} {σ : jm_S} (h_t0 : 1000000 ≤ t0 ∧ t0 < 1000010) : jb_Ex 85 (4, [.ref (t0 + 100), .int x1, .int x2, .int x3], [.int y0], jm_hp σ) = (if y0 = 0 then some (some (.int (-1 : Int32)), jm_hp σ) else (if (if x2 < (jI 0) then (jI 0) else x2) < (if (jI (jsb t0).length) < x3 then (jI (jsb t0).length) else x3) then jb_K (jb_Ev 26 [.ref (t0 + 100), .int x1, .int (if x2 < (jI 0) then (jI 0) else x2), .int (if (jI (jsb t0).length) < x3 then (jI (jsb t0).length) else x3)] (jm_hp σ)) (fun v h => jb_Ex 85 (36, [.ref (t0 + 100), .int x1, .int (if x2 < (jI 0) then (jI 0) else x2), .int (if (jI (jsb t0).length) < x3 then (jI (jsb t0).length) else x3)], v.toList ++ [], h)) else some (some (.int (-1 : Int32)), jm_hp σ))) :=
  (sy_if_ne (t := 9) jo_85_4 (by decide)).trans (jt_ite (fun hc0 => (sy_ic (x := (-1 : Int32)) jo_85_7 (by decide +kernel)).trans (sx_ir jo_85_8 jr_85 (by decide) rfl)) (fun hc0 => (sx_iload_n jo_85_9 rfl).trans ((sy_ic (x := (jI 0)) jo_85_10 (by decide +kernel)).trans ((sx_m2 (w := (if x2 < (jI 0) then (jI 0) else x2)) jo_85_11 (by decide) rfl (Nat.le_of_ble_eq_true rfl)).trans ((sx_istore_n jo_85_14 (Nat.le_of_ble_eq_true rfl) rfl).trans ((sx_iload_n jo_85_15 rfl).trans ((sx_aload_n jo_85_16 rfl).trans ((sy_by jo_85_17 h_t0).trans ((sx_m2 (w := (if (jI (jsb t0).length) < x3 then (jI (jsb t0).length) else x3)) jo_85_18 (by decide) rfl (Nat.le_of_ble_eq_true rfl)).trans ((sx_istore_n jo_85_21 (Nat.le_of_ble_eq_true rfl) rfl).trans ((sx_iload_n jo_85_22 rfl).trans ((sx_iload_n jo_85_23 rfl).trans ((sy_ic_lt (t := 29) jo_85_24 (by decide)).trans (jt_ite (fun hc1 => (sx_aload_n jo_85_29 rfl).trans ((sx_iload_n jo_85_30 rfl).trans ((sx_iload_n jo_85_31 rfl).trans ((sx_iload_n jo_85_32 rfl).trans (sx_is (as := [.ref (t0 + 100), .int x1, .int (if x2 < (jI 0) then (jI 0) else x2), .int (if (jI (jsb t0).length) < x3 then (jI (jsb t0).length) else x3)]) (rest := []) jo_85_33 (by decide) jh_26_85 rfl rfl (Nat.le_of_ble_eq_true rfl)))))) (fun hc1 => (sy_ic (x := (-1 : Int32)) jo_85_27 (by decide +kernel)).trans (sx_ir jo_85_28 jr_85 (by decide) rfl))))))))))))))))
theorem jt_L1_indexOf_36 {x1 x2 x3 y0 : Int32} {t0 : Nat} {σ : jm_S} (h_t0 : 1000000 ≤ t0 ∧ t0 < 1000010) : jb_Ex 85 (36, [.ref (t0 + 100), .int x1, .int x2, .int x3], [.int y0], jm_hp σ) = some (some (.int y0), jm_hp σ) :=
  sx_ir jo_85_36 jr_85 (by decide) rfl
theorem jt_L1_charAt_0 {x1 : Int32} {t0 : Nat} {σ : jm_S} (h_t0 : 1000000 ≤ t0 ∧ t0 < 1000010) : jb_Ev 145 [.ref (t0 + 100), .int x1] (jm_hp σ) = jb_K (jb_Ev 83 [.int x1, .int (jI (jsb t0).length)] (jm_hp σ)) (fun v h => jb_Ex 145 (6, [.ref (t0 + 100), .int x1], v.toList ++ [], h)) :=
  (sx_ent (ls := [.ref (t0 + 100), .int x1]) (by rw [jl_145]; rfl) (by rw [jl_145]; exact Nat.le_of_ble_eq_true rfl) rfl).trans ((sx_iload_n jo_145_0 rfl).trans ((sx_aload_n jo_145_1 rfl).trans ((sy_by jo_145_2 h_t0).trans (sx_is (as := [.int x1, .int (jI (jsb t0).length)]) (rest := []) jo_145_3 (by decide) jh_83_145 rfl rfl (Nat.le_of_ble_eq_true rfl)))))
theorem jt_L1_charAt_6 {x1 : Int32} {t0 : Nat} {σ : jm_S} (h_t0 : 1000000 ≤ t0 ∧ t0 < 1000010) : jb_Ex 145 (6, [.ref (t0 + 100), .int x1], [], jm_hp σ) = (if jx x1 (jsb t0).length then jb_R .char ((((((jsb t0).getD x1.toNatClampNeg 0) &&& (jI 255))).toUInt32 % 65536).toInt32) (jm_hp σ) else none) :=
  (sx_aload_n jo_145_6 rfl).trans ((sx_iload_n jo_145_7 rfl).trans ((sy_bl jo_145_8 h_t0).trans (jt_ite (fun _ => (sy_sp (x := (jI 255)) jo_145_9 (by decide +kernel)).trans ((sy_iand jo_145_12).trans ((sy_i2c jo_145_13).trans (sy_ir jo_145_14 jr_145 (by decide))))) (fun _ => rfl))))
theorem jt_Str_indexOf2_0 {x1 x2 : Int32} {t0 : Nat} {σ : jm_S} (h_t0 : 1000000 ≤ t0 ∧ t0 < 1000010) : jb_Ev 147 [.ref t0, .int x1, .int x2] (jm_hp σ) = jb_K (jb_Ev 22 [.ref t0] (jm_hp σ)) (fun v h => jb_Ex 147 (4, [.ref t0, .int x1, .int x2], v.toList ++ [], h)) :=
  (sx_ent (ls := [.ref t0, .int x1, .int x2]) (by rw [jl_147]; rfl) (by rw [jl_147]; exact Nat.le_of_ble_eq_true rfl) rfl).trans ((sx_aload_n jo_147_0 rfl).trans (sy_iv (r := t0) (as := []) (rest := []) jo_147_1 (Or.inl ⟨_, rfl, by decide⟩) jh_22_147 rfl rfl jw_22 (js_recv h_t0) (Nat.le_of_ble_eq_true rfl)))
theorem jt_Str_indexOf2_4 {x1 x2 y0 : Int32} {t0 : Nat} {σ : jm_S} (h_t0 : 1000000 ≤ t0 ∧ t0 < 1000010) (hp0 : ¬ y0 = 0) : jb_Ex 147 (4, [.ref t0, .int x1, .int x2], [.int y0], jm_hp σ) = jb_K (jb_Ev 82 [.ref t0] (jm_hp σ)) (fun v h => jb_Ex 147 (17, [.ref t0, .int x1, .int x2], v.toList ++ [.int x2, .int x1, .ref (t0 + 100)], h)) :=
  (sy_if_eq (t := 23) jo_147_4 (by decide)).trans ((if_neg hp0).trans ((sx_aload_n jo_147_7 rfl).trans ((sy_sv jo_147_8 h_t0).trans ((sx_iload_n jo_147_11 rfl).trans ((sx_iload_n jo_147_12 rfl).trans ((sx_aload_n jo_147_13 rfl).trans (sy_iv (r := t0) (as := []) (rest := [.int x2, .int x1, .ref (t0 + 100)]) jo_147_14 (Or.inl ⟨_, rfl, by decide⟩) jh_82_147 rfl rfl jw_82 (js_recv h_t0) (Nat.le_of_ble_eq_true rfl))))))))
theorem jt_Str_indexOf2_17 {x1 x2 y0 y1 y2 : Int32} {t0 : Nat} {σ : jm_S} (h_t0 : 1000000 ≤ t0 ∧ t0 < 1000010) : jb_Ex 147 (17, [.ref t0, .int x1, .int x2], [.int y0, .int y1, .int y2, .ref (t0 + 100)], jm_hp σ) = jb_K (jb_Ev 85 [.ref (t0 + 100), .int y2, .int y1, .int y0] (jm_hp σ)) (fun v h => jb_Ex 147 (20, [.ref t0, .int x1, .int x2], v.toList ++ [], h)) :=
  sx_is (as := [.ref (t0 + 100), .int y2, .int y1, .int y0]) (rest := []) jo_147_17 (by decide) jh_85_147 rfl rfl (Nat.le_of_ble_eq_true rfl)
theorem jt_Str_indexOf2_20 {x1 x2 y0 : Int32} {t0 : Nat} {σ : jm_S} (h_t0 : 1000000 ≤ t0 ∧ t0 < 1000010) : jb_Ex 147 (20, [.ref t0, .int x1, .int x2], [.int y0], jm_hp σ) = some (some (.int y0), jm_hp σ) :=
  (sx_goto (t := 36) jo_147_20 (by decide)).trans (sx_ir jo_147_36 jr_147 (by decide) rfl)
theorem jt_Str_charAt_0 {x1 : Int32} {t0 : Nat} {σ : jm_S} (h_t0 : 1000000 ≤ t0 ∧ t0 < 1000010) : jb_Ev 178 [.ref t0, .int x1] (jm_hp σ) = jb_K (jb_Ev 22 [.ref t0] (jm_hp σ)) (fun v h => jb_Ex 178 (4, [.ref t0, .int x1], v.toList ++ [], h)) :=
  (sx_ent (ls := [.ref t0, .int x1]) (by rw [jl_178]; rfl) (by rw [jl_178]; exact Nat.le_of_ble_eq_true rfl) rfl).trans ((sx_aload_n jo_178_0 rfl).trans (sy_iv (r := t0) (as := []) (rest := []) jo_178_1 (Or.inl ⟨_, rfl, by decide⟩) jh_22_178 rfl rfl jw_22 (js_recv h_t0) (Nat.le_of_ble_eq_true rfl)))
theorem jt_Str_charAt_4 {x1 y0 : Int32} {t0 : Nat} {σ : jm_S} (h_t0 : 1000000 ≤ t0 ∧ t0 < 1000010) (hp0 : ¬ y0 = 0) : jb_Ex 178 (4, [.ref t0, .int x1], [.int y0], jm_hp σ) = jb_K (jb_Ev 145 [.ref (t0 + 100), .int x1] (jm_hp σ)) (fun v h => jb_Ex 178 (15, [.ref t0, .int x1], v.toList ++ [], h)) :=
  (sy_if_eq (t := 16) jo_178_4 (by decide)).trans ((if_neg hp0).trans ((sx_aload_n jo_178_7 rfl).trans ((sy_sv jo_178_8 h_t0).trans ((sx_iload_n jo_178_11 rfl).trans (sx_is (as := [.ref (t0 + 100), .int x1]) (rest := []) jo_178_12 (by decide) jh_145_178 rfl rfl (Nat.le_of_ble_eq_true rfl))))))
theorem jt_Str_charAt_15 {x1 y0 : Int32} {t0 : Nat} {σ : jm_S} (h_t0 : 1000000 ≤ t0 ∧ t0 < 1000010) : jb_Ex 178 (15, [.ref t0, .int x1], [.int y0], jm_hp σ) = jb_R .char y0 (jm_hp σ) :=
  sy_ir jo_178_15 jr_178 (by decide)
theorem jt_Str_indexOf_0 {x1 : Int32} {t0 : Nat} {σ : jm_S} (h_t0 : 1000000 ≤ t0 ∧ t0 < 1000010) : jb_Ev 179 [.ref t0, .int x1] (jm_hp σ) = jb_K (jb_Ev 147 [.ref t0, .int x1, .int (jI 0)] (jm_hp σ)) (fun v h => jb_Ex 179 (6, [.ref t0, .int x1], v.toList ++ [], h)) :=
  (sx_ent (ls := [.ref t0, .int x1]) (by rw [jl_179]; rfl) (by rw [jl_179]; exact Nat.le_of_ble_eq_true rfl) rfl).trans ((sx_aload_n jo_179_0 rfl).trans ((sx_iload_n jo_179_1 rfl).trans ((sy_ic (x := (jI 0)) jo_179_2 (by decide +kernel)).trans (sy_iv (r := t0) (as := [.int x1, .int (jI 0)]) (rest := []) jo_179_3 (Or.inl ⟨_, rfl, by decide⟩) jh_147_179 rfl rfl jw_147 (js_recv h_t0) (Nat.le_of_ble_eq_true rfl)))))
theorem jt_Str_indexOf_6 {x1 y0 : Int32} {t0 : Nat} {σ : jm_S} (h_t0 : 1000000 ≤ t0 ∧ t0 < 1000010) : jb_Ex 179 (6, [.ref t0, .int x1], [.int y0], jm_hp σ) = some (some (.int y0), jm_hp σ) :=
  sx_ir jo_179_6 jr_179 (by decide) rfl
