/-! ===== what stands where: by the kernel ===== -/
theorem jo_1_0 : jb_op 1 0 = some (.aload_n 0, 99, 0, 0) := by decide +kernel
theorem jo_1_1 : jb_op 1 1 = some (.getfield 9, 0, 6, 1) := by decide +kernel
theorem jo_1_4 : jb_op 1 4 = some (.ifCond .lt (15), 99, 0, 0) := by decide +kernel
theorem jo_1_19 : jb_op 1 19 = some (.return_, 99, 0, 0) := by decide +kernel
theorem jr_1 : jb_ret 1 = none := by decide +kernel
theorem jo_1_7 : jb_op 1 7 = some (.aload_n 0, 99, 0, 0) := by decide +kernel
theorem jo_1_8 : jb_op 1 8 = some (.getfield 9, 0, 6, 1) := by decide +kernel
theorem jo_1_11 : jb_op 1 11 = some (.aload_n 0, 99, 0, 0) := by decide +kernel
theorem jo_1_12 : jb_op 1 12 = some (.getfield 21, 0, 6, 0) := by decide +kernel
theorem jo_1_15 : jb_op 1 15 = some (.arraylength, 99, 0, 0) := by decide +kernel
theorem jo_1_16 : jb_op 1 16 = some (.if_icmp .lt (4), 99, 0, 0) := by decide +kernel
theorem jo_1_20 : jb_op 1 20 = some (.aload_n 0, 99, 0, 0) := by decide +kernel
theorem jo_1_21 : jb_op 1 21 = some (.getfield 21, 0, 6, 0) := by decide +kernel
theorem jo_1_24 : jb_op 1 24 = some (.aload_n 0, 99, 0, 0) := by decide +kernel
theorem jo_1_25 : jb_op 1 25 = some (.getfield 9, 0, 6, 1) := by decide +kernel
theorem jo_1_28 : jb_op 1 28 = some (.iload_n 1, 99, 0, 0) := by decide +kernel
theorem jo_1_29 : jb_op 1 29 = some (.iastore, 99, 0, 0) := by decide +kernel
theorem jo_1_30 : jb_op 1 30 = some (.aload_n 0, 99, 0, 0) := by decide +kernel
theorem jo_1_31 : jb_op 1 31 = some (.dup, 99, 0, 0) := by decide +kernel
theorem jo_1_32 : jb_op 1 32 = some (.getfield 9, 0, 6, 1) := by decide +kernel
theorem jo_1_35 : jb_op 1 35 = some (.iconst 1, 99, 0, 0) := by decide +kernel
theorem jo_1_36 : jb_op 1 36 = some (.iadd, 99, 0, 0) := by decide +kernel
theorem jo_1_37 : jb_op 1 37 = some (.putfield 9, 0, 6, 1) := by decide +kernel
theorem jty_6_1 : jb_Ty 6 1 = .int ∧ (jb_T 6 1).2.2.2 = false := by decide +kernel
theorem jo_1_40 : jb_op 1 40 = some (.return_, 99, 0, 0) := by decide +kernel
theorem jl_1 : jb_ml 1 = 2 := by decide +kernel
theorem jo_3_0 : jb_op 3 0 = some (.aload_n 0, 99, 0, 0) := by decide +kernel
theorem jo_3_1 : jb_op 3 1 = some (.iconst 0, 99, 0, 0) := by decide +kernel
theorem jo_3_2 : jb_op 3 2 = some (.putfield 9, 0, 6, 1) := by decide +kernel
theorem jo_3_5 : jb_op 3 5 = some (.iconst 0, 99, 0, 0) := by decide +kernel
theorem jo_3_6 : jb_op 3 6 = some (.istore_n 2, 99, 0, 0) := by decide +kernel
theorem jo_3_7 : jb_op 3 7 = some (.iload_n 2, 99, 0, 0) := by decide +kernel
theorem jo_3_8 : jb_op 3 8 = some (.aload_n 1, 99, 0, 0) := by decide +kernel
theorem jo_3_9 : jb_op 3 9 = some (.getfield 9, 0, 6, 1) := by decide +kernel
theorem jo_3_12 : jb_op 3 12 = some (.if_icmp .ge (49), 99, 0, 0) := by decide +kernel
theorem jo_3_61 : jb_op 3 61 = some (.return_, 99, 0, 0) := by decide +kernel
theorem jr_3 : jb_ret 3 = none := by decide +kernel
theorem jo_3_15 : jb_op 3 15 = some (.iload_n 2, 99, 0, 0) := by decide +kernel
theorem jo_3_16 : jb_op 3 16 = some (.aload_n 1, 99, 0, 0) := by decide +kernel
theorem jo_3_17 : jb_op 3 17 = some (.getfield 21, 0, 6, 0) := by decide +kernel
theorem jo_3_20 : jb_op 3 20 = some (.arraylength, 99, 0, 0) := by decide +kernel
theorem jo_3_21 : jb_op 3 21 = some (.if_icmp .ge (40), 99, 0, 0) := by decide +kernel
theorem jo_3_24 : jb_op 3 24 = some (.iload_n 2, 99, 0, 0) := by decide +kernel
theorem jo_3_25 : jb_op 3 25 = some (.aload_n 0, 99, 0, 0) := by decide +kernel
theorem jo_3_26 : jb_op 3 26 = some (.getfield 21, 0, 6, 0) := by decide +kernel
theorem jo_3_29 : jb_op 3 29 = some (.arraylength, 99, 0, 0) := by decide +kernel
theorem jo_3_30 : jb_op 3 30 = some (.if_icmp .ge (31), 99, 0, 0) := by decide +kernel
theorem jo_3_33 : jb_op 3 33 = some (.aload_n 0, 99, 0, 0) := by decide +kernel
theorem jo_3_34 : jb_op 3 34 = some (.getfield 21, 0, 6, 0) := by decide +kernel
theorem jo_3_37 : jb_op 3 37 = some (.iload_n 2, 99, 0, 0) := by decide +kernel
theorem jo_3_38 : jb_op 3 38 = some (.aload_n 1, 99, 0, 0) := by decide +kernel
theorem jo_3_39 : jb_op 3 39 = some (.getfield 21, 0, 6, 0) := by decide +kernel
theorem jo_3_42 : jb_op 3 42 = some (.iload_n 2, 99, 0, 0) := by decide +kernel
theorem jo_3_43 : jb_op 3 43 = some (.iaload, 99, 0, 0) := by decide +kernel
theorem jo_3_44 : jb_op 3 44 = some (.iastore, 99, 0, 0) := by decide +kernel
theorem jo_3_45 : jb_op 3 45 = some (.aload_n 0, 99, 0, 0) := by decide +kernel
theorem jo_3_46 : jb_op 3 46 = some (.dup, 99, 0, 0) := by decide +kernel
theorem jo_3_47 : jb_op 3 47 = some (.getfield 9, 0, 6, 1) := by decide +kernel
theorem jo_3_50 : jb_op 3 50 = some (.iconst 1, 99, 0, 0) := by decide +kernel
theorem jo_3_51 : jb_op 3 51 = some (.iadd, 99, 0, 0) := by decide +kernel
theorem jo_3_52 : jb_op 3 52 = some (.putfield 9, 0, 6, 1) := by decide +kernel
theorem jo_3_55 : jb_op 3 55 = some (.iinc 2 1, 99, 0, 0) := by decide +kernel
theorem jo_3_58 : jb_op 3 58 = some (.goto (-51), 99, 0, 0) := by decide +kernel
theorem jl_3 : jb_ml 3 = 3 := by decide +kernel
theorem jo_4_0 : jb_op 4 0 = some (.iload_n 1, 99, 0, 0) := by decide +kernel
theorem jo_4_1 : jb_op 4 1 = some (.ifCond .lt (24), 99, 0, 0) := by decide +kernel
theorem jo_4_25 : jb_op 4 25 = some (.iconst 0, 99, 0, 0) := by decide +kernel
theorem jo_4_26 : jb_op 4 26 = some (.ireturn, 99, 0, 0) := by decide +kernel
theorem jr_4 : jb_ret 4 = (some .boolean) := by decide +kernel
theorem jo_4_4 : jb_op 4 4 = some (.iload_n 1, 99, 0, 0) := by decide +kernel
theorem jo_4_5 : jb_op 4 5 = some (.aload_n 0, 99, 0, 0) := by decide +kernel
theorem jo_4_6 : jb_op 4 6 = some (.getfield 9, 0, 6, 1) := by decide +kernel
theorem jo_4_9 : jb_op 4 9 = some (.if_icmp .ge (16), 99, 0, 0) := by decide +kernel
theorem jo_4_12 : jb_op 4 12 = some (.iload_n 1, 99, 0, 0) := by decide +kernel
theorem jo_4_13 : jb_op 4 13 = some (.aload_n 0, 99, 0, 0) := by decide +kernel
theorem jo_4_14 : jb_op 4 14 = some (.getfield 21, 0, 6, 0) := by decide +kernel
theorem jo_4_17 : jb_op 4 17 = some (.arraylength, 99, 0, 0) := by decide +kernel
theorem jo_4_18 : jb_op 4 18 = some (.if_icmp .ge (7), 99, 0, 0) := by decide +kernel
theorem jo_4_21 : jb_op 4 21 = some (.iconst 1, 99, 0, 0) := by decide +kernel
theorem jo_4_22 : jb_op 4 22 = some (.goto 4, 99, 0, 0) := by decide +kernel
theorem jl_4 : jb_ml 4 = 2 := by decide +kernel
theorem jo_5_0 : jb_op 5 0 = some (.iload_n 0, 99, 0, 0) := by decide +kernel
theorem jo_5_1 : jb_op 5 1 = some (.iconst 1, 99, 0, 0) := by decide +kernel
theorem jo_5_2 : jb_op 5 2 = some (.if_icmp .lt (13), 99, 0, 0) := by decide +kernel
theorem jo_5_15 : jb_op 5 15 = some (.iconst 0, 99, 0, 0) := by decide +kernel
theorem jo_5_16 : jb_op 5 16 = some (.ireturn, 99, 0, 0) := by decide +kernel
theorem jr_5 : jb_ret 5 = (some .boolean) := by decide +kernel
theorem jo_5_5 : jb_op 5 5 = some (.iload_n 0, 99, 0, 0) := by decide +kernel
theorem jo_5_6 : jb_op 5 6 = some (.bipush 9, 99, 0, 0) := by decide +kernel
theorem jo_5_8 : jb_op 5 8 = some (.if_icmp .gt (7), 99, 0, 0) := by decide +kernel
theorem jo_5_11 : jb_op 5 11 = some (.iconst 1, 99, 0, 0) := by decide +kernel
theorem jo_5_12 : jb_op 5 12 = some (.goto 4, 99, 0, 0) := by decide +kernel
theorem jl_5 : jb_ml 5 = 1 := by decide +kernel
theorem jo_6_0 : jb_op 6 0 = some (.iload_n 1, 99, 0, 0) := by decide +kernel
theorem jo_6_1 : jb_op 6 1 = some (.ifCond .lt (20), 99, 0, 0) := by decide +kernel
theorem jo_6_21 : jb_op 6 21 = some (.iconst (-1), 99, 0, 0) := by decide +kernel
theorem jo_6_22 : jb_op 6 22 = some (.ireturn, 99, 0, 0) := by decide +kernel
theorem jr_6 : jb_ret 6 = (some .int) := by decide +kernel
theorem jo_6_4 : jb_op 6 4 = some (.iload_n 1, 99, 0, 0) := by decide +kernel
theorem jo_6_5 : jb_op 6 5 = some (.aload_n 0, 99, 0, 0) := by decide +kernel
theorem jo_6_6 : jb_op 6 6 = some (.getfield 9, 0, 6, 1) := by decide +kernel
theorem jo_6_9 : jb_op 6 9 = some (.if_icmp .ge (12), 99, 0, 0) := by decide +kernel
theorem jo_6_12 : jb_op 6 12 = some (.iload_n 1, 99, 0, 0) := by decide +kernel
theorem jo_6_13 : jb_op 6 13 = some (.aload_n 0, 99, 0, 0) := by decide +kernel
theorem jo_6_14 : jb_op 6 14 = some (.getfield 21, 0, 6, 0) := by decide +kernel
theorem jo_6_17 : jb_op 6 17 = some (.arraylength, 99, 0, 0) := by decide +kernel
theorem jo_6_18 : jb_op 6 18 = some (.if_icmp .lt (5), 99, 0, 0) := by decide +kernel
theorem jo_6_23 : jb_op 6 23 = some (.aload_n 0, 99, 0, 0) := by decide +kernel
theorem jo_6_24 : jb_op 6 24 = some (.getfield 21, 0, 6, 0) := by decide +kernel
theorem jo_6_27 : jb_op 6 27 = some (.iload_n 1, 99, 0, 0) := by decide +kernel
theorem jo_6_28 : jb_op 6 28 = some (.iaload, 99, 0, 0) := by decide +kernel
theorem jo_6_29 : jb_op 6 29 = some (.ireturn, 99, 0, 0) := by decide +kernel
theorem jl_6 : jb_ml 6 = 2 := by decide +kernel
theorem jo_7_0 : jb_op 7 0 = some (.aload_n 0, 99, 0, 0) := by decide +kernel
theorem jo_7_1 : jb_op 7 1 = some (.iload_n 1, 99, 0, 0) := by decide +kernel
theorem jo_7_2 : jb_op 7 2 = some (.putfield 9, 0, 5, 0) := by decide +kernel
theorem jc_278 : jm_c 278 = 5 := by decide +kernel
theorem jf_278_0 : jm_f 278 0 = some none := by decide +kernel
theorem jty_5_0 : jb_Ty 5 0 = .int ∧ (jb_T 5 0).2.2.2 = false := by decide +kernel
theorem jo_7_5 : jb_op 7 5 = some (.aload_n 0, 99, 0, 0) := by decide +kernel
theorem jo_7_6 : jb_op 7 6 = some (.iload_n 2, 99, 0, 0) := by decide +kernel
theorem jo_7_7 : jb_op 7 7 = some (.putfield 15, 0, 5, 1) := by decide +kernel
theorem jf_278_1 : jm_f 278 1 = some none := by decide +kernel
theorem jty_5_1 : jb_Ty 5 1 = .int ∧ (jb_T 5 1).2.2.2 = false := by decide +kernel
theorem jo_7_10 : jb_op 7 10 = some (.aload_n 0, 99, 0, 0) := by decide +kernel
theorem jo_7_11 : jb_op 7 11 = some (.bipush (-6), 99, 0, 0) := by decide +kernel
theorem jo_7_13 : jb_op 7 13 = some (.putfield 18, 0, 5, 2) := by decide +kernel
theorem jf_278_2 : jm_f 278 2 = some none := by decide +kernel
theorem jty_5_2 : jb_Ty 5 2 = .int ∧ (jb_T 5 2).2.2.2 = false := by decide +kernel
theorem jo_7_16 : jb_op 7 16 = some (.aload_n 0, 99, 0, 0) := by decide +kernel
theorem jo_7_17 : jb_op 7 17 = some (.bipush (-6), 99, 0, 0) := by decide +kernel
theorem jo_7_19 : jb_op 7 19 = some (.putfield 21, 0, 5, 3) := by decide +kernel
theorem jf_278_3 : jm_f 278 3 = some none := by decide +kernel
theorem jty_5_3 : jb_Ty 5 3 = .int ∧ (jb_T 5 3).2.2.2 = false := by decide +kernel
theorem jo_7_22 : jb_op 7 22 = some (.bipush (-5), 99, 0, 0) := by decide +kernel
theorem jo_7_24 : jb_op 7 24 = some (.ireturn, 99, 0, 0) := by decide +kernel
theorem jr_7 : jb_ret 7 = (some .int) := by decide +kernel
theorem jl_7 : jb_ml 7 = 3 := by decide +kernel
theorem jo_8_0 : jb_op 8 0 = some (.iload_n 1, 99, 0, 0) := by decide +kernel
theorem jo_8_1 : jb_op 8 1 = some (.ifCond .lt (20), 99, 0, 0) := by decide +kernel
theorem jo_8_21 : jb_op 8 21 = some (.return_, 99, 0, 0) := by decide +kernel
theorem jr_8 : jb_ret 8 = none := by decide +kernel
theorem jo_8_4 : jb_op 8 4 = some (.iload_n 1, 99, 0, 0) := by decide +kernel
theorem jo_8_5 : jb_op 8 5 = some (.aload_n 0, 99, 0, 0) := by decide +kernel
theorem jo_8_6 : jb_op 8 6 = some (.getfield 9, 0, 6, 1) := by decide +kernel
theorem jo_8_9 : jb_op 8 9 = some (.if_icmp .ge (12), 99, 0, 0) := by decide +kernel
theorem jo_8_12 : jb_op 8 12 = some (.iload_n 1, 99, 0, 0) := by decide +kernel
theorem jo_8_13 : jb_op 8 13 = some (.aload_n 0, 99, 0, 0) := by decide +kernel
theorem jo_8_14 : jb_op 8 14 = some (.getfield 21, 0, 6, 0) := by decide +kernel
theorem jo_8_17 : jb_op 8 17 = some (.arraylength, 99, 0, 0) := by decide +kernel
theorem jo_8_18 : jb_op 8 18 = some (.if_icmp .lt (4), 99, 0, 0) := by decide +kernel
theorem jo_8_22 : jb_op 8 22 = some (.aload_n 0, 99, 0, 0) := by decide +kernel
theorem jo_8_23 : jb_op 8 23 = some (.getfield 21, 0, 6, 0) := by decide +kernel
theorem jo_8_26 : jb_op 8 26 = some (.iload_n 1, 99, 0, 0) := by decide +kernel
theorem jo_8_27 : jb_op 8 27 = some (.iload_n 2, 99, 0, 0) := by decide +kernel
theorem jo_8_28 : jb_op 8 28 = some (.iastore, 99, 0, 0) := by decide +kernel
theorem jo_8_29 : jb_op 8 29 = some (.return_, 99, 0, 0) := by decide +kernel
theorem jl_8 : jb_ml 8 = 3 := by decide +kernel
theorem jo_9_0 : jb_op 9 0 = some (.aload_n 0, 99, 0, 0) := by decide +kernel
theorem jo_9_1 : jb_op 9 1 = some (.getfield 17, 0, 2, 1) := by decide +kernel
theorem jc_76 : jm_c 76 = 2 := by decide +kernel
theorem jf_76_1 : jm_f 76 1 = some none := by decide +kernel
theorem jo_9_4 : jb_op 9 4 = some (.iload_n 1, 99, 0, 0) := by decide +kernel
theorem jo_9_5 : jb_op 9 5 = some (.iadd, 99, 0, 0) := by decide +kernel
theorem jo_9_6 : jb_op 9 6 = some (.bipush 8, 99, 0, 0) := by decide +kernel
theorem jo_9_8 : jb_op 9 8 = some (.irem, 99, 0, 0) := by decide +kernel
theorem jo_9_9 : jb_op 9 9 = some (.istore_n 2, 99, 0, 0) := by decide +kernel
theorem jo_9_10 : jb_op 9 10 = some (.iload_n 2, 99, 0, 0) := by decide +kernel
theorem jo_9_11 : jb_op 9 11 = some (.ifCond .lt (12), 99, 0, 0) := by decide +kernel
theorem jo_9_23 : jb_op 9 23 = some (.aconst_null, 99, 0, 0) := by decide +kernel
theorem jo_9_24 : jb_op 9 24 = some (.areturn, 99, 0, 0) := by decide +kernel
theorem jr_9 : jb_ret 9 = (some (.object "DrownedBells$Village")) := by decide +kernel
theorem jo_9_14 : jb_op 9 14 = some (.iload_n 2, 99, 0, 0) := by decide +kernel
theorem jo_9_15 : jb_op 9 15 = some (.aload_n 0, 99, 0, 0) := by decide +kernel
theorem jo_9_16 : jb_op 9 16 = some (.getfield 11, 0, 2, 0) := by decide +kernel
theorem jf_76_0 : jm_f 76 0 = some (some 77) := by decide +kernel
theorem jo_9_19 : jb_op 9 19 = some (.arraylength, 99, 0, 0) := by decide +kernel
theorem jc_77 : jm_c 77 = 13 := by decide +kernel
theorem jn_77 : jm_ln 77 = 8 := by decide +kernel
theorem jo_9_20 : jb_op 9 20 = some (.if_icmp .lt (5), 99, 0, 0) := by decide +kernel
theorem jo_9_25 : jb_op 9 25 = some (.aload_n 0, 99, 0, 0) := by decide +kernel
theorem jo_9_26 : jb_op 9 26 = some (.getfield 11, 0, 2, 0) := by decide +kernel
theorem jo_9_29 : jb_op 9 29 = some (.iload_n 2, 99, 0, 0) := by decide +kernel
theorem jo_9_30 : jb_op 9 30 = some (.aaload, 99, 0, 0) := by decide +kernel
theorem jo_9_31 : jb_op 9 31 = some (.areturn, 99, 0, 0) := by decide +kernel
theorem jl_9 : jb_ml 9 = 3 := by decide +kernel
theorem jo_10_0 : jb_op 10 0 = some (.iload_n 0, 99, 0, 0) := by decide +kernel
theorem jo_10_1 : jb_op 10 1 = some (.bipush 46, 99, 0, 0) := by decide +kernel
theorem jo_10_3 : jb_op 10 3 = some (.if_icmp .ne (5), 99, 0, 0) := by decide +kernel
theorem jo_10_6 : jb_op 10 6 = some (.iconst 5, 99, 0, 0) := by decide +kernel
theorem jo_10_7 : jb_op 10 7 = some (.ireturn, 99, 0, 0) := by decide +kernel
theorem jr_10 : jb_ret 10 = (some .int) := by decide +kernel
theorem jo_10_8 : jb_op 10 8 = some (.iload_n 0, 99, 0, 0) := by decide +kernel
theorem jo_10_9 : jb_op 10 9 = some (.bipush 97, 99, 0, 0) := by decide +kernel
theorem jo_10_11 : jb_op 10 11 = some (.if_icmp .lt (16), 99, 0, 0) := by decide +kernel
theorem jo_10_27 : jb_op 10 27 = some (.iconst (-1), 99, 0, 0) := by decide +kernel
theorem jo_10_28 : jb_op 10 28 = some (.ireturn, 99, 0, 0) := by decide +kernel
theorem jo_10_14 : jb_op 10 14 = some (.iload_n 0, 99, 0, 0) := by decide +kernel
theorem jo_10_15 : jb_op 10 15 = some (.bipush 101, 99, 0, 0) := by decide +kernel
theorem jo_10_17 : jb_op 10 17 = some (.if_icmp .gt (10), 99, 0, 0) := by decide +kernel
theorem jo_10_20 : jb_op 10 20 = some (.iload_n 0, 99, 0, 0) := by decide +kernel
theorem jo_10_21 : jb_op 10 21 = some (.bipush 97, 99, 0, 0) := by decide +kernel
theorem jo_10_23 : jb_op 10 23 = some (.isub, 99, 0, 0) := by decide +kernel
theorem jo_10_24 : jb_op 10 24 = some (.goto 4, 99, 0, 0) := by decide +kernel
theorem jl_10 : jb_ml 10 = 1 := by decide +kernel
theorem jo_11_0 : jb_op 11 0 = some (.aload_n 0, 99, 0, 0) := by decide +kernel
theorem jo_11_1 : jb_op 11 1 = some (.getfield 9, 0, 6, 1) := by decide +kernel
theorem jo_11_4 : jb_op 11 4 = some (.aload_n 0, 99, 0, 0) := by decide +kernel
theorem jo_11_5 : jb_op 11 5 = some (.getfield 21, 0, 6, 0) := by decide +kernel
theorem jo_11_8 : jb_op 11 8 = some (.arraylength, 99, 0, 0) := by decide +kernel
theorem jo_11_9 : jb_op 11 9 = some (.if_icmp .lt (7), 99, 0, 0) := by decide +kernel
theorem jo_11_16 : jb_op 11 16 = some (.iconst 0, 99, 0, 0) := by decide +kernel
theorem jo_11_17 : jb_op 11 17 = some (.ireturn, 99, 0, 0) := by decide +kernel
theorem jr_11 : jb_ret 11 = (some .boolean) := by decide +kernel
theorem jo_11_12 : jb_op 11 12 = some (.iconst 1, 99, 0, 0) := by decide +kernel
theorem jo_11_13 : jb_op 11 13 = some (.goto 4, 99, 0, 0) := by decide +kernel
theorem jl_11 : jb_ml 11 = 1 := by decide +kernel
theorem jo_12_0 : jb_op 12 0 = some (.aload_n 0, 99, 0, 0) := by decide +kernel
theorem jo_12_1 : jb_op 12 1 = some (.getfield 9, 0, 6, 1) := by decide +kernel
theorem jo_12_4 : jb_op 12 4 = some (.ireturn, 99, 0, 0) := by decide +kernel
theorem jr_12 : jb_ret 12 = (some .int) := by decide +kernel
theorem jl_12 : jb_ml 12 = 1 := by decide +kernel
theorem jo_13_0 : jb_op 13 0 = some (.aload_n 0, 99, 0, 0) := by decide +kernel
theorem jo_13_1 : jb_op 13 1 = some (.iconst 0, 99, 0, 0) := by decide +kernel
theorem jo_13_2 : jb_op 13 2 = some (.putfield 9, 0, 6, 1) := by decide +kernel
theorem jo_13_5 : jb_op 13 5 = some (.return_, 99, 0, 0) := by decide +kernel
theorem jr_13 : jb_ret 13 = none := by decide +kernel
theorem jl_13 : jb_ml 13 = 1 := by decide +kernel
theorem jo_14_0 : jb_op 14 0 = some (.iload_n 0, 99, 0, 0) := by decide +kernel
theorem jo_14_1 : jb_op 14 1 = some (.iconst 3, 99, 0, 0) := by decide +kernel
theorem jo_14_2 : jb_op 14 2 = some (.iconst 3, 99, 0, 0) := by decide +kernel
theorem jo_14_3 : jb_op 14 3 = some (.iload_n 1, 99, 0, 0) := by decide +kernel
theorem jo_14_4 : jb_op 14 4 = some (.isub, 99, 0, 0) := by decide +kernel
theorem jo_14_5 : jb_op 14 5 = some (.imul, 99, 0, 0) := by decide +kernel
theorem jo_14_6 : jb_op 14 6 = some (.ishr, 99, 0, 0) := by decide +kernel
theorem jo_14_7 : jb_op 14 7 = some (.bipush 7, 99, 0, 0) := by decide +kernel
theorem jo_14_9 : jb_op 14 9 = some (.iand, 99, 0, 0) := by decide +kernel
theorem jo_14_10 : jb_op 14 10 = some (.istore_n 2, 99, 0, 0) := by decide +kernel
theorem jo_14_11 : jb_op 14 11 = some (.iload_n 2, 99, 0, 0) := by decide +kernel
theorem jo_14_12 : jb_op 14 12 = some (.iconst 1, 99, 0, 0) := by decide +kernel
theorem jo_14_13 : jb_op 14 13 = some (.if_icmp .ne (7), 99, 0, 0) := by decide +kernel
theorem jo_14_16 : jb_op 14 16 = some (.iconst 5, 99, 0, 0) := by decide +kernel
theorem jo_14_17 : jb_op 14 17 = some (.goto 6, 99, 0, 0) := by decide +kernel
theorem jo_14_23 : jb_op 14 23 = some (.ireturn, 99, 0, 0) := by decide +kernel
theorem jr_14 : jb_ret 14 = (some .int) := by decide +kernel
theorem jo_14_20 : jb_op 14 20 = some (.iload_n 2, 99, 0, 0) := by decide +kernel
theorem jo_14_21 : jb_op 14 21 = some (.iconst 2, 99, 0, 0) := by decide +kernel
theorem jo_14_22 : jb_op 14 22 = some (.isub, 99, 0, 0) := by decide +kernel
theorem jl_14 : jb_ml 14 = 3 := by decide +kernel
theorem jo_15_0 : jb_op 15 0 = some (.iload_n 0, 99, 0, 0) := by decide +kernel
theorem jo_15_1 : jb_op 15 1 = some (.iconst 3, 99, 0, 0) := by decide +kernel
theorem jo_15_2 : jb_op 15 2 = some (.imul, 99, 0, 0) := by decide +kernel
theorem jo_15_3 : jb_op 15 3 = some (.iload_n 1, 99, 0, 0) := by decide +kernel
theorem jo_15_4 : jb_op 15 4 = some (.iadd, 99, 0, 0) := by decide +kernel
theorem jo_15_5 : jb_op 15 5 = some (.ireturn, 99, 0, 0) := by decide +kernel
theorem jr_15 : jb_ret 15 = (some .int) := by decide +kernel
theorem jl_15 : jb_ml 15 = 2 := by decide +kernel
theorem jo_16_0 : jb_op 16 0 = some (.iload_n 1, 99, 0, 0) := by decide +kernel
theorem jo_16_1 : jb_op 16 1 = some (.ifCond .lt (20), 99, 0, 0) := by decide +kernel
theorem jo_16_21 : jb_op 16 21 = some (.return_, 99, 0, 0) := by decide +kernel
theorem jr_16 : jb_ret 16 = none := by decide +kernel
theorem jo_16_4 : jb_op 16 4 = some (.iload_n 1, 99, 0, 0) := by decide +kernel
theorem jo_16_5 : jb_op 16 5 = some (.aload_n 0, 99, 0, 0) := by decide +kernel
theorem jo_16_6 : jb_op 16 6 = some (.getfield 9, 0, 6, 1) := by decide +kernel
theorem jo_16_9 : jb_op 16 9 = some (.if_icmp .ge (12), 99, 0, 0) := by decide +kernel
theorem jo_16_12 : jb_op 16 12 = some (.iload_n 1, 99, 0, 0) := by decide +kernel
theorem jo_16_13 : jb_op 16 13 = some (.aload_n 0, 99, 0, 0) := by decide +kernel
theorem jo_16_14 : jb_op 16 14 = some (.getfield 21, 0, 6, 0) := by decide +kernel
theorem jo_16_17 : jb_op 16 17 = some (.arraylength, 99, 0, 0) := by decide +kernel
theorem jo_16_18 : jb_op 16 18 = some (.if_icmp .lt (4), 99, 0, 0) := by decide +kernel
theorem jo_16_22 : jb_op 16 22 = some (.aload_n 0, 99, 0, 0) := by decide +kernel
theorem jo_16_23 : jb_op 16 23 = some (.getfield 21, 0, 6, 0) := by decide +kernel
theorem jo_16_26 : jb_op 16 26 = some (.iload_n 1, 99, 0, 0) := by decide +kernel
theorem jo_16_27 : jb_op 16 27 = some (.aload_n 0, 99, 0, 0) := by decide +kernel
theorem jo_16_28 : jb_op 16 28 = some (.getfield 21, 0, 6, 0) := by decide +kernel
theorem jo_16_31 : jb_op 16 31 = some (.iload_n 1, 99, 0, 0) := by decide +kernel
theorem jo_16_32 : jb_op 16 32 = some (.iaload, 99, 0, 0) := by decide +kernel
theorem jo_16_33 : jb_op 16 33 = some (.iload_n 2, 99, 0, 0) := by decide +kernel
theorem jo_16_34 : jb_op 16 34 = some (.iadd, 99, 0, 0) := by decide +kernel
theorem jo_16_35 : jb_op 16 35 = some (.iload_n 3, 99, 0, 0) := by decide +kernel
theorem jo_16_36 : jb_op 16 36 = some (.invokestatic 25, 15, 1, 0) := by decide +kernel
theorem jo_16_39 : jb_op 16 39 = some (.iastore, 99, 0, 0) := by decide +kernel
theorem jo_16_40 : jb_op 16 40 = some (.return_, 99, 0, 0) := by decide +kernel
theorem jl_16 : jb_ml 16 = 4 := by decide +kernel
theorem jo_17_0 : jb_op 17 0 = some (.iload_n 0, 99, 0, 0) := by decide +kernel
theorem jo_17_1 : jb_op 17 1 = some (.iconst 1, 99, 0, 0) := by decide +kernel
theorem jo_17_2 : jb_op 17 2 = some (.iadd, 99, 0, 0) := by decide +kernel
theorem jo_17_3 : jb_op 17 3 = some (.iconst 2, 99, 0, 0) := by decide +kernel
theorem jo_17_4 : jb_op 17 4 = some (.invokestatic 87, 15, 1, 0) := by decide +kernel
theorem jo_17_7 : jb_op 17 7 = some (.ireturn, 99, 0, 0) := by decide +kernel
theorem jr_17 : jb_ret 17 = (some .int) := by decide +kernel
theorem jl_17 : jb_ml 17 = 1 := by decide +kernel
theorem jo_18_0 : jb_op 18 0 = some (.iload_n 0, 99, 0, 0) := by decide +kernel
theorem jo_18_1 : jb_op 18 1 = some (.iconst 5, 99, 0, 0) := by decide +kernel
theorem jo_18_2 : jb_op 18 2 = some (.if_icmp .ne (8), 99, 0, 0) := by decide +kernel
theorem jo_18_5 : jb_op 18 5 = some (.bipush 46, 99, 0, 0) := by decide +kernel
theorem jo_18_7 : jb_op 18 7 = some (.goto 7, 99, 0, 0) := by decide +kernel
theorem jo_18_14 : jb_op 18 14 = some (.ireturn, 99, 0, 0) := by decide +kernel
theorem jr_18 : jb_ret 18 = (some .int) := by decide +kernel
theorem jo_18_10 : jb_op 18 10 = some (.bipush 97, 99, 0, 0) := by decide +kernel
theorem jo_18_12 : jb_op 18 12 = some (.iload_n 0, 99, 0, 0) := by decide +kernel
theorem jo_18_13 : jb_op 18 13 = some (.iadd, 99, 0, 0) := by decide +kernel
theorem jl_18 : jb_ml 18 = 1 := by decide +kernel
theorem jo_19_0 : jb_op 19 0 = some (.iload_n 0, 99, 0, 0) := by decide +kernel
theorem jo_19_1 : jb_op 19 1 = some (.ifCond .ne (6), 99, 0, 0) := by decide +kernel
theorem jo_19_4 : jb_op 19 4 = some (.bipush 110, 99, 0, 0) := by decide +kernel
theorem jo_19_6 : jb_op 19 6 = some (.ireturn, 99, 0, 0) := by decide +kernel
theorem jr_19 : jb_ret 19 = (some .int) := by decide +kernel
theorem jo_19_7 : jb_op 19 7 = some (.iload_n 0, 99, 0, 0) := by decide +kernel
theorem jo_19_8 : jb_op 19 8 = some (.iconst 1, 99, 0, 0) := by decide +kernel
theorem jo_19_9 : jb_op 19 9 = some (.if_icmp .ne (8), 99, 0, 0) := by decide +kernel
theorem jo_19_12 : jb_op 19 12 = some (.bipush 100, 99, 0, 0) := by decide +kernel
theorem jo_19_14 : jb_op 19 14 = some (.goto 5, 99, 0, 0) := by decide +kernel
theorem jo_19_19 : jb_op 19 19 = some (.ireturn, 99, 0, 0) := by decide +kernel
theorem jo_19_17 : jb_op 19 17 = some (.bipush 116, 99, 0, 0) := by decide +kernel
theorem jl_19 : jb_ml 19 = 1 := by decide +kernel
theorem jo_20_0 : jb_op 20 0 = some (.iload_n 0, 99, 0, 0) := by decide +kernel
theorem jo_20_1 : jb_op 20 1 = some (.tableswitch (71) (0) (7) #[(47), (50), (53), (56), (59), (62), (65), (68)], 99, 0, 0) := by decide +kernel
theorem jo_20_48 : jb_op 20 48 = some (.ldc 87, 11, 0, 0) := by decide +kernel
theorem jo_20_50 : jb_op 20 50 = some (.areturn, 99, 0, 0) := by decide +kernel
theorem jr_20 : jb_ret 20 = (some (.object "java/lang/String")) := by decide +kernel
theorem jo_20_51 : jb_op 20 51 = some (.ldc 89, 11, 1, 0) := by decide +kernel
theorem jo_20_53 : jb_op 20 53 = some (.areturn, 99, 0, 0) := by decide +kernel
theorem jo_20_54 : jb_op 20 54 = some (.ldc 91, 11, 2, 0) := by decide +kernel
theorem jo_20_56 : jb_op 20 56 = some (.areturn, 99, 0, 0) := by decide +kernel
theorem jo_20_57 : jb_op 20 57 = some (.ldc 93, 11, 3, 0) := by decide +kernel
theorem jo_20_59 : jb_op 20 59 = some (.areturn, 99, 0, 0) := by decide +kernel
theorem jo_20_60 : jb_op 20 60 = some (.ldc 95, 11, 4, 0) := by decide +kernel
theorem jo_20_62 : jb_op 20 62 = some (.areturn, 99, 0, 0) := by decide +kernel
theorem jo_20_63 : jb_op 20 63 = some (.ldc 97, 11, 5, 0) := by decide +kernel
theorem jo_20_65 : jb_op 20 65 = some (.areturn, 99, 0, 0) := by decide +kernel
theorem jo_20_66 : jb_op 20 66 = some (.ldc 99, 11, 6, 0) := by decide +kernel
theorem jo_20_68 : jb_op 20 68 = some (.areturn, 99, 0, 0) := by decide +kernel
theorem jo_20_69 : jb_op 20 69 = some (.ldc 101, 11, 7, 0) := by decide +kernel
theorem jo_20_71 : jb_op 20 71 = some (.areturn, 99, 0, 0) := by decide +kernel
theorem jo_20_72 : jb_op 20 72 = some (.ldc 103, 11, 8, 0) := by decide +kernel
theorem jo_20_74 : jb_op 20 74 = some (.areturn, 99, 0, 0) := by decide +kernel
theorem jl_20 : jb_ml 20 = 1 := by decide +kernel
theorem jo_24_0 : jb_op 24 0 = some (.iload_n 0, 99, 0, 0) := by decide +kernel
theorem jo_24_1 : jb_op 24 1 = some (.bipush 110, 99, 0, 0) := by decide +kernel
theorem jo_24_3 : jb_op 24 3 = some (.if_icmp .ne (5), 99, 0, 0) := by decide +kernel
theorem jo_24_6 : jb_op 24 6 = some (.iconst 0, 99, 0, 0) := by decide +kernel
theorem jo_24_7 : jb_op 24 7 = some (.ireturn, 99, 0, 0) := by decide +kernel
theorem jr_24 : jb_ret 24 = (some .int) := by decide +kernel
theorem jo_24_8 : jb_op 24 8 = some (.iload_n 0, 99, 0, 0) := by decide +kernel
theorem jo_24_9 : jb_op 24 9 = some (.bipush 100, 99, 0, 0) := by decide +kernel
theorem jo_24_11 : jb_op 24 11 = some (.if_icmp .ne (5), 99, 0, 0) := by decide +kernel
theorem jo_24_14 : jb_op 24 14 = some (.iconst 1, 99, 0, 0) := by decide +kernel
theorem jo_24_15 : jb_op 24 15 = some (.ireturn, 99, 0, 0) := by decide +kernel
theorem jo_24_16 : jb_op 24 16 = some (.iload_n 0, 99, 0, 0) := by decide +kernel
theorem jo_24_17 : jb_op 24 17 = some (.bipush 116, 99, 0, 0) := by decide +kernel
theorem jo_24_19 : jb_op 24 19 = some (.if_icmp .ne (7), 99, 0, 0) := by decide +kernel
theorem jo_24_22 : jb_op 24 22 = some (.iconst 2, 99, 0, 0) := by decide +kernel
theorem jo_24_23 : jb_op 24 23 = some (.goto 4, 99, 0, 0) := by decide +kernel
theorem jo_24_27 : jb_op 24 27 = some (.ireturn, 99, 0, 0) := by decide +kernel
theorem jo_24_26 : jb_op 24 26 = some (.iconst (-1), 99, 0, 0) := by decide +kernel
theorem jl_24 : jb_ml 24 = 1 := by decide +kernel
theorem jo_27_0 : jb_op 27 0 = some (.aload_n 0, 99, 0, 0) := by decide +kernel
theorem jo_27_1 : jb_op 27 1 = some (.getfield 84, 0, 10, 16) := by decide +kernel
theorem jc_0 : jm_c 0 = 10 := by decide +kernel
theorem jf_0_16 : jm_f 0 16 = some none := by decide +kernel
theorem jo_27_4 : jb_op 27 4 = some (.iconst (-1), 99, 0, 0) := by decide +kernel
theorem jo_27_5 : jb_op 27 5 = some (.if_icmp .ne (8), 99, 0, 0) := by decide +kernel
theorem jo_27_8 : jb_op 27 8 = some (.bipush (-3), 99, 0, 0) := by decide +kernel
theorem jo_27_10 : jb_op 27 10 = some (.goto 7, 99, 0, 0) := by decide +kernel
theorem jo_27_17 : jb_op 27 17 = some (.ireturn, 99, 0, 0) := by decide +kernel
theorem jr_27 : jb_ret 27 = (some .int) := by decide +kernel
theorem jo_27_13 : jb_op 27 13 = some (.aload_n 0, 99, 0, 0) := by decide +kernel
theorem jo_27_14 : jb_op 27 14 = some (.getfield 84, 0, 10, 16) := by decide +kernel
theorem jl_27 : jb_ml 27 = 1 := by decide +kernel
theorem jo_28_0 : jb_op 28 0 = some (.iload_n 1, 99, 0, 0) := by decide +kernel
theorem jo_28_1 : jb_op 28 1 = some (.ifCond .lt (8), 99, 0, 0) := by decide +kernel
theorem jo_28_9 : jb_op 28 9 = some (.bipush (-2), 99, 0, 0) := by decide +kernel
theorem jo_28_11 : jb_op 28 11 = some (.ireturn, 99, 0, 0) := by decide +kernel
theorem jr_28 : jb_ret 28 = (some .int) := by decide +kernel
theorem jo_28_4 : jb_op 28 4 = some (.iload_n 1, 99, 0, 0) := by decide +kernel
theorem jo_28_5 : jb_op 28 5 = some (.iconst 1, 99, 0, 0) := by decide +kernel
theorem jo_28_6 : jb_op 28 6 = some (.if_icmp .le (6), 99, 0, 0) := by decide +kernel
theorem jo_28_12 : jb_op 28 12 = some (.aload_n 0, 99, 0, 0) := by decide +kernel
theorem jo_28_13 : jb_op 28 13 = some (.getfield 32, 0, 10, 4) := by decide +kernel
theorem jf_0_4 : jm_f 0 4 = some (some 278) := by decide +kernel
theorem jo_28_16 : jb_op 28 16 = some (.getfield 281, 1, 5, 0) := by decide +kernel
theorem jo_28_19 : jb_op 28 19 = some (.bipush (-6), 99, 0, 0) := by decide +kernel
theorem jo_28_21 : jb_op 28 21 = some (.if_icmp .ne (6), 99, 0, 0) := by decide +kernel
theorem jo_28_24 : jb_op 28 24 = some (.bipush (-3), 99, 0, 0) := by decide +kernel
theorem jo_28_26 : jb_op 28 26 = some (.ireturn, 99, 0, 0) := by decide +kernel
theorem jo_28_27 : jb_op 28 27 = some (.iload_n 1, 99, 0, 0) := by decide +kernel
theorem jo_28_28 : jb_op 28 28 = some (.ifCond .ne (25), 99, 0, 0) := by decide +kernel
theorem jo_28_31 : jb_op 28 31 = some (.iload_n 2, 99, 0, 0) := by decide +kernel
theorem jo_28_32 : jb_op 28 32 = some (.ifCond .eq (13), 99, 0, 0) := by decide +kernel
theorem jo_28_45 : jb_op 28 45 = some (.aload_n 0, 99, 0, 0) := by decide +kernel
theorem jo_28_46 : jb_op 28 46 = some (.getfield 32, 0, 10, 4) := by decide +kernel
theorem jo_28_49 : jb_op 28 49 = some (.getfield 281, 1, 5, 0) := by decide +kernel
theorem jo_28_52 : jb_op 28 52 = some (.ireturn, 99, 0, 0) := by decide +kernel
theorem jo_28_35 : jb_op 28 35 = some (.aload_n 0, 99, 0, 0) := by decide +kernel
theorem jo_28_36 : jb_op 28 36 = some (.getfield 32, 0, 10, 4) := by decide +kernel
theorem jo_28_39 : jb_op 28 39 = some (.getfield 284, 1, 5, 1) := by decide +kernel
theorem jo_28_42 : jb_op 28 42 = some (.goto 10, 99, 0, 0) := by decide +kernel
theorem jo_28_53 : jb_op 28 53 = some (.iload_n 2, 99, 0, 0) := by decide +kernel
theorem jo_28_54 : jb_op 28 54 = some (.ifCond .eq (13), 99, 0, 0) := by decide +kernel
theorem jo_28_67 : jb_op 28 67 = some (.aload_n 0, 99, 0, 0) := by decide +kernel
theorem jo_28_68 : jb_op 28 68 = some (.getfield 32, 0, 10, 4) := by decide +kernel
theorem jo_28_71 : jb_op 28 71 = some (.getfield 290, 1, 5, 2) := by decide +kernel
theorem jo_28_74 : jb_op 28 74 = some (.ireturn, 99, 0, 0) := by decide +kernel
theorem jo_28_57 : jb_op 28 57 = some (.aload_n 0, 99, 0, 0) := by decide +kernel
theorem jo_28_58 : jb_op 28 58 = some (.getfield 32, 0, 10, 4) := by decide +kernel
theorem jo_28_61 : jb_op 28 61 = some (.getfield 287, 1, 5, 3) := by decide +kernel
theorem jo_28_64 : jb_op 28 64 = some (.goto 10, 99, 0, 0) := by decide +kernel
theorem jl_28 : jb_ml 28 = 3 := by decide +kernel
theorem jo_29_0 : jb_op 29 0 = some (.aload_n 0, 99, 0, 0) := by decide +kernel
theorem jo_29_1 : jb_op 29 1 = some (.iconst 0, 99, 0, 0) := by decide +kernel
theorem jo_29_2 : jb_op 29 2 = some (.putfield 21, 0, 2, 2) := by decide +kernel
theorem jf_76_2 : jm_f 76 2 = some none := by decide +kernel
theorem jty_2_2 : jb_Ty 2 2 = .int ∧ (jb_T 2 2).2.2.2 = false := by decide +kernel
theorem jo_29_5 : jb_op 29 5 = some (.return_, 99, 0, 0) := by decide +kernel
theorem jr_29 : jb_ret 29 = none := by decide +kernel
theorem jl_29 : jb_ml 29 = 1 := by decide +kernel
theorem jo_31_0 : jb_op 31 0 = some (.iload_n 0, 99, 0, 0) := by decide +kernel
theorem jo_31_1 : jb_op 31 1 = some (.iload_n 1, 99, 0, 0) := by decide +kernel
theorem jo_31_2 : jb_op 31 2 = some (.if_icmp .lt (12), 99, 0, 0) := by decide +kernel
theorem jo_31_14 : jb_op 31 14 = some (.iconst 0, 99, 0, 0) := by decide +kernel
theorem jo_31_15 : jb_op 31 15 = some (.ireturn, 99, 0, 0) := by decide +kernel
theorem jr_31 : jb_ret 31 = (some .boolean) := by decide +kernel
theorem jo_31_5 : jb_op 31 5 = some (.iload_n 0, 99, 0, 0) := by decide +kernel
theorem jo_31_6 : jb_op 31 6 = some (.iload_n 2, 99, 0, 0) := by decide +kernel
theorem jo_31_7 : jb_op 31 7 = some (.if_icmp .gt (7), 99, 0, 0) := by decide +kernel
theorem jo_31_10 : jb_op 31 10 = some (.iconst 1, 99, 0, 0) := by decide +kernel
theorem jo_31_11 : jb_op 31 11 = some (.goto 4, 99, 0, 0) := by decide +kernel
theorem jl_31 : jb_ml 31 = 3 := by decide +kernel
theorem jo_32_0 : jb_op 32 0 = some (.iconst 0, 99, 0, 0) := by decide +kernel
theorem jo_32_1 : jb_op 32 1 = some (.istore 4, 99, 0, 0) := by decide +kernel
theorem jo_32_3 : jb_op 32 3 = some (.iload 4, 99, 0, 0) := by decide +kernel
theorem jo_32_5 : jb_op 32 5 = some (.sipush 146, 99, 0, 0) := by decide +kernel
theorem jo_32_8 : jb_op 32 8 = some (.if_icmp .ge (21), 99, 0, 0) := by decide +kernel
theorem jo_32_29 : jb_op 32 29 = some (.return_, 99, 0, 0) := by decide +kernel
theorem jr_32 : jb_ret 32 = none := by decide +kernel
theorem jo_32_11 : jb_op 32 11 = some (.aload_n 2, 99, 0, 0) := by decide +kernel
theorem jo_32_12 : jb_op 32 12 = some (.iload_n 3, 99, 0, 0) := by decide +kernel
theorem jo_32_13 : jb_op 32 13 = some (.iload 4, 99, 0, 0) := by decide +kernel
theorem jo_32_15 : jb_op 32 15 = some (.iadd, 99, 0, 0) := by decide +kernel
theorem jo_32_16 : jb_op 32 16 = some (.aload_n 0, 99, 0, 0) := by decide +kernel
theorem jo_32_17 : jb_op 32 17 = some (.iload_n 1, 99, 0, 0) := by decide +kernel
theorem jo_32_18 : jb_op 32 18 = some (.iload 4, 99, 0, 0) := by decide +kernel
theorem jo_32_20 : jb_op 32 20 = some (.iadd, 99, 0, 0) := by decide +kernel
theorem jo_32_21 : jb_op 32 21 = some (.iaload, 99, 0, 0) := by decide +kernel
theorem jo_32_22 : jb_op 32 22 = some (.iastore, 99, 0, 0) := by decide +kernel
theorem jo_32_23 : jb_op 32 23 = some (.iinc 4 1, 99, 0, 0) := by decide +kernel
theorem jo_32_26 : jb_op 32 26 = some (.goto (-23), 99, 0, 0) := by decide +kernel
theorem jl_32 : jb_ml 32 = 5 := by decide +kernel
theorem jo_33_0 : jb_op 33 0 = some (.bipush 6, 99, 0, 0) := by decide +kernel
theorem jo_33_2 : jb_op 33 2 = some (.iconst 3, 99, 0, 0) := by decide +kernel
theorem jo_33_3 : jb_op 33 3 = some (.iload_n 0, 99, 0, 0) := by decide +kernel
theorem jo_33_4 : jb_op 33 4 = some (.imul, 99, 0, 0) := by decide +kernel
theorem jo_33_5 : jb_op 33 5 = some (.iadd, 99, 0, 0) := by decide +kernel
theorem jo_33_6 : jb_op 33 6 = some (.ireturn, 99, 0, 0) := by decide +kernel
theorem jr_33 : jb_ret 33 = (some .int) := by decide +kernel
theorem jl_33 : jb_ml 33 = 1 := by decide +kernel
theorem jo_34_0 : jb_op 34 0 = some (.iload_n 1, 99, 0, 0) := by decide +kernel
theorem jo_34_1 : jb_op 34 1 = some (.ifCond .eq (20), 99, 0, 0) := by decide +kernel
theorem jo_34_21 : jb_op 34 21 = some (.return_, 99, 0, 0) := by decide +kernel
theorem jr_34 : jb_ret 34 = none := by decide +kernel
theorem jo_34_4 : jb_op 34 4 = some (.aload_n 0, 99, 0, 0) := by decide +kernel
theorem jo_34_5 : jb_op 34 5 = some (.getfield 53, 0, 11, 17) := by decide +kernel
theorem jc_307 : jm_c 307 = 11 := by decide +kernel
theorem jf_307_17 : jm_f 307 17 = some none := by decide +kernel
theorem jo_34_8 : jb_op 34 8 = some (.ifCond .ne (13), 99, 0, 0) := by decide +kernel
theorem jo_34_11 : jb_op 34 11 = some (.aload_n 0, 99, 0, 0) := by decide +kernel
theorem jo_34_12 : jb_op 34 12 = some (.iload_n 2, 99, 0, 0) := by decide +kernel
theorem jo_34_13 : jb_op 34 13 = some (.putfield 53, 0, 11, 17) := by decide +kernel
theorem jty_11_17 : jb_Ty 11 17 = .int ∧ (jb_T 11 17).2.2.2 = false := by decide +kernel
theorem jo_34_16 : jb_op 34 16 = some (.aload_n 0, 99, 0, 0) := by decide +kernel
theorem jo_34_17 : jb_op 34 17 = some (.iload_n 3, 99, 0, 0) := by decide +kernel
theorem jo_34_18 : jb_op 34 18 = some (.putfield 56, 0, 11, 18) := by decide +kernel
theorem jf_307_18 : jm_f 307 18 = some none := by decide +kernel
theorem jty_11_18 : jb_Ty 11 18 = .int ∧ (jb_T 11 18).2.2.2 = false := by decide +kernel
theorem jl_34 : jb_ml 34 = 4 := by decide +kernel
theorem jo_35_0 : jb_op 35 0 = some (.iconst 0, 99, 0, 0) := by decide +kernel
theorem jo_35_1 : jb_op 35 1 = some (.istore_n 1, 99, 0, 0) := by decide +kernel
theorem jo_35_2 : jb_op 35 2 = some (.iload_n 1, 99, 0, 0) := by decide +kernel
theorem jo_35_3 : jb_op 35 3 = some (.aload_n 0, 99, 0, 0) := by decide +kernel
theorem jo_35_4 : jb_op 35 4 = some (.getfield 121, 0, 11, 12) := by decide +kernel
theorem jf_307_12 : jm_f 307 12 = some none := by decide +kernel
theorem jo_35_7 : jb_op 35 7 = some (.if_icmp .ge (21), 99, 0, 0) := by decide +kernel
theorem jo_35_28 : jb_op 35 28 = some (.aload_n 0, 99, 0, 0) := by decide +kernel
theorem jo_35_29 : jb_op 35 29 = some (.aload_n 0, 99, 0, 0) := by decide +kernel
theorem jo_35_30 : jb_op 35 30 = some (.getfield 121, 0, 11, 12) := by decide +kernel
theorem jo_35_33 : jb_op 35 33 = some (.putfield 124, 0, 11, 20) := by decide +kernel
theorem jf_307_20 : jm_f 307 20 = some none := by decide +kernel
theorem jty_11_20 : jb_Ty 11 20 = .int ∧ (jb_T 11 20).2.2.2 = false := by decide +kernel
theorem jo_35_36 : jb_op 35 36 = some (.return_, 99, 0, 0) := by decide +kernel
theorem jr_35 : jb_ret 35 = none := by decide +kernel
theorem jo_35_10 : jb_op 35 10 = some (.aload_n 0, 99, 0, 0) := by decide +kernel
theorem jo_35_11 : jb_op 35 11 = some (.getfield 35, 0, 11, 19) := by decide +kernel
theorem jf_307_19 : jm_f 307 19 = some (some 315) := by decide +kernel
theorem jo_35_14 : jb_op 35 14 = some (.iload_n 1, 99, 0, 0) := by decide +kernel
theorem jo_35_15 : jb_op 35 15 = some (.aload_n 0, 99, 0, 0) := by decide +kernel
theorem jo_35_16 : jb_op 35 16 = some (.getfield 26, 0, 11, 11) := by decide +kernel
theorem jf_307_11 : jm_f 307 11 = some (some 312) := by decide +kernel
theorem jo_35_19 : jb_op 35 19 = some (.iload_n 1, 99, 0, 0) := by decide +kernel
theorem jo_35_20 : jb_op 35 20 = some (.iaload, 99, 0, 0) := by decide +kernel
theorem jc_312 : jm_c 312 = 12 := by decide +kernel
theorem jn_312 : jm_ln 312 = 20 := by decide +kernel
theorem jo_35_21 : jb_op 35 21 = some (.iastore, 99, 0, 0) := by decide +kernel
theorem jc_315 : jm_c 315 = 12 := by decide +kernel
theorem jn_315 : jm_ln 315 = 60 := by decide +kernel
theorem jo_35_22 : jb_op 35 22 = some (.iinc 1 1, 99, 0, 0) := by decide +kernel
theorem jo_35_25 : jb_op 35 25 = some (.goto (-23), 99, 0, 0) := by decide +kernel
theorem jl_35 : jb_ml 35 = 2 := by decide +kernel
theorem jo_36_0 : jb_op 36 0 = some (.bipush 21, 99, 0, 0) := by decide +kernel
theorem jo_36_2 : jb_op 36 2 = some (.bipush 6, 99, 0, 0) := by decide +kernel
theorem jo_36_4 : jb_op 36 4 = some (.iload_n 0, 99, 0, 0) := by decide +kernel
theorem jo_36_5 : jb_op 36 5 = some (.imul, 99, 0, 0) := by decide +kernel
theorem jo_36_6 : jb_op 36 6 = some (.iadd, 99, 0, 0) := by decide +kernel
theorem jo_36_7 : jb_op 36 7 = some (.ireturn, 99, 0, 0) := by decide +kernel
theorem jr_36 : jb_ret 36 = (some .int) := by decide +kernel
theorem jl_36 : jb_ml 36 = 1 := by decide +kernel
theorem jo_37_0 : jb_op 37 0 = some (.bipush 69, 99, 0, 0) := by decide +kernel
theorem jo_37_2 : jb_op 37 2 = some (.iconst 2, 99, 0, 0) := by decide +kernel
theorem jo_37_3 : jb_op 37 3 = some (.iload_n 0, 99, 0, 0) := by decide +kernel
theorem jo_37_4 : jb_op 37 4 = some (.imul, 99, 0, 0) := by decide +kernel
theorem jo_37_5 : jb_op 37 5 = some (.iadd, 99, 0, 0) := by decide +kernel
theorem jo_37_6 : jb_op 37 6 = some (.ireturn, 99, 0, 0) := by decide +kernel
theorem jr_37 : jb_ret 37 = (some .int) := by decide +kernel
theorem jl_37 : jb_ml 37 = 1 := by decide +kernel
theorem jo_38_0 : jb_op 38 0 = some (.sipush 145, 99, 0, 0) := by decide +kernel
theorem jo_38_3 : jb_op 38 3 = some (.istore_n 1, 99, 0, 0) := by decide +kernel
theorem jo_38_4 : jb_op 38 4 = some (.iload_n 1, 99, 0, 0) := by decide +kernel
theorem jo_38_5 : jb_op 38 5 = some (.bipush 94, 99, 0, 0) := by decide +kernel
theorem jo_38_7 : jb_op 38 7 = some (.if_icmp .lt (24), 99, 0, 0) := by decide +kernel
theorem jo_38_31 : jb_op 38 31 = some (.aload_n 0, 99, 0, 0) := by decide +kernel
theorem jo_38_32 : jb_op 38 32 = some (.getfield 9, 0, 11, 0) := by decide +kernel
theorem jf_307_0 : jm_f 307 0 = some (some 308) := by decide +kernel
theorem jo_38_35 : jb_op 38 35 = some (.bipush 81, 99, 0, 0) := by decide +kernel
theorem jo_38_37 : jb_op 38 37 = some (.aload_n 0, 99, 0, 0) := by decide +kernel
theorem jo_38_38 : jb_op 38 38 = some (.getfield 124, 0, 11, 20) := by decide +kernel
theorem jo_38_41 : jb_op 38 41 = some (.iastore, 99, 0, 0) := by decide +kernel
theorem jc_308 : jm_c 308 = 12 := by decide +kernel
theorem jn_308 : jm_ln 308 = 146 := by decide +kernel
theorem jo_38_42 : jb_op 38 42 = some (.iconst 0, 99, 0, 0) := by decide +kernel
theorem jo_38_43 : jb_op 38 43 = some (.istore_n 1, 99, 0, 0) := by decide +kernel
theorem jo_38_10 : jb_op 38 10 = some (.aload_n 0, 99, 0, 0) := by decide +kernel
theorem jo_38_11 : jb_op 38 11 = some (.getfield 9, 0, 11, 0) := by decide +kernel
theorem jo_38_14 : jb_op 38 14 = some (.iload_n 1, 99, 0, 0) := by decide +kernel
theorem jo_38_15 : jb_op 38 15 = some (.aload_n 0, 99, 0, 0) := by decide +kernel
theorem jo_38_16 : jb_op 38 16 = some (.getfield 9, 0, 11, 0) := by decide +kernel
theorem jo_38_19 : jb_op 38 19 = some (.iload_n 1, 99, 0, 0) := by decide +kernel
theorem jo_38_20 : jb_op 38 20 = some (.bipush 13, 99, 0, 0) := by decide +kernel
theorem jo_38_22 : jb_op 38 22 = some (.isub, 99, 0, 0) := by decide +kernel
theorem jo_38_23 : jb_op 38 23 = some (.iaload, 99, 0, 0) := by decide +kernel
theorem jo_38_24 : jb_op 38 24 = some (.iastore, 99, 0, 0) := by decide +kernel
theorem jo_38_25 : jb_op 38 25 = some (.iinc 1 (-1), 99, 0, 0) := by decide +kernel
theorem jo_38_28 : jb_op 38 28 = some (.goto (-24), 99, 0, 0) := by decide +kernel
theorem jo_38_44 : jb_op 38 44 = some (.iload_n 1, 99, 0, 0) := by decide +kernel
theorem jo_38_45 : jb_op 38 45 = some (.bipush 12, 99, 0, 0) := by decide +kernel
theorem jo_38_47 : jb_op 38 47 = some (.if_icmp .ge (36), 99, 0, 0) := by decide +kernel
theorem jo_38_83 : jb_op 38 83 = some (.aload_n 0, 99, 0, 0) := by decide +kernel
theorem jo_38_84 : jb_op 38 84 = some (.getfield 9, 0, 11, 0) := by decide +kernel
theorem jo_38_87 : jb_op 38 87 = some (.iconst 2, 99, 0, 0) := by decide +kernel
theorem jo_38_88 : jb_op 38 88 = some (.iconst 5, 99, 0, 0) := by decide +kernel
theorem jo_38_89 : jb_op 38 89 = some (.aload_n 0, 99, 0, 0) := by decide +kernel
theorem jo_38_90 : jb_op 38 90 = some (.getfield 9, 0, 11, 0) := by decide +kernel
theorem jo_38_93 : jb_op 38 93 = some (.iconst 2, 99, 0, 0) := by decide +kernel
theorem jo_38_94 : jb_op 38 94 = some (.iaload, 99, 0, 0) := by decide +kernel
theorem jo_38_95 : jb_op 38 95 = some (.iconst 1, 99, 0, 0) := by decide +kernel
theorem jo_38_96 : jb_op 38 96 = some (.iadd, 99, 0, 0) := by decide +kernel
theorem jo_38_97 : jb_op 38 97 = some (.invokestatic 171, 15, 1, 0) := by decide +kernel
theorem jo_38_100 : jb_op 38 100 = some (.iastore, 99, 0, 0) := by decide +kernel
theorem jo_38_101 : jb_op 38 101 = some (.aload_n 0, 99, 0, 0) := by decide +kernel
theorem jo_38_102 : jb_op 38 102 = some (.getfield 9, 0, 11, 0) := by decide +kernel
theorem jo_38_105 : jb_op 38 105 = some (.iconst 3, 99, 0, 0) := by decide +kernel
theorem jo_38_106 : jb_op 38 106 = some (.dup2, 99, 0, 0) := by decide +kernel
theorem jo_38_107 : jb_op 38 107 = some (.iaload, 99, 0, 0) := by decide +kernel
theorem jo_38_108 : jb_op 38 108 = some (.iconst 1, 99, 0, 0) := by decide +kernel
theorem jo_38_109 : jb_op 38 109 = some (.iadd, 99, 0, 0) := by decide +kernel
theorem jo_38_110 : jb_op 38 110 = some (.iastore, 99, 0, 0) := by decide +kernel
theorem jo_38_111 : jb_op 38 111 = some (.return_, 99, 0, 0) := by decide +kernel
theorem jr_38 : jb_ret 38 = none := by decide +kernel
theorem jo_38_50 : jb_op 38 50 = some (.aload_n 0, 99, 0, 0) := by decide +kernel
theorem jo_38_51 : jb_op 38 51 = some (.getfield 9, 0, 11, 0) := by decide +kernel
theorem jo_38_54 : jb_op 38 54 = some (.bipush 82, 99, 0, 0) := by decide +kernel
theorem jo_38_56 : jb_op 38 56 = some (.iload_n 1, 99, 0, 0) := by decide +kernel
theorem jo_38_57 : jb_op 38 57 = some (.iadd, 99, 0, 0) := by decide +kernel
theorem jo_38_58 : jb_op 38 58 = some (.iload_n 1, 99, 0, 0) := by decide +kernel
theorem jo_38_59 : jb_op 38 59 = some (.aload_n 0, 99, 0, 0) := by decide +kernel
theorem jo_38_60 : jb_op 38 60 = some (.getfield 124, 0, 11, 20) := by decide +kernel
theorem jo_38_63 : jb_op 38 63 = some (.if_icmp .ge (12), 99, 0, 0) := by decide +kernel
theorem jo_38_75 : jb_op 38 75 = some (.iconst 0, 99, 0, 0) := by decide +kernel
theorem jo_38_76 : jb_op 38 76 = some (.iastore, 99, 0, 0) := by decide +kernel
theorem jo_38_77 : jb_op 38 77 = some (.iinc 1 1, 99, 0, 0) := by decide +kernel
theorem jo_38_80 : jb_op 38 80 = some (.goto (-36), 99, 0, 0) := by decide +kernel
theorem jo_38_66 : jb_op 38 66 = some (.aload_n 0, 99, 0, 0) := by decide +kernel
theorem jo_38_67 : jb_op 38 67 = some (.getfield 35, 0, 11, 19) := by decide +kernel
theorem jo_38_70 : jb_op 38 70 = some (.iload_n 1, 99, 0, 0) := by decide +kernel
theorem jo_38_71 : jb_op 38 71 = some (.iaload, 99, 0, 0) := by decide +kernel
theorem jo_38_72 : jb_op 38 72 = some (.goto 4, 99, 0, 0) := by decide +kernel
theorem jl_38 : jb_ml 38 = 2 := by decide +kernel
theorem jo_39_0 : jb_op 39 0 = some (.bipush 81, 99, 0, 0) := by decide +kernel
theorem jo_39_2 : jb_op 39 2 = some (.bipush 13, 99, 0, 0) := by decide +kernel
theorem jo_39_4 : jb_op 39 4 = some (.iload_n 0, 99, 0, 0) := by decide +kernel
theorem jo_39_5 : jb_op 39 5 = some (.imul, 99, 0, 0) := by decide +kernel
theorem jo_39_6 : jb_op 39 6 = some (.iadd, 99, 0, 0) := by decide +kernel
theorem jo_39_7 : jb_op 39 7 = some (.ireturn, 99, 0, 0) := by decide +kernel
theorem jr_39 : jb_ret 39 = (some .int) := by decide +kernel
theorem jl_39 : jb_ml 39 = 1 := by decide +kernel
theorem jo_40_0 : jb_op 40 0 = some (.iload_n 0, 99, 0, 0) := by decide +kernel
theorem jo_40_1 : jb_op 40 1 = some (.ifCond .ne (7), 99, 0, 0) := by decide +kernel
theorem jo_40_4 : jb_op 40 4 = some (.iconst 1, 99, 0, 0) := by decide +kernel
theorem jo_40_5 : jb_op 40 5 = some (.goto 4, 99, 0, 0) := by decide +kernel
theorem jo_40_9 : jb_op 40 9 = some (.ireturn, 99, 0, 0) := by decide +kernel
theorem jr_40 : jb_ret 40 = (some .int) := by decide +kernel
theorem jo_40_8 : jb_op 40 8 = some (.iconst 2, 99, 0, 0) := by decide +kernel
theorem jl_40 : jb_ml 40 = 1 := by decide +kernel
theorem jo_41_0 : jb_op 41 0 = some (.iload_n 1, 99, 0, 0) := by decide +kernel
theorem jo_41_1 : jb_op 41 1 = some (.aload_n 0, 99, 0, 0) := by decide +kernel
theorem jo_41_2 : jb_op 41 2 = some (.getfield 124, 0, 11, 20) := by decide +kernel
theorem jo_41_5 : jb_op 41 5 = some (.if_icmp .ne (12), 99, 0, 0) := by decide +kernel
theorem jo_41_8 : jb_op 41 8 = some (.iload_n 2, 99, 0, 0) := by decide +kernel
theorem jo_41_9 : jb_op 41 9 = some (.iconst 2, 99, 0, 0) := by decide +kernel
theorem jo_41_10 : jb_op 41 10 = some (.if_icmp .ne (7), 99, 0, 0) := by decide +kernel
theorem jo_41_13 : jb_op 41 13 = some (.iconst 1, 99, 0, 0) := by decide +kernel
theorem jo_41_14 : jb_op 41 14 = some (.goto 4, 99, 0, 0) := by decide +kernel
theorem jo_41_18 : jb_op 41 18 = some (.aload_n 0, 99, 0, 0) := by decide +kernel
theorem jo_41_19 : jb_op 41 19 = some (.getfield 41, 0, 11, 22) := by decide +kernel
theorem jf_307_22 : jm_f 307 22 = some (some 317) := by decide +kernel
theorem jo_41_22 : jb_op 41 22 = some (.iconst 3, 99, 0, 0) := by decide +kernel
theorem jo_41_23 : jb_op 41 23 = some (.iload_n 1, 99, 0, 0) := by decide +kernel
theorem jo_41_24 : jb_op 41 24 = some (.imul, 99, 0, 0) := by decide +kernel
theorem jo_41_25 : jb_op 41 25 = some (.iload_n 2, 99, 0, 0) := by decide +kernel
theorem jo_41_26 : jb_op 41 26 = some (.iadd, 99, 0, 0) := by decide +kernel
theorem jo_41_27 : jb_op 41 27 = some (.iaload, 99, 0, 0) := by decide +kernel
theorem jc_317 : jm_c 317 = 12 := by decide +kernel
theorem jn_317 : jm_ln 317 = 63 := by decide +kernel
theorem jo_41_28 : jb_op 41 28 = some (.iadd, 99, 0, 0) := by decide +kernel
theorem jo_41_29 : jb_op 41 29 = some (.ireturn, 99, 0, 0) := by decide +kernel
theorem jr_41 : jb_ret 41 = (some .int) := by decide +kernel
theorem jo_41_17 : jb_op 41 17 = some (.iconst 0, 99, 0, 0) := by decide +kernel
theorem jl_41 : jb_ml 41 = 3 := by decide +kernel
theorem jo_42_0 : jb_op 42 0 = some (.iconst 1, 99, 0, 0) := by decide +kernel
theorem jo_42_1 : jb_op 42 1 = some (.ireturn, 99, 0, 0) := by decide +kernel
theorem jr_42 : jb_ret 42 = (some .boolean) := by decide +kernel
theorem jl_42 : jb_ml 42 = 1 := by decide +kernel
theorem jo_43_0 : jb_op 43 0 = some (.aload_n 0, 99, 0, 0) := by decide +kernel
theorem jo_43_1 : jb_op 43 1 = some (.getfield 32, 0, 11, 15) := by decide +kernel
theorem jf_307_15 : jm_f 307 15 = some (some 314) := by decide +kernel
theorem jo_43_4 : jb_op 43 4 = some (.iload_n 1, 99, 0, 0) := by decide +kernel
theorem jo_43_5 : jb_op 43 5 = some (.iload_n 2, 99, 0, 0) := by decide +kernel
theorem jo_43_6 : jb_op 43 6 = some (.iastore, 99, 0, 0) := by decide +kernel
theorem jc_314 : jm_c 314 = 12 := by decide +kernel
theorem jn_314 : jm_ln 314 = 80 := by decide +kernel
theorem jo_43_7 : jb_op 43 7 = some (.iload_n 1, 99, 0, 0) := by decide +kernel
theorem jo_43_8 : jb_op 43 8 = some (.iconst 1, 99, 0, 0) := by decide +kernel
theorem jo_43_9 : jb_op 43 9 = some (.iadd, 99, 0, 0) := by decide +kernel
theorem jo_43_10 : jb_op 43 10 = some (.ireturn, 99, 0, 0) := by decide +kernel
theorem jr_43 : jb_ret 43 = (some .int) := by decide +kernel
theorem jl_43 : jb_ml 43 = 3 := by decide +kernel
theorem jo_44_0 : jb_op 44 0 = some (.aload_n 0, 99, 0, 0) := by decide +kernel
theorem jo_44_1 : jb_op 44 1 = some (.getfield 22, 0, 11, 10) := by decide +kernel
theorem jf_307_10 : jm_f 307 10 = some none := by decide +kernel
theorem jo_44_4 : jb_op 44 4 = some (.ireturn, 99, 0, 0) := by decide +kernel
theorem jr_44 : jb_ret 44 = (some .int) := by decide +kernel
theorem jl_44 : jb_ml 44 = 1 := by decide +kernel
theorem jo_45_0 : jb_op 45 0 = some (.iload_n 0, 99, 0, 0) := by decide +kernel
theorem jo_45_1 : jb_op 45 1 = some (.tableswitch (69) (0) (7) #[(47), (49), (51), (54), (57), (60), (63), (66)], 99, 0, 0) := by decide +kernel
theorem jo_45_48 : jb_op 45 48 = some (.iconst 0, 99, 0, 0) := by decide +kernel
theorem jo_45_49 : jb_op 45 49 = some (.ireturn, 99, 0, 0) := by decide +kernel
theorem jr_45 : jb_ret 45 = (some .int) := by decide +kernel
theorem jo_45_50 : jb_op 45 50 = some (.iconst 5, 99, 0, 0) := by decide +kernel
theorem jo_45_51 : jb_op 45 51 = some (.ireturn, 99, 0, 0) := by decide +kernel
theorem jo_45_52 : jb_op 45 52 = some (.bipush 12, 99, 0, 0) := by decide +kernel
theorem jo_45_54 : jb_op 45 54 = some (.ireturn, 99, 0, 0) := by decide +kernel
theorem jo_45_55 : jb_op 45 55 = some (.bipush 17, 99, 0, 0) := by decide +kernel
theorem jo_45_57 : jb_op 45 57 = some (.ireturn, 99, 0, 0) := by decide +kernel
theorem jo_45_58 : jb_op 45 58 = some (.bipush 24, 99, 0, 0) := by decide +kernel
theorem jo_45_60 : jb_op 45 60 = some (.ireturn, 99, 0, 0) := by decide +kernel
theorem jo_45_61 : jb_op 45 61 = some (.bipush 29, 99, 0, 0) := by decide +kernel
theorem jo_45_63 : jb_op 45 63 = some (.ireturn, 99, 0, 0) := by decide +kernel
theorem jo_45_64 : jb_op 45 64 = some (.bipush 34, 99, 0, 0) := by decide +kernel
theorem jo_45_66 : jb_op 45 66 = some (.ireturn, 99, 0, 0) := by decide +kernel
theorem jo_45_67 : jb_op 45 67 = some (.bipush 37, 99, 0, 0) := by decide +kernel
theorem jo_45_69 : jb_op 45 69 = some (.ireturn, 99, 0, 0) := by decide +kernel
theorem jo_45_70 : jb_op 45 70 = some (.bipush 42, 99, 0, 0) := by decide +kernel
theorem jo_45_72 : jb_op 45 72 = some (.ireturn, 99, 0, 0) := by decide +kernel
theorem jl_45 : jb_ml 45 = 1 := by decide +kernel
theorem jo_46_0 : jb_op 46 0 = some (.aload_n 0, 99, 0, 0) := by decide +kernel
theorem jo_46_1 : jb_op 46 1 = some (.getfield 256, 0, 11, 27) := by decide +kernel
theorem jf_307_27 : jm_f 307 27 = some none := by decide +kernel
theorem jo_46_4 : jb_op 46 4 = some (.aload_n 0, 99, 0, 0) := by decide +kernel
theorem jo_46_5 : jb_op 46 5 = some (.getfield 259, 0, 11, 26) := by decide +kernel
theorem jf_307_26 : jm_f 307 26 = some none := by decide +kernel
theorem jo_46_8 : jb_op 46 8 = some (.if_icmp .ge (15), 99, 0, 0) := by decide +kernel
theorem jo_46_23 : jb_op 46 23 = some (.iconst (-1), 99, 0, 0) := by decide +kernel
theorem jo_46_24 : jb_op 46 24 = some (.ireturn, 99, 0, 0) := by decide +kernel
theorem jr_46 : jb_ret 46 = (some .int) := by decide +kernel
theorem jo_46_11 : jb_op 46 11 = some (.aload_n 0, 99, 0, 0) := by decide +kernel
theorem jo_46_12 : jb_op 46 12 = some (.getfield 29, 0, 11, 13) := by decide +kernel
theorem jf_307_13 : jm_f 307 13 = some (some 313) := by decide +kernel
theorem jo_46_15 : jb_op 46 15 = some (.aload_n 0, 99, 0, 0) := by decide +kernel
theorem jo_46_16 : jb_op 46 16 = some (.getfield 256, 0, 11, 27) := by decide +kernel
theorem jo_46_19 : jb_op 46 19 = some (.iaload, 99, 0, 0) := by decide +kernel
theorem jc_313 : jm_c 313 = 12 := by decide +kernel
theorem jn_313 : jm_ln 313 = 60 := by decide +kernel
theorem jo_46_20 : jb_op 46 20 = some (.goto 4, 99, 0, 0) := by decide +kernel
theorem jl_46 : jb_ml 46 = 1 := by decide +kernel
theorem jo_47_0 : jb_op 47 0 = some (.aload_n 0, 99, 0, 0) := by decide +kernel
theorem jo_47_1 : jb_op 47 1 = some (.aload_n 0, 99, 0, 0) := by decide +kernel
theorem jo_47_2 : jb_op 47 2 = some (.getfield 50, 0, 11, 30) := by decide +kernel
theorem jf_307_30 : jm_f 307 30 = some (some 320) := by decide +kernel
theorem jo_47_5 : jb_op 47 5 = some (.iload_n 1, 99, 0, 0) := by decide +kernel
theorem jo_47_6 : jb_op 47 6 = some (.iconst 3, 99, 0, 0) := by decide +kernel
theorem jo_47_7 : jb_op 47 7 = some (.iadd, 99, 0, 0) := by decide +kernel
theorem jo_47_8 : jb_op 47 8 = some (.iaload, 99, 0, 0) := by decide +kernel
theorem jc_320 : jm_c 320 = 12 := by decide +kernel
theorem jn_320 : jm_ln 320 = 120 := by decide +kernel
theorem jo_47_9 : jb_op 47 9 = some (.aload_n 0, 99, 0, 0) := by decide +kernel
theorem jo_47_10 : jb_op 47 10 = some (.getfield 50, 0, 11, 30) := by decide +kernel
theorem jo_47_13 : jb_op 47 13 = some (.iload_n 1, 99, 0, 0) := by decide +kernel
theorem jo_47_14 : jb_op 47 14 = some (.iconst 2, 99, 0, 0) := by decide +kernel
theorem jo_47_15 : jb_op 47 15 = some (.iadd, 99, 0, 0) := by decide +kernel
theorem jo_47_16 : jb_op 47 16 = some (.iaload, 99, 0, 0) := by decide +kernel
theorem jo_47_17 : jb_op 47 17 = some (.isub, 99, 0, 0) := by decide +kernel
theorem jo_47_18 : jb_op 47 18 = some (.putfield 124, 0, 11, 20) := by decide +kernel
theorem jo_47_21 : jb_op 47 21 = some (.iconst 0, 99, 0, 0) := by decide +kernel
theorem jo_47_22 : jb_op 47 22 = some (.istore_n 2, 99, 0, 0) := by decide +kernel
theorem jo_47_23 : jb_op 47 23 = some (.iload_n 2, 99, 0, 0) := by decide +kernel
theorem jo_47_24 : jb_op 47 24 = some (.aload_n 0, 99, 0, 0) := by decide +kernel
theorem jo_47_25 : jb_op 47 25 = some (.getfield 124, 0, 11, 20) := by decide +kernel
theorem jo_47_28 : jb_op 47 28 = some (.if_icmp .ge (45), 99, 0, 0) := by decide +kernel
theorem jo_47_73 : jb_op 47 73 = some (.return_, 99, 0, 0) := by decide +kernel
theorem jr_47 : jb_ret 47 = none := by decide +kernel
theorem jo_47_31 : jb_op 47 31 = some (.aload_n 0, 99, 0, 0) := by decide +kernel
theorem jo_47_32 : jb_op 47 32 = some (.getfield 29, 0, 11, 13) := by decide +kernel
theorem jo_47_35 : jb_op 47 35 = some (.aload_n 0, 99, 0, 0) := by decide +kernel
theorem jo_47_36 : jb_op 47 36 = some (.getfield 50, 0, 11, 30) := by decide +kernel
theorem jo_47_39 : jb_op 47 39 = some (.iload_n 1, 99, 0, 0) := by decide +kernel
theorem jo_47_40 : jb_op 47 40 = some (.iconst 2, 99, 0, 0) := by decide +kernel
theorem jo_47_41 : jb_op 47 41 = some (.iadd, 99, 0, 0) := by decide +kernel
theorem jo_47_42 : jb_op 47 42 = some (.iaload, 99, 0, 0) := by decide +kernel
theorem jo_47_43 : jb_op 47 43 = some (.iload_n 2, 99, 0, 0) := by decide +kernel
theorem jo_47_44 : jb_op 47 44 = some (.iadd, 99, 0, 0) := by decide +kernel
theorem jo_47_45 : jb_op 47 45 = some (.iaload, 99, 0, 0) := by decide +kernel
theorem jo_47_46 : jb_op 47 46 = some (.istore_n 3, 99, 0, 0) := by decide +kernel
theorem jo_47_47 : jb_op 47 47 = some (.aload_n 0, 99, 0, 0) := by decide +kernel
theorem jo_47_48 : jb_op 47 48 = some (.getfield 35, 0, 11, 19) := by decide +kernel
theorem jo_47_51 : jb_op 47 51 = some (.iload_n 2, 99, 0, 0) := by decide +kernel
theorem jo_47_52 : jb_op 47 52 = some (.iload_n 3, 99, 0, 0) := by decide +kernel
theorem jo_47_53 : jb_op 47 53 = some (.bipush 46, 99, 0, 0) := by decide +kernel
theorem jo_47_55 : jb_op 47 55 = some (.if_icmp .ne (7), 99, 0, 0) := by decide +kernel
theorem jo_47_58 : jb_op 47 58 = some (.iconst 5, 99, 0, 0) := by decide +kernel
theorem jo_47_59 : jb_op 47 59 = some (.goto 7, 99, 0, 0) := by decide +kernel
theorem jo_47_66 : jb_op 47 66 = some (.iastore, 99, 0, 0) := by decide +kernel
theorem jo_47_67 : jb_op 47 67 = some (.iinc 2 1, 99, 0, 0) := by decide +kernel
theorem jo_47_70 : jb_op 47 70 = some (.goto (-47), 99, 0, 0) := by decide +kernel
theorem jo_47_62 : jb_op 47 62 = some (.iload_n 3, 99, 0, 0) := by decide +kernel
theorem jo_47_63 : jb_op 47 63 = some (.bipush 97, 99, 0, 0) := by decide +kernel
theorem jo_47_65 : jb_op 47 65 = some (.isub, 99, 0, 0) := by decide +kernel
theorem jl_47 : jb_ml 47 = 4 := by decide +kernel
theorem jo_48_0 : jb_op 48 0 = some (.aload_n 0, 99, 0, 0) := by decide +kernel
theorem jo_48_1 : jb_op 48 1 = some (.iconst 0, 99, 0, 0) := by decide +kernel
theorem jo_48_2 : jb_op 48 2 = some (.putfield 9, 0, 6, 1) := by decide +kernel
theorem jo_48_5 : jb_op 48 5 = some (.iconst 0, 99, 0, 0) := by decide +kernel
theorem jo_48_6 : jb_op 48 6 = some (.istore_n 3, 99, 0, 0) := by decide +kernel
theorem jo_48_7 : jb_op 48 7 = some (.iload_n 3, 99, 0, 0) := by decide +kernel
theorem jo_48_8 : jb_op 48 8 = some (.iload_n 1, 99, 0, 0) := by decide +kernel
theorem jo_48_9 : jb_op 48 9 = some (.if_icmp .ge (14), 99, 0, 0) := by decide +kernel
theorem jo_48_23 : jb_op 48 23 = some (.return_, 99, 0, 0) := by decide +kernel
theorem jr_48 : jb_ret 48 = none := by decide +kernel
theorem jo_48_12 : jb_op 48 12 = some (.aload_n 0, 99, 0, 0) := by decide +kernel
theorem jo_48_13 : jb_op 48 13 = some (.iload_n 2, 99, 0, 0) := by decide +kernel
theorem jo_48_14 : jb_op 48 14 = some (.invokevirtual 40, 2, 1, 1) := by decide +kernel
theorem jh_1_48 : jb_ht 1 < jb_ht 48 := by decide +kernel
theorem jw_1 : jb_ow 1 = 6 := by decide +kernel
theorem jo_48_17 : jb_op 48 17 = some (.iinc 3 1, 99, 0, 0) := by decide +kernel
theorem jo_48_20 : jb_op 48 20 = some (.goto (-13), 99, 0, 0) := by decide +kernel
theorem jl_48 : jb_ml 48 = 4 := by decide +kernel
theorem jo_53_0 : jb_op 53 0 = some (.aload_n 0, 99, 0, 0) := by decide +kernel
theorem jo_53_1 : jb_op 53 1 = some (.getfield 14, 0, 0, 0) := by decide +kernel
theorem jo_53_4 : jb_op 53 4 = some (.aload_n 1, 99, 0, 0) := by decide +kernel
theorem jo_53_5 : jb_op 53 5 = some (.getfield 14, 0, 0, 0) := by decide +kernel
theorem jo_53_8 : jb_op 53 8 = some (.invokevirtual 30, 2, 3, 1) := by decide +kernel
theorem jh_3_53 : jb_ht 3 < jb_ht 53 := by decide +kernel
theorem jw_3 : jb_ow 3 = 6 := by decide +kernel
theorem jo_53_11 : jb_op 53 11 = some (.aload_n 0, 99, 0, 0) := by decide +kernel
theorem jo_53_12 : jb_op 53 12 = some (.getfield 20, 0, 0, 1) := by decide +kernel
theorem jo_53_15 : jb_op 53 15 = some (.aload_n 1, 99, 0, 0) := by decide +kernel
theorem jo_53_16 : jb_op 53 16 = some (.getfield 20, 0, 0, 1) := by decide +kernel
theorem jo_53_19 : jb_op 53 19 = some (.invokevirtual 30, 2, 3, 1) := by decide +kernel
theorem jo_53_22 : jb_op 53 22 = some (.aload_n 0, 99, 0, 0) := by decide +kernel
theorem jo_53_23 : jb_op 53 23 = some (.getfield 23, 0, 0, 2) := by decide +kernel
theorem jo_53_26 : jb_op 53 26 = some (.aload_n 1, 99, 0, 0) := by decide +kernel
theorem jo_53_27 : jb_op 53 27 = some (.getfield 23, 0, 0, 2) := by decide +kernel
theorem jo_53_30 : jb_op 53 30 = some (.invokevirtual 30, 2, 3, 1) := by decide +kernel
theorem jo_53_33 : jb_op 53 33 = some (.return_, 99, 0, 0) := by decide +kernel
theorem jr_53 : jb_ret 53 = none := by decide +kernel
theorem jl_53 : jb_ml 53 = 2 := by decide +kernel
theorem jo_54_0 : jb_op 54 0 = some (.aload_n 0, 99, 0, 0) := by decide +kernel
theorem jo_54_1 : jb_op 54 1 = some (.getfield 14, 0, 1, 0) := by decide +kernel
theorem jo_54_4 : jb_op 54 4 = some (.aload_n 1, 99, 0, 0) := by decide +kernel
theorem jo_54_5 : jb_op 54 5 = some (.getfield 14, 0, 1, 0) := by decide +kernel
theorem jo_54_8 : jb_op 54 8 = some (.invokevirtual 26, 2, 3, 1) := by decide +kernel
theorem jh_3_54 : jb_ht 3 < jb_ht 54 := by decide +kernel
theorem jo_54_11 : jb_op 54 11 = some (.aload_n 0, 99, 0, 0) := by decide +kernel
theorem jo_54_12 : jb_op 54 12 = some (.getfield 20, 0, 1, 1) := by decide +kernel
theorem jo_54_15 : jb_op 54 15 = some (.aload_n 1, 99, 0, 0) := by decide +kernel
theorem jo_54_16 : jb_op 54 16 = some (.getfield 20, 0, 1, 1) := by decide +kernel
theorem jo_54_19 : jb_op 54 19 = some (.invokevirtual 26, 2, 3, 1) := by decide +kernel
theorem jo_54_22 : jb_op 54 22 = some (.aload_n 0, 99, 0, 0) := by decide +kernel
theorem jo_54_23 : jb_op 54 23 = some (.getfield 23, 0, 1, 2) := by decide +kernel
theorem jo_54_26 : jb_op 54 26 = some (.aload_n 1, 99, 0, 0) := by decide +kernel
theorem jo_54_27 : jb_op 54 27 = some (.getfield 23, 0, 1, 2) := by decide +kernel
theorem jo_54_30 : jb_op 54 30 = some (.invokevirtual 26, 2, 3, 1) := by decide +kernel
theorem jo_54_33 : jb_op 54 33 = some (.return_, 99, 0, 0) := by decide +kernel
theorem jr_54 : jb_ret 54 = none := by decide +kernel
theorem jl_54 : jb_ml 54 = 2 := by decide +kernel
theorem jo_55_0 : jb_op 55 0 = some (.aload_n 0, 99, 0, 0) := by decide +kernel
theorem jo_55_1 : jb_op 55 1 = some (.getfield 14, 0, 7, 0) := by decide +kernel
theorem jo_55_4 : jb_op 55 4 = some (.aload_n 1, 99, 0, 0) := by decide +kernel
theorem jo_55_5 : jb_op 55 5 = some (.getfield 14, 0, 7, 0) := by decide +kernel
theorem jo_55_8 : jb_op 55 8 = some (.invokevirtual 23, 2, 3, 1) := by decide +kernel
theorem jh_3_55 : jb_ht 3 < jb_ht 55 := by decide +kernel
theorem jo_55_11 : jb_op 55 11 = some (.aload_n 0, 99, 0, 0) := by decide +kernel
theorem jo_55_12 : jb_op 55 12 = some (.getfield 20, 0, 7, 1) := by decide +kernel
theorem jo_55_15 : jb_op 55 15 = some (.aload_n 1, 99, 0, 0) := by decide +kernel
theorem jo_55_16 : jb_op 55 16 = some (.getfield 20, 0, 7, 1) := by decide +kernel
theorem jo_55_19 : jb_op 55 19 = some (.invokevirtual 23, 2, 3, 1) := by decide +kernel
theorem jo_55_22 : jb_op 55 22 = some (.return_, 99, 0, 0) := by decide +kernel
theorem jr_55 : jb_ret 55 = none := by decide +kernel
theorem jl_55 : jb_ml 55 = 2 := by decide +kernel
theorem jo_56_0 : jb_op 56 0 = some (.aload_n 0, 99, 0, 0) := by decide +kernel
theorem jo_56_1 : jb_op 56 1 = some (.getfield 14, 0, 4, 0) := by decide +kernel
theorem jo_56_4 : jb_op 56 4 = some (.aload_n 1, 99, 0, 0) := by decide +kernel
theorem jo_56_5 : jb_op 56 5 = some (.getfield 14, 0, 4, 0) := by decide +kernel
theorem jo_56_8 : jb_op 56 8 = some (.invokevirtual 27, 2, 3, 1) := by decide +kernel
theorem jh_3_56 : jb_ht 3 < jb_ht 56 := by decide +kernel
theorem jo_56_11 : jb_op 56 11 = some (.aload_n 0, 99, 0, 0) := by decide +kernel
theorem jo_56_12 : jb_op 56 12 = some (.getfield 20, 0, 4, 1) := by decide +kernel
theorem jo_56_15 : jb_op 56 15 = some (.aload_n 1, 99, 0, 0) := by decide +kernel
theorem jo_56_16 : jb_op 56 16 = some (.getfield 20, 0, 4, 1) := by decide +kernel
theorem jo_56_19 : jb_op 56 19 = some (.invokevirtual 27, 2, 3, 1) := by decide +kernel
theorem jo_56_22 : jb_op 56 22 = some (.return_, 99, 0, 0) := by decide +kernel
theorem jr_56 : jb_ret 56 = none := by decide +kernel
theorem jl_56 : jb_ml 56 = 2 := by decide +kernel
theorem jo_57_0 : jb_op 57 0 = some (.aload_n 0, 99, 0, 0) := by decide +kernel
theorem jo_57_1 : jb_op 57 1 = some (.getfield 14, 0, 0, 0) := by decide +kernel
theorem jc_2 : jm_c 2 = 0 := by decide +kernel
theorem jf_2_0 : jm_f 2 0 = some (some 3) := by decide +kernel
theorem jo_57_4 : jb_op 57 4 = some (.iload_n 1, 99, 0, 0) := by decide +kernel
theorem jo_57_5 : jb_op 57 5 = some (.invokevirtual 34, 2, 4, 1) := by decide +kernel
theorem jc_3 : jm_c 3 = 6 := by decide +kernel
theorem jh_4_57 : jb_ht 4 < jb_ht 57 := by decide +kernel
theorem jw_4 : jb_ow 4 = 6 := by decide +kernel
theorem jo_57_8 : jb_op 57 8 = some (.ifCond .ne (5), 99, 0, 0) := by decide +kernel
theorem jo_57_11 : jb_op 57 11 = some (.iconst (-1), 99, 0, 0) := by decide +kernel
theorem jo_57_12 : jb_op 57 12 = some (.ireturn, 99, 0, 0) := by decide +kernel
theorem jr_57 : jb_ret 57 = (some .int) := by decide +kernel
theorem jo_57_13 : jb_op 57 13 = some (.iload_n 2, 99, 0, 0) := by decide +kernel
theorem jo_57_14 : jb_op 57 14 = some (.invokestatic 38, 5, 5, 1) := by decide +kernel
theorem jh_5_57 : jb_ht 5 < jb_ht 57 := by decide +kernel
theorem jo_57_17 : jb_op 57 17 = some (.ifCond .ne (6), 99, 0, 0) := by decide +kernel
theorem jo_57_20 : jb_op 57 20 = some (.bipush (-2), 99, 0, 0) := by decide +kernel
theorem jo_57_22 : jb_op 57 22 = some (.ireturn, 99, 0, 0) := by decide +kernel
theorem jo_57_23 : jb_op 57 23 = some (.aload_n 0, 99, 0, 0) := by decide +kernel
theorem jo_57_24 : jb_op 57 24 = some (.getfield 14, 0, 0, 0) := by decide +kernel
theorem jo_57_27 : jb_op 57 27 = some (.iload_n 1, 99, 0, 0) := by decide +kernel
theorem jo_57_28 : jb_op 57 28 = some (.invokevirtual 41, 2, 6, 1) := by decide +kernel
theorem jh_6_57 : jb_ht 6 < jb_ht 57 := by decide +kernel
theorem jw_6 : jb_ow 6 = 6 := by decide +kernel
theorem jo_57_31 : jb_op 57 31 = some (.istore 4, 99, 0, 0) := by decide +kernel
theorem jo_57_33 : jb_op 57 33 = some (.iload 4, 99, 0, 0) := by decide +kernel
theorem jo_57_35 : jb_op 57 35 = some (.iload_n 2, 99, 0, 0) := by decide +kernel
theorem jo_57_36 : jb_op 57 36 = some (.if_icmp .ne (10), 99, 0, 0) := by decide +kernel
theorem jo_57_39 : jb_op 57 39 = some (.aload_n 3, 99, 0, 0) := by decide +kernel
theorem jo_57_40 : jb_op 57 40 = some (.iconst 2, 99, 0, 0) := by decide +kernel
theorem jo_57_41 : jb_op 57 41 = some (.iload_n 2, 99, 0, 0) := by decide +kernel
theorem jo_57_42 : jb_op 57 42 = some (.invokevirtual 45, 2, 7, 2) := by decide +kernel
theorem jh_7_57 : jb_ht 7 < jb_ht 57 := by decide +kernel
theorem jw_7 : jb_ow 7 = 5 := by decide +kernel
theorem jo_57_46 : jb_op 57 46 = some (.aload_n 0, 99, 0, 0) := by decide +kernel
theorem jo_57_47 : jb_op 57 47 = some (.getfield 14, 0, 0, 0) := by decide +kernel
theorem jo_57_50 : jb_op 57 50 = some (.iload_n 1, 99, 0, 0) := by decide +kernel
theorem jo_57_51 : jb_op 57 51 = some (.iload_n 2, 99, 0, 0) := by decide +kernel
theorem jo_57_52 : jb_op 57 52 = some (.invokevirtual 51, 2, 8, 2) := by decide +kernel
theorem jh_8_57 : jb_ht 8 < jb_ht 57 := by decide +kernel
theorem jw_8 : jb_ow 8 = 6 := by decide +kernel
theorem jo_57_55 : jb_op 57 55 = some (.iload 4, 99, 0, 0) := by decide +kernel
theorem jo_57_57 : jb_op 57 57 = some (.ireturn, 99, 0, 0) := by decide +kernel
theorem jo_57_45 : jb_op 57 45 = some (.ireturn, 99, 0, 0) := by decide +kernel
theorem jl_57 : jb_ml 57 = 5 := by decide +kernel
theorem jo_58_0 : jb_op 58 0 = some (.aload_n 0, 99, 0, 0) := by decide +kernel
theorem jo_58_1 : jb_op 58 1 = some (.getfield 20, 0, 0, 1) := by decide +kernel
theorem jf_2_1 : jm_f 2 1 = some (some 5) := by decide +kernel
theorem jo_58_4 : jb_op 58 4 = some (.iload_n 1, 99, 0, 0) := by decide +kernel
theorem jo_58_5 : jb_op 58 5 = some (.invokevirtual 34, 2, 4, 1) := by decide +kernel
theorem jc_5 : jm_c 5 = 6 := by decide +kernel
theorem jh_4_58 : jb_ht 4 < jb_ht 58 := by decide +kernel
theorem jo_58_8 : jb_op 58 8 = some (.ifCond .ne (5), 99, 0, 0) := by decide +kernel
theorem jo_58_11 : jb_op 58 11 = some (.iconst (-1), 99, 0, 0) := by decide +kernel
theorem jo_58_12 : jb_op 58 12 = some (.ireturn, 99, 0, 0) := by decide +kernel
theorem jr_58 : jb_ret 58 = (some .int) := by decide +kernel
theorem jo_58_13 : jb_op 58 13 = some (.aload_n 0, 99, 0, 0) := by decide +kernel
theorem jo_58_14 : jb_op 58 14 = some (.getfield 20, 0, 0, 1) := by decide +kernel
theorem jo_58_17 : jb_op 58 17 = some (.iload_n 1, 99, 0, 0) := by decide +kernel
theorem jo_58_18 : jb_op 58 18 = some (.invokevirtual 41, 2, 6, 1) := by decide +kernel
theorem jh_6_58 : jb_ht 6 < jb_ht 58 := by decide +kernel
theorem jo_58_21 : jb_op 58 21 = some (.istore_n 3, 99, 0, 0) := by decide +kernel
theorem jo_58_22 : jb_op 58 22 = some (.iload_n 3, 99, 0, 0) := by decide +kernel
theorem jo_58_23 : jb_op 58 23 = some (.ifCond .ne (10), 99, 0, 0) := by decide +kernel
theorem jo_58_26 : jb_op 58 26 = some (.aload_n 2, 99, 0, 0) := by decide +kernel
theorem jo_58_27 : jb_op 58 27 = some (.iconst 3, 99, 0, 0) := by decide +kernel
theorem jo_58_28 : jb_op 58 28 = some (.iload_n 1, 99, 0, 0) := by decide +kernel
theorem jo_58_29 : jb_op 58 29 = some (.invokevirtual 45, 2, 7, 2) := by decide +kernel
theorem jh_7_58 : jb_ht 7 < jb_ht 58 := by decide +kernel
theorem jo_58_33 : jb_op 58 33 = some (.aload_n 0, 99, 0, 0) := by decide +kernel
theorem jo_58_34 : jb_op 58 34 = some (.getfield 20, 0, 0, 1) := by decide +kernel
theorem jo_58_37 : jb_op 58 37 = some (.iload_n 1, 99, 0, 0) := by decide +kernel
theorem jo_58_38 : jb_op 58 38 = some (.iconst 0, 99, 0, 0) := by decide +kernel
theorem jo_58_39 : jb_op 58 39 = some (.invokevirtual 51, 2, 8, 2) := by decide +kernel
theorem jh_8_58 : jb_ht 8 < jb_ht 58 := by decide +kernel
theorem jo_58_42 : jb_op 58 42 = some (.iload_n 3, 99, 0, 0) := by decide +kernel
theorem jo_58_43 : jb_op 58 43 = some (.ireturn, 99, 0, 0) := by decide +kernel
theorem jo_58_32 : jb_op 58 32 = some (.ireturn, 99, 0, 0) := by decide +kernel
theorem jl_58 : jb_ml 58 = 4 := by decide +kernel
theorem jo_59_0 : jb_op 59 0 = some (.iload_n 1, 99, 0, 0) := by decide +kernel
theorem jo_59_1 : jb_op 59 1 = some (.invokestatic 110, 4, 10, 1) := by decide +kernel
theorem jh_10_59 : jb_ht 10 < jb_ht 59 := by decide +kernel
theorem jo_59_4 : jb_op 59 4 = some (.istore_n 2, 99, 0, 0) := by decide +kernel
theorem jo_59_5 : jb_op 59 5 = some (.iload_n 2, 99, 0, 0) := by decide +kernel
theorem jo_59_6 : jb_op 59 6 = some (.iconst (-1), 99, 0, 0) := by decide +kernel
theorem jo_59_7 : jb_op 59 7 = some (.if_icmp .ne (6), 99, 0, 0) := by decide +kernel
theorem jo_59_10 : jb_op 59 10 = some (.bipush (-2), 99, 0, 0) := by decide +kernel
theorem jo_59_12 : jb_op 59 12 = some (.ireturn, 99, 0, 0) := by decide +kernel
theorem jr_59 : jb_ret 59 = (some .int) := by decide +kernel
theorem jo_59_13 : jb_op 59 13 = some (.aload_n 0, 99, 0, 0) := by decide +kernel
theorem jo_59_14 : jb_op 59 14 = some (.getfield 55, 0, 10, 7) := by decide +kernel
theorem jf_0_7 : jm_f 0 7 = some (some 291) := by decide +kernel
theorem jo_59_17 : jb_op 59 17 = some (.invokevirtual 113, 2, 11, 0) := by decide +kernel
theorem jc_291 : jm_c 291 = 6 := by decide +kernel
theorem jh_11_59 : jb_ht 11 < jb_ht 59 := by decide +kernel
theorem jw_11 : jb_ow 11 = 6 := by decide +kernel
theorem jo_59_20 : jb_op 59 20 = some (.ifCond .eq (6), 99, 0, 0) := by decide +kernel
theorem jo_59_26 : jb_op 59 26 = some (.aload_n 0, 99, 0, 0) := by decide +kernel
theorem jo_59_27 : jb_op 59 27 = some (.getfield 55, 0, 10, 7) := by decide +kernel
theorem jo_59_30 : jb_op 59 30 = some (.iload_n 2, 99, 0, 0) := by decide +kernel
theorem jo_59_31 : jb_op 59 31 = some (.invokevirtual 117, 2, 1, 1) := by decide +kernel
theorem jh_1_59 : jb_ht 1 < jb_ht 59 := by decide +kernel
theorem jo_59_23 : jb_op 59 23 = some (.bipush (-4), 99, 0, 0) := by decide +kernel
theorem jo_59_25 : jb_op 59 25 = some (.ireturn, 99, 0, 0) := by decide +kernel
theorem jo_59_34 : jb_op 59 34 = some (.aload_n 0, 99, 0, 0) := by decide +kernel
theorem jo_59_35 : jb_op 59 35 = some (.getfield 55, 0, 10, 7) := by decide +kernel
theorem jo_59_38 : jb_op 59 38 = some (.invokevirtual 120, 2, 12, 0) := by decide +kernel
theorem jh_12_59 : jb_ht 12 < jb_ht 59 := by decide +kernel
theorem jw_12 : jb_ow 12 = 6 := by decide +kernel
theorem jo_59_41 : jb_op 59 41 = some (.ireturn, 99, 0, 0) := by decide +kernel
theorem jl_59 : jb_ml 59 = 3 := by decide +kernel
theorem jo_60_0 : jb_op 60 0 = some (.iconst 0, 99, 0, 0) := by decide +kernel
theorem jo_60_1 : jb_op 60 1 = some (.istore_n 1, 99, 0, 0) := by decide +kernel
theorem jo_60_2 : jb_op 60 2 = some (.iconst 0, 99, 0, 0) := by decide +kernel
theorem jo_60_3 : jb_op 60 3 = some (.istore_n 2, 99, 0, 0) := by decide +kernel
theorem jo_60_4 : jb_op 60 4 = some (.iload_n 2, 99, 0, 0) := by decide +kernel
theorem jo_60_5 : jb_op 60 5 = some (.iconst 4, 99, 0, 0) := by decide +kernel
theorem jo_60_6 : jb_op 60 6 = some (.if_icmp .ge (47), 99, 0, 0) := by decide +kernel
theorem jo_60_53 : jb_op 60 53 = some (.iload_n 1, 99, 0, 0) := by decide +kernel
theorem jo_60_54 : jb_op 60 54 = some (.ireturn, 99, 0, 0) := by decide +kernel
theorem jr_60 : jb_ret 60 = (some .int) := by decide +kernel
theorem jo_60_9 : jb_op 60 9 = some (.iconst 0, 99, 0, 0) := by decide +kernel
theorem jo_60_10 : jb_op 60 10 = some (.istore_n 3, 99, 0, 0) := by decide +kernel
theorem jo_60_11 : jb_op 60 11 = some (.aload_n 0, 99, 0, 0) := by decide +kernel
theorem jo_60_12 : jb_op 60 12 = some (.iload_n 2, 99, 0, 0) := by decide +kernel
theorem jo_60_13 : jb_op 60 13 = some (.invokevirtual 58, 2, 4, 1) := by decide +kernel
theorem jh_4_60 : jb_ht 4 < jb_ht 60 := by decide +kernel
theorem jo_60_16 : jb_op 60 16 = some (.ifCond .eq (24), 99, 0, 0) := by decide +kernel
theorem jo_60_40 : jb_op 60 40 = some (.iload_n 1, 99, 0, 0) := by decide +kernel
theorem jo_60_41 : jb_op 60 41 = some (.bipush 8, 99, 0, 0) := by decide +kernel
theorem jo_60_43 : jb_op 60 43 = some (.imul, 99, 0, 0) := by decide +kernel
theorem jo_60_44 : jb_op 60 44 = some (.iload_n 3, 99, 0, 0) := by decide +kernel
theorem jo_60_45 : jb_op 60 45 = some (.iadd, 99, 0, 0) := by decide +kernel
theorem jo_60_46 : jb_op 60 46 = some (.istore_n 1, 99, 0, 0) := by decide +kernel
theorem jo_60_47 : jb_op 60 47 = some (.iinc 2 1, 99, 0, 0) := by decide +kernel
theorem jo_60_50 : jb_op 60 50 = some (.goto (-46), 99, 0, 0) := by decide +kernel
theorem jo_60_19 : jb_op 60 19 = some (.aload_n 0, 99, 0, 0) := by decide +kernel
theorem jo_60_20 : jb_op 60 20 = some (.iload_n 2, 99, 0, 0) := by decide +kernel
theorem jo_60_21 : jb_op 60 21 = some (.invokevirtual 40, 2, 6, 1) := by decide +kernel
theorem jh_6_60 : jb_ht 6 < jb_ht 60 := by decide +kernel
theorem jo_60_24 : jb_op 60 24 = some (.iconst 5, 99, 0, 0) := by decide +kernel
theorem jo_60_25 : jb_op 60 25 = some (.if_icmp .ne (7), 99, 0, 0) := by decide +kernel
theorem jo_60_28 : jb_op 60 28 = some (.iconst 1, 99, 0, 0) := by decide +kernel
theorem jo_60_29 : jb_op 60 29 = some (.goto 10, 99, 0, 0) := by decide +kernel
theorem jo_60_39 : jb_op 60 39 = some (.istore_n 3, 99, 0, 0) := by decide +kernel
theorem jo_60_32 : jb_op 60 32 = some (.aload_n 0, 99, 0, 0) := by decide +kernel
theorem jo_60_33 : jb_op 60 33 = some (.iload_n 2, 99, 0, 0) := by decide +kernel
theorem jo_60_34 : jb_op 60 34 = some (.invokevirtual 40, 2, 6, 1) := by decide +kernel
theorem jo_60_37 : jb_op 60 37 = some (.iconst 2, 99, 0, 0) := by decide +kernel
theorem jo_60_38 : jb_op 60 38 = some (.iadd, 99, 0, 0) := by decide +kernel
theorem jl_60 : jb_ml 60 = 4 := by decide +kernel
theorem jo_61_0 : jb_op 61 0 = some (.iconst 0, 99, 0, 0) := by decide +kernel
theorem jo_61_1 : jb_op 61 1 = some (.istore_n 2, 99, 0, 0) := by decide +kernel
theorem jo_61_2 : jb_op 61 2 = some (.iload_n 2, 99, 0, 0) := by decide +kernel
theorem jo_61_3 : jb_op 61 3 = some (.aload_n 0, 99, 0, 0) := by decide +kernel
theorem jo_61_4 : jb_op 61 4 = some (.getfield 23, 0, 1, 2) := by decide +kernel
theorem jc_9 : jm_c 9 = 1 := by decide +kernel
theorem jf_9_2 : jm_f 9 2 = some (some 14) := by decide +kernel
theorem jo_61_7 : jb_op 61 7 = some (.invokevirtual 30, 2, 12, 0) := by decide +kernel
theorem jc_14 : jm_c 14 = 6 := by decide +kernel
theorem jh_12_61 : jb_ht 12 < jb_ht 61 := by decide +kernel
theorem jo_61_10 : jb_op 61 10 = some (.if_icmp .ge (23), 99, 0, 0) := by decide +kernel
theorem jo_61_33 : jb_op 61 33 = some (.iconst (-1), 99, 0, 0) := by decide +kernel
theorem jo_61_34 : jb_op 61 34 = some (.ireturn, 99, 0, 0) := by decide +kernel
theorem jr_61 : jb_ret 61 = (some .int) := by decide +kernel
theorem jo_61_13 : jb_op 61 13 = some (.aload_n 0, 99, 0, 0) := by decide +kernel
theorem jo_61_14 : jb_op 61 14 = some (.getfield 23, 0, 1, 2) := by decide +kernel
theorem jo_61_17 : jb_op 61 17 = some (.iload_n 2, 99, 0, 0) := by decide +kernel
theorem jo_61_18 : jb_op 61 18 = some (.invokevirtual 40, 2, 6, 1) := by decide +kernel
theorem jh_6_61 : jb_ht 6 < jb_ht 61 := by decide +kernel
theorem jo_61_21 : jb_op 61 21 = some (.iload_n 1, 99, 0, 0) := by decide +kernel
theorem jo_61_22 : jb_op 61 22 = some (.if_icmp .ne (5), 99, 0, 0) := by decide +kernel
theorem jo_61_25 : jb_op 61 25 = some (.iload_n 2, 99, 0, 0) := by decide +kernel
theorem jo_61_26 : jb_op 61 26 = some (.ireturn, 99, 0, 0) := by decide +kernel
theorem jo_61_27 : jb_op 61 27 = some (.iinc 2 1, 99, 0, 0) := by decide +kernel
theorem jo_61_30 : jb_op 61 30 = some (.goto (-28), 99, 0, 0) := by decide +kernel
theorem jl_61 : jb_ml 61 = 3 := by decide +kernel
theorem jo_62_0 : jb_op 62 0 = some (.aload_n 0, 99, 0, 0) := by decide +kernel
theorem jo_62_1 : jb_op 62 1 = some (.iload_n 1, 99, 0, 0) := by decide +kernel
theorem jo_62_2 : jb_op 62 2 = some (.invokevirtual 36, 2, 4, 1) := by decide +kernel
theorem jh_4_62 : jb_ht 4 < jb_ht 62 := by decide +kernel
theorem jo_62_5 : jb_op 62 5 = some (.ifCond .ne (4), 99, 0, 0) := by decide +kernel
theorem jo_62_8 : jb_op 62 8 = some (.return_, 99, 0, 0) := by decide +kernel
theorem jr_62 : jb_ret 62 = none := by decide +kernel
theorem jo_62_9 : jb_op 62 9 = some (.iload_n 1, 99, 0, 0) := by decide +kernel
theorem jo_62_10 : jb_op 62 10 = some (.istore_n 2, 99, 0, 0) := by decide +kernel
theorem jo_62_11 : jb_op 62 11 = some (.iload_n 2, 99, 0, 0) := by decide +kernel
theorem jo_62_12 : jb_op 62 12 = some (.aload_n 0, 99, 0, 0) := by decide +kernel
theorem jo_62_13 : jb_op 62 13 = some (.getfield 9, 0, 6, 1) := by decide +kernel
theorem jo_62_16 : jb_op 62 16 = some (.iconst 1, 99, 0, 0) := by decide +kernel
theorem jo_62_17 : jb_op 62 17 = some (.isub, 99, 0, 0) := by decide +kernel
theorem jo_62_18 : jb_op 62 18 = some (.if_icmp .ge (21), 99, 0, 0) := by decide +kernel
theorem jo_62_39 : jb_op 62 39 = some (.aload_n 0, 99, 0, 0) := by decide +kernel
theorem jo_62_40 : jb_op 62 40 = some (.dup, 99, 0, 0) := by decide +kernel
theorem jo_62_41 : jb_op 62 41 = some (.getfield 9, 0, 6, 1) := by decide +kernel
theorem jo_62_44 : jb_op 62 44 = some (.iconst 1, 99, 0, 0) := by decide +kernel
theorem jo_62_45 : jb_op 62 45 = some (.isub, 99, 0, 0) := by decide +kernel
theorem jo_62_46 : jb_op 62 46 = some (.putfield 9, 0, 6, 1) := by decide +kernel
theorem jo_62_49 : jb_op 62 49 = some (.return_, 99, 0, 0) := by decide +kernel
theorem jo_62_21 : jb_op 62 21 = some (.aload_n 0, 99, 0, 0) := by decide +kernel
theorem jo_62_22 : jb_op 62 22 = some (.iload_n 2, 99, 0, 0) := by decide +kernel
theorem jo_62_23 : jb_op 62 23 = some (.aload_n 0, 99, 0, 0) := by decide +kernel
theorem jo_62_24 : jb_op 62 24 = some (.iload_n 2, 99, 0, 0) := by decide +kernel
theorem jo_62_25 : jb_op 62 25 = some (.iconst 1, 99, 0, 0) := by decide +kernel
theorem jo_62_26 : jb_op 62 26 = some (.iadd, 99, 0, 0) := by decide +kernel
theorem jo_62_27 : jb_op 62 27 = some (.invokevirtual 28, 2, 6, 1) := by decide +kernel
theorem jh_6_62 : jb_ht 6 < jb_ht 62 := by decide +kernel
theorem jo_62_30 : jb_op 62 30 = some (.invokevirtual 32, 2, 8, 2) := by decide +kernel
theorem jh_8_62 : jb_ht 8 < jb_ht 62 := by decide +kernel
theorem jo_62_33 : jb_op 62 33 = some (.iinc 2 1, 99, 0, 0) := by decide +kernel
theorem jo_62_36 : jb_op 62 36 = some (.goto (-25), 99, 0, 0) := by decide +kernel
theorem jl_62 : jb_ml 62 = 3 := by decide +kernel
theorem jo_63_0 : jb_op 63 0 = some (.iload_n 1, 99, 0, 0) := by decide +kernel
theorem jo_63_1 : jb_op 63 1 = some (.invokestatic 27, 5, 5, 1) := by decide +kernel
theorem jh_5_63 : jb_ht 5 < jb_ht 63 := by decide +kernel
theorem jo_63_4 : jb_op 63 4 = some (.ifCond .eq (13), 99, 0, 0) := by decide +kernel
theorem jo_63_17 : jb_op 63 17 = some (.bipush (-2), 99, 0, 0) := by decide +kernel
theorem jo_63_19 : jb_op 63 19 = some (.ireturn, 99, 0, 0) := by decide +kernel
theorem jr_63 : jb_ret 63 = (some .int) := by decide +kernel
theorem jo_63_7 : jb_op 63 7 = some (.iload_n 2, 99, 0, 0) := by decide +kernel
theorem jo_63_8 : jb_op 63 8 = some (.ifCond .lt (9), 99, 0, 0) := by decide +kernel
theorem jo_63_11 : jb_op 63 11 = some (.iload_n 2, 99, 0, 0) := by decide +kernel
theorem jo_63_12 : jb_op 63 12 = some (.bipush 9, 99, 0, 0) := by decide +kernel
theorem jo_63_14 : jb_op 63 14 = some (.if_icmp .le (6), 99, 0, 0) := by decide +kernel
theorem jo_63_20 : jb_op 63 20 = some (.aload_n 0, 99, 0, 0) := by decide +kernel
theorem jo_63_21 : jb_op 63 21 = some (.getfield 14, 0, 7, 0) := by decide +kernel
theorem jc_16 : jm_c 16 = 7 := by decide +kernel
theorem jf_16_0 : jm_f 16 0 = some (some 17) := by decide +kernel
theorem jo_63_24 : jb_op 63 24 = some (.invokevirtual 31, 2, 11, 0) := by decide +kernel
theorem jc_17 : jm_c 17 = 6 := by decide +kernel
theorem jh_11_63 : jb_ht 11 < jb_ht 63 := by decide +kernel
theorem jo_63_27 : jb_op 63 27 = some (.ifCond .eq (11), 99, 0, 0) := by decide +kernel
theorem jo_63_38 : jb_op 63 38 = some (.aload_n 0, 99, 0, 0) := by decide +kernel
theorem jo_63_39 : jb_op 63 39 = some (.getfield 14, 0, 7, 0) := by decide +kernel
theorem jo_63_42 : jb_op 63 42 = some (.iload_n 1, 99, 0, 0) := by decide +kernel
theorem jo_63_43 : jb_op 63 43 = some (.invokevirtual 41, 2, 1, 1) := by decide +kernel
theorem jh_1_63 : jb_ht 1 < jb_ht 63 := by decide +kernel
theorem jo_63_30 : jb_op 63 30 = some (.aload_n 3, 99, 0, 0) := by decide +kernel
theorem jo_63_31 : jb_op 63 31 = some (.iconst 1, 99, 0, 0) := by decide +kernel
theorem jo_63_32 : jb_op 63 32 = some (.bipush 6, 99, 0, 0) := by decide +kernel
theorem jo_63_34 : jb_op 63 34 = some (.invokevirtual 35, 2, 7, 2) := by decide +kernel
theorem jh_7_63 : jb_ht 7 < jb_ht 63 := by decide +kernel
theorem jo_63_37 : jb_op 63 37 = some (.ireturn, 99, 0, 0) := by decide +kernel
theorem jo_63_46 : jb_op 63 46 = some (.aload_n 0, 99, 0, 0) := by decide +kernel
theorem jo_63_47 : jb_op 63 47 = some (.getfield 20, 0, 7, 1) := by decide +kernel
theorem jf_16_1 : jm_f 16 1 = some (some 19) := by decide +kernel
theorem jo_63_50 : jb_op 63 50 = some (.iload_n 2, 99, 0, 0) := by decide +kernel
theorem jo_63_51 : jb_op 63 51 = some (.invokevirtual 41, 2, 1, 1) := by decide +kernel
theorem jc_19 : jm_c 19 = 6 := by decide +kernel
theorem jo_63_54 : jb_op 63 54 = some (.aload_n 0, 99, 0, 0) := by decide +kernel
theorem jo_63_55 : jb_op 63 55 = some (.getfield 14, 0, 7, 0) := by decide +kernel
theorem jo_63_58 : jb_op 63 58 = some (.invokevirtual 44, 2, 12, 0) := by decide +kernel
theorem jh_12_63 : jb_ht 12 < jb_ht 63 := by decide +kernel
theorem jo_63_61 : jb_op 63 61 = some (.iconst 1, 99, 0, 0) := by decide +kernel
theorem jo_63_62 : jb_op 63 62 = some (.isub, 99, 0, 0) := by decide +kernel
theorem jo_63_63 : jb_op 63 63 = some (.ireturn, 99, 0, 0) := by decide +kernel
theorem jl_63 : jb_ml 63 = 4 := by decide +kernel
theorem jo_64_0 : jb_op 64 0 = some (.aload_n 0, 99, 0, 0) := by decide +kernel
theorem jo_64_1 : jb_op 64 1 = some (.getfield 14, 0, 7, 0) := by decide +kernel
theorem jo_64_4 : jb_op 64 4 = some (.iload_n 1, 99, 0, 0) := by decide +kernel
theorem jo_64_5 : jb_op 64 5 = some (.invokevirtual 48, 2, 4, 1) := by decide +kernel
theorem jh_4_64 : jb_ht 4 < jb_ht 64 := by decide +kernel
theorem jo_64_8 : jb_op 64 8 = some (.ifCond .ne (5), 99, 0, 0) := by decide +kernel
theorem jo_64_11 : jb_op 64 11 = some (.iconst (-1), 99, 0, 0) := by decide +kernel
theorem jo_64_12 : jb_op 64 12 = some (.ireturn, 99, 0, 0) := by decide +kernel
theorem jr_64 : jb_ret 64 = (some .int) := by decide +kernel
theorem jo_64_13 : jb_op 64 13 = some (.iload_n 2, 99, 0, 0) := by decide +kernel
theorem jo_64_14 : jb_op 64 14 = some (.invokestatic 27, 5, 5, 1) := by decide +kernel
theorem jh_5_64 : jb_ht 5 < jb_ht 64 := by decide +kernel
theorem jo_64_17 : jb_op 64 17 = some (.ifCond .ne (6), 99, 0, 0) := by decide +kernel
theorem jo_64_20 : jb_op 64 20 = some (.bipush (-2), 99, 0, 0) := by decide +kernel
theorem jo_64_22 : jb_op 64 22 = some (.ireturn, 99, 0, 0) := by decide +kernel
theorem jo_64_23 : jb_op 64 23 = some (.aload_n 0, 99, 0, 0) := by decide +kernel
theorem jo_64_24 : jb_op 64 24 = some (.getfield 14, 0, 7, 0) := by decide +kernel
theorem jo_64_27 : jb_op 64 27 = some (.iload_n 1, 99, 0, 0) := by decide +kernel
theorem jo_64_28 : jb_op 64 28 = some (.invokevirtual 51, 2, 6, 1) := by decide +kernel
theorem jh_6_64 : jb_ht 6 < jb_ht 64 := by decide +kernel
theorem jo_64_31 : jb_op 64 31 = some (.istore 4, 99, 0, 0) := by decide +kernel
theorem jo_64_33 : jb_op 64 33 = some (.iload 4, 99, 0, 0) := by decide +kernel
theorem jo_64_35 : jb_op 64 35 = some (.iload_n 2, 99, 0, 0) := by decide +kernel
theorem jo_64_36 : jb_op 64 36 = some (.if_icmp .ne (10), 99, 0, 0) := by decide +kernel
theorem jo_64_39 : jb_op 64 39 = some (.aload_n 3, 99, 0, 0) := by decide +kernel
theorem jo_64_40 : jb_op 64 40 = some (.iconst 2, 99, 0, 0) := by decide +kernel
theorem jo_64_41 : jb_op 64 41 = some (.iload_n 2, 99, 0, 0) := by decide +kernel
theorem jo_64_42 : jb_op 64 42 = some (.invokevirtual 35, 2, 7, 2) := by decide +kernel
theorem jh_7_64 : jb_ht 7 < jb_ht 64 := by decide +kernel
theorem jo_64_46 : jb_op 64 46 = some (.aload_n 0, 99, 0, 0) := by decide +kernel
theorem jo_64_47 : jb_op 64 47 = some (.getfield 14, 0, 7, 0) := by decide +kernel
theorem jo_64_50 : jb_op 64 50 = some (.iload_n 1, 99, 0, 0) := by decide +kernel
theorem jo_64_51 : jb_op 64 51 = some (.iload_n 2, 99, 0, 0) := by decide +kernel
theorem jo_64_52 : jb_op 64 52 = some (.invokevirtual 55, 2, 8, 2) := by decide +kernel
theorem jh_8_64 : jb_ht 8 < jb_ht 64 := by decide +kernel
theorem jo_64_55 : jb_op 64 55 = some (.iload 4, 99, 0, 0) := by decide +kernel
theorem jo_64_57 : jb_op 64 57 = some (.ireturn, 99, 0, 0) := by decide +kernel
theorem jo_64_45 : jb_op 64 45 = some (.ireturn, 99, 0, 0) := by decide +kernel
theorem jl_64 : jb_ml 64 = 5 := by decide +kernel
theorem jo_65_0 : jb_op 65 0 = some (.aload_n 0, 99, 0, 0) := by decide +kernel
theorem jo_65_1 : jb_op 65 1 = some (.getfield 20, 0, 0, 1) := by decide +kernel
theorem jo_65_4 : jb_op 65 4 = some (.iload_n 1, 99, 0, 0) := by decide +kernel
theorem jo_65_5 : jb_op 65 5 = some (.invokevirtual 34, 2, 4, 1) := by decide +kernel
theorem jh_4_65 : jb_ht 4 < jb_ht 65 := by decide +kernel
theorem jo_65_8 : jb_op 65 8 = some (.ifCond .eq (20), 99, 0, 0) := by decide +kernel
theorem jo_65_28 : jb_op 65 28 = some (.iconst 0, 99, 0, 0) := by decide +kernel
theorem jo_65_29 : jb_op 65 29 = some (.ireturn, 99, 0, 0) := by decide +kernel
theorem jr_65 : jb_ret 65 = (some .boolean) := by decide +kernel
theorem jo_65_11 : jb_op 65 11 = some (.aload_n 0, 99, 0, 0) := by decide +kernel
theorem jo_65_12 : jb_op 65 12 = some (.getfield 20, 0, 0, 1) := by decide +kernel
theorem jo_65_15 : jb_op 65 15 = some (.iload_n 1, 99, 0, 0) := by decide +kernel
theorem jo_65_16 : jb_op 65 16 = some (.invokevirtual 41, 2, 6, 1) := by decide +kernel
theorem jh_6_65 : jb_ht 6 < jb_ht 65 := by decide +kernel
theorem jo_65_19 : jb_op 65 19 = some (.bipush 9, 99, 0, 0) := by decide +kernel
theorem jo_65_21 : jb_op 65 21 = some (.if_icmp .ge (7), 99, 0, 0) := by decide +kernel
theorem jo_65_24 : jb_op 65 24 = some (.iconst 1, 99, 0, 0) := by decide +kernel
theorem jo_65_25 : jb_op 65 25 = some (.goto 4, 99, 0, 0) := by decide +kernel
theorem jl_65 : jb_ml 65 = 2 := by decide +kernel
theorem jo_66_0 : jb_op 66 0 = some (.aload_n 0, 99, 0, 0) := by decide +kernel
theorem jo_66_1 : jb_op 66 1 = some (.getfield 9, 0, 6, 1) := by decide +kernel
theorem jo_66_4 : jb_op 66 4 = some (.aload_n 0, 99, 0, 0) := by decide +kernel
theorem jo_66_5 : jb_op 66 5 = some (.getfield 21, 0, 6, 0) := by decide +kernel
theorem jo_66_8 : jb_op 66 8 = some (.arraylength, 99, 0, 0) := by decide +kernel
theorem jo_66_9 : jb_op 66 9 = some (.if_icmp .ge (13), 99, 0, 0) := by decide +kernel
theorem jo_66_22 : jb_op 66 22 = some (.aload_n 0, 99, 0, 0) := by decide +kernel
theorem jo_66_23 : jb_op 66 23 = some (.getfield 9, 0, 6, 1) := by decide +kernel
theorem jo_66_26 : jb_op 66 26 = some (.iconst 1, 99, 0, 0) := by decide +kernel
theorem jo_66_27 : jb_op 66 27 = some (.isub, 99, 0, 0) := by decide +kernel
theorem jo_66_28 : jb_op 66 28 = some (.istore_n 2, 99, 0, 0) := by decide +kernel
theorem jo_66_12 : jb_op 66 12 = some (.aload_n 0, 99, 0, 0) := by decide +kernel
theorem jo_66_13 : jb_op 66 13 = some (.dup, 99, 0, 0) := by decide +kernel
theorem jo_66_14 : jb_op 66 14 = some (.getfield 9, 0, 6, 1) := by decide +kernel
theorem jo_66_17 : jb_op 66 17 = some (.iconst 1, 99, 0, 0) := by decide +kernel
theorem jo_66_18 : jb_op 66 18 = some (.iadd, 99, 0, 0) := by decide +kernel
theorem jo_66_19 : jb_op 66 19 = some (.putfield 9, 0, 6, 1) := by decide +kernel
theorem jo_66_29 : jb_op 66 29 = some (.iload_n 2, 99, 0, 0) := by decide +kernel
theorem jo_66_30 : jb_op 66 30 = some (.ifCond .le (21), 99, 0, 0) := by decide +kernel
theorem jo_66_51 : jb_op 66 51 = some (.aload_n 0, 99, 0, 0) := by decide +kernel
theorem jo_66_52 : jb_op 66 52 = some (.iconst 0, 99, 0, 0) := by decide +kernel
theorem jo_66_53 : jb_op 66 53 = some (.iload_n 1, 99, 0, 0) := by decide +kernel
theorem jo_66_54 : jb_op 66 54 = some (.invokevirtual 32, 2, 8, 2) := by decide +kernel
theorem jh_8_66 : jb_ht 8 < jb_ht 66 := by decide +kernel
theorem jo_66_33 : jb_op 66 33 = some (.aload_n 0, 99, 0, 0) := by decide +kernel
theorem jo_66_34 : jb_op 66 34 = some (.iload_n 2, 99, 0, 0) := by decide +kernel
theorem jo_66_35 : jb_op 66 35 = some (.aload_n 0, 99, 0, 0) := by decide +kernel
theorem jo_66_36 : jb_op 66 36 = some (.iload_n 2, 99, 0, 0) := by decide +kernel
theorem jo_66_37 : jb_op 66 37 = some (.iconst 1, 99, 0, 0) := by decide +kernel
theorem jo_66_38 : jb_op 66 38 = some (.isub, 99, 0, 0) := by decide +kernel
theorem jo_66_39 : jb_op 66 39 = some (.invokevirtual 28, 2, 6, 1) := by decide +kernel
theorem jh_6_66 : jb_ht 6 < jb_ht 66 := by decide +kernel
theorem jo_66_42 : jb_op 66 42 = some (.invokevirtual 32, 2, 8, 2) := by decide +kernel
theorem jo_66_45 : jb_op 66 45 = some (.iinc 2 (-1), 99, 0, 0) := by decide +kernel
theorem jo_66_48 : jb_op 66 48 = some (.goto (-19), 99, 0, 0) := by decide +kernel
theorem jo_66_57 : jb_op 66 57 = some (.return_, 99, 0, 0) := by decide +kernel
theorem jr_66 : jb_ret 66 = none := by decide +kernel
theorem jl_66 : jb_ml 66 = 3 := by decide +kernel
theorem jo_67_0 : jb_op 67 0 = some (.aload_n 0, 99, 0, 0) := by decide +kernel
theorem jo_67_1 : jb_op 67 1 = some (.getfield 14, 0, 4, 0) := by decide +kernel
theorem jc_21 : jm_c 21 = 4 := by decide +kernel
theorem jf_21_0 : jm_f 21 0 = some (some 22) := by decide +kernel
theorem jo_67_4 : jb_op 67 4 = some (.iconst 0, 99, 0, 0) := by decide +kernel
theorem jo_67_5 : jb_op 67 5 = some (.invokevirtual 42, 2, 6, 1) := by decide +kernel
theorem jc_22 : jm_c 22 = 6 := by decide +kernel
theorem jh_6_67 : jb_ht 6 < jb_ht 67 := by decide +kernel
theorem jo_67_8 : jb_op 67 8 = some (.istore_n 2, 99, 0, 0) := by decide +kernel
theorem jo_67_9 : jb_op 67 9 = some (.iload_n 2, 99, 0, 0) := by decide +kernel
theorem jo_67_10 : jb_op 67 10 = some (.bipush 12, 99, 0, 0) := by decide +kernel
theorem jo_67_12 : jb_op 67 12 = some (.if_icmp .lt (4), 99, 0, 0) := by decide +kernel
theorem jo_67_16 : jb_op 67 16 = some (.aload_n 0, 99, 0, 0) := by decide +kernel
theorem jo_67_17 : jb_op 67 17 = some (.getfield 20, 0, 4, 1) := by decide +kernel
theorem jf_21_1 : jm_f 21 1 = some (some 24) := by decide +kernel
theorem jo_67_20 : jb_op 67 20 = some (.iload_n 2, 99, 0, 0) := by decide +kernel
theorem jo_67_21 : jb_op 67 21 = some (.iload_n 1, 99, 0, 0) := by decide +kernel
theorem jo_67_22 : jb_op 67 22 = some (.invokevirtual 46, 2, 8, 2) := by decide +kernel
theorem jc_24 : jm_c 24 = 6 := by decide +kernel
theorem jh_8_67 : jb_ht 8 < jb_ht 67 := by decide +kernel
theorem jo_67_15 : jb_op 67 15 = some (.return_, 99, 0, 0) := by decide +kernel
theorem jr_67 : jb_ret 67 = none := by decide +kernel
theorem jo_67_25 : jb_op 67 25 = some (.aload_n 0, 99, 0, 0) := by decide +kernel
theorem jo_67_26 : jb_op 67 26 = some (.getfield 14, 0, 4, 0) := by decide +kernel
theorem jo_67_29 : jb_op 67 29 = some (.iconst 0, 99, 0, 0) := by decide +kernel
theorem jo_67_30 : jb_op 67 30 = some (.iload_n 2, 99, 0, 0) := by decide +kernel
theorem jo_67_31 : jb_op 67 31 = some (.iconst 1, 99, 0, 0) := by decide +kernel
theorem jo_67_32 : jb_op 67 32 = some (.iadd, 99, 0, 0) := by decide +kernel
theorem jo_67_33 : jb_op 67 33 = some (.invokevirtual 46, 2, 8, 2) := by decide +kernel
theorem jo_67_36 : jb_op 67 36 = some (.return_, 99, 0, 0) := by decide +kernel
theorem jl_67 : jb_ml 67 = 3 := by decide +kernel
theorem jo_68_0 : jb_op 68 0 = some (.aload_n 0, 99, 0, 0) := by decide +kernel
theorem jo_68_1 : jb_op 68 1 = some (.getfield 14, 0, 0, 0) := by decide +kernel
theorem jo_68_4 : jb_op 68 4 = some (.iload_n 1, 99, 0, 0) := by decide +kernel
theorem jo_68_5 : jb_op 68 5 = some (.invokevirtual 34, 2, 4, 1) := by decide +kernel
theorem jh_4_68 : jb_ht 4 < jb_ht 68 := by decide +kernel
theorem jo_68_8 : jb_op 68 8 = some (.ifCond .eq (24), 99, 0, 0) := by decide +kernel
theorem jo_68_32 : jb_op 68 32 = some (.iconst 0, 99, 0, 0) := by decide +kernel
theorem jo_68_33 : jb_op 68 33 = some (.istore 4, 99, 0, 0) := by decide +kernel
theorem jo_68_35 : jb_op 68 35 = some (.iload 4, 99, 0, 0) := by decide +kernel
theorem jo_68_37 : jb_op 68 37 = some (.ifCond .eq (7), 99, 0, 0) := by decide +kernel
theorem jo_68_44 : jb_op 68 44 = some (.iconst 5, 99, 0, 0) := by decide +kernel
theorem jo_68_45 : jb_op 68 45 = some (.ireturn, 99, 0, 0) := by decide +kernel
theorem jr_68 : jb_ret 68 = (some .int) := by decide +kernel
theorem jo_68_11 : jb_op 68 11 = some (.aload_n 0, 99, 0, 0) := by decide +kernel
theorem jo_68_12 : jb_op 68 12 = some (.getfield 14, 0, 0, 0) := by decide +kernel
theorem jo_68_15 : jb_op 68 15 = some (.iload_n 1, 99, 0, 0) := by decide +kernel
theorem jo_68_16 : jb_op 68 16 = some (.invokevirtual 41, 2, 6, 1) := by decide +kernel
theorem jh_6_68 : jb_ht 6 < jb_ht 68 := by decide +kernel
theorem jo_68_19 : jb_op 68 19 = some (.iload_n 2, 99, 0, 0) := by decide +kernel
theorem jo_68_20 : jb_op 68 20 = some (.isub, 99, 0, 0) := by decide +kernel
theorem jo_68_21 : jb_op 68 21 = some (.invokestatic 61, 15, 2, 0) := by decide +kernel
theorem jo_68_24 : jb_op 68 24 = some (.iload_n 3, 99, 0, 0) := by decide +kernel
theorem jo_68_25 : jb_op 68 25 = some (.if_icmp .gt (7), 99, 0, 0) := by decide +kernel
theorem jo_68_28 : jb_op 68 28 = some (.iconst 1, 99, 0, 0) := by decide +kernel
theorem jo_68_29 : jb_op 68 29 = some (.goto 4, 99, 0, 0) := by decide +kernel
theorem jo_68_40 : jb_op 68 40 = some (.iload_n 1, 99, 0, 0) := by decide +kernel
theorem jo_68_41 : jb_op 68 41 = some (.goto 4, 99, 0, 0) := by decide +kernel
theorem jl_68 : jb_ml 68 = 5 := by decide +kernel
theorem jo_69_0 : jb_op 69 0 = some (.aload_n 0, 99, 0, 0) := by decide +kernel
theorem jo_69_1 : jb_op 69 1 = some (.getfield 23, 0, 1, 2) := by decide +kernel
theorem jo_69_4 : jb_op 69 4 = some (.iload_n 1, 99, 0, 0) := by decide +kernel
theorem jo_69_5 : jb_op 69 5 = some (.invokevirtual 40, 2, 6, 1) := by decide +kernel
theorem jh_6_69 : jb_ht 6 < jb_ht 69 := by decide +kernel
theorem jo_69_8 : jb_op 69 8 = some (.iload_n 2, 99, 0, 0) := by decide +kernel
theorem jo_69_9 : jb_op 69 9 = some (.invokestatic 65, 4, 14, 2) := by decide +kernel
theorem jh_14_69 : jb_ht 14 < jb_ht 69 := by decide +kernel
theorem jo_69_12 : jb_op 69 12 = some (.ireturn, 99, 0, 0) := by decide +kernel
theorem jr_69 : jb_ret 69 = (some .int) := by decide +kernel
theorem jl_69 : jb_ml 69 = 3 := by decide +kernel
theorem jo_70_0 : jb_op 70 0 = some (.aload_n 0, 99, 0, 0) := by decide +kernel
theorem jo_70_1 : jb_op 70 1 = some (.getfield 14, 0, 4, 0) := by decide +kernel
theorem jo_70_4 : jb_op 70 4 = some (.iload_n 1, 99, 0, 0) := by decide +kernel
theorem jo_70_5 : jb_op 70 5 = some (.invokevirtual 31, 2, 4, 1) := by decide +kernel
theorem jh_4_70 : jb_ht 4 < jb_ht 70 := by decide +kernel
theorem jo_70_8 : jb_op 70 8 = some (.ifCond .eq (19), 99, 0, 0) := by decide +kernel
theorem jo_70_27 : jb_op 70 27 = some (.iconst (-1), 99, 0, 0) := by decide +kernel
theorem jo_70_28 : jb_op 70 28 = some (.ireturn, 99, 0, 0) := by decide +kernel
theorem jr_70 : jb_ret 70 = (some .int) := by decide +kernel
theorem jo_70_11 : jb_op 70 11 = some (.iload_n 2, 99, 0, 0) := by decide +kernel
theorem jo_70_12 : jb_op 70 12 = some (.ifCond .lt (15), 99, 0, 0) := by decide +kernel
theorem jo_70_15 : jb_op 70 15 = some (.iload_n 2, 99, 0, 0) := by decide +kernel
theorem jo_70_16 : jb_op 70 16 = some (.aload_n 0, 99, 0, 0) := by decide +kernel
theorem jo_70_17 : jb_op 70 17 = some (.getfield 14, 0, 4, 0) := by decide +kernel
theorem jo_70_20 : jb_op 70 20 = some (.iload_n 1, 99, 0, 0) := by decide +kernel
theorem jo_70_21 : jb_op 70 21 = some (.invokevirtual 42, 2, 6, 1) := by decide +kernel
theorem jh_6_70 : jb_ht 6 < jb_ht 70 := by decide +kernel
theorem jo_70_24 : jb_op 70 24 = some (.if_icmp .lt (5), 99, 0, 0) := by decide +kernel
theorem jo_70_29 : jb_op 70 29 = some (.aload_n 0, 99, 0, 0) := by decide +kernel
theorem jo_70_30 : jb_op 70 30 = some (.getfield 20, 0, 4, 1) := by decide +kernel
theorem jo_70_33 : jb_op 70 33 = some (.iload_n 1, 99, 0, 0) := by decide +kernel
theorem jo_70_34 : jb_op 70 34 = some (.bipush 12, 99, 0, 0) := by decide +kernel
theorem jo_70_36 : jb_op 70 36 = some (.imul, 99, 0, 0) := by decide +kernel
theorem jo_70_37 : jb_op 70 37 = some (.iload_n 2, 99, 0, 0) := by decide +kernel
theorem jo_70_38 : jb_op 70 38 = some (.iadd, 99, 0, 0) := by decide +kernel
theorem jo_70_39 : jb_op 70 39 = some (.invokevirtual 42, 2, 6, 1) := by decide +kernel
theorem jo_70_42 : jb_op 70 42 = some (.ireturn, 99, 0, 0) := by decide +kernel
theorem jl_70 : jb_ml 70 = 3 := by decide +kernel
theorem jo_71_0 : jb_op 71 0 = some (.aload_n 0, 99, 0, 0) := by decide +kernel
theorem jo_71_1 : jb_op 71 1 = some (.invokevirtual 24, 2, 12, 0) := by decide +kernel
theorem jh_12_71 : jb_ht 12 < jb_ht 71 := by decide +kernel
theorem jo_71_4 : jb_op 71 4 = some (.ifCond .eq (17), 99, 0, 0) := by decide +kernel
theorem jo_71_21 : jb_op 71 21 = some (.iconst 1, 99, 0, 0) := by decide +kernel
theorem jo_71_22 : jb_op 71 22 = some (.goto 4, 99, 0, 0) := by decide +kernel
theorem jo_71_26 : jb_op 71 26 = some (.ireturn, 99, 0, 0) := by decide +kernel
theorem jr_71 : jb_ret 71 = (some .boolean) := by decide +kernel
theorem jo_71_7 : jb_op 71 7 = some (.aload_n 0, 99, 0, 0) := by decide +kernel
theorem jo_71_8 : jb_op 71 8 = some (.aload_n 0, 99, 0, 0) := by decide +kernel
theorem jo_71_9 : jb_op 71 9 = some (.invokevirtual 24, 2, 12, 0) := by decide +kernel
theorem jo_71_12 : jb_op 71 12 = some (.iconst 1, 99, 0, 0) := by decide +kernel
theorem jo_71_13 : jb_op 71 13 = some (.isub, 99, 0, 0) := by decide +kernel
theorem jo_71_14 : jb_op 71 14 = some (.invokevirtual 43, 2, 6, 1) := by decide +kernel
theorem jh_6_71 : jb_ht 6 < jb_ht 71 := by decide +kernel
theorem jo_71_17 : jb_op 71 17 = some (.iconst 5, 99, 0, 0) := by decide +kernel
theorem jo_71_18 : jb_op 71 18 = some (.if_icmp .ne (7), 99, 0, 0) := by decide +kernel
theorem jo_71_25 : jb_op 71 25 = some (.iconst 0, 99, 0, 0) := by decide +kernel
theorem jl_71 : jb_ml 71 = 1 := by decide +kernel
theorem jo_72_0 : jb_op 72 0 = some (.iconst 1, 99, 0, 0) := by decide +kernel
theorem jo_72_1 : jb_op 72 1 = some (.istore_n 3, 99, 0, 0) := by decide +kernel
theorem jo_72_2 : jb_op 72 2 = some (.iload_n 3, 99, 0, 0) := by decide +kernel
theorem jo_72_3 : jb_op 72 3 = some (.iconst 3, 99, 0, 0) := by decide +kernel
theorem jo_72_4 : jb_op 72 4 = some (.if_icmp .ge (36), 99, 0, 0) := by decide +kernel
theorem jo_72_40 : jb_op 72 40 = some (.return_, 99, 0, 0) := by decide +kernel
theorem jr_72 : jb_ret 72 = none := by decide +kernel
theorem jo_72_7 : jb_op 72 7 = some (.aload_n 0, 99, 0, 0) := by decide +kernel
theorem jo_72_8 : jb_op 72 8 = some (.getfield 16, 0, 3, 0) := by decide +kernel
theorem jc_279 : jm_c 279 = 3 := by decide +kernel
theorem jf_279_0 : jm_f 279 0 = some (some 280) := by decide +kernel
theorem jo_72_11 : jb_op 72 11 = some (.iload_n 2, 99, 0, 0) := by decide +kernel
theorem jo_72_12 : jb_op 72 12 = some (.iload_n 3, 99, 0, 0) := by decide +kernel
theorem jo_72_13 : jb_op 72 13 = some (.invokestatic 36, 4, 15, 2) := by decide +kernel
theorem jh_15_72 : jb_ht 15 < jb_ht 72 := by decide +kernel
theorem jo_72_16 : jb_op 72 16 = some (.aload_n 0, 99, 0, 0) := by decide +kernel
theorem jo_72_17 : jb_op 72 17 = some (.getfield 16, 0, 3, 0) := by decide +kernel
theorem jo_72_20 : jb_op 72 20 = some (.iload_n 1, 99, 0, 0) := by decide +kernel
theorem jo_72_21 : jb_op 72 21 = some (.iload_n 3, 99, 0, 0) := by decide +kernel
theorem jo_72_22 : jb_op 72 22 = some (.invokestatic 36, 4, 15, 2) := by decide +kernel
theorem jo_72_25 : jb_op 72 25 = some (.invokevirtual 43, 2, 6, 1) := by decide +kernel
theorem jc_280 : jm_c 280 = 6 := by decide +kernel
theorem jh_6_72 : jb_ht 6 < jb_ht 72 := by decide +kernel
theorem jo_72_28 : jb_op 72 28 = some (.sipush 9999, 99, 0, 0) := by decide +kernel
theorem jo_72_31 : jb_op 72 31 = some (.invokevirtual 65, 2, 16, 3) := by decide +kernel
theorem jh_16_72 : jb_ht 16 < jb_ht 72 := by decide +kernel
theorem jw_16 : jb_ow 16 = 6 := by decide +kernel
theorem jo_72_34 : jb_op 72 34 = some (.iinc 3 1, 99, 0, 0) := by decide +kernel
theorem jo_72_37 : jb_op 72 37 = some (.goto (-35), 99, 0, 0) := by decide +kernel
theorem jl_72 : jb_ml 72 = 4 := by decide +kernel
theorem jo_73_0 : jb_op 73 0 = some (.aload_n 0, 99, 0, 0) := by decide +kernel
theorem jo_73_1 : jb_op 73 1 = some (.getfield 23, 0, 1, 2) := by decide +kernel
theorem jo_73_4 : jb_op 73 4 = some (.iload_n 1, 99, 0, 0) := by decide +kernel
theorem jo_73_5 : jb_op 73 5 = some (.invokevirtual 40, 2, 6, 1) := by decide +kernel
theorem jh_6_73 : jb_ht 6 < jb_ht 73 := by decide +kernel
theorem jo_73_8 : jb_op 73 8 = some (.istore 4, 99, 0, 0) := by decide +kernel
theorem jo_73_10 : jb_op 73 10 = some (.iconst 0, 99, 0, 0) := by decide +kernel
theorem jo_73_11 : jb_op 73 11 = some (.istore 5, 99, 0, 0) := by decide +kernel
theorem jo_73_13 : jb_op 73 13 = some (.iload 5, 99, 0, 0) := by decide +kernel
theorem jo_73_15 : jb_op 73 15 = some (.aload_n 0, 99, 0, 0) := by decide +kernel
theorem jo_73_16 : jb_op 73 16 = some (.getfield 20, 0, 1, 1) := by decide +kernel
theorem jf_9_1 : jm_f 9 1 = some (some 12) := by decide +kernel
theorem jo_73_19 : jb_op 73 19 = some (.iload_n 1, 99, 0, 0) := by decide +kernel
theorem jo_73_20 : jb_op 73 20 = some (.invokevirtual 40, 2, 6, 1) := by decide +kernel
theorem jc_12 : jm_c 12 = 6 := by decide +kernel
theorem jo_73_23 : jb_op 73 23 = some (.if_icmp .ge (29), 99, 0, 0) := by decide +kernel
theorem jo_73_52 : jb_op 73 52 = some (.iconst 1, 99, 0, 0) := by decide +kernel
theorem jo_73_53 : jb_op 73 53 = some (.ireturn, 99, 0, 0) := by decide +kernel
theorem jr_73 : jb_ret 73 = (some .boolean) := by decide +kernel
theorem jo_73_26 : jb_op 73 26 = some (.iload 4, 99, 0, 0) := by decide +kernel
theorem jo_73_28 : jb_op 73 28 = some (.iload 5, 99, 0, 0) := by decide +kernel
theorem jo_73_30 : jb_op 73 30 = some (.invokestatic 65, 4, 14, 2) := by decide +kernel
theorem jh_14_73 : jb_ht 14 < jb_ht 73 := by decide +kernel
theorem jo_73_33 : jb_op 73 33 = some (.aload_n 2, 99, 0, 0) := by decide +kernel
theorem jo_73_34 : jb_op 73 34 = some (.iload_n 3, 99, 0, 0) := by decide +kernel
theorem jo_73_35 : jb_op 73 35 = some (.iload 5, 99, 0, 0) := by decide +kernel
theorem jo_73_37 : jb_op 73 37 = some (.iadd, 99, 0, 0) := by decide +kernel
theorem jo_73_38 : jb_op 73 38 = some (.invokevirtual 40, 2, 6, 1) := by decide +kernel
theorem jo_73_41 : jb_op 73 41 = some (.if_icmp .eq (5), 99, 0, 0) := by decide +kernel
theorem jo_73_46 : jb_op 73 46 = some (.iinc 5 1, 99, 0, 0) := by decide +kernel
theorem jo_73_49 : jb_op 73 49 = some (.goto (-36), 99, 0, 0) := by decide +kernel
theorem jo_73_44 : jb_op 73 44 = some (.iconst 0, 99, 0, 0) := by decide +kernel
theorem jo_73_45 : jb_op 73 45 = some (.ireturn, 99, 0, 0) := by decide +kernel
theorem jl_73 : jb_ml 73 = 6 := by decide +kernel
theorem jo_74_0 : jb_op 74 0 = some (.aload_n 0, 99, 0, 0) := by decide +kernel
theorem jo_74_1 : jb_op 74 1 = some (.getfield 16, 0, 3, 0) := by decide +kernel
theorem jo_74_4 : jb_op 74 4 = some (.iload_n 3, 99, 0, 0) := by decide +kernel
theorem jo_74_5 : jb_op 74 5 = some (.aload_n 1, 99, 0, 0) := by decide +kernel
theorem jo_74_6 : jb_op 74 6 = some (.getfield 59, 1, 1, 1) := by decide +kernel
theorem jo_74_9 : jb_op 74 9 = some (.iload_n 2, 99, 0, 0) := by decide +kernel
theorem jo_74_10 : jb_op 74 10 = some (.invokevirtual 43, 2, 6, 1) := by decide +kernel
theorem jh_6_74 : jb_ht 6 < jb_ht 74 := by decide +kernel
theorem jo_74_13 : jb_op 74 13 = some (.iadd, 99, 0, 0) := by decide +kernel
theorem jo_74_14 : jb_op 74 14 = some (.aload_n 1, 99, 0, 0) := by decide +kernel
theorem jo_74_15 : jb_op 74 15 = some (.getfield 50, 1, 1, 0) := by decide +kernel
theorem jf_9_0 : jm_f 9 0 = some (some 10) := by decide +kernel
theorem jo_74_18 : jb_op 74 18 = some (.iload_n 2, 99, 0, 0) := by decide +kernel
theorem jo_74_19 : jb_op 74 19 = some (.invokevirtual 43, 2, 6, 1) := by decide +kernel
theorem jc_10 : jm_c 10 = 6 := by decide +kernel
theorem jo_74_22 : jb_op 74 22 = some (.invokestatic 62, 4, 17, 1) := by decide +kernel
theorem jh_17_74 : jb_ht 17 < jb_ht 74 := by decide +kernel
theorem jo_74_25 : jb_op 74 25 = some (.invokestatic 36, 4, 15, 2) := by decide +kernel
theorem jh_15_74 : jb_ht 15 < jb_ht 74 := by decide +kernel
theorem jo_74_28 : jb_op 74 28 = some (.invokevirtual 43, 2, 6, 1) := by decide +kernel
theorem jo_74_31 : jb_op 74 31 = some (.ireturn, 99, 0, 0) := by decide +kernel
theorem jr_74 : jb_ret 74 = (some .int) := by decide +kernel
theorem jl_74 : jb_ml 74 = 4 := by decide +kernel
theorem jo_75_0 : jb_op 75 0 = some (.aload_n 0, 99, 0, 0) := by decide +kernel
theorem jo_75_1 : jb_op 75 1 = some (.getfield 9, 0, 6, 1) := by decide +kernel
theorem jo_75_4 : jb_op 75 4 = some (.aload_n 1, 99, 0, 0) := by decide +kernel
theorem jo_75_5 : jb_op 75 5 = some (.getfield 9, 0, 6, 1) := by decide +kernel
theorem jo_75_8 : jb_op 75 8 = some (.if_icmp .eq (5), 99, 0, 0) := by decide +kernel
theorem jo_75_13 : jb_op 75 13 = some (.iconst 0, 99, 0, 0) := by decide +kernel
theorem jo_75_14 : jb_op 75 14 = some (.istore_n 2, 99, 0, 0) := by decide +kernel
theorem jo_75_11 : jb_op 75 11 = some (.iconst 0, 99, 0, 0) := by decide +kernel
theorem jo_75_12 : jb_op 75 12 = some (.ireturn, 99, 0, 0) := by decide +kernel
theorem jr_75 : jb_ret 75 = (some .boolean) := by decide +kernel
theorem jo_75_15 : jb_op 75 15 = some (.iload_n 2, 99, 0, 0) := by decide +kernel
theorem jo_75_16 : jb_op 75 16 = some (.aload_n 0, 99, 0, 0) := by decide +kernel
theorem jo_75_17 : jb_op 75 17 = some (.getfield 9, 0, 6, 1) := by decide +kernel
theorem jo_75_20 : jb_op 75 20 = some (.if_icmp .ge (24), 99, 0, 0) := by decide +kernel
theorem jo_75_44 : jb_op 75 44 = some (.iconst 1, 99, 0, 0) := by decide +kernel
theorem jo_75_45 : jb_op 75 45 = some (.ireturn, 99, 0, 0) := by decide +kernel
theorem jo_75_23 : jb_op 75 23 = some (.aload_n 0, 99, 0, 0) := by decide +kernel
theorem jo_75_24 : jb_op 75 24 = some (.iload_n 2, 99, 0, 0) := by decide +kernel
theorem jo_75_25 : jb_op 75 25 = some (.invokevirtual 28, 2, 6, 1) := by decide +kernel
theorem jh_6_75 : jb_ht 6 < jb_ht 75 := by decide +kernel
theorem jo_75_28 : jb_op 75 28 = some (.aload_n 1, 99, 0, 0) := by decide +kernel
theorem jo_75_29 : jb_op 75 29 = some (.iload_n 2, 99, 0, 0) := by decide +kernel
theorem jo_75_30 : jb_op 75 30 = some (.invokevirtual 28, 2, 6, 1) := by decide +kernel
theorem jo_75_33 : jb_op 75 33 = some (.if_icmp .eq (5), 99, 0, 0) := by decide +kernel
theorem jo_75_38 : jb_op 75 38 = some (.iinc 2 1, 99, 0, 0) := by decide +kernel
theorem jo_75_41 : jb_op 75 41 = some (.goto (-26), 99, 0, 0) := by decide +kernel
theorem jo_75_36 : jb_op 75 36 = some (.iconst 0, 99, 0, 0) := by decide +kernel
theorem jo_75_37 : jb_op 75 37 = some (.ireturn, 99, 0, 0) := by decide +kernel
theorem jl_75 : jb_ml 75 = 3 := by decide +kernel
theorem jo_76_0 : jb_op 76 0 = some (.aload_n 0, 99, 0, 0) := by decide +kernel
theorem jo_76_1 : jb_op 76 1 = some (.getfield 14, 0, 4, 0) := by decide +kernel
theorem jo_76_4 : jb_op 76 4 = some (.iload_n 1, 99, 0, 0) := by decide +kernel
theorem jo_76_5 : jb_op 76 5 = some (.invokevirtual 31, 2, 4, 1) := by decide +kernel
theorem jh_4_76 : jb_ht 4 < jb_ht 76 := by decide +kernel
theorem jo_76_8 : jb_op 76 8 = some (.ireturn, 99, 0, 0) := by decide +kernel
theorem jr_76 : jb_ret 76 = (some .boolean) := by decide +kernel
theorem jl_76 : jb_ml 76 = 2 := by decide +kernel
theorem jo_77_0 : jb_op 77 0 = some (.aload_n 0, 99, 0, 0) := by decide +kernel
theorem jo_77_1 : jb_op 77 1 = some (.getfield 65, 0, 10, 10) := by decide +kernel
theorem jf_0_10 : jm_f 0 10 = some (some 297) := by decide +kernel
theorem jo_77_4 : jb_op 77 4 = some (.iload_n 1, 99, 0, 0) := by decide +kernel
theorem jo_77_5 : jb_op 77 5 = some (.invokevirtual 164, 2, 6, 1) := by decide +kernel
theorem jc_297 : jm_c 297 = 6 := by decide +kernel
theorem jh_6_77 : jb_ht 6 < jb_ht 77 := by decide +kernel
theorem jo_77_8 : jb_op 77 8 = some (.istore_n 3, 99, 0, 0) := by decide +kernel
theorem jo_77_9 : jb_op 77 9 = some (.iload_n 3, 99, 0, 0) := by decide +kernel
theorem jo_77_10 : jb_op 77 10 = some (.iconst 5, 99, 0, 0) := by decide +kernel
theorem jo_77_11 : jb_op 77 11 = some (.if_icmp .ne (8), 99, 0, 0) := by decide +kernel
theorem jo_77_14 : jb_op 77 14 = some (.iload_n 1, 99, 0, 0) := by decide +kernel
theorem jo_77_15 : jb_op 77 15 = some (.iload_n 2, 99, 0, 0) := by decide +kernel
theorem jo_77_16 : jb_op 77 16 = some (.if_icmp .ge (5), 99, 0, 0) := by decide +kernel
theorem jo_77_21 : jb_op 77 21 = some (.aload_n 0, 99, 0, 0) := by decide +kernel
theorem jo_77_22 : jb_op 77 22 = some (.getfield 65, 0, 10, 10) := by decide +kernel
theorem jo_77_25 : jb_op 77 25 = some (.iload_n 1, 99, 0, 0) := by decide +kernel
theorem jo_77_26 : jb_op 77 26 = some (.iload_n 2, 99, 0, 0) := by decide +kernel
theorem jo_77_27 : jb_op 77 27 = some (.isub, 99, 0, 0) := by decide +kernel
theorem jo_77_28 : jb_op 77 28 = some (.invokevirtual 164, 2, 6, 1) := by decide +kernel
theorem jo_77_19 : jb_op 77 19 = some (.iload_n 3, 99, 0, 0) := by decide +kernel
theorem jo_77_20 : jb_op 77 20 = some (.ireturn, 99, 0, 0) := by decide +kernel
theorem jr_77 : jb_ret 77 = (some .int) := by decide +kernel
theorem jo_77_31 : jb_op 77 31 = some (.ireturn, 99, 0, 0) := by decide +kernel
theorem jl_77 : jb_ml 77 = 4 := by decide +kernel
theorem jo_78_0 : jb_op 78 0 = some (.iconst 0, 99, 0, 0) := by decide +kernel
theorem jo_78_1 : jb_op 78 1 = some (.istore_n 2, 99, 0, 0) := by decide +kernel
theorem jo_78_2 : jb_op 78 2 = some (.iload_n 2, 99, 0, 0) := by decide +kernel
theorem jo_78_3 : jb_op 78 3 = some (.aload_n 0, 99, 0, 0) := by decide +kernel
theorem jo_78_4 : jb_op 78 4 = some (.getfield 77, 0, 10, 14) := by decide +kernel
theorem jf_0_14 : jm_f 0 14 = some (some 305) := by decide +kernel
theorem jo_78_7 : jb_op 78 7 = some (.invokevirtual 120, 2, 12, 0) := by decide +kernel
theorem jc_305 : jm_c 305 = 6 := by decide +kernel
theorem jh_12_78 : jb_ht 12 < jb_ht 78 := by decide +kernel
theorem jo_78_10 : jb_op 78 10 = some (.if_icmp .ge (62), 99, 0, 0) := by decide +kernel
theorem jo_78_72 : jb_op 78 72 = some (.iconst (-1), 99, 0, 0) := by decide +kernel
theorem jo_78_73 : jb_op 78 73 = some (.ireturn, 99, 0, 0) := by decide +kernel
theorem jr_78 : jb_ret 78 = (some .int) := by decide +kernel
theorem jo_78_13 : jb_op 78 13 = some (.iconst 0, 99, 0, 0) := by decide +kernel
theorem jo_78_14 : jb_op 78 14 = some (.istore_n 3, 99, 0, 0) := by decide +kernel
theorem jo_78_15 : jb_op 78 15 = some (.iconst 0, 99, 0, 0) := by decide +kernel
theorem jo_78_16 : jb_op 78 16 = some (.istore 4, 99, 0, 0) := by decide +kernel
theorem jo_78_18 : jb_op 78 18 = some (.iload 4, 99, 0, 0) := by decide +kernel
theorem jo_78_20 : jb_op 78 20 = some (.aload_n 0, 99, 0, 0) := by decide +kernel
theorem jo_78_21 : jb_op 78 21 = some (.getfield 77, 0, 10, 14) := by decide +kernel
theorem jo_78_24 : jb_op 78 24 = some (.invokevirtual 120, 2, 12, 0) := by decide +kernel
theorem jo_78_27 : jb_op 78 27 = some (.if_icmp .ge (32), 99, 0, 0) := by decide +kernel
theorem jo_78_59 : jb_op 78 59 = some (.iload_n 3, 99, 0, 0) := by decide +kernel
theorem jo_78_60 : jb_op 78 60 = some (.iload_n 1, 99, 0, 0) := by decide +kernel
theorem jo_78_61 : jb_op 78 61 = some (.if_icmp .ne (5), 99, 0, 0) := by decide +kernel
theorem jo_78_64 : jb_op 78 64 = some (.iload_n 2, 99, 0, 0) := by decide +kernel
theorem jo_78_65 : jb_op 78 65 = some (.ireturn, 99, 0, 0) := by decide +kernel
theorem jo_78_66 : jb_op 78 66 = some (.iinc 2 1, 99, 0, 0) := by decide +kernel
theorem jo_78_69 : jb_op 78 69 = some (.goto (-67), 99, 0, 0) := by decide +kernel
theorem jo_78_30 : jb_op 78 30 = some (.aload_n 0, 99, 0, 0) := by decide +kernel
theorem jo_78_31 : jb_op 78 31 = some (.getfield 77, 0, 10, 14) := by decide +kernel
theorem jo_78_34 : jb_op 78 34 = some (.iload 4, 99, 0, 0) := by decide +kernel
theorem jo_78_36 : jb_op 78 36 = some (.invokevirtual 164, 2, 6, 1) := by decide +kernel
theorem jh_6_78 : jb_ht 6 < jb_ht 78 := by decide +kernel
theorem jo_78_39 : jb_op 78 39 = some (.aload_n 0, 99, 0, 0) := by decide +kernel
theorem jo_78_40 : jb_op 78 40 = some (.getfield 77, 0, 10, 14) := by decide +kernel
theorem jo_78_43 : jb_op 78 43 = some (.iload_n 2, 99, 0, 0) := by decide +kernel
theorem jo_78_44 : jb_op 78 44 = some (.invokevirtual 164, 2, 6, 1) := by decide +kernel
theorem jo_78_47 : jb_op 78 47 = some (.if_icmp .ge (6), 99, 0, 0) := by decide +kernel
theorem jo_78_53 : jb_op 78 53 = some (.iinc 4 1, 99, 0, 0) := by decide +kernel
theorem jo_78_56 : jb_op 78 56 = some (.goto (-38), 99, 0, 0) := by decide +kernel
theorem jo_78_50 : jb_op 78 50 = some (.iinc 3 1, 99, 0, 0) := by decide +kernel
theorem jl_78 : jb_ml 78 = 5 := by decide +kernel
theorem jo_79_0 : jb_op 79 0 = some (.iconst 0, 99, 0, 0) := by decide +kernel
theorem jo_79_1 : jb_op 79 1 = some (.istore_n 1, 99, 0, 0) := by decide +kernel
theorem jo_79_2 : jb_op 79 2 = some (.iconst 0, 99, 0, 0) := by decide +kernel
theorem jo_79_3 : jb_op 79 3 = some (.istore_n 2, 99, 0, 0) := by decide +kernel
theorem jo_79_4 : jb_op 79 4 = some (.iload_n 2, 99, 0, 0) := by decide +kernel
theorem jo_79_5 : jb_op 79 5 = some (.aload_n 0, 99, 0, 0) := by decide +kernel
theorem jo_79_6 : jb_op 79 6 = some (.getfield 9, 0, 6, 1) := by decide +kernel
theorem jo_79_9 : jb_op 79 9 = some (.if_icmp .ge (17), 99, 0, 0) := by decide +kernel
theorem jo_79_26 : jb_op 79 26 = some (.iload_n 1, 99, 0, 0) := by decide +kernel
theorem jo_79_27 : jb_op 79 27 = some (.ireturn, 99, 0, 0) := by decide +kernel
theorem jr_79 : jb_ret 79 = (some .int) := by decide +kernel
theorem jo_79_12 : jb_op 79 12 = some (.iload_n 1, 99, 0, 0) := by decide +kernel
theorem jo_79_13 : jb_op 79 13 = some (.aload_n 0, 99, 0, 0) := by decide +kernel
theorem jo_79_14 : jb_op 79 14 = some (.iload_n 2, 99, 0, 0) := by decide +kernel
theorem jo_79_15 : jb_op 79 15 = some (.invokevirtual 28, 2, 6, 1) := by decide +kernel
theorem jh_6_79 : jb_ht 6 < jb_ht 79 := by decide +kernel
theorem jo_79_18 : jb_op 79 18 = some (.iadd, 99, 0, 0) := by decide +kernel
theorem jo_79_19 : jb_op 79 19 = some (.istore_n 1, 99, 0, 0) := by decide +kernel
theorem jo_79_20 : jb_op 79 20 = some (.iinc 2 1, 99, 0, 0) := by decide +kernel
theorem jo_79_23 : jb_op 79 23 = some (.goto (-19), 99, 0, 0) := by decide +kernel
theorem jl_79 : jb_ml 79 = 3 := by decide +kernel
theorem jo_80_0 : jb_op 80 0 = some (.aload_n 0, 99, 0, 0) := by decide +kernel
theorem jo_80_1 : jb_op 80 1 = some (.getfield 59, 0, 10, 8) := by decide +kernel
theorem jf_0_8 : jm_f 0 8 = some (some 293) := by decide +kernel
theorem jo_80_4 : jb_op 80 4 = some (.iload_n 1, 99, 0, 0) := by decide +kernel
theorem jo_80_5 : jb_op 80 5 = some (.invokevirtual 160, 2, 4, 1) := by decide +kernel
theorem jc_293 : jm_c 293 = 6 := by decide +kernel
theorem jh_4_80 : jb_ht 4 < jb_ht 80 := by decide +kernel
theorem jo_80_8 : jb_op 80 8 = some (.ifCond .eq (14), 99, 0, 0) := by decide +kernel
theorem jo_80_22 : jb_op 80 22 = some (.iconst (-1), 99, 0, 0) := by decide +kernel
theorem jo_80_23 : jb_op 80 23 = some (.ireturn, 99, 0, 0) := by decide +kernel
theorem jr_80 : jb_ret 80 = (some .int) := by decide +kernel
theorem jo_80_11 : jb_op 80 11 = some (.aload_n 0, 99, 0, 0) := by decide +kernel
theorem jo_80_12 : jb_op 80 12 = some (.getfield 59, 0, 10, 8) := by decide +kernel
theorem jo_80_15 : jb_op 80 15 = some (.iload_n 1, 99, 0, 0) := by decide +kernel
theorem jo_80_16 : jb_op 80 16 = some (.invokevirtual 164, 2, 6, 1) := by decide +kernel
theorem jh_6_80 : jb_ht 6 < jb_ht 80 := by decide +kernel
theorem jo_80_19 : jb_op 80 19 = some (.goto 4, 99, 0, 0) := by decide +kernel
theorem jl_80 : jb_ml 80 = 2 := by decide +kernel
theorem jo_81_0 : jb_op 81 0 = some (.iload_n 1, 99, 0, 0) := by decide +kernel
theorem jo_81_1 : jb_op 81 1 = some (.bipush 32, 99, 0, 0) := by decide +kernel
theorem jo_81_3 : jb_op 81 3 = some (.if_icmp .lt (9), 99, 0, 0) := by decide +kernel
theorem jo_81_12 : jb_op 81 12 = some (.bipush (-2), 99, 0, 0) := by decide +kernel
theorem jo_81_14 : jb_op 81 14 = some (.ireturn, 99, 0, 0) := by decide +kernel
theorem jr_81 : jb_ret 81 = (some .int) := by decide +kernel
theorem jo_81_6 : jb_op 81 6 = some (.iload_n 1, 99, 0, 0) := by decide +kernel
theorem jo_81_7 : jb_op 81 7 = some (.bipush 126, 99, 0, 0) := by decide +kernel
theorem jo_81_9 : jb_op 81 9 = some (.if_icmp .le (6), 99, 0, 0) := by decide +kernel
theorem jo_81_15 : jb_op 81 15 = some (.aload_n 0, 99, 0, 0) := by decide +kernel
theorem jo_81_16 : jb_op 81 16 = some (.getfield 46, 0, 10, 6) := by decide +kernel
theorem jf_0_6 : jm_f 0 6 = some (some 282) := by decide +kernel
theorem jo_81_19 : jb_op 81 19 = some (.getfield 263, 1, 8, 0) := by decide +kernel
theorem jc_282 : jm_c 282 = 8 := by decide +kernel
theorem jf_282_0 : jm_f 282 0 = some (some 283) := by decide +kernel
theorem jo_81_22 : jb_op 81 22 = some (.invokevirtual 113, 2, 11, 0) := by decide +kernel
theorem jc_283 : jm_c 283 = 6 := by decide +kernel
theorem jh_11_81 : jb_ht 11 < jb_ht 81 := by decide +kernel
theorem jo_81_25 : jb_op 81 25 = some (.ifCond .eq (6), 99, 0, 0) := by decide +kernel
theorem jo_81_31 : jb_op 81 31 = some (.aload_n 0, 99, 0, 0) := by decide +kernel
theorem jo_81_32 : jb_op 81 32 = some (.getfield 46, 0, 10, 6) := by decide +kernel
theorem jo_81_35 : jb_op 81 35 = some (.getfield 263, 1, 8, 0) := by decide +kernel
theorem jo_81_38 : jb_op 81 38 = some (.iload_n 1, 99, 0, 0) := by decide +kernel
theorem jo_81_39 : jb_op 81 39 = some (.invokevirtual 117, 2, 1, 1) := by decide +kernel
theorem jh_1_81 : jb_ht 1 < jb_ht 81 := by decide +kernel
theorem jo_81_28 : jb_op 81 28 = some (.bipush (-4), 99, 0, 0) := by decide +kernel
theorem jo_81_30 : jb_op 81 30 = some (.ireturn, 99, 0, 0) := by decide +kernel
theorem jo_81_42 : jb_op 81 42 = some (.aload_n 0, 99, 0, 0) := by decide +kernel
theorem jo_81_43 : jb_op 81 43 = some (.getfield 46, 0, 10, 6) := by decide +kernel
theorem jo_81_46 : jb_op 81 46 = some (.getfield 263, 1, 8, 0) := by decide +kernel
theorem jo_81_49 : jb_op 81 49 = some (.invokevirtual 120, 2, 12, 0) := by decide +kernel
theorem jh_12_81 : jb_ht 12 < jb_ht 81 := by decide +kernel
theorem jo_81_52 : jb_op 81 52 = some (.ireturn, 99, 0, 0) := by decide +kernel
theorem jl_81 : jb_ml 81 = 2 := by decide +kernel
theorem jo_84_0 : jb_op 84 0 = some (.iload_n 0, 99, 0, 0) := by decide +kernel
theorem jo_84_1 : jb_op 84 1 = some (.lookupswitch (109) #[((66), (43)), ((68), (63)), ((75), (81)), ((83), (95))], 99, 0, 0) := by decide +kernel
theorem jo_84_44 : jb_op 84 44 = some (.iload_n 1, 99, 0, 0) := by decide +kernel
theorem jo_84_45 : jb_op 84 45 = some (.bipush 46, 99, 0, 0) := by decide +kernel
theorem jo_84_47 : jb_op 84 47 = some (.if_icmp .eq (15), 99, 0, 0) := by decide +kernel
theorem jo_84_62 : jb_op 84 62 = some (.iconst 0, 99, 0, 0) := by decide +kernel
theorem jo_84_63 : jb_op 84 63 = some (.ireturn, 99, 0, 0) := by decide +kernel
theorem jr_84 : jb_ret 84 = (some .boolean) := by decide +kernel
theorem jo_84_50 : jb_op 84 50 = some (.iload_n 1, 99, 0, 0) := by decide +kernel
theorem jo_84_51 : jb_op 84 51 = some (.invokestatic 69, 5, 10, 1) := by decide +kernel
theorem jh_10_84 : jb_ht 10 < jb_ht 84 := by decide +kernel
theorem jo_84_64 : jb_op 84 64 = some (.iload_n 1, 99, 0, 0) := by decide +kernel
theorem jo_84_65 : jb_op 84 65 = some (.bipush 48, 99, 0, 0) := by decide +kernel
theorem jo_84_67 : jb_op 84 67 = some (.if_icmp .lt (13), 99, 0, 0) := by decide +kernel
theorem jo_84_80 : jb_op 84 80 = some (.iconst 0, 99, 0, 0) := by decide +kernel
theorem jo_84_81 : jb_op 84 81 = some (.ireturn, 99, 0, 0) := by decide +kernel
theorem jo_84_70 : jb_op 84 70 = some (.iload_n 1, 99, 0, 0) := by decide +kernel
theorem jo_84_71 : jb_op 84 71 = some (.bipush 57, 99, 0, 0) := by decide +kernel
theorem jo_84_73 : jb_op 84 73 = some (.if_icmp .gt (7), 99, 0, 0) := by decide +kernel
theorem jo_84_76 : jb_op 84 76 = some (.iconst 1, 99, 0, 0) := by decide +kernel
theorem jo_84_77 : jb_op 84 77 = some (.goto 4, 99, 0, 0) := by decide +kernel
theorem jo_84_82 : jb_op 84 82 = some (.iload_n 1, 99, 0, 0) := by decide +kernel
theorem jo_84_83 : jb_op 84 83 = some (.invokestatic 72, 5, 24, 1) := by decide +kernel
theorem jh_24_84 : jb_ht 24 < jb_ht 84 := by decide +kernel
theorem jo_84_96 : jb_op 84 96 = some (.iload_n 1, 99, 0, 0) := by decide +kernel
theorem jo_84_97 : jb_op 84 97 = some (.invokestatic 69, 5, 10, 1) := by decide +kernel
theorem jo_84_110 : jb_op 84 110 = some (.iload_n 1, 99, 0, 0) := by decide +kernel
theorem jo_84_111 : jb_op 84 111 = some (.iload_n 0, 99, 0, 0) := by decide +kernel
theorem jo_84_112 : jb_op 84 112 = some (.if_icmp .ne (7), 99, 0, 0) := by decide +kernel
theorem jo_84_115 : jb_op 84 115 = some (.iconst 1, 99, 0, 0) := by decide +kernel
theorem jo_84_116 : jb_op 84 116 = some (.goto 4, 99, 0, 0) := by decide +kernel
theorem jo_84_120 : jb_op 84 120 = some (.ireturn, 99, 0, 0) := by decide +kernel
theorem jo_84_119 : jb_op 84 119 = some (.iconst 0, 99, 0, 0) := by decide +kernel
theorem jo_84_100 : jb_op 84 100 = some (.iconst (-1), 99, 0, 0) := by decide +kernel
theorem jo_84_101 : jb_op 84 101 = some (.if_icmp .eq (7), 99, 0, 0) := by decide +kernel
theorem jo_84_108 : jb_op 84 108 = some (.iconst 0, 99, 0, 0) := by decide +kernel
theorem jo_84_109 : jb_op 84 109 = some (.ireturn, 99, 0, 0) := by decide +kernel
theorem jo_84_104 : jb_op 84 104 = some (.iconst 1, 99, 0, 0) := by decide +kernel
theorem jo_84_105 : jb_op 84 105 = some (.goto 4, 99, 0, 0) := by decide +kernel
theorem jo_84_86 : jb_op 84 86 = some (.iconst (-1), 99, 0, 0) := by decide +kernel
theorem jo_84_87 : jb_op 84 87 = some (.if_icmp .eq (7), 99, 0, 0) := by decide +kernel
theorem jo_84_94 : jb_op 84 94 = some (.iconst 0, 99, 0, 0) := by decide +kernel
theorem jo_84_95 : jb_op 84 95 = some (.ireturn, 99, 0, 0) := by decide +kernel
theorem jo_84_90 : jb_op 84 90 = some (.iconst 1, 99, 0, 0) := by decide +kernel
theorem jo_84_91 : jb_op 84 91 = some (.goto 4, 99, 0, 0) := by decide +kernel
theorem jo_84_54 : jb_op 84 54 = some (.iconst (-1), 99, 0, 0) := by decide +kernel
theorem jo_84_55 : jb_op 84 55 = some (.if_icmp .eq (7), 99, 0, 0) := by decide +kernel
theorem jo_84_58 : jb_op 84 58 = some (.iconst 1, 99, 0, 0) := by decide +kernel
theorem jo_84_59 : jb_op 84 59 = some (.goto 4, 99, 0, 0) := by decide +kernel
theorem jl_84 : jb_ml 84 = 2 := by decide +kernel
theorem jo_86_0 : jb_op 86 0 = some (.iload_n 2, 99, 0, 0) := by decide +kernel
theorem jo_86_1 : jb_op 86 1 = some (.ifCond .eq (10), 99, 0, 0) := by decide +kernel
theorem jo_86_11 : jb_op 86 11 = some (.bipush (-6), 99, 0, 0) := by decide +kernel
theorem jo_86_13 : jb_op 86 13 = some (.istore_n 3, 99, 0, 0) := by decide +kernel
theorem jo_86_14 : jb_op 86 14 = some (.iload_n 2, 99, 0, 0) := by decide +kernel
theorem jo_86_15 : jb_op 86 15 = some (.ifCond .eq (10), 99, 0, 0) := by decide +kernel
theorem jo_86_25 : jb_op 86 25 = some (.bipush (-6), 99, 0, 0) := by decide +kernel
theorem jo_86_27 : jb_op 86 27 = some (.istore 4, 99, 0, 0) := by decide +kernel
theorem jo_86_29 : jb_op 86 29 = some (.aload_n 0, 99, 0, 0) := by decide +kernel
theorem jo_86_30 : jb_op 86 30 = some (.bipush 7, 99, 0, 0) := by decide +kernel
theorem jo_86_32 : jb_op 86 32 = some (.iload_n 1, 99, 0, 0) := by decide +kernel
theorem jo_86_33 : jb_op 86 33 = some (.invokevirtual 24, 2, 7, 2) := by decide +kernel
theorem jh_7_86 : jb_ht 7 < jb_ht 86 := by decide +kernel
theorem jo_86_4 : jb_op 86 4 = some (.aload_n 0, 99, 0, 0) := by decide +kernel
theorem jo_86_5 : jb_op 86 5 = some (.getfield 9, 0, 5, 0) := by decide +kernel
theorem jo_86_8 : jb_op 86 8 = some (.goto 5, 99, 0, 0) := by decide +kernel
theorem jo_86_18 : jb_op 86 18 = some (.aload_n 0, 99, 0, 0) := by decide +kernel
theorem jo_86_19 : jb_op 86 19 = some (.getfield 15, 0, 5, 1) := by decide +kernel
theorem jo_86_22 : jb_op 86 22 = some (.goto 5, 99, 0, 0) := by decide +kernel
theorem jo_86_36 : jb_op 86 36 = some (.pop, 99, 0, 0) := by decide +kernel
theorem jo_86_37 : jb_op 86 37 = some (.aload_n 0, 99, 0, 0) := by decide +kernel
theorem jo_86_38 : jb_op 86 38 = some (.iload_n 3, 99, 0, 0) := by decide +kernel
theorem jo_86_39 : jb_op 86 39 = some (.putfield 18, 0, 5, 2) := by decide +kernel
theorem jo_86_42 : jb_op 86 42 = some (.aload_n 0, 99, 0, 0) := by decide +kernel
theorem jo_86_43 : jb_op 86 43 = some (.iload 4, 99, 0, 0) := by decide +kernel
theorem jo_86_45 : jb_op 86 45 = some (.putfield 21, 0, 5, 3) := by decide +kernel
theorem jo_86_48 : jb_op 86 48 = some (.bipush (-5), 99, 0, 0) := by decide +kernel
theorem jo_86_50 : jb_op 86 50 = some (.ireturn, 99, 0, 0) := by decide +kernel
theorem jr_86 : jb_ret 86 = (some .int) := by decide +kernel
theorem jl_86 : jb_ml 86 = 5 := by decide +kernel
theorem jo_87_0 : jb_op 87 0 = some (.iload_n 1, 99, 0, 0) := by decide +kernel
theorem jo_87_1 : jb_op 87 1 = some (.iconst 0, 99, 0, 0) := by decide +kernel
theorem jo_87_2 : jb_op 87 2 = some (.iconst 1, 99, 0, 0) := by decide +kernel
theorem jo_87_3 : jb_op 87 3 = some (.invokestatic 85, 4, 31, 3) := by decide +kernel
theorem jh_31_87 : jb_ht 31 < jb_ht 87 := by decide +kernel
theorem jo_87_6 : jb_op 87 6 = some (.ifCond .ne (6), 99, 0, 0) := by decide +kernel
theorem jo_87_9 : jb_op 87 9 = some (.bipush (-2), 99, 0, 0) := by decide +kernel
theorem jo_87_11 : jb_op 87 11 = some (.ireturn, 99, 0, 0) := by decide +kernel
theorem jr_87 : jb_ret 87 = (some .int) := by decide +kernel
theorem jo_87_12 : jb_op 87 12 = some (.aload_n 0, 99, 0, 0) := by decide +kernel
theorem jo_87_13 : jb_op 87 13 = some (.getfield 66, 0, 11, 6) := by decide +kernel
theorem jf_307_6 : jm_f 307 6 = some none := by decide +kernel
theorem jo_87_16 : jb_op 87 16 = some (.ifCond .ne (6), 99, 0, 0) := by decide +kernel
theorem jo_87_19 : jb_op 87 19 = some (.bipush (-3), 99, 0, 0) := by decide +kernel
theorem jo_87_21 : jb_op 87 21 = some (.ireturn, 99, 0, 0) := by decide +kernel
theorem jo_87_22 : jb_op 87 22 = some (.iload_n 1, 99, 0, 0) := by decide +kernel
theorem jo_87_23 : jb_op 87 23 = some (.ifCond .ne (10), 99, 0, 0) := by decide +kernel
theorem jo_87_26 : jb_op 87 26 = some (.aload_n 0, 99, 0, 0) := by decide +kernel
theorem jo_87_27 : jb_op 87 27 = some (.getfield 66, 0, 11, 6) := by decide +kernel
theorem jo_87_30 : jb_op 87 30 = some (.goto 7, 99, 0, 0) := by decide +kernel
theorem jo_87_37 : jb_op 87 37 = some (.istore_n 3, 99, 0, 0) := by decide +kernel
theorem jo_87_38 : jb_op 87 38 = some (.iload_n 3, 99, 0, 0) := by decide +kernel
theorem jo_87_39 : jb_op 87 39 = some (.ifCond .ne (8), 99, 0, 0) := by decide +kernel
theorem jo_87_47 : jb_op 87 47 = some (.iload_n 2, 99, 0, 0) := by decide +kernel
theorem jo_87_48 : jb_op 87 48 = some (.ifCond .ne (7), 99, 0, 0) := by decide +kernel
theorem jo_87_51 : jb_op 87 51 = some (.iload_n 3, 99, 0, 0) := by decide +kernel
theorem jo_87_52 : jb_op 87 52 = some (.goto 18, 99, 0, 0) := by decide +kernel
theorem jo_87_70 : jb_op 87 70 = some (.ireturn, 99, 0, 0) := by decide +kernel
theorem jo_87_55 : jb_op 87 55 = some (.iload_n 1, 99, 0, 0) := by decide +kernel
theorem jo_87_56 : jb_op 87 56 = some (.ifCond .ne (10), 99, 0, 0) := by decide +kernel
theorem jo_87_59 : jb_op 87 59 = some (.aload_n 0, 99, 0, 0) := by decide +kernel
theorem jo_87_60 : jb_op 87 60 = some (.getfield 69, 0, 11, 7) := by decide +kernel
theorem jf_307_7 : jm_f 307 7 = some none := by decide +kernel
theorem jo_87_63 : jb_op 87 63 = some (.goto 7, 99, 0, 0) := by decide +kernel
theorem jo_87_33 : jb_op 87 33 = some (.aload_n 0, 99, 0, 0) := by decide +kernel
theorem jo_87_34 : jb_op 87 34 = some (.getfield 72, 0, 11, 8) := by decide +kernel
theorem jf_307_8 : jm_f 307 8 = some none := by decide +kernel
theorem jo_87_42 : jb_op 87 42 = some (.bipush (-6), 99, 0, 0) := by decide +kernel
theorem jo_87_44 : jb_op 87 44 = some (.goto 26, 99, 0, 0) := by decide +kernel
theorem jo_87_66 : jb_op 87 66 = some (.aload_n 0, 99, 0, 0) := by decide +kernel
theorem jo_87_67 : jb_op 87 67 = some (.getfield 75, 0, 11, 9) := by decide +kernel
theorem jf_307_9 : jm_f 307 9 = some none := by decide +kernel
theorem jl_87 : jb_ml 87 = 4 := by decide +kernel
theorem jo_88_0 : jb_op 88 0 = some (.aload_n 0, 99, 0, 0) := by decide +kernel
theorem jo_88_1 : jb_op 88 1 = some (.getfield 63, 0, 11, 5) := by decide +kernel
theorem jf_307_5 : jm_f 307 5 = some none := by decide +kernel
theorem jo_88_4 : jb_op 88 4 = some (.ifCond .ne (6), 99, 0, 0) := by decide +kernel
theorem jo_88_7 : jb_op 88 7 = some (.bipush (-3), 99, 0, 0) := by decide +kernel
theorem jo_88_9 : jb_op 88 9 = some (.ireturn, 99, 0, 0) := by decide +kernel
theorem jr_88 : jb_ret 88 = (some .int) := by decide +kernel
theorem jo_88_10 : jb_op 88 10 = some (.aload_n 0, 99, 0, 0) := by decide +kernel
theorem jo_88_11 : jb_op 88 11 = some (.dup, 99, 0, 0) := by decide +kernel
theorem jo_88_12 : jb_op 88 12 = some (.getfield 63, 0, 11, 5) := by decide +kernel
theorem jo_88_15 : jb_op 88 15 = some (.iconst 1, 99, 0, 0) := by decide +kernel
theorem jo_88_16 : jb_op 88 16 = some (.isub, 99, 0, 0) := by decide +kernel
theorem jo_88_17 : jb_op 88 17 = some (.putfield 63, 0, 11, 5) := by decide +kernel
theorem jty_11_5 : jb_Ty 11 5 = .int ∧ (jb_T 11 5).2.2.2 = false := by decide +kernel
theorem jo_88_20 : jb_op 88 20 = some (.aload_n 0, 99, 0, 0) := by decide +kernel
theorem jo_88_21 : jb_op 88 21 = some (.getfield 19, 0, 11, 3) := by decide +kernel
theorem jf_307_3 : jm_f 307 3 = some (some 311) := by decide +kernel
theorem jo_88_24 : jb_op 88 24 = some (.aload_n 0, 99, 0, 0) := by decide +kernel
theorem jo_88_25 : jb_op 88 25 = some (.getfield 63, 0, 11, 5) := by decide +kernel
theorem jo_88_28 : jb_op 88 28 = some (.sipush 146, 99, 0, 0) := by decide +kernel
theorem jo_88_31 : jb_op 88 31 = some (.imul, 99, 0, 0) := by decide +kernel
theorem jo_88_32 : jb_op 88 32 = some (.aload_n 0, 99, 0, 0) := by decide +kernel
theorem jo_88_33 : jb_op 88 33 = some (.getfield 9, 0, 11, 0) := by decide +kernel
theorem jo_88_36 : jb_op 88 36 = some (.iconst 0, 99, 0, 0) := by decide +kernel
theorem jo_88_37 : jb_op 88 37 = some (.invokestatic 59, 4, 32, 4) := by decide +kernel
theorem jh_32_88 : jb_ht 32 < jb_ht 88 := by decide +kernel
theorem jo_88_40 : jb_op 88 40 = some (.aload_n 0, 99, 0, 0) := by decide +kernel
theorem jo_88_41 : jb_op 88 41 = some (.getfield 63, 0, 11, 5) := by decide +kernel
theorem jo_88_44 : jb_op 88 44 = some (.ireturn, 99, 0, 0) := by decide +kernel
theorem jl_88 : jb_ml 88 = 1 := by decide +kernel
theorem jo_89_0 : jb_op 89 0 = some (.aload_n 0, 99, 0, 0) := by decide +kernel
theorem jo_89_1 : jb_op 89 1 = some (.getfield 9, 0, 11, 0) := by decide +kernel
theorem jo_89_4 : jb_op 89 4 = some (.iconst 0, 99, 0, 0) := by decide +kernel
theorem jo_89_5 : jb_op 89 5 = some (.aload_n 0, 99, 0, 0) := by decide +kernel
theorem jo_89_6 : jb_op 89 6 = some (.getfield 16, 0, 11, 2) := by decide +kernel
theorem jf_307_2 : jm_f 307 2 = some (some 310) := by decide +kernel
theorem jo_89_9 : jb_op 89 9 = some (.iconst 0, 99, 0, 0) := by decide +kernel
theorem jo_89_10 : jb_op 89 10 = some (.invokestatic 59, 4, 32, 4) := by decide +kernel
theorem jh_32_89 : jb_ht 32 < jb_ht 89 := by decide +kernel
theorem jo_89_13 : jb_op 89 13 = some (.aload_n 0, 99, 0, 0) := by decide +kernel
theorem jo_89_14 : jb_op 89 14 = some (.iconst 1, 99, 0, 0) := by decide +kernel
theorem jo_89_15 : jb_op 89 15 = some (.putfield 89, 0, 11, 4) := by decide +kernel
theorem jf_307_4 : jm_f 307 4 = some none := by decide +kernel
theorem jty_11_4 : jb_Ty 11 4 = .boolean ∧ (jb_T 11 4).2.2.2 = false := by decide +kernel
theorem jo_89_18 : jb_op 89 18 = some (.aload_n 0, 99, 0, 0) := by decide +kernel
theorem jo_89_19 : jb_op 89 19 = some (.getfield 9, 0, 11, 0) := by decide +kernel
theorem jo_89_22 : jb_op 89 22 = some (.iconst 0, 99, 0, 0) := by decide +kernel
theorem jo_89_23 : jb_op 89 23 = some (.iaload, 99, 0, 0) := by decide +kernel
theorem jo_89_24 : jb_op 89 24 = some (.ireturn, 99, 0, 0) := by decide +kernel
theorem jr_89 : jb_ret 89 = (some .int) := by decide +kernel
theorem jl_89 : jb_ml 89 = 1 := by decide +kernel
theorem jo_90_0 : jb_op 90 0 = some (.aload_n 0, 99, 0, 0) := by decide +kernel
theorem jo_90_1 : jb_op 90 1 = some (.getfield 89, 0, 11, 4) := by decide +kernel
theorem jo_90_4 : jb_op 90 4 = some (.ifCond .ne (6), 99, 0, 0) := by decide +kernel
theorem jo_90_7 : jb_op 90 7 = some (.bipush (-3), 99, 0, 0) := by decide +kernel
theorem jo_90_9 : jb_op 90 9 = some (.ireturn, 99, 0, 0) := by decide +kernel
theorem jr_90 : jb_ret 90 = (some .int) := by decide +kernel
theorem jo_90_10 : jb_op 90 10 = some (.aload_n 0, 99, 0, 0) := by decide +kernel
theorem jo_90_11 : jb_op 90 11 = some (.getfield 16, 0, 11, 2) := by decide +kernel
theorem jo_90_14 : jb_op 90 14 = some (.iconst 0, 99, 0, 0) := by decide +kernel
theorem jo_90_15 : jb_op 90 15 = some (.aload_n 0, 99, 0, 0) := by decide +kernel
theorem jo_90_16 : jb_op 90 16 = some (.getfield 9, 0, 11, 0) := by decide +kernel
theorem jo_90_19 : jb_op 90 19 = some (.iconst 0, 99, 0, 0) := by decide +kernel
theorem jo_90_20 : jb_op 90 20 = some (.invokestatic 59, 4, 32, 4) := by decide +kernel
theorem jh_32_90 : jb_ht 32 < jb_ht 90 := by decide +kernel
theorem jo_90_23 : jb_op 90 23 = some (.aload_n 0, 99, 0, 0) := by decide +kernel
theorem jo_90_24 : jb_op 90 24 = some (.iconst 0, 99, 0, 0) := by decide +kernel
theorem jo_90_25 : jb_op 90 25 = some (.putfield 63, 0, 11, 5) := by decide +kernel
theorem jo_90_28 : jb_op 90 28 = some (.aload_n 0, 99, 0, 0) := by decide +kernel
theorem jo_90_29 : jb_op 90 29 = some (.getfield 9, 0, 11, 0) := by decide +kernel
theorem jo_90_32 : jb_op 90 32 = some (.iconst 0, 99, 0, 0) := by decide +kernel
theorem jo_90_33 : jb_op 90 33 = some (.iaload, 99, 0, 0) := by decide +kernel
theorem jo_90_34 : jb_op 90 34 = some (.ireturn, 99, 0, 0) := by decide +kernel
theorem jl_90 : jb_ml 90 = 1 := by decide +kernel
theorem jo_91_0 : jb_op 91 0 = some (.iload_n 0, 99, 0, 0) := by decide +kernel
theorem jo_91_1 : jb_op 91 1 = some (.iconst 0, 99, 0, 0) := by decide +kernel
theorem jo_91_2 : jb_op 91 2 = some (.iconst 4, 99, 0, 0) := by decide +kernel
theorem jo_91_3 : jb_op 91 3 = some (.invokestatic 85, 4, 31, 3) := by decide +kernel
theorem jh_31_91 : jb_ht 31 < jb_ht 91 := by decide +kernel
theorem jo_91_6 : jb_op 91 6 = some (.ireturn, 99, 0, 0) := by decide +kernel
theorem jr_91 : jb_ret 91 = (some .boolean) := by decide +kernel
theorem jl_91 : jb_ml 91 = 1 := by decide +kernel
theorem jo_92_0 : jb_op 92 0 = some (.iload_n 0, 99, 0, 0) := by decide +kernel
theorem jo_92_1 : jb_op 92 1 = some (.iconst 1, 99, 0, 0) := by decide +kernel
theorem jo_92_2 : jb_op 92 2 = some (.bipush 9, 99, 0, 0) := by decide +kernel
theorem jo_92_4 : jb_op 92 4 = some (.invokestatic 85, 4, 31, 3) := by decide +kernel
theorem jh_31_92 : jb_ht 31 < jb_ht 92 := by decide +kernel
theorem jo_92_7 : jb_op 92 7 = some (.ireturn, 99, 0, 0) := by decide +kernel
theorem jr_92 : jb_ret 92 = (some .boolean) := by decide +kernel
theorem jl_92 : jb_ml 92 = 1 := by decide +kernel
theorem jo_93_0 : jb_op 93 0 = some (.aload_n 0, 99, 0, 0) := by decide +kernel
theorem jo_93_1 : jb_op 93 1 = some (.getfield 9, 0, 11, 0) := by decide +kernel
theorem jo_93_4 : jb_op 93 4 = some (.iconst 0, 99, 0, 0) := by decide +kernel
theorem jo_93_5 : jb_op 93 5 = some (.aload_n 0, 99, 0, 0) := by decide +kernel
theorem jo_93_6 : jb_op 93 6 = some (.getfield 13, 0, 11, 1) := by decide +kernel
theorem jf_307_1 : jm_f 307 1 = some (some 309) := by decide +kernel
theorem jo_93_9 : jb_op 93 9 = some (.iconst 0, 99, 0, 0) := by decide +kernel
theorem jo_93_10 : jb_op 93 10 = some (.invokestatic 59, 4, 32, 4) := by decide +kernel
theorem jh_32_93 : jb_ht 32 < jb_ht 93 := by decide +kernel
theorem jo_93_13 : jb_op 93 13 = some (.aload_n 0, 99, 0, 0) := by decide +kernel
theorem jo_93_14 : jb_op 93 14 = some (.iconst 0, 99, 0, 0) := by decide +kernel
theorem jo_93_15 : jb_op 93 15 = some (.putfield 53, 0, 11, 17) := by decide +kernel
theorem jo_93_18 : jb_op 93 18 = some (.return_, 99, 0, 0) := by decide +kernel
theorem jr_93 : jb_ret 93 = none := by decide +kernel
theorem jl_93 : jb_ml 93 = 1 := by decide +kernel
theorem jo_94_0 : jb_op 94 0 = some (.aload_n 0, 99, 0, 0) := by decide +kernel
theorem jo_94_1 : jb_op 94 1 = some (.getfield 9, 0, 11, 0) := by decide +kernel
theorem jo_94_4 : jb_op 94 4 = some (.iload_n 1, 99, 0, 0) := by decide +kernel
theorem jo_94_5 : jb_op 94 5 = some (.iaload, 99, 0, 0) := by decide +kernel
theorem jo_94_6 : jb_op 94 6 = some (.istore_n 3, 99, 0, 0) := by decide +kernel
theorem jo_94_7 : jb_op 94 7 = some (.aload_n 0, 99, 0, 0) := by decide +kernel
theorem jo_94_8 : jb_op 94 8 = some (.iload_n 3, 99, 0, 0) := by decide +kernel
theorem jo_94_9 : jb_op 94 9 = some (.iload_n 2, 99, 0, 0) := by decide +kernel
theorem jo_94_10 : jb_op 94 10 = some (.if_icmp .ne (7), 99, 0, 0) := by decide +kernel
theorem jo_94_13 : jb_op 94 13 = some (.iconst 1, 99, 0, 0) := by decide +kernel
theorem jo_94_14 : jb_op 94 14 = some (.goto 4, 99, 0, 0) := by decide +kernel
theorem jo_94_18 : jb_op 94 18 = some (.iconst 2, 99, 0, 0) := by decide +kernel
theorem jo_94_19 : jb_op 94 19 = some (.iload_n 2, 99, 0, 0) := by decide +kernel
theorem jo_94_20 : jb_op 94 20 = some (.invokevirtual 93, 2, 34, 3) := by decide +kernel
theorem jh_34_94 : jb_ht 34 < jb_ht 94 := by decide +kernel
theorem jw_34 : jb_ow 34 = 11 := by decide +kernel
theorem jo_94_17 : jb_op 94 17 = some (.iconst 0, 99, 0, 0) := by decide +kernel
theorem jo_94_23 : jb_op 94 23 = some (.aload_n 0, 99, 0, 0) := by decide +kernel
theorem jo_94_24 : jb_op 94 24 = some (.getfield 9, 0, 11, 0) := by decide +kernel
theorem jo_94_27 : jb_op 94 27 = some (.iload_n 1, 99, 0, 0) := by decide +kernel
theorem jo_94_28 : jb_op 94 28 = some (.iload_n 2, 99, 0, 0) := by decide +kernel
theorem jo_94_29 : jb_op 94 29 = some (.iastore, 99, 0, 0) := by decide +kernel
theorem jo_94_30 : jb_op 94 30 = some (.iload_n 3, 99, 0, 0) := by decide +kernel
theorem jo_94_31 : jb_op 94 31 = some (.ireturn, 99, 0, 0) := by decide +kernel
theorem jr_94 : jb_ret 94 = (some .int) := by decide +kernel
theorem jl_94 : jb_ml 94 = 4 := by decide +kernel
theorem jo_95_0 : jb_op 95 0 = some (.aload_n 0, 99, 0, 0) := by decide +kernel
theorem jo_95_1 : jb_op 95 1 = some (.iload_n 1, 99, 0, 0) := by decide +kernel
theorem jo_95_2 : jb_op 95 2 = some (.putfield 66, 0, 11, 6) := by decide +kernel
theorem jty_11_6 : jb_Ty 11 6 = .int ∧ (jb_T 11 6).2.2.2 = false := by decide +kernel
theorem jo_95_5 : jb_op 95 5 = some (.aload_n 0, 99, 0, 0) := by decide +kernel
theorem jo_95_6 : jb_op 95 6 = some (.iload_n 2, 99, 0, 0) := by decide +kernel
theorem jo_95_7 : jb_op 95 7 = some (.putfield 69, 0, 11, 7) := by decide +kernel
theorem jty_11_7 : jb_Ty 11 7 = .int ∧ (jb_T 11 7).2.2.2 = false := by decide +kernel
theorem jo_95_10 : jb_op 95 10 = some (.aload_n 0, 99, 0, 0) := by decide +kernel
theorem jo_95_11 : jb_op 95 11 = some (.iload_n 3, 99, 0, 0) := by decide +kernel
theorem jo_95_12 : jb_op 95 12 = some (.putfield 72, 0, 11, 8) := by decide +kernel
theorem jty_11_8 : jb_Ty 11 8 = .int ∧ (jb_T 11 8).2.2.2 = false := by decide +kernel
theorem jo_95_15 : jb_op 95 15 = some (.aload_n 0, 99, 0, 0) := by decide +kernel
theorem jo_95_16 : jb_op 95 16 = some (.iload 4, 99, 0, 0) := by decide +kernel
theorem jo_95_18 : jb_op 95 18 = some (.putfield 75, 0, 11, 9) := by decide +kernel
theorem jty_11_9 : jb_Ty 11 9 = .int ∧ (jb_T 11 9).2.2.2 = false := by decide +kernel
theorem jo_95_21 : jb_op 95 21 = some (.aload_n 0, 99, 0, 0) := by decide +kernel
theorem jo_95_22 : jb_op 95 22 = some (.getfield 13, 0, 11, 1) := by decide +kernel
theorem jo_95_25 : jb_op 95 25 = some (.iconst 0, 99, 0, 0) := by decide +kernel
theorem jo_95_26 : jb_op 95 26 = some (.aload_n 0, 99, 0, 0) := by decide +kernel
theorem jo_95_27 : jb_op 95 27 = some (.getfield 9, 0, 11, 0) := by decide +kernel
theorem jo_95_30 : jb_op 95 30 = some (.iconst 0, 99, 0, 0) := by decide +kernel
theorem jo_95_31 : jb_op 95 31 = some (.invokestatic 59, 4, 32, 4) := by decide +kernel
theorem jh_32_95 : jb_ht 32 < jb_ht 95 := by decide +kernel
theorem jo_95_34 : jb_op 95 34 = some (.bipush (-5), 99, 0, 0) := by decide +kernel
theorem jo_95_36 : jb_op 95 36 = some (.ireturn, 99, 0, 0) := by decide +kernel
theorem jr_95 : jb_ret 95 = (some .int) := by decide +kernel
theorem jl_95 : jb_ml 95 = 5 := by decide +kernel
theorem jo_96_0 : jb_op 96 0 = some (.aload_n 0, 99, 0, 0) := by decide +kernel
theorem jo_96_1 : jb_op 96 1 = some (.getfield 63, 0, 11, 5) := by decide +kernel
theorem jo_96_4 : jb_op 96 4 = some (.bipush 8, 99, 0, 0) := by decide +kernel
theorem jo_96_6 : jb_op 96 6 = some (.if_icmp .ne (44), 99, 0, 0) := by decide +kernel
theorem jo_96_9 : jb_op 96 9 = some (.iconst 0, 99, 0, 0) := by decide +kernel
theorem jo_96_10 : jb_op 96 10 = some (.istore_n 1, 99, 0, 0) := by decide +kernel
theorem jo_96_50 : jb_op 96 50 = some (.aload_n 0, 99, 0, 0) := by decide +kernel
theorem jo_96_51 : jb_op 96 51 = some (.getfield 13, 0, 11, 1) := by decide +kernel
theorem jo_96_54 : jb_op 96 54 = some (.iconst 0, 99, 0, 0) := by decide +kernel
theorem jo_96_55 : jb_op 96 55 = some (.aload_n 0, 99, 0, 0) := by decide +kernel
theorem jo_96_56 : jb_op 96 56 = some (.getfield 19, 0, 11, 3) := by decide +kernel
theorem jo_96_59 : jb_op 96 59 = some (.aload_n 0, 99, 0, 0) := by decide +kernel
theorem jo_96_60 : jb_op 96 60 = some (.getfield 63, 0, 11, 5) := by decide +kernel
theorem jo_96_63 : jb_op 96 63 = some (.sipush 146, 99, 0, 0) := by decide +kernel
theorem jo_96_66 : jb_op 96 66 = some (.imul, 99, 0, 0) := by decide +kernel
theorem jo_96_67 : jb_op 96 67 = some (.invokestatic 59, 4, 32, 4) := by decide +kernel
theorem jh_32_96 : jb_ht 32 < jb_ht 96 := by decide +kernel
theorem jo_96_70 : jb_op 96 70 = some (.aload_n 0, 99, 0, 0) := by decide +kernel
theorem jo_96_71 : jb_op 96 71 = some (.dup, 99, 0, 0) := by decide +kernel
theorem jo_96_72 : jb_op 96 72 = some (.getfield 63, 0, 11, 5) := by decide +kernel
theorem jo_96_75 : jb_op 96 75 = some (.iconst 1, 99, 0, 0) := by decide +kernel
theorem jo_96_76 : jb_op 96 76 = some (.iadd, 99, 0, 0) := by decide +kernel
theorem jo_96_77 : jb_op 96 77 = some (.putfield 63, 0, 11, 5) := by decide +kernel
theorem jo_96_80 : jb_op 96 80 = some (.return_, 99, 0, 0) := by decide +kernel
theorem jr_96 : jb_ret 96 = none := by decide +kernel
theorem jo_96_11 : jb_op 96 11 = some (.iload_n 1, 99, 0, 0) := by decide +kernel
theorem jo_96_12 : jb_op 96 12 = some (.sipush 1022, 99, 0, 0) := by decide +kernel
theorem jo_96_15 : jb_op 96 15 = some (.if_icmp .ge (25), 99, 0, 0) := by decide +kernel
theorem jo_96_40 : jb_op 96 40 = some (.aload_n 0, 99, 0, 0) := by decide +kernel
theorem jo_96_41 : jb_op 96 41 = some (.dup, 99, 0, 0) := by decide +kernel
theorem jo_96_42 : jb_op 96 42 = some (.getfield 63, 0, 11, 5) := by decide +kernel
theorem jo_96_45 : jb_op 96 45 = some (.iconst 1, 99, 0, 0) := by decide +kernel
theorem jo_96_46 : jb_op 96 46 = some (.isub, 99, 0, 0) := by decide +kernel
theorem jo_96_47 : jb_op 96 47 = some (.putfield 63, 0, 11, 5) := by decide +kernel
theorem jo_96_18 : jb_op 96 18 = some (.aload_n 0, 99, 0, 0) := by decide +kernel
theorem jo_96_19 : jb_op 96 19 = some (.getfield 19, 0, 11, 3) := by decide +kernel
theorem jo_96_22 : jb_op 96 22 = some (.iload_n 1, 99, 0, 0) := by decide +kernel
theorem jo_96_23 : jb_op 96 23 = some (.aload_n 0, 99, 0, 0) := by decide +kernel
theorem jo_96_24 : jb_op 96 24 = some (.getfield 19, 0, 11, 3) := by decide +kernel
theorem jo_96_27 : jb_op 96 27 = some (.iload_n 1, 99, 0, 0) := by decide +kernel
theorem jo_96_28 : jb_op 96 28 = some (.sipush 146, 99, 0, 0) := by decide +kernel
theorem jo_96_31 : jb_op 96 31 = some (.iadd, 99, 0, 0) := by decide +kernel
theorem jo_96_32 : jb_op 96 32 = some (.iaload, 99, 0, 0) := by decide +kernel
theorem jc_311 : jm_c 311 = 12 := by decide +kernel
theorem jn_311 : jm_ln 311 = 1168 := by decide +kernel
theorem jo_96_33 : jb_op 96 33 = some (.iastore, 99, 0, 0) := by decide +kernel
theorem jo_96_34 : jb_op 96 34 = some (.iinc 1 1, 99, 0, 0) := by decide +kernel
theorem jo_96_37 : jb_op 96 37 = some (.goto (-26), 99, 0, 0) := by decide +kernel
theorem jl_96 : jb_ml 96 = 2 := by decide +kernel
theorem jo_97_0 : jb_op 97 0 = some (.aload_n 0, 99, 0, 0) := by decide +kernel
theorem jo_97_1 : jb_op 97 1 = some (.getfield 9, 0, 11, 0) := by decide +kernel
theorem jo_97_4 : jb_op 97 4 = some (.iload_n 1, 99, 0, 0) := by decide +kernel
theorem jo_97_5 : jb_op 97 5 = some (.invokestatic 107, 4, 33, 1) := by decide +kernel
theorem jh_33_97 : jb_ht 33 < jb_ht 97 := by decide +kernel
theorem jo_97_8 : jb_op 97 8 = some (.iconst 1, 99, 0, 0) := by decide +kernel
theorem jo_97_9 : jb_op 97 9 = some (.iadd, 99, 0, 0) := by decide +kernel
theorem jo_97_10 : jb_op 97 10 = some (.iaload, 99, 0, 0) := by decide +kernel
theorem jo_97_11 : jb_op 97 11 = some (.istore_n 2, 99, 0, 0) := by decide +kernel
theorem jo_97_12 : jb_op 97 12 = some (.aload_n 0, 99, 0, 0) := by decide +kernel
theorem jo_97_13 : jb_op 97 13 = some (.iload_n 2, 99, 0, 0) := by decide +kernel
theorem jo_97_14 : jb_op 97 14 = some (.ifCond .ne (7), 99, 0, 0) := by decide +kernel
theorem jo_97_17 : jb_op 97 17 = some (.iconst 1, 99, 0, 0) := by decide +kernel
theorem jo_97_18 : jb_op 97 18 = some (.goto 4, 99, 0, 0) := by decide +kernel
theorem jo_97_22 : jb_op 97 22 = some (.iconst 3, 99, 0, 0) := by decide +kernel
theorem jo_97_23 : jb_op 97 23 = some (.iload_n 1, 99, 0, 0) := by decide +kernel
theorem jo_97_24 : jb_op 97 24 = some (.invokevirtual 93, 2, 34, 3) := by decide +kernel
theorem jh_34_97 : jb_ht 34 < jb_ht 97 := by decide +kernel
theorem jo_97_21 : jb_op 97 21 = some (.iconst 0, 99, 0, 0) := by decide +kernel
theorem jo_97_27 : jb_op 97 27 = some (.aload_n 0, 99, 0, 0) := by decide +kernel
theorem jo_97_28 : jb_op 97 28 = some (.getfield 9, 0, 11, 0) := by decide +kernel
theorem jo_97_31 : jb_op 97 31 = some (.iload_n 1, 99, 0, 0) := by decide +kernel
theorem jo_97_32 : jb_op 97 32 = some (.invokestatic 107, 4, 33, 1) := by decide +kernel
theorem jo_97_35 : jb_op 97 35 = some (.iconst 1, 99, 0, 0) := by decide +kernel
theorem jo_97_36 : jb_op 97 36 = some (.iadd, 99, 0, 0) := by decide +kernel
theorem jo_97_37 : jb_op 97 37 = some (.iconst 0, 99, 0, 0) := by decide +kernel
theorem jo_97_38 : jb_op 97 38 = some (.iastore, 99, 0, 0) := by decide +kernel
theorem jo_97_39 : jb_op 97 39 = some (.iload_n 2, 99, 0, 0) := by decide +kernel
theorem jo_97_40 : jb_op 97 40 = some (.ireturn, 99, 0, 0) := by decide +kernel
theorem jr_97 : jb_ret 97 = (some .int) := by decide +kernel
theorem jl_97 : jb_ml 97 = 3 := by decide +kernel
theorem jo_98_0 : jb_op 98 0 = some (.iload_n 1, 99, 0, 0) := by decide +kernel
theorem jo_98_1 : jb_op 98 1 = some (.bipush 46, 99, 0, 0) := by decide +kernel
theorem jo_98_3 : jb_op 98 3 = some (.if_icmp .ne (7), 99, 0, 0) := by decide +kernel
theorem jo_98_6 : jb_op 98 6 = some (.iconst 5, 99, 0, 0) := by decide +kernel
theorem jo_98_7 : jb_op 98 7 = some (.goto 7, 99, 0, 0) := by decide +kernel
theorem jo_98_14 : jb_op 98 14 = some (.istore_n 2, 99, 0, 0) := by decide +kernel
theorem jo_98_15 : jb_op 98 15 = some (.iload_n 2, 99, 0, 0) := by decide +kernel
theorem jo_98_16 : jb_op 98 16 = some (.iconst 0, 99, 0, 0) := by decide +kernel
theorem jo_98_17 : jb_op 98 17 = some (.iconst 5, 99, 0, 0) := by decide +kernel
theorem jo_98_18 : jb_op 98 18 = some (.invokestatic 85, 4, 31, 3) := by decide +kernel
theorem jh_31_98 : jb_ht 31 < jb_ht 98 := by decide +kernel
theorem jo_98_10 : jb_op 98 10 = some (.iload_n 1, 99, 0, 0) := by decide +kernel
theorem jo_98_11 : jb_op 98 11 = some (.bipush 97, 99, 0, 0) := by decide +kernel
theorem jo_98_13 : jb_op 98 13 = some (.isub, 99, 0, 0) := by decide +kernel
theorem jo_98_21 : jb_op 98 21 = some (.ifCond .eq (9), 99, 0, 0) := by decide +kernel
theorem jo_98_30 : jb_op 98 30 = some (.bipush (-2), 99, 0, 0) := by decide +kernel
theorem jo_98_32 : jb_op 98 32 = some (.ireturn, 99, 0, 0) := by decide +kernel
theorem jr_98 : jb_ret 98 = (some .int) := by decide +kernel
theorem jo_98_24 : jb_op 98 24 = some (.iload_n 1, 99, 0, 0) := by decide +kernel
theorem jo_98_25 : jb_op 98 25 = some (.bipush 102, 99, 0, 0) := by decide +kernel
theorem jo_98_27 : jb_op 98 27 = some (.if_icmp .ne (6), 99, 0, 0) := by decide +kernel
theorem jo_98_33 : jb_op 98 33 = some (.aload_n 0, 99, 0, 0) := by decide +kernel
theorem jo_98_34 : jb_op 98 34 = some (.getfield 121, 0, 11, 12) := by decide +kernel
theorem jo_98_37 : jb_op 98 37 = some (.bipush 20, 99, 0, 0) := by decide +kernel
theorem jo_98_39 : jb_op 98 39 = some (.if_icmp .ne (6), 99, 0, 0) := by decide +kernel
theorem jo_98_42 : jb_op 98 42 = some (.bipush (-4), 99, 0, 0) := by decide +kernel
theorem jo_98_44 : jb_op 98 44 = some (.ireturn, 99, 0, 0) := by decide +kernel
theorem jo_98_45 : jb_op 98 45 = some (.aload_n 0, 99, 0, 0) := by decide +kernel
theorem jo_98_46 : jb_op 98 46 = some (.getfield 26, 0, 11, 11) := by decide +kernel
theorem jo_98_49 : jb_op 98 49 = some (.aload_n 0, 99, 0, 0) := by decide +kernel
theorem jo_98_50 : jb_op 98 50 = some (.getfield 121, 0, 11, 12) := by decide +kernel
theorem jo_98_53 : jb_op 98 53 = some (.iload_n 2, 99, 0, 0) := by decide +kernel
theorem jo_98_54 : jb_op 98 54 = some (.iastore, 99, 0, 0) := by decide +kernel
theorem jo_98_55 : jb_op 98 55 = some (.aload_n 0, 99, 0, 0) := by decide +kernel
theorem jo_98_56 : jb_op 98 56 = some (.dup, 99, 0, 0) := by decide +kernel
theorem jo_98_57 : jb_op 98 57 = some (.getfield 121, 0, 11, 12) := by decide +kernel
theorem jo_98_60 : jb_op 98 60 = some (.iconst 1, 99, 0, 0) := by decide +kernel
theorem jo_98_61 : jb_op 98 61 = some (.iadd, 99, 0, 0) := by decide +kernel
theorem jo_98_62 : jb_op 98 62 = some (.putfield 121, 0, 11, 12) := by decide +kernel
theorem jty_11_12 : jb_Ty 11 12 = .int ∧ (jb_T 11 12).2.2.2 = false := by decide +kernel
theorem jo_98_65 : jb_op 98 65 = some (.aload_n 0, 99, 0, 0) := by decide +kernel
theorem jo_98_66 : jb_op 98 66 = some (.getfield 121, 0, 11, 12) := by decide +kernel
theorem jo_98_69 : jb_op 98 69 = some (.ireturn, 99, 0, 0) := by decide +kernel
theorem jl_98 : jb_ml 98 = 3 := by decide +kernel
theorem jo_99_0 : jb_op 99 0 = some (.iload_n 0, 99, 0, 0) := by decide +kernel
theorem jo_99_1 : jb_op 99 1 = some (.iconst 0, 99, 0, 0) := by decide +kernel
theorem jo_99_2 : jb_op 99 2 = some (.iconst 2, 99, 0, 0) := by decide +kernel
theorem jo_99_3 : jb_op 99 3 = some (.invokestatic 85, 4, 31, 3) := by decide +kernel
theorem jh_31_99 : jb_ht 31 < jb_ht 99 := by decide +kernel
theorem jo_99_6 : jb_op 99 6 = some (.ireturn, 99, 0, 0) := by decide +kernel
theorem jr_99 : jb_ret 99 = (some .boolean) := by decide +kernel
theorem jl_99 : jb_ml 99 = 1 := by decide +kernel
theorem jo_100_0 : jb_op 100 0 = some (.iload_n 1, 99, 0, 0) := by decide +kernel
theorem jo_100_1 : jb_op 100 1 = some (.invokestatic 130, 4, 36, 1) := by decide +kernel
theorem jh_36_100 : jb_ht 36 < jb_ht 100 := by decide +kernel
