/-! ===== what stands where: by the kernel ===== -/
theorem jo_100_4 : jb_op 100 4 = some (.istore_n 3, 99, 0, 0) := by decide +kernel
theorem jo_100_5 : jb_op 100 5 = some (.aload_n 0, 99, 0, 0) := by decide +kernel
theorem jo_100_6 : jb_op 100 6 = some (.getfield 9, 0, 11, 0) := by decide +kernel
theorem jo_100_9 : jb_op 100 9 = some (.iload_n 3, 99, 0, 0) := by decide +kernel
theorem jo_100_10 : jb_op 100 10 = some (.iconst 1, 99, 0, 0) := by decide +kernel
theorem jo_100_11 : jb_op 100 11 = some (.iadd, 99, 0, 0) := by decide +kernel
theorem jo_100_12 : jb_op 100 12 = some (.iaload, 99, 0, 0) := by decide +kernel
theorem jo_100_13 : jb_op 100 13 = some (.istore 4, 99, 0, 0) := by decide +kernel
theorem jo_100_15 : jb_op 100 15 = some (.iload_n 2, 99, 0, 0) := by decide +kernel
theorem jo_100_16 : jb_op 100 16 = some (.iload 4, 99, 0, 0) := by decide +kernel
theorem jo_100_18 : jb_op 100 18 = some (.iadd, 99, 0, 0) := by decide +kernel
theorem jo_100_19 : jb_op 100 19 = some (.aload_n 0, 99, 0, 0) := by decide +kernel
theorem jo_100_20 : jb_op 100 20 = some (.getfield 124, 0, 11, 20) := by decide +kernel
theorem jo_100_23 : jb_op 100 23 = some (.if_icmp .gt (7), 99, 0, 0) := by decide +kernel
theorem jo_100_30 : jb_op 100 30 = some (.iconst 0, 99, 0, 0) := by decide +kernel
theorem jo_100_31 : jb_op 100 31 = some (.istore 5, 99, 0, 0) := by decide +kernel
theorem jo_100_33 : jb_op 100 33 = some (.iconst 0, 99, 0, 0) := by decide +kernel
theorem jo_100_34 : jb_op 100 34 = some (.istore 6, 99, 0, 0) := by decide +kernel
theorem jo_100_26 : jb_op 100 26 = some (.iconst 1, 99, 0, 0) := by decide +kernel
theorem jo_100_27 : jb_op 100 27 = some (.goto 4, 99, 0, 0) := by decide +kernel
theorem jo_100_36 : jb_op 100 36 = some (.iload 6, 99, 0, 0) := by decide +kernel
theorem jo_100_38 : jb_op 100 38 = some (.iload 4, 99, 0, 0) := by decide +kernel
theorem jo_100_40 : jb_op 100 40 = some (.if_icmp .ge (44), 99, 0, 0) := by decide +kernel
theorem jo_100_84 : jb_op 100 84 = some (.iload 5, 99, 0, 0) := by decide +kernel
theorem jo_100_86 : jb_op 100 86 = some (.ireturn, 99, 0, 0) := by decide +kernel
theorem jr_100 : jb_ret 100 = (some .boolean) := by decide +kernel
theorem jo_100_43 : jb_op 100 43 = some (.iload 5, 99, 0, 0) := by decide +kernel
theorem jo_100_45 : jb_op 100 45 = some (.ifCond .eq (39), 99, 0, 0) := by decide +kernel
theorem jo_100_48 : jb_op 100 48 = some (.aload_n 0, 99, 0, 0) := by decide +kernel
theorem jo_100_49 : jb_op 100 49 = some (.getfield 35, 0, 11, 19) := by decide +kernel
theorem jo_100_52 : jb_op 100 52 = some (.iload_n 2, 99, 0, 0) := by decide +kernel
theorem jo_100_53 : jb_op 100 53 = some (.iload 6, 99, 0, 0) := by decide +kernel
theorem jo_100_55 : jb_op 100 55 = some (.iadd, 99, 0, 0) := by decide +kernel
theorem jo_100_56 : jb_op 100 56 = some (.iaload, 99, 0, 0) := by decide +kernel
theorem jo_100_57 : jb_op 100 57 = some (.aload_n 0, 99, 0, 0) := by decide +kernel
theorem jo_100_58 : jb_op 100 58 = some (.getfield 9, 0, 11, 0) := by decide +kernel
theorem jo_100_61 : jb_op 100 61 = some (.iload_n 3, 99, 0, 0) := by decide +kernel
theorem jo_100_62 : jb_op 100 62 = some (.iconst 2, 99, 0, 0) := by decide +kernel
theorem jo_100_63 : jb_op 100 63 = some (.iadd, 99, 0, 0) := by decide +kernel
theorem jo_100_64 : jb_op 100 64 = some (.iload 6, 99, 0, 0) := by decide +kernel
theorem jo_100_66 : jb_op 100 66 = some (.iadd, 99, 0, 0) := by decide +kernel
theorem jo_100_67 : jb_op 100 67 = some (.iaload, 99, 0, 0) := by decide +kernel
theorem jo_100_68 : jb_op 100 68 = some (.if_icmp .ne (7), 99, 0, 0) := by decide +kernel
theorem jo_100_71 : jb_op 100 71 = some (.iconst 1, 99, 0, 0) := by decide +kernel
theorem jo_100_72 : jb_op 100 72 = some (.goto 4, 99, 0, 0) := by decide +kernel
theorem jo_100_76 : jb_op 100 76 = some (.istore 5, 99, 0, 0) := by decide +kernel
theorem jo_100_78 : jb_op 100 78 = some (.iinc 6 1, 99, 0, 0) := by decide +kernel
theorem jo_100_81 : jb_op 100 81 = some (.goto (-45), 99, 0, 0) := by decide +kernel
theorem jo_100_75 : jb_op 100 75 = some (.iconst 0, 99, 0, 0) := by decide +kernel
theorem jl_100 : jb_ml 100 = 7 := by decide +kernel
theorem jo_101_0 : jb_op 101 0 = some (.iload_n 1, 99, 0, 0) := by decide +kernel
theorem jo_101_1 : jb_op 101 1 = some (.iconst 0, 99, 0, 0) := by decide +kernel
theorem jo_101_2 : jb_op 101 2 = some (.aload_n 0, 99, 0, 0) := by decide +kernel
theorem jo_101_3 : jb_op 101 3 = some (.getfield 9, 0, 11, 0) := by decide +kernel
theorem jo_101_6 : jb_op 101 6 = some (.iconst 0, 99, 0, 0) := by decide +kernel
theorem jo_101_7 : jb_op 101 7 = some (.iaload, 99, 0, 0) := by decide +kernel
theorem jo_101_8 : jb_op 101 8 = some (.iconst 1, 99, 0, 0) := by decide +kernel
theorem jo_101_9 : jb_op 101 9 = some (.isub, 99, 0, 0) := by decide +kernel
theorem jo_101_10 : jb_op 101 10 = some (.invokestatic 85, 4, 31, 3) := by decide +kernel
theorem jh_31_101 : jb_ht 31 < jb_ht 101 := by decide +kernel
theorem jo_101_13 : jb_op 101 13 = some (.ireturn, 99, 0, 0) := by decide +kernel
theorem jr_101 : jb_ret 101 = (some .boolean) := by decide +kernel
theorem jl_101 : jb_ml 101 = 2 := by decide +kernel
theorem jo_102_0 : jb_op 102 0 = some (.iload_n 1, 99, 0, 0) := by decide +kernel
theorem jo_102_1 : jb_op 102 1 = some (.invokestatic 130, 4, 36, 1) := by decide +kernel
theorem jh_36_102 : jb_ht 36 < jb_ht 102 := by decide +kernel
theorem jo_102_4 : jb_op 102 4 = some (.istore_n 2, 99, 0, 0) := by decide +kernel
theorem jo_102_5 : jb_op 102 5 = some (.iload_n 2, 99, 0, 0) := by decide +kernel
theorem jo_102_6 : jb_op 102 6 = some (.bipush 63, 99, 0, 0) := by decide +kernel
theorem jo_102_8 : jb_op 102 8 = some (.if_icmp .ge (24), 99, 0, 0) := by decide +kernel
theorem jo_102_32 : jb_op 102 32 = some (.bipush 63, 99, 0, 0) := by decide +kernel
theorem jo_102_34 : jb_op 102 34 = some (.istore_n 2, 99, 0, 0) := by decide +kernel
theorem jo_102_11 : jb_op 102 11 = some (.aload_n 0, 99, 0, 0) := by decide +kernel
theorem jo_102_12 : jb_op 102 12 = some (.getfield 9, 0, 11, 0) := by decide +kernel
theorem jo_102_15 : jb_op 102 15 = some (.iload_n 2, 99, 0, 0) := by decide +kernel
theorem jo_102_16 : jb_op 102 16 = some (.aload_n 0, 99, 0, 0) := by decide +kernel
theorem jo_102_17 : jb_op 102 17 = some (.getfield 9, 0, 11, 0) := by decide +kernel
theorem jo_102_20 : jb_op 102 20 = some (.iload_n 2, 99, 0, 0) := by decide +kernel
theorem jo_102_21 : jb_op 102 21 = some (.bipush 6, 99, 0, 0) := by decide +kernel
theorem jo_102_23 : jb_op 102 23 = some (.iadd, 99, 0, 0) := by decide +kernel
theorem jo_102_24 : jb_op 102 24 = some (.iaload, 99, 0, 0) := by decide +kernel
theorem jo_102_25 : jb_op 102 25 = some (.iastore, 99, 0, 0) := by decide +kernel
theorem jo_102_26 : jb_op 102 26 = some (.iinc 2 1, 99, 0, 0) := by decide +kernel
theorem jo_102_29 : jb_op 102 29 = some (.goto (-24), 99, 0, 0) := by decide +kernel
theorem jo_102_35 : jb_op 102 35 = some (.iload_n 2, 99, 0, 0) := by decide +kernel
theorem jo_102_36 : jb_op 102 36 = some (.bipush 69, 99, 0, 0) := by decide +kernel
theorem jo_102_38 : jb_op 102 38 = some (.if_icmp .ge (16), 99, 0, 0) := by decide +kernel
theorem jo_102_54 : jb_op 102 54 = some (.aload_n 0, 99, 0, 0) := by decide +kernel
theorem jo_102_55 : jb_op 102 55 = some (.getfield 9, 0, 11, 0) := by decide +kernel
theorem jo_102_58 : jb_op 102 58 = some (.iconst 0, 99, 0, 0) := by decide +kernel
theorem jo_102_59 : jb_op 102 59 = some (.dup2, 99, 0, 0) := by decide +kernel
theorem jo_102_60 : jb_op 102 60 = some (.iaload, 99, 0, 0) := by decide +kernel
theorem jo_102_61 : jb_op 102 61 = some (.iconst 1, 99, 0, 0) := by decide +kernel
theorem jo_102_62 : jb_op 102 62 = some (.isub, 99, 0, 0) := by decide +kernel
theorem jo_102_63 : jb_op 102 63 = some (.iastore, 99, 0, 0) := by decide +kernel
theorem jo_102_64 : jb_op 102 64 = some (.aload_n 0, 99, 0, 0) := by decide +kernel
theorem jo_102_65 : jb_op 102 65 = some (.getfield 9, 0, 11, 0) := by decide +kernel
theorem jo_102_68 : jb_op 102 68 = some (.iconst 0, 99, 0, 0) := by decide +kernel
theorem jo_102_69 : jb_op 102 69 = some (.iaload, 99, 0, 0) := by decide +kernel
theorem jo_102_70 : jb_op 102 70 = some (.ireturn, 99, 0, 0) := by decide +kernel
theorem jr_102 : jb_ret 102 = (some .int) := by decide +kernel
theorem jo_102_41 : jb_op 102 41 = some (.aload_n 0, 99, 0, 0) := by decide +kernel
theorem jo_102_42 : jb_op 102 42 = some (.getfield 9, 0, 11, 0) := by decide +kernel
theorem jo_102_45 : jb_op 102 45 = some (.iload_n 2, 99, 0, 0) := by decide +kernel
theorem jo_102_46 : jb_op 102 46 = some (.iconst 0, 99, 0, 0) := by decide +kernel
theorem jo_102_47 : jb_op 102 47 = some (.iastore, 99, 0, 0) := by decide +kernel
theorem jo_102_48 : jb_op 102 48 = some (.iinc 2 1, 99, 0, 0) := by decide +kernel
theorem jo_102_51 : jb_op 102 51 = some (.goto (-16), 99, 0, 0) := by decide +kernel
theorem jl_102 : jb_ml 102 = 3 := by decide +kernel
theorem jo_103_0 : jb_op 103 0 = some (.iload_n 0, 99, 0, 0) := by decide +kernel
theorem jo_103_1 : jb_op 103 1 = some (.iconst 0, 99, 0, 0) := by decide +kernel
theorem jo_103_2 : jb_op 103 2 = some (.bipush 9, 99, 0, 0) := by decide +kernel
theorem jo_103_4 : jb_op 103 4 = some (.invokestatic 85, 4, 31, 3) := by decide +kernel
theorem jh_31_103 : jb_ht 31 < jb_ht 103 := by decide +kernel
theorem jo_103_7 : jb_op 103 7 = some (.ireturn, 99, 0, 0) := by decide +kernel
theorem jr_103 : jb_ret 103 = (some .boolean) := by decide +kernel
theorem jl_103 : jb_ml 103 = 1 := by decide +kernel
theorem jo_104_0 : jb_op 104 0 = some (.aload_n 0, 99, 0, 0) := by decide +kernel
theorem jo_104_1 : jb_op 104 1 = some (.aload_n 0, 99, 0, 0) := by decide +kernel
theorem jo_104_2 : jb_op 104 2 = some (.getfield 9, 0, 11, 0) := by decide +kernel
theorem jo_104_5 : jb_op 104 5 = some (.iconst 1, 99, 0, 0) := by decide +kernel
theorem jo_104_6 : jb_op 104 6 = some (.iaload, 99, 0, 0) := by decide +kernel
theorem jo_104_7 : jb_op 104 7 = some (.bipush 6, 99, 0, 0) := by decide +kernel
theorem jo_104_9 : jb_op 104 9 = some (.if_icmp .ne (7), 99, 0, 0) := by decide +kernel
theorem jo_104_12 : jb_op 104 12 = some (.iconst 1, 99, 0, 0) := by decide +kernel
theorem jo_104_13 : jb_op 104 13 = some (.goto 4, 99, 0, 0) := by decide +kernel
theorem jo_104_17 : jb_op 104 17 = some (.iconst 1, 99, 0, 0) := by decide +kernel
theorem jo_104_18 : jb_op 104 18 = some (.bipush 6, 99, 0, 0) := by decide +kernel
theorem jo_104_20 : jb_op 104 20 = some (.invokevirtual 93, 2, 34, 3) := by decide +kernel
theorem jh_34_104 : jb_ht 34 < jb_ht 104 := by decide +kernel
theorem jo_104_16 : jb_op 104 16 = some (.iconst 0, 99, 0, 0) := by decide +kernel
theorem jo_104_23 : jb_op 104 23 = some (.aload_n 0, 99, 0, 0) := by decide +kernel
theorem jo_104_24 : jb_op 104 24 = some (.getfield 53, 0, 11, 17) := by decide +kernel
theorem jo_104_27 : jb_op 104 27 = some (.ifCond .eq (5), 99, 0, 0) := by decide +kernel
theorem jo_104_32 : jb_op 104 32 = some (.aload_n 0, 99, 0, 0) := by decide +kernel
theorem jo_104_33 : jb_op 104 33 = some (.getfield 9, 0, 11, 0) := by decide +kernel
theorem jo_104_36 : jb_op 104 36 = some (.aload_n 0, 99, 0, 0) := by decide +kernel
theorem jo_104_37 : jb_op 104 37 = some (.getfield 9, 0, 11, 0) := by decide +kernel
theorem jo_104_40 : jb_op 104 40 = some (.iconst 1, 99, 0, 0) := by decide +kernel
theorem jo_104_41 : jb_op 104 41 = some (.iaload, 99, 0, 0) := by decide +kernel
theorem jo_104_42 : jb_op 104 42 = some (.invokestatic 156, 4, 37, 1) := by decide +kernel
theorem jh_37_104 : jb_ht 37 < jb_ht 104 := by decide +kernel
theorem jo_104_30 : jb_op 104 30 = some (.iconst 0, 99, 0, 0) := by decide +kernel
theorem jo_104_31 : jb_op 104 31 = some (.ireturn, 99, 0, 0) := by decide +kernel
theorem jr_104 : jb_ret 104 = (some .int) := by decide +kernel
theorem jo_104_45 : jb_op 104 45 = some (.iconst 0, 99, 0, 0) := by decide +kernel
theorem jo_104_46 : jb_op 104 46 = some (.iadd, 99, 0, 0) := by decide +kernel
theorem jo_104_47 : jb_op 104 47 = some (.iload_n 1, 99, 0, 0) := by decide +kernel
theorem jo_104_48 : jb_op 104 48 = some (.iastore, 99, 0, 0) := by decide +kernel
theorem jo_104_49 : jb_op 104 49 = some (.aload_n 0, 99, 0, 0) := by decide +kernel
theorem jo_104_50 : jb_op 104 50 = some (.getfield 9, 0, 11, 0) := by decide +kernel
theorem jo_104_53 : jb_op 104 53 = some (.aload_n 0, 99, 0, 0) := by decide +kernel
theorem jo_104_54 : jb_op 104 54 = some (.getfield 9, 0, 11, 0) := by decide +kernel
theorem jo_104_57 : jb_op 104 57 = some (.iconst 1, 99, 0, 0) := by decide +kernel
theorem jo_104_58 : jb_op 104 58 = some (.iaload, 99, 0, 0) := by decide +kernel
theorem jo_104_59 : jb_op 104 59 = some (.invokestatic 156, 4, 37, 1) := by decide +kernel
theorem jo_104_62 : jb_op 104 62 = some (.iconst 1, 99, 0, 0) := by decide +kernel
theorem jo_104_63 : jb_op 104 63 = some (.iadd, 99, 0, 0) := by decide +kernel
theorem jo_104_64 : jb_op 104 64 = some (.iload_n 2, 99, 0, 0) := by decide +kernel
theorem jo_104_65 : jb_op 104 65 = some (.iastore, 99, 0, 0) := by decide +kernel
theorem jo_104_66 : jb_op 104 66 = some (.aload_n 0, 99, 0, 0) := by decide +kernel
theorem jo_104_67 : jb_op 104 67 = some (.getfield 9, 0, 11, 0) := by decide +kernel
theorem jo_104_70 : jb_op 104 70 = some (.iconst 1, 99, 0, 0) := by decide +kernel
theorem jo_104_71 : jb_op 104 71 = some (.dup2, 99, 0, 0) := by decide +kernel
theorem jo_104_72 : jb_op 104 72 = some (.iaload, 99, 0, 0) := by decide +kernel
theorem jo_104_73 : jb_op 104 73 = some (.iconst 1, 99, 0, 0) := by decide +kernel
theorem jo_104_74 : jb_op 104 74 = some (.iadd, 99, 0, 0) := by decide +kernel
theorem jo_104_75 : jb_op 104 75 = some (.iastore, 99, 0, 0) := by decide +kernel
theorem jo_104_76 : jb_op 104 76 = some (.aload_n 0, 99, 0, 0) := by decide +kernel
theorem jo_104_77 : jb_op 104 77 = some (.getfield 9, 0, 11, 0) := by decide +kernel
theorem jo_104_80 : jb_op 104 80 = some (.iconst 1, 99, 0, 0) := by decide +kernel
theorem jo_104_81 : jb_op 104 81 = some (.iaload, 99, 0, 0) := by decide +kernel
theorem jo_104_82 : jb_op 104 82 = some (.iconst 1, 99, 0, 0) := by decide +kernel
theorem jo_104_83 : jb_op 104 83 = some (.isub, 99, 0, 0) := by decide +kernel
theorem jo_104_84 : jb_op 104 84 = some (.ireturn, 99, 0, 0) := by decide +kernel
theorem jl_104 : jb_ml 104 = 3 := by decide +kernel
theorem jo_105_0 : jb_op 105 0 = some (.iload_n 1, 99, 0, 0) := by decide +kernel
theorem jo_105_1 : jb_op 105 1 = some (.iconst 0, 99, 0, 0) := by decide +kernel
theorem jo_105_2 : jb_op 105 2 = some (.aload_n 0, 99, 0, 0) := by decide +kernel
theorem jo_105_3 : jb_op 105 3 = some (.getfield 9, 0, 11, 0) := by decide +kernel
theorem jo_105_6 : jb_op 105 6 = some (.iconst 1, 99, 0, 0) := by decide +kernel
theorem jo_105_7 : jb_op 105 7 = some (.iaload, 99, 0, 0) := by decide +kernel
theorem jo_105_8 : jb_op 105 8 = some (.iconst 1, 99, 0, 0) := by decide +kernel
theorem jo_105_9 : jb_op 105 9 = some (.isub, 99, 0, 0) := by decide +kernel
theorem jo_105_10 : jb_op 105 10 = some (.invokestatic 85, 4, 31, 3) := by decide +kernel
theorem jh_31_105 : jb_ht 31 < jb_ht 105 := by decide +kernel
theorem jo_105_13 : jb_op 105 13 = some (.ireturn, 99, 0, 0) := by decide +kernel
theorem jr_105 : jb_ret 105 = (some .boolean) := by decide +kernel
theorem jl_105 : jb_ml 105 = 2 := by decide +kernel
theorem jo_106_0 : jb_op 106 0 = some (.iload_n 1, 99, 0, 0) := by decide +kernel
theorem jo_106_1 : jb_op 106 1 = some (.invokestatic 156, 4, 37, 1) := by decide +kernel
theorem jh_37_106 : jb_ht 37 < jb_ht 106 := by decide +kernel
theorem jo_106_4 : jb_op 106 4 = some (.istore_n 2, 99, 0, 0) := by decide +kernel
theorem jo_106_5 : jb_op 106 5 = some (.iload_n 2, 99, 0, 0) := by decide +kernel
theorem jo_106_6 : jb_op 106 6 = some (.bipush 79, 99, 0, 0) := by decide +kernel
theorem jo_106_8 : jb_op 106 8 = some (.if_icmp .ge (23), 99, 0, 0) := by decide +kernel
theorem jo_106_31 : jb_op 106 31 = some (.aload_n 0, 99, 0, 0) := by decide +kernel
theorem jo_106_32 : jb_op 106 32 = some (.getfield 9, 0, 11, 0) := by decide +kernel
theorem jo_106_35 : jb_op 106 35 = some (.bipush 79, 99, 0, 0) := by decide +kernel
theorem jo_106_37 : jb_op 106 37 = some (.iconst 0, 99, 0, 0) := by decide +kernel
theorem jo_106_38 : jb_op 106 38 = some (.iastore, 99, 0, 0) := by decide +kernel
theorem jo_106_39 : jb_op 106 39 = some (.aload_n 0, 99, 0, 0) := by decide +kernel
theorem jo_106_40 : jb_op 106 40 = some (.getfield 9, 0, 11, 0) := by decide +kernel
theorem jo_106_43 : jb_op 106 43 = some (.bipush 80, 99, 0, 0) := by decide +kernel
theorem jo_106_45 : jb_op 106 45 = some (.iconst 0, 99, 0, 0) := by decide +kernel
theorem jo_106_46 : jb_op 106 46 = some (.iastore, 99, 0, 0) := by decide +kernel
theorem jo_106_47 : jb_op 106 47 = some (.aload_n 0, 99, 0, 0) := by decide +kernel
theorem jo_106_48 : jb_op 106 48 = some (.getfield 9, 0, 11, 0) := by decide +kernel
theorem jo_106_51 : jb_op 106 51 = some (.iconst 1, 99, 0, 0) := by decide +kernel
theorem jo_106_52 : jb_op 106 52 = some (.dup2, 99, 0, 0) := by decide +kernel
theorem jo_106_53 : jb_op 106 53 = some (.iaload, 99, 0, 0) := by decide +kernel
theorem jo_106_54 : jb_op 106 54 = some (.iconst 1, 99, 0, 0) := by decide +kernel
theorem jo_106_55 : jb_op 106 55 = some (.isub, 99, 0, 0) := by decide +kernel
theorem jo_106_56 : jb_op 106 56 = some (.iastore, 99, 0, 0) := by decide +kernel
theorem jo_106_57 : jb_op 106 57 = some (.aload_n 0, 99, 0, 0) := by decide +kernel
theorem jo_106_58 : jb_op 106 58 = some (.getfield 9, 0, 11, 0) := by decide +kernel
theorem jo_106_61 : jb_op 106 61 = some (.iconst 1, 99, 0, 0) := by decide +kernel
theorem jo_106_62 : jb_op 106 62 = some (.iaload, 99, 0, 0) := by decide +kernel
theorem jo_106_63 : jb_op 106 63 = some (.ireturn, 99, 0, 0) := by decide +kernel
theorem jr_106 : jb_ret 106 = (some .int) := by decide +kernel
theorem jo_106_11 : jb_op 106 11 = some (.aload_n 0, 99, 0, 0) := by decide +kernel
theorem jo_106_12 : jb_op 106 12 = some (.getfield 9, 0, 11, 0) := by decide +kernel
theorem jo_106_15 : jb_op 106 15 = some (.iload_n 2, 99, 0, 0) := by decide +kernel
theorem jo_106_16 : jb_op 106 16 = some (.aload_n 0, 99, 0, 0) := by decide +kernel
theorem jo_106_17 : jb_op 106 17 = some (.getfield 9, 0, 11, 0) := by decide +kernel
theorem jo_106_20 : jb_op 106 20 = some (.iload_n 2, 99, 0, 0) := by decide +kernel
theorem jo_106_21 : jb_op 106 21 = some (.iconst 2, 99, 0, 0) := by decide +kernel
theorem jo_106_22 : jb_op 106 22 = some (.iadd, 99, 0, 0) := by decide +kernel
theorem jo_106_23 : jb_op 106 23 = some (.iaload, 99, 0, 0) := by decide +kernel
theorem jo_106_24 : jb_op 106 24 = some (.iastore, 99, 0, 0) := by decide +kernel
theorem jo_106_25 : jb_op 106 25 = some (.iinc 2 1, 99, 0, 0) := by decide +kernel
theorem jo_106_28 : jb_op 106 28 = some (.goto (-23), 99, 0, 0) := by decide +kernel
theorem jl_106 : jb_ml 106 = 3 := by decide +kernel
theorem jo_107_0 : jb_op 107 0 = some (.aload_n 0, 99, 0, 0) := by decide +kernel
theorem jo_107_1 : jb_op 107 1 = some (.aload_n 0, 99, 0, 0) := by decide +kernel
theorem jo_107_2 : jb_op 107 2 = some (.getfield 124, 0, 11, 20) := by decide +kernel
theorem jo_107_5 : jb_op 107 5 = some (.iconst 1, 99, 0, 0) := by decide +kernel
theorem jo_107_6 : jb_op 107 6 = some (.bipush 12, 99, 0, 0) := by decide +kernel
theorem jo_107_8 : jb_op 107 8 = some (.invokestatic 85, 4, 31, 3) := by decide +kernel
theorem jh_31_107 : jb_ht 31 < jb_ht 107 := by decide +kernel
theorem jo_107_11 : jb_op 107 11 = some (.ifCond .ne (7), 99, 0, 0) := by decide +kernel
theorem jo_107_14 : jb_op 107 14 = some (.iconst 1, 99, 0, 0) := by decide +kernel
theorem jo_107_15 : jb_op 107 15 = some (.goto 4, 99, 0, 0) := by decide +kernel
theorem jo_107_19 : jb_op 107 19 = some (.iconst 4, 99, 0, 0) := by decide +kernel
theorem jo_107_20 : jb_op 107 20 = some (.aload_n 0, 99, 0, 0) := by decide +kernel
theorem jo_107_21 : jb_op 107 21 = some (.getfield 124, 0, 11, 20) := by decide +kernel
theorem jo_107_24 : jb_op 107 24 = some (.invokevirtual 93, 2, 34, 3) := by decide +kernel
theorem jh_34_107 : jb_ht 34 < jb_ht 107 := by decide +kernel
theorem jo_107_18 : jb_op 107 18 = some (.iconst 0, 99, 0, 0) := by decide +kernel
theorem jo_107_27 : jb_op 107 27 = some (.iconst 0, 99, 0, 0) := by decide +kernel
theorem jo_107_28 : jb_op 107 28 = some (.istore_n 1, 99, 0, 0) := by decide +kernel
theorem jo_107_29 : jb_op 107 29 = some (.iconst 0, 99, 0, 0) := by decide +kernel
theorem jo_107_30 : jb_op 107 30 = some (.istore_n 2, 99, 0, 0) := by decide +kernel
theorem jo_107_31 : jb_op 107 31 = some (.iload_n 2, 99, 0, 0) := by decide +kernel
theorem jo_107_32 : jb_op 107 32 = some (.aload_n 0, 99, 0, 0) := by decide +kernel
theorem jo_107_33 : jb_op 107 33 = some (.getfield 124, 0, 11, 20) := by decide +kernel
theorem jo_107_36 : jb_op 107 36 = some (.if_icmp .ge (170), 99, 0, 0) := by decide +kernel
theorem jo_107_206 : jb_op 107 206 = some (.aload_n 0, 99, 0, 0) := by decide +kernel
theorem jo_107_207 : jb_op 107 207 = some (.iload_n 1, 99, 0, 0) := by decide +kernel
theorem jo_107_208 : jb_op 107 208 = some (.ifCond .ne (7), 99, 0, 0) := by decide +kernel
theorem jo_107_211 : jb_op 107 211 = some (.iconst 1, 99, 0, 0) := by decide +kernel
theorem jo_107_212 : jb_op 107 212 = some (.goto 4, 99, 0, 0) := by decide +kernel
theorem jo_107_216 : jb_op 107 216 = some (.bipush 6, 99, 0, 0) := by decide +kernel
theorem jo_107_218 : jb_op 107 218 = some (.aload_n 0, 99, 0, 0) := by decide +kernel
theorem jo_107_219 : jb_op 107 219 = some (.getfield 124, 0, 11, 20) := by decide +kernel
theorem jo_107_222 : jb_op 107 222 = some (.invokevirtual 93, 2, 34, 3) := by decide +kernel
theorem jo_107_215 : jb_op 107 215 = some (.iconst 0, 99, 0, 0) := by decide +kernel
theorem jo_107_39 : jb_op 107 39 = some (.aload_n 0, 99, 0, 0) := by decide +kernel
theorem jo_107_40 : jb_op 107 40 = some (.getfield 53, 0, 11, 17) := by decide +kernel
theorem jo_107_43 : jb_op 107 43 = some (.ifCond .ne (163), 99, 0, 0) := by decide +kernel
theorem jo_107_46 : jb_op 107 46 = some (.aload_n 0, 99, 0, 0) := by decide +kernel
theorem jo_107_47 : jb_op 107 47 = some (.getfield 35, 0, 11, 19) := by decide +kernel
theorem jo_107_50 : jb_op 107 50 = some (.iload_n 2, 99, 0, 0) := by decide +kernel
theorem jo_107_51 : jb_op 107 51 = some (.iaload, 99, 0, 0) := by decide +kernel
theorem jo_107_52 : jb_op 107 52 = some (.iconst 5, 99, 0, 0) := by decide +kernel
theorem jo_107_53 : jb_op 107 53 = some (.if_icmp .eq (147), 99, 0, 0) := by decide +kernel
theorem jo_107_200 : jb_op 107 200 = some (.iinc 2 1, 99, 0, 0) := by decide +kernel
theorem jo_107_203 : jb_op 107 203 = some (.goto (-172), 99, 0, 0) := by decide +kernel
theorem jo_107_56 : jb_op 107 56 = some (.aload_n 0, 99, 0, 0) := by decide +kernel
theorem jo_107_57 : jb_op 107 57 = some (.getfield 35, 0, 11, 19) := by decide +kernel
theorem jo_107_60 : jb_op 107 60 = some (.iload_n 2, 99, 0, 0) := by decide +kernel
theorem jo_107_61 : jb_op 107 61 = some (.iaload, 99, 0, 0) := by decide +kernel
theorem jo_107_62 : jb_op 107 62 = some (.invokestatic 107, 4, 33, 1) := by decide +kernel
theorem jh_33_107 : jb_ht 33 < jb_ht 107 := by decide +kernel
theorem jo_107_65 : jb_op 107 65 = some (.istore_n 3, 99, 0, 0) := by decide +kernel
theorem jo_107_66 : jb_op 107 66 = some (.aload_n 0, 99, 0, 0) := by decide +kernel
theorem jo_107_67 : jb_op 107 67 = some (.getfield 9, 0, 11, 0) := by decide +kernel
theorem jo_107_70 : jb_op 107 70 = some (.iload_n 3, 99, 0, 0) := by decide +kernel
theorem jo_107_71 : jb_op 107 71 = some (.iconst 1, 99, 0, 0) := by decide +kernel
theorem jo_107_72 : jb_op 107 72 = some (.iadd, 99, 0, 0) := by decide +kernel
theorem jo_107_73 : jb_op 107 73 = some (.iaload, 99, 0, 0) := by decide +kernel
theorem jo_107_74 : jb_op 107 74 = some (.bipush 9, 99, 0, 0) := by decide +kernel
theorem jo_107_76 : jb_op 107 76 = some (.if_icmp .ge (7), 99, 0, 0) := by decide +kernel
theorem jo_107_83 : jb_op 107 83 = some (.iconst 0, 99, 0, 0) := by decide +kernel
theorem jo_107_84 : jb_op 107 84 = some (.istore 4, 99, 0, 0) := by decide +kernel
theorem jo_107_86 : jb_op 107 86 = some (.aload_n 0, 99, 0, 0) := by decide +kernel
theorem jo_107_87 : jb_op 107 87 = some (.getfield 9, 0, 11, 0) := by decide +kernel
theorem jo_107_90 : jb_op 107 90 = some (.iload_n 3, 99, 0, 0) := by decide +kernel
theorem jo_107_91 : jb_op 107 91 = some (.iconst 1, 99, 0, 0) := by decide +kernel
theorem jo_107_92 : jb_op 107 92 = some (.iadd, 99, 0, 0) := by decide +kernel
theorem jo_107_93 : jb_op 107 93 = some (.dup2, 99, 0, 0) := by decide +kernel
theorem jo_107_94 : jb_op 107 94 = some (.iaload, 99, 0, 0) := by decide +kernel
theorem jo_107_95 : jb_op 107 95 = some (.iload 4, 99, 0, 0) := by decide +kernel
theorem jo_107_97 : jb_op 107 97 = some (.ifCond .eq (7), 99, 0, 0) := by decide +kernel
theorem jo_107_104 : jb_op 107 104 = some (.iconst 0, 99, 0, 0) := by decide +kernel
theorem jo_107_105 : jb_op 107 105 = some (.iadd, 99, 0, 0) := by decide +kernel
theorem jo_107_106 : jb_op 107 106 = some (.iastore, 99, 0, 0) := by decide +kernel
theorem jo_107_107 : jb_op 107 107 = some (.aload_n 0, 99, 0, 0) := by decide +kernel
theorem jo_107_108 : jb_op 107 108 = some (.getfield 9, 0, 11, 0) := by decide +kernel
theorem jo_107_111 : jb_op 107 111 = some (.iload_n 3, 99, 0, 0) := by decide +kernel
theorem jo_107_112 : jb_op 107 112 = some (.iconst 2, 99, 0, 0) := by decide +kernel
theorem jo_107_113 : jb_op 107 113 = some (.iadd, 99, 0, 0) := by decide +kernel
theorem jo_107_114 : jb_op 107 114 = some (.dup2, 99, 0, 0) := by decide +kernel
theorem jo_107_115 : jb_op 107 115 = some (.iaload, 99, 0, 0) := by decide +kernel
theorem jo_107_116 : jb_op 107 116 = some (.iload 4, 99, 0, 0) := by decide +kernel
theorem jo_107_118 : jb_op 107 118 = some (.ifCond .eq (7), 99, 0, 0) := by decide +kernel
theorem jo_107_125 : jb_op 107 125 = some (.iconst 0, 99, 0, 0) := by decide +kernel
theorem jo_107_126 : jb_op 107 126 = some (.iadd, 99, 0, 0) := by decide +kernel
theorem jo_107_127 : jb_op 107 127 = some (.iastore, 99, 0, 0) := by decide +kernel
theorem jo_107_128 : jb_op 107 128 = some (.aload_n 0, 99, 0, 0) := by decide +kernel
theorem jo_107_129 : jb_op 107 129 = some (.getfield 9, 0, 11, 0) := by decide +kernel
theorem jo_107_132 : jb_op 107 132 = some (.iconst 4, 99, 0, 0) := by decide +kernel
theorem jo_107_133 : jb_op 107 133 = some (.dup2, 99, 0, 0) := by decide +kernel
theorem jo_107_134 : jb_op 107 134 = some (.iaload, 99, 0, 0) := by decide +kernel
theorem jo_107_135 : jb_op 107 135 = some (.iload 4, 99, 0, 0) := by decide +kernel
theorem jo_107_137 : jb_op 107 137 = some (.ifCond .eq (7), 99, 0, 0) := by decide +kernel
theorem jo_107_144 : jb_op 107 144 = some (.iconst 0, 99, 0, 0) := by decide +kernel
theorem jo_107_145 : jb_op 107 145 = some (.iadd, 99, 0, 0) := by decide +kernel
theorem jo_107_146 : jb_op 107 146 = some (.iastore, 99, 0, 0) := by decide +kernel
theorem jo_107_147 : jb_op 107 147 = some (.aload_n 0, 99, 0, 0) := by decide +kernel
theorem jo_107_148 : jb_op 107 148 = some (.getfield 9, 0, 11, 0) := by decide +kernel
theorem jo_107_151 : jb_op 107 151 = some (.iconst 5, 99, 0, 0) := by decide +kernel
theorem jo_107_152 : jb_op 107 152 = some (.dup2, 99, 0, 0) := by decide +kernel
theorem jo_107_153 : jb_op 107 153 = some (.iaload, 99, 0, 0) := by decide +kernel
theorem jo_107_154 : jb_op 107 154 = some (.iload 4, 99, 0, 0) := by decide +kernel
theorem jo_107_156 : jb_op 107 156 = some (.ifCond .eq (7), 99, 0, 0) := by decide +kernel
theorem jo_107_163 : jb_op 107 163 = some (.iconst 1, 99, 0, 0) := by decide +kernel
theorem jo_107_164 : jb_op 107 164 = some (.iadd, 99, 0, 0) := by decide +kernel
theorem jo_107_165 : jb_op 107 165 = some (.iastore, 99, 0, 0) := by decide +kernel
theorem jo_107_166 : jb_op 107 166 = some (.iload_n 1, 99, 0, 0) := by decide +kernel
theorem jo_107_167 : jb_op 107 167 = some (.iload 4, 99, 0, 0) := by decide +kernel
theorem jo_107_169 : jb_op 107 169 = some (.ifCond .eq (7), 99, 0, 0) := by decide +kernel
theorem jo_107_176 : jb_op 107 176 = some (.iconst 0, 99, 0, 0) := by decide +kernel
theorem jo_107_177 : jb_op 107 177 = some (.iadd, 99, 0, 0) := by decide +kernel
theorem jo_107_178 : jb_op 107 178 = some (.istore_n 1, 99, 0, 0) := by decide +kernel
theorem jo_107_179 : jb_op 107 179 = some (.aload_n 0, 99, 0, 0) := by decide +kernel
theorem jo_107_180 : jb_op 107 180 = some (.getfield 35, 0, 11, 19) := by decide +kernel
theorem jo_107_183 : jb_op 107 183 = some (.iload_n 2, 99, 0, 0) := by decide +kernel
theorem jo_107_184 : jb_op 107 184 = some (.iload 4, 99, 0, 0) := by decide +kernel
theorem jo_107_186 : jb_op 107 186 = some (.ifCond .eq (12), 99, 0, 0) := by decide +kernel
theorem jo_107_198 : jb_op 107 198 = some (.iconst 5, 99, 0, 0) := by decide +kernel
theorem jo_107_199 : jb_op 107 199 = some (.iastore, 99, 0, 0) := by decide +kernel
theorem jo_107_79 : jb_op 107 79 = some (.iconst 1, 99, 0, 0) := by decide +kernel
theorem jo_107_80 : jb_op 107 80 = some (.goto 4, 99, 0, 0) := by decide +kernel
theorem jo_107_100 : jb_op 107 100 = some (.iconst 1, 99, 0, 0) := by decide +kernel
theorem jo_107_101 : jb_op 107 101 = some (.goto 4, 99, 0, 0) := by decide +kernel
theorem jo_107_121 : jb_op 107 121 = some (.iconst 1, 99, 0, 0) := by decide +kernel
theorem jo_107_122 : jb_op 107 122 = some (.goto 4, 99, 0, 0) := by decide +kernel
theorem jo_107_140 : jb_op 107 140 = some (.iconst 1, 99, 0, 0) := by decide +kernel
theorem jo_107_141 : jb_op 107 141 = some (.goto 4, 99, 0, 0) := by decide +kernel
theorem jo_107_159 : jb_op 107 159 = some (.iconst 0, 99, 0, 0) := by decide +kernel
theorem jo_107_160 : jb_op 107 160 = some (.goto 4, 99, 0, 0) := by decide +kernel
theorem jo_107_172 : jb_op 107 172 = some (.iconst 1, 99, 0, 0) := by decide +kernel
theorem jo_107_173 : jb_op 107 173 = some (.goto 4, 99, 0, 0) := by decide +kernel
theorem jo_107_189 : jb_op 107 189 = some (.aload_n 0, 99, 0, 0) := by decide +kernel
theorem jo_107_190 : jb_op 107 190 = some (.getfield 35, 0, 11, 19) := by decide +kernel
theorem jo_107_193 : jb_op 107 193 = some (.iload_n 2, 99, 0, 0) := by decide +kernel
theorem jo_107_194 : jb_op 107 194 = some (.iaload, 99, 0, 0) := by decide +kernel
theorem jo_107_195 : jb_op 107 195 = some (.goto 4, 99, 0, 0) := by decide +kernel
theorem jo_107_225 : jb_op 107 225 = some (.aload_n 0, 99, 0, 0) := by decide +kernel
theorem jo_107_226 : jb_op 107 226 = some (.getfield 53, 0, 11, 17) := by decide +kernel
theorem jo_107_229 : jb_op 107 229 = some (.ifCond .eq (5), 99, 0, 0) := by decide +kernel
theorem jo_107_234 : jb_op 107 234 = some (.aload_n 0, 99, 0, 0) := by decide +kernel
theorem jo_107_235 : jb_op 107 235 = some (.invokevirtual 176, 2, 38, 0) := by decide +kernel
theorem jh_38_107 : jb_ht 38 < jb_ht 107 := by decide +kernel
theorem jw_38 : jb_ow 38 = 11 := by decide +kernel
theorem jo_107_232 : jb_op 107 232 = some (.iconst 0, 99, 0, 0) := by decide +kernel
theorem jo_107_233 : jb_op 107 233 = some (.ireturn, 99, 0, 0) := by decide +kernel
theorem jr_107 : jb_ret 107 = (some .int) := by decide +kernel
theorem jo_107_238 : jb_op 107 238 = some (.iload_n 1, 99, 0, 0) := by decide +kernel
theorem jo_107_239 : jb_op 107 239 = some (.ireturn, 99, 0, 0) := by decide +kernel
theorem jl_107 : jb_ml 107 = 5 := by decide +kernel
theorem jo_108_0 : jb_op 108 0 = some (.iload_n 1, 99, 0, 0) := by decide +kernel
theorem jo_108_1 : jb_op 108 1 = some (.iconst 0, 99, 0, 0) := by decide +kernel
theorem jo_108_2 : jb_op 108 2 = some (.aload_n 0, 99, 0, 0) := by decide +kernel
theorem jo_108_3 : jb_op 108 3 = some (.getfield 9, 0, 11, 0) := by decide +kernel
theorem jo_108_6 : jb_op 108 6 = some (.iconst 2, 99, 0, 0) := by decide +kernel
theorem jo_108_7 : jb_op 108 7 = some (.iaload, 99, 0, 0) := by decide +kernel
theorem jo_108_8 : jb_op 108 8 = some (.iconst 1, 99, 0, 0) := by decide +kernel
theorem jo_108_9 : jb_op 108 9 = some (.isub, 99, 0, 0) := by decide +kernel
theorem jo_108_10 : jb_op 108 10 = some (.invokestatic 85, 4, 31, 3) := by decide +kernel
theorem jh_31_108 : jb_ht 31 < jb_ht 108 := by decide +kernel
theorem jo_108_13 : jb_op 108 13 = some (.ireturn, 99, 0, 0) := by decide +kernel
theorem jr_108 : jb_ret 108 = (some .boolean) := by decide +kernel
theorem jl_108 : jb_ml 108 = 2 := by decide +kernel
theorem jo_109_0 : jb_op 109 0 = some (.aload_n 0, 99, 0, 0) := by decide +kernel
theorem jo_109_1 : jb_op 109 1 = some (.aload_n 0, 99, 0, 0) := by decide +kernel
theorem jo_109_2 : jb_op 109 2 = some (.getfield 9, 0, 11, 0) := by decide +kernel
theorem jo_109_5 : jb_op 109 5 = some (.iload_n 1, 99, 0, 0) := by decide +kernel
theorem jo_109_6 : jb_op 109 6 = some (.invokestatic 127, 4, 39, 1) := by decide +kernel
theorem jh_39_109 : jb_ht 39 < jb_ht 109 := by decide +kernel
theorem jo_109_9 : jb_op 109 9 = some (.iconst 0, 99, 0, 0) := by decide +kernel
theorem jo_109_10 : jb_op 109 10 = some (.iadd, 99, 0, 0) := by decide +kernel
theorem jo_109_11 : jb_op 109 11 = some (.iaload, 99, 0, 0) := by decide +kernel
theorem jo_109_12 : jb_op 109 12 = some (.putfield 124, 0, 11, 20) := by decide +kernel
theorem jo_109_15 : jb_op 109 15 = some (.iconst 0, 99, 0, 0) := by decide +kernel
theorem jo_109_16 : jb_op 109 16 = some (.istore_n 2, 99, 0, 0) := by decide +kernel
theorem jo_109_17 : jb_op 109 17 = some (.iload_n 2, 99, 0, 0) := by decide +kernel
theorem jo_109_18 : jb_op 109 18 = some (.aload_n 0, 99, 0, 0) := by decide +kernel
theorem jo_109_19 : jb_op 109 19 = some (.getfield 124, 0, 11, 20) := by decide +kernel
theorem jo_109_22 : jb_op 109 22 = some (.if_icmp .ge (28), 99, 0, 0) := by decide +kernel
theorem jo_109_50 : jb_op 109 50 = some (.return_, 99, 0, 0) := by decide +kernel
theorem jr_109 : jb_ret 109 = none := by decide +kernel
theorem jo_109_25 : jb_op 109 25 = some (.aload_n 0, 99, 0, 0) := by decide +kernel
theorem jo_109_26 : jb_op 109 26 = some (.getfield 35, 0, 11, 19) := by decide +kernel
theorem jo_109_29 : jb_op 109 29 = some (.iload_n 2, 99, 0, 0) := by decide +kernel
theorem jo_109_30 : jb_op 109 30 = some (.aload_n 0, 99, 0, 0) := by decide +kernel
theorem jo_109_31 : jb_op 109 31 = some (.getfield 9, 0, 11, 0) := by decide +kernel
theorem jo_109_34 : jb_op 109 34 = some (.iload_n 1, 99, 0, 0) := by decide +kernel
theorem jo_109_35 : jb_op 109 35 = some (.invokestatic 127, 4, 39, 1) := by decide +kernel
theorem jo_109_38 : jb_op 109 38 = some (.iconst 1, 99, 0, 0) := by decide +kernel
theorem jo_109_39 : jb_op 109 39 = some (.iadd, 99, 0, 0) := by decide +kernel
theorem jo_109_40 : jb_op 109 40 = some (.iload_n 2, 99, 0, 0) := by decide +kernel
theorem jo_109_41 : jb_op 109 41 = some (.iadd, 99, 0, 0) := by decide +kernel
theorem jo_109_42 : jb_op 109 42 = some (.iaload, 99, 0, 0) := by decide +kernel
theorem jo_109_43 : jb_op 109 43 = some (.iastore, 99, 0, 0) := by decide +kernel
theorem jo_109_44 : jb_op 109 44 = some (.iinc 2 1, 99, 0, 0) := by decide +kernel
theorem jo_109_47 : jb_op 109 47 = some (.goto (-30), 99, 0, 0) := by decide +kernel
theorem jl_109 : jb_ml 109 = 3 := by decide +kernel
theorem jo_110_0 : jb_op 110 0 = some (.iload_n 3, 99, 0, 0) := by decide +kernel
theorem jo_110_1 : jb_op 110 1 = some (.iconst 5, 99, 0, 0) := by decide +kernel
theorem jo_110_2 : jb_op 110 2 = some (.if_icmp .eq (27), 99, 0, 0) := by decide +kernel
theorem jo_110_29 : jb_op 110 29 = some (.iconst 0, 99, 0, 0) := by decide +kernel
theorem jo_110_30 : jb_op 110 30 = some (.ireturn, 99, 0, 0) := by decide +kernel
theorem jr_110 : jb_ret 110 = (some .boolean) := by decide +kernel
theorem jo_110_5 : jb_op 110 5 = some (.iload_n 1, 99, 0, 0) := by decide +kernel
theorem jo_110_6 : jb_op 110 6 = some (.aload_n 0, 99, 0, 0) := by decide +kernel
theorem jo_110_7 : jb_op 110 7 = some (.getfield 9, 0, 11, 0) := by decide +kernel
theorem jo_110_10 : jb_op 110 10 = some (.iload_n 3, 99, 0, 0) := by decide +kernel
theorem jo_110_11 : jb_op 110 11 = some (.invokestatic 107, 4, 33, 1) := by decide +kernel
theorem jh_33_110 : jb_ht 33 < jb_ht 110 := by decide +kernel
theorem jo_110_14 : jb_op 110 14 = some (.iconst 0, 99, 0, 0) := by decide +kernel
theorem jo_110_15 : jb_op 110 15 = some (.iadd, 99, 0, 0) := by decide +kernel
theorem jo_110_16 : jb_op 110 16 = some (.iaload, 99, 0, 0) := by decide +kernel
theorem jo_110_17 : jb_op 110 17 = some (.isub, 99, 0, 0) := by decide +kernel
theorem jo_110_18 : jb_op 110 18 = some (.invokestatic 205, 15, 2, 0) := by decide +kernel
theorem jo_110_21 : jb_op 110 21 = some (.iload_n 2, 99, 0, 0) := by decide +kernel
theorem jo_110_22 : jb_op 110 22 = some (.if_icmp .gt (7), 99, 0, 0) := by decide +kernel
theorem jo_110_25 : jb_op 110 25 = some (.iconst 1, 99, 0, 0) := by decide +kernel
theorem jo_110_26 : jb_op 110 26 = some (.goto 4, 99, 0, 0) := by decide +kernel
theorem jl_110 : jb_ml 110 = 4 := by decide +kernel
theorem jo_111_0 : jb_op 111 0 = some (.iconst 0, 99, 0, 0) := by decide +kernel
theorem jo_111_1 : jb_op 111 1 = some (.istore_n 3, 99, 0, 0) := by decide +kernel
theorem jo_111_2 : jb_op 111 2 = some (.iconst 0, 99, 0, 0) := by decide +kernel
theorem jo_111_3 : jb_op 111 3 = some (.istore 4, 99, 0, 0) := by decide +kernel
theorem jo_111_5 : jb_op 111 5 = some (.iload 4, 99, 0, 0) := by decide +kernel
theorem jo_111_7 : jb_op 111 7 = some (.aload_n 0, 99, 0, 0) := by decide +kernel
theorem jo_111_8 : jb_op 111 8 = some (.getfield 9, 0, 11, 0) := by decide +kernel
theorem jo_111_11 : jb_op 111 11 = some (.iload_n 1, 99, 0, 0) := by decide +kernel
theorem jo_111_12 : jb_op 111 12 = some (.invokestatic 130, 4, 36, 1) := by decide +kernel
theorem jh_36_111 : jb_ht 36 < jb_ht 111 := by decide +kernel
theorem jo_111_15 : jb_op 111 15 = some (.iconst 1, 99, 0, 0) := by decide +kernel
theorem jo_111_16 : jb_op 111 16 = some (.iadd, 99, 0, 0) := by decide +kernel
theorem jo_111_17 : jb_op 111 17 = some (.iaload, 99, 0, 0) := by decide +kernel
theorem jo_111_18 : jb_op 111 18 = some (.if_icmp .ge (35), 99, 0, 0) := by decide +kernel
theorem jo_111_53 : jb_op 111 53 = some (.iload_n 3, 99, 0, 0) := by decide +kernel
theorem jo_111_54 : jb_op 111 54 = some (.ireturn, 99, 0, 0) := by decide +kernel
theorem jr_111 : jb_ret 111 = (some .int) := by decide +kernel
theorem jo_111_21 : jb_op 111 21 = some (.iload_n 3, 99, 0, 0) := by decide +kernel
theorem jo_111_22 : jb_op 111 22 = some (.aload_n 0, 99, 0, 0) := by decide +kernel
theorem jo_111_23 : jb_op 111 23 = some (.getfield 9, 0, 11, 0) := by decide +kernel
theorem jo_111_26 : jb_op 111 26 = some (.iload_n 1, 99, 0, 0) := by decide +kernel
theorem jo_111_27 : jb_op 111 27 = some (.invokestatic 130, 4, 36, 1) := by decide +kernel
theorem jo_111_30 : jb_op 111 30 = some (.iconst 2, 99, 0, 0) := by decide +kernel
theorem jo_111_31 : jb_op 111 31 = some (.iadd, 99, 0, 0) := by decide +kernel
theorem jo_111_32 : jb_op 111 32 = some (.iload 4, 99, 0, 0) := by decide +kernel
theorem jo_111_34 : jb_op 111 34 = some (.iadd, 99, 0, 0) := by decide +kernel
theorem jo_111_35 : jb_op 111 35 = some (.iaload, 99, 0, 0) := by decide +kernel
theorem jo_111_36 : jb_op 111 36 = some (.iload_n 2, 99, 0, 0) := by decide +kernel
theorem jo_111_37 : jb_op 111 37 = some (.if_icmp .ne (7), 99, 0, 0) := by decide +kernel
theorem jo_111_40 : jb_op 111 40 = some (.iconst 1, 99, 0, 0) := by decide +kernel
theorem jo_111_41 : jb_op 111 41 = some (.goto 4, 99, 0, 0) := by decide +kernel
theorem jo_111_45 : jb_op 111 45 = some (.iadd, 99, 0, 0) := by decide +kernel
theorem jo_111_46 : jb_op 111 46 = some (.istore_n 3, 99, 0, 0) := by decide +kernel
theorem jo_111_47 : jb_op 111 47 = some (.iinc 4 1, 99, 0, 0) := by decide +kernel
theorem jo_111_50 : jb_op 111 50 = some (.goto (-45), 99, 0, 0) := by decide +kernel
theorem jo_111_44 : jb_op 111 44 = some (.iconst 0, 99, 0, 0) := by decide +kernel
theorem jl_111 : jb_ml 111 = 5 := by decide +kernel
theorem jo_112_0 : jb_op 112 0 = some (.iconst (-1), 99, 0, 0) := by decide +kernel
theorem jo_112_1 : jb_op 112 1 = some (.istore_n 2, 99, 0, 0) := by decide +kernel
theorem jo_112_2 : jb_op 112 2 = some (.iconst 0, 99, 0, 0) := by decide +kernel
theorem jo_112_3 : jb_op 112 3 = some (.istore_n 3, 99, 0, 0) := by decide +kernel
theorem jo_112_4 : jb_op 112 4 = some (.iload_n 3, 99, 0, 0) := by decide +kernel
theorem jo_112_5 : jb_op 112 5 = some (.iconst 5, 99, 0, 0) := by decide +kernel
theorem jo_112_6 : jb_op 112 6 = some (.if_icmp .ge (127), 99, 0, 0) := by decide +kernel
theorem jo_112_133 : jb_op 112 133 = some (.iload_n 2, 99, 0, 0) := by decide +kernel
theorem jo_112_134 : jb_op 112 134 = some (.ireturn, 99, 0, 0) := by decide +kernel
theorem jr_112 : jb_ret 112 = (some .int) := by decide +kernel
theorem jo_112_9 : jb_op 112 9 = some (.iconst 0, 99, 0, 0) := by decide +kernel
theorem jo_112_10 : jb_op 112 10 = some (.istore 4, 99, 0, 0) := by decide +kernel
theorem jo_112_12 : jb_op 112 12 = some (.iconst 0, 99, 0, 0) := by decide +kernel
theorem jo_112_13 : jb_op 112 13 = some (.istore 5, 99, 0, 0) := by decide +kernel
theorem jo_112_15 : jb_op 112 15 = some (.iload 5, 99, 0, 0) := by decide +kernel
theorem jo_112_17 : jb_op 112 17 = some (.iconst 5, 99, 0, 0) := by decide +kernel
theorem jo_112_18 : jb_op 112 18 = some (.if_icmp .ge (97), 99, 0, 0) := by decide +kernel
theorem jo_112_115 : jb_op 112 115 = some (.iload 4, 99, 0, 0) := by decide +kernel
theorem jo_112_117 : jb_op 112 117 = some (.iload_n 1, 99, 0, 0) := by decide +kernel
theorem jo_112_118 : jb_op 112 118 = some (.if_icmp .ne (7), 99, 0, 0) := by decide +kernel
theorem jo_112_121 : jb_op 112 121 = some (.iload_n 3, 99, 0, 0) := by decide +kernel
theorem jo_112_122 : jb_op 112 122 = some (.goto 4, 99, 0, 0) := by decide +kernel
theorem jo_112_126 : jb_op 112 126 = some (.istore_n 2, 99, 0, 0) := by decide +kernel
theorem jo_112_127 : jb_op 112 127 = some (.iinc 3 1, 99, 0, 0) := by decide +kernel
theorem jo_112_130 : jb_op 112 130 = some (.goto (-126), 99, 0, 0) := by decide +kernel
theorem jo_112_125 : jb_op 112 125 = some (.iload_n 2, 99, 0, 0) := by decide +kernel
theorem jo_112_21 : jb_op 112 21 = some (.aload_n 0, 99, 0, 0) := by decide +kernel
theorem jo_112_22 : jb_op 112 22 = some (.getfield 9, 0, 11, 0) := by decide +kernel
theorem jo_112_25 : jb_op 112 25 = some (.iload 5, 99, 0, 0) := by decide +kernel
theorem jo_112_27 : jb_op 112 27 = some (.invokestatic 107, 4, 33, 1) := by decide +kernel
theorem jh_33_112 : jb_ht 33 < jb_ht 112 := by decide +kernel
theorem jo_112_30 : jb_op 112 30 = some (.iconst 1, 99, 0, 0) := by decide +kernel
theorem jo_112_31 : jb_op 112 31 = some (.iadd, 99, 0, 0) := by decide +kernel
theorem jo_112_32 : jb_op 112 32 = some (.iaload, 99, 0, 0) := by decide +kernel
theorem jo_112_33 : jb_op 112 33 = some (.aload_n 0, 99, 0, 0) := by decide +kernel
theorem jo_112_34 : jb_op 112 34 = some (.getfield 9, 0, 11, 0) := by decide +kernel
theorem jo_112_37 : jb_op 112 37 = some (.iload_n 3, 99, 0, 0) := by decide +kernel
theorem jo_112_38 : jb_op 112 38 = some (.invokestatic 107, 4, 33, 1) := by decide +kernel
theorem jo_112_41 : jb_op 112 41 = some (.iconst 1, 99, 0, 0) := by decide +kernel
theorem jo_112_42 : jb_op 112 42 = some (.iadd, 99, 0, 0) := by decide +kernel
theorem jo_112_43 : jb_op 112 43 = some (.iaload, 99, 0, 0) := by decide +kernel
theorem jo_112_44 : jb_op 112 44 = some (.isub, 99, 0, 0) := by decide +kernel
theorem jo_112_45 : jb_op 112 45 = some (.istore 6, 99, 0, 0) := by decide +kernel
theorem jo_112_47 : jb_op 112 47 = some (.aload_n 0, 99, 0, 0) := by decide +kernel
theorem jo_112_48 : jb_op 112 48 = some (.getfield 9, 0, 11, 0) := by decide +kernel
theorem jo_112_51 : jb_op 112 51 = some (.iload 5, 99, 0, 0) := by decide +kernel
theorem jo_112_53 : jb_op 112 53 = some (.invokestatic 107, 4, 33, 1) := by decide +kernel
theorem jo_112_56 : jb_op 112 56 = some (.iconst 0, 99, 0, 0) := by decide +kernel
theorem jo_112_57 : jb_op 112 57 = some (.iadd, 99, 0, 0) := by decide +kernel
theorem jo_112_58 : jb_op 112 58 = some (.iaload, 99, 0, 0) := by decide +kernel
theorem jo_112_59 : jb_op 112 59 = some (.aload_n 0, 99, 0, 0) := by decide +kernel
theorem jo_112_60 : jb_op 112 60 = some (.getfield 9, 0, 11, 0) := by decide +kernel
theorem jo_112_63 : jb_op 112 63 = some (.iload_n 3, 99, 0, 0) := by decide +kernel
theorem jo_112_64 : jb_op 112 64 = some (.invokestatic 107, 4, 33, 1) := by decide +kernel
theorem jo_112_67 : jb_op 112 67 = some (.iconst 0, 99, 0, 0) := by decide +kernel
theorem jo_112_68 : jb_op 112 68 = some (.iadd, 99, 0, 0) := by decide +kernel
theorem jo_112_69 : jb_op 112 69 = some (.iaload, 99, 0, 0) := by decide +kernel
theorem jo_112_70 : jb_op 112 70 = some (.isub, 99, 0, 0) := by decide +kernel
theorem jo_112_71 : jb_op 112 71 = some (.istore 7, 99, 0, 0) := by decide +kernel
theorem jo_112_73 : jb_op 112 73 = some (.iload 4, 99, 0, 0) := by decide +kernel
theorem jo_112_75 : jb_op 112 75 = some (.iload 6, 99, 0, 0) := by decide +kernel
theorem jo_112_77 : jb_op 112 77 = some (.ifCond .gt (24), 99, 0, 0) := by decide +kernel
theorem jo_112_101 : jb_op 112 101 = some (.iconst 1, 99, 0, 0) := by decide +kernel
theorem jo_112_102 : jb_op 112 102 = some (.goto 4, 99, 0, 0) := by decide +kernel
theorem jo_112_106 : jb_op 112 106 = some (.iadd, 99, 0, 0) := by decide +kernel
theorem jo_112_107 : jb_op 112 107 = some (.istore 4, 99, 0, 0) := by decide +kernel
theorem jo_112_109 : jb_op 112 109 = some (.iinc 5 1, 99, 0, 0) := by decide +kernel
theorem jo_112_112 : jb_op 112 112 = some (.goto (-97), 99, 0, 0) := by decide +kernel
theorem jo_112_80 : jb_op 112 80 = some (.iload 6, 99, 0, 0) := by decide +kernel
theorem jo_112_82 : jb_op 112 82 = some (.ifCond .ne (23), 99, 0, 0) := by decide +kernel
theorem jo_112_85 : jb_op 112 85 = some (.iload 7, 99, 0, 0) := by decide +kernel
theorem jo_112_87 : jb_op 112 87 = some (.ifCond .gt (14), 99, 0, 0) := by decide +kernel
theorem jo_112_90 : jb_op 112 90 = some (.iload 7, 99, 0, 0) := by decide +kernel
theorem jo_112_92 : jb_op 112 92 = some (.ifCond .ne (13), 99, 0, 0) := by decide +kernel
theorem jo_112_95 : jb_op 112 95 = some (.iload 5, 99, 0, 0) := by decide +kernel
theorem jo_112_97 : jb_op 112 97 = some (.iload_n 3, 99, 0, 0) := by decide +kernel
theorem jo_112_98 : jb_op 112 98 = some (.if_icmp .ge (7), 99, 0, 0) := by decide +kernel
theorem jo_112_105 : jb_op 112 105 = some (.iconst 0, 99, 0, 0) := by decide +kernel
theorem jl_112 : jb_ml 112 = 8 := by decide +kernel
theorem jo_113_0 : jb_op 113 0 = some (.iconst 0, 99, 0, 0) := by decide +kernel
theorem jo_113_1 : jb_op 113 1 = some (.istore_n 2, 99, 0, 0) := by decide +kernel
theorem jo_113_2 : jb_op 113 2 = some (.iconst 0, 99, 0, 0) := by decide +kernel
theorem jo_113_3 : jb_op 113 3 = some (.istore_n 3, 99, 0, 0) := by decide +kernel
theorem jo_113_4 : jb_op 113 4 = some (.iload_n 3, 99, 0, 0) := by decide +kernel
theorem jo_113_5 : jb_op 113 5 = some (.iconst 4, 99, 0, 0) := by decide +kernel
theorem jo_113_6 : jb_op 113 6 = some (.if_icmp .ge (73), 99, 0, 0) := by decide +kernel
theorem jo_113_79 : jb_op 113 79 = some (.iload_n 2, 99, 0, 0) := by decide +kernel
theorem jo_113_80 : jb_op 113 80 = some (.ireturn, 99, 0, 0) := by decide +kernel
theorem jr_113 : jb_ret 113 = (some .int) := by decide +kernel
theorem jo_113_9 : jb_op 113 9 = some (.iload_n 3, 99, 0, 0) := by decide +kernel
theorem jo_113_10 : jb_op 113 10 = some (.aload_n 0, 99, 0, 0) := by decide +kernel
theorem jo_113_11 : jb_op 113 11 = some (.getfield 9, 0, 11, 0) := by decide +kernel
theorem jo_113_14 : jb_op 113 14 = some (.iload_n 1, 99, 0, 0) := by decide +kernel
theorem jo_113_15 : jb_op 113 15 = some (.invokestatic 130, 4, 36, 1) := by decide +kernel
theorem jh_36_113 : jb_ht 36 < jb_ht 113 := by decide +kernel
theorem jo_113_18 : jb_op 113 18 = some (.iconst 1, 99, 0, 0) := by decide +kernel
theorem jo_113_19 : jb_op 113 19 = some (.iadd, 99, 0, 0) := by decide +kernel
theorem jo_113_20 : jb_op 113 20 = some (.iaload, 99, 0, 0) := by decide +kernel
theorem jo_113_21 : jb_op 113 21 = some (.if_icmp .ge (19), 99, 0, 0) := by decide +kernel
theorem jo_113_40 : jb_op 113 40 = some (.iconst (-1), 99, 0, 0) := by decide +kernel
theorem jo_113_41 : jb_op 113 41 = some (.istore 4, 99, 0, 0) := by decide +kernel
theorem jo_113_43 : jb_op 113 43 = some (.bipush 7, 99, 0, 0) := by decide +kernel
theorem jo_113_45 : jb_op 113 45 = some (.iload_n 2, 99, 0, 0) := by decide +kernel
theorem jo_113_46 : jb_op 113 46 = some (.imul, 99, 0, 0) := by decide +kernel
theorem jo_113_47 : jb_op 113 47 = some (.iload 4, 99, 0, 0) := by decide +kernel
theorem jo_113_49 : jb_op 113 49 = some (.iconst (-1), 99, 0, 0) := by decide +kernel
theorem jo_113_50 : jb_op 113 50 = some (.if_icmp .ne (7), 99, 0, 0) := by decide +kernel
theorem jo_113_53 : jb_op 113 53 = some (.iconst 0, 99, 0, 0) := by decide +kernel
theorem jo_113_54 : jb_op 113 54 = some (.goto 17, 99, 0, 0) := by decide +kernel
theorem jo_113_71 : jb_op 113 71 = some (.iadd, 99, 0, 0) := by decide +kernel
theorem jo_113_72 : jb_op 113 72 = some (.istore_n 2, 99, 0, 0) := by decide +kernel
theorem jo_113_73 : jb_op 113 73 = some (.iinc 3 1, 99, 0, 0) := by decide +kernel
theorem jo_113_76 : jb_op 113 76 = some (.goto (-72), 99, 0, 0) := by decide +kernel
theorem jo_113_24 : jb_op 113 24 = some (.aload_n 0, 99, 0, 0) := by decide +kernel
theorem jo_113_25 : jb_op 113 25 = some (.getfield 9, 0, 11, 0) := by decide +kernel
theorem jo_113_28 : jb_op 113 28 = some (.iload_n 1, 99, 0, 0) := by decide +kernel
theorem jo_113_29 : jb_op 113 29 = some (.invokestatic 130, 4, 36, 1) := by decide +kernel
theorem jo_113_32 : jb_op 113 32 = some (.iconst 2, 99, 0, 0) := by decide +kernel
theorem jo_113_33 : jb_op 113 33 = some (.iadd, 99, 0, 0) := by decide +kernel
theorem jo_113_34 : jb_op 113 34 = some (.iload_n 3, 99, 0, 0) := by decide +kernel
theorem jo_113_35 : jb_op 113 35 = some (.iadd, 99, 0, 0) := by decide +kernel
theorem jo_113_36 : jb_op 113 36 = some (.iaload, 99, 0, 0) := by decide +kernel
theorem jo_113_37 : jb_op 113 37 = some (.goto 4, 99, 0, 0) := by decide +kernel
theorem jo_113_57 : jb_op 113 57 = some (.iload 4, 99, 0, 0) := by decide +kernel
theorem jo_113_59 : jb_op 113 59 = some (.iconst 5, 99, 0, 0) := by decide +kernel
theorem jo_113_60 : jb_op 113 60 = some (.if_icmp .ne (7), 99, 0, 0) := by decide +kernel
theorem jo_113_63 : jb_op 113 63 = some (.iconst 1, 99, 0, 0) := by decide +kernel
theorem jo_113_64 : jb_op 113 64 = some (.goto 7, 99, 0, 0) := by decide +kernel
theorem jo_113_67 : jb_op 113 67 = some (.iload 4, 99, 0, 0) := by decide +kernel
theorem jo_113_69 : jb_op 113 69 = some (.iconst 2, 99, 0, 0) := by decide +kernel
theorem jo_113_70 : jb_op 113 70 = some (.iadd, 99, 0, 0) := by decide +kernel
theorem jl_113 : jb_ml 113 = 5 := by decide +kernel
theorem jo_114_0 : jb_op 114 0 = some (.iconst 0, 99, 0, 0) := by decide +kernel
theorem jo_114_1 : jb_op 114 1 = some (.istore_n 1, 99, 0, 0) := by decide +kernel
theorem jo_114_2 : jb_op 114 2 = some (.iconst 0, 99, 0, 0) := by decide +kernel
theorem jo_114_3 : jb_op 114 3 = some (.istore_n 2, 99, 0, 0) := by decide +kernel
theorem jo_114_4 : jb_op 114 4 = some (.iload_n 2, 99, 0, 0) := by decide +kernel
theorem jo_114_5 : jb_op 114 5 = some (.iconst 5, 99, 0, 0) := by decide +kernel
theorem jo_114_6 : jb_op 114 6 = some (.if_icmp .ge (23), 99, 0, 0) := by decide +kernel
theorem jo_114_29 : jb_op 114 29 = some (.iload_n 1, 99, 0, 0) := by decide +kernel
theorem jo_114_30 : jb_op 114 30 = some (.ireturn, 99, 0, 0) := by decide +kernel
theorem jr_114 : jb_ret 114 = (some .int) := by decide +kernel
theorem jo_114_9 : jb_op 114 9 = some (.iload_n 1, 99, 0, 0) := by decide +kernel
theorem jo_114_10 : jb_op 114 10 = some (.aload_n 0, 99, 0, 0) := by decide +kernel
theorem jo_114_11 : jb_op 114 11 = some (.getfield 9, 0, 11, 0) := by decide +kernel
theorem jo_114_14 : jb_op 114 14 = some (.iload_n 2, 99, 0, 0) := by decide +kernel
theorem jo_114_15 : jb_op 114 15 = some (.invokestatic 107, 4, 33, 1) := by decide +kernel
theorem jh_33_114 : jb_ht 33 < jb_ht 114 := by decide +kernel
theorem jo_114_18 : jb_op 114 18 = some (.iconst 1, 99, 0, 0) := by decide +kernel
theorem jo_114_19 : jb_op 114 19 = some (.iadd, 99, 0, 0) := by decide +kernel
theorem jo_114_20 : jb_op 114 20 = some (.iaload, 99, 0, 0) := by decide +kernel
theorem jo_114_21 : jb_op 114 21 = some (.iadd, 99, 0, 0) := by decide +kernel
theorem jo_114_22 : jb_op 114 22 = some (.istore_n 1, 99, 0, 0) := by decide +kernel
theorem jo_114_23 : jb_op 114 23 = some (.iinc 2 1, 99, 0, 0) := by decide +kernel
theorem jo_114_26 : jb_op 114 26 = some (.goto (-22), 99, 0, 0) := by decide +kernel
theorem jl_114 : jb_ml 114 = 3 := by decide +kernel
theorem jo_115_0 : jb_op 115 0 = some (.aload_n 0, 99, 0, 0) := by decide +kernel
theorem jo_115_1 : jb_op 115 1 = some (.iload_n 1, 99, 0, 0) := by decide +kernel
theorem jo_115_2 : jb_op 115 2 = some (.iload_n 2, 99, 0, 0) := by decide +kernel
theorem jo_115_3 : jb_op 115 3 = some (.iconst 5, 99, 0, 0) := by decide +kernel
theorem jo_115_4 : jb_op 115 4 = some (.if_icmp .ne (8), 99, 0, 0) := by decide +kernel
theorem jo_115_7 : jb_op 115 7 = some (.bipush 46, 99, 0, 0) := by decide +kernel
theorem jo_115_9 : jb_op 115 9 = some (.goto 7, 99, 0, 0) := by decide +kernel
theorem jo_115_16 : jb_op 115 16 = some (.invokevirtual 244, 2, 43, 2) := by decide +kernel
theorem jh_43_115 : jb_ht 43 < jb_ht 115 := by decide +kernel
theorem jw_43 : jb_ow 43 = 11 := by decide +kernel
theorem jo_115_12 : jb_op 115 12 = some (.bipush 97, 99, 0, 0) := by decide +kernel
theorem jo_115_14 : jb_op 115 14 = some (.iload_n 2, 99, 0, 0) := by decide +kernel
theorem jo_115_15 : jb_op 115 15 = some (.iadd, 99, 0, 0) := by decide +kernel
theorem jo_115_19 : jb_op 115 19 = some (.ireturn, 99, 0, 0) := by decide +kernel
theorem jr_115 : jb_ret 115 = (some .int) := by decide +kernel
theorem jl_115 : jb_ml 115 = 3 := by decide +kernel
theorem jo_116_0 : jb_op 116 0 = some (.aload_n 0, 99, 0, 0) := by decide +kernel
theorem jo_116_1 : jb_op 116 1 = some (.getfield 9, 0, 11, 0) := by decide +kernel
theorem jo_116_4 : jb_op 116 4 = some (.iload_n 2, 99, 0, 0) := by decide +kernel
theorem jo_116_5 : jb_op 116 5 = some (.invokestatic 130, 4, 36, 1) := by decide +kernel
theorem jh_36_116 : jb_ht 36 < jb_ht 116 := by decide +kernel
theorem jo_116_8 : jb_op 116 8 = some (.iconst 0, 99, 0, 0) := by decide +kernel
theorem jo_116_9 : jb_op 116 9 = some (.iadd, 99, 0, 0) := by decide +kernel
theorem jo_116_10 : jb_op 116 10 = some (.iaload, 99, 0, 0) := by decide +kernel
theorem jo_116_11 : jb_op 116 11 = some (.istore_n 3, 99, 0, 0) := by decide +kernel
theorem jo_116_12 : jb_op 116 12 = some (.aload_n 0, 99, 0, 0) := by decide +kernel
theorem jo_116_13 : jb_op 116 13 = some (.iload_n 1, 99, 0, 0) := by decide +kernel
theorem jo_116_14 : jb_op 116 14 = some (.iload_n 3, 99, 0, 0) := by decide +kernel
theorem jo_116_15 : jb_op 116 15 = some (.ifCond .ne (8), 99, 0, 0) := by decide +kernel
theorem jo_116_18 : jb_op 116 18 = some (.bipush 110, 99, 0, 0) := by decide +kernel
theorem jo_116_20 : jb_op 116 20 = some (.goto 15, 99, 0, 0) := by decide +kernel
theorem jo_116_35 : jb_op 116 35 = some (.invokevirtual 244, 2, 43, 2) := by decide +kernel
theorem jh_43_116 : jb_ht 43 < jb_ht 116 := by decide +kernel
theorem jo_116_23 : jb_op 116 23 = some (.iload_n 3, 99, 0, 0) := by decide +kernel
theorem jo_116_24 : jb_op 116 24 = some (.iconst 1, 99, 0, 0) := by decide +kernel
theorem jo_116_25 : jb_op 116 25 = some (.if_icmp .ne (8), 99, 0, 0) := by decide +kernel
theorem jo_116_28 : jb_op 116 28 = some (.bipush 100, 99, 0, 0) := by decide +kernel
theorem jo_116_30 : jb_op 116 30 = some (.goto 5, 99, 0, 0) := by decide +kernel
theorem jo_116_33 : jb_op 116 33 = some (.bipush 116, 99, 0, 0) := by decide +kernel
theorem jo_116_38 : jb_op 116 38 = some (.ireturn, 99, 0, 0) := by decide +kernel
theorem jr_116 : jb_ret 116 = (some .int) := by decide +kernel
theorem jl_116 : jb_ml 116 = 4 := by decide +kernel
theorem jo_117_0 : jb_op 117 0 = some (.iload_n 1, 99, 0, 0) := by decide +kernel
theorem jo_117_1 : jb_op 117 1 = some (.iconst 0, 99, 0, 0) := by decide +kernel
theorem jo_117_2 : jb_op 117 2 = some (.aload_n 0, 99, 0, 0) := by decide +kernel
theorem jo_117_3 : jb_op 117 3 = some (.getfield 253, 0, 11, 16) := by decide +kernel
theorem jf_307_16 : jm_f 307 16 = some none := by decide +kernel
theorem jo_117_6 : jb_op 117 6 = some (.iconst 1, 99, 0, 0) := by decide +kernel
theorem jo_117_7 : jb_op 117 7 = some (.isub, 99, 0, 0) := by decide +kernel
theorem jo_117_8 : jb_op 117 8 = some (.invokestatic 85, 4, 31, 3) := by decide +kernel
theorem jh_31_117 : jb_ht 31 < jb_ht 117 := by decide +kernel
theorem jo_117_11 : jb_op 117 11 = some (.ifCond .eq (12), 99, 0, 0) := by decide +kernel
theorem jo_117_23 : jb_op 117 23 = some (.iconst (-1), 99, 0, 0) := by decide +kernel
theorem jo_117_24 : jb_op 117 24 = some (.ireturn, 99, 0, 0) := by decide +kernel
theorem jr_117 : jb_ret 117 = (some .int) := by decide +kernel
theorem jo_117_14 : jb_op 117 14 = some (.aload_n 0, 99, 0, 0) := by decide +kernel
theorem jo_117_15 : jb_op 117 15 = some (.getfield 32, 0, 11, 15) := by decide +kernel
theorem jo_117_18 : jb_op 117 18 = some (.iload_n 1, 99, 0, 0) := by decide +kernel
theorem jo_117_19 : jb_op 117 19 = some (.iaload, 99, 0, 0) := by decide +kernel
theorem jo_117_20 : jb_op 117 20 = some (.goto 4, 99, 0, 0) := by decide +kernel
theorem jl_117 : jb_ml 117 = 2 := by decide +kernel
theorem jo_118_0 : jb_op 118 0 = some (.iload_n 1, 99, 0, 0) := by decide +kernel
theorem jo_118_1 : jb_op 118 1 = some (.bipush 32, 99, 0, 0) := by decide +kernel
theorem jo_118_3 : jb_op 118 3 = some (.bipush 126, 99, 0, 0) := by decide +kernel
theorem jo_118_5 : jb_op 118 5 = some (.invokestatic 85, 4, 31, 3) := by decide +kernel
theorem jh_31_118 : jb_ht 31 < jb_ht 118 := by decide +kernel
theorem jo_118_8 : jb_op 118 8 = some (.ifCond .ne (6), 99, 0, 0) := by decide +kernel
theorem jo_118_11 : jb_op 118 11 = some (.bipush (-2), 99, 0, 0) := by decide +kernel
theorem jo_118_13 : jb_op 118 13 = some (.ireturn, 99, 0, 0) := by decide +kernel
theorem jr_118 : jb_ret 118 = (some .int) := by decide +kernel
theorem jo_118_14 : jb_op 118 14 = some (.aload_n 0, 99, 0, 0) := by decide +kernel
theorem jo_118_15 : jb_op 118 15 = some (.getfield 241, 0, 11, 14) := by decide +kernel
theorem jf_307_14 : jm_f 307 14 = some none := by decide +kernel
theorem jo_118_18 : jb_op 118 18 = some (.bipush 60, 99, 0, 0) := by decide +kernel
theorem jo_118_20 : jb_op 118 20 = some (.if_icmp .ne (6), 99, 0, 0) := by decide +kernel
theorem jo_118_23 : jb_op 118 23 = some (.bipush (-4), 99, 0, 0) := by decide +kernel
theorem jo_118_25 : jb_op 118 25 = some (.ireturn, 99, 0, 0) := by decide +kernel
theorem jo_118_26 : jb_op 118 26 = some (.aload_n 0, 99, 0, 0) := by decide +kernel
theorem jo_118_27 : jb_op 118 27 = some (.getfield 29, 0, 11, 13) := by decide +kernel
theorem jo_118_30 : jb_op 118 30 = some (.aload_n 0, 99, 0, 0) := by decide +kernel
theorem jo_118_31 : jb_op 118 31 = some (.getfield 241, 0, 11, 14) := by decide +kernel
theorem jo_118_34 : jb_op 118 34 = some (.iload_n 1, 99, 0, 0) := by decide +kernel
theorem jo_118_35 : jb_op 118 35 = some (.iastore, 99, 0, 0) := by decide +kernel
theorem jo_118_36 : jb_op 118 36 = some (.aload_n 0, 99, 0, 0) := by decide +kernel
theorem jo_118_37 : jb_op 118 37 = some (.dup, 99, 0, 0) := by decide +kernel
theorem jo_118_38 : jb_op 118 38 = some (.getfield 241, 0, 11, 14) := by decide +kernel
theorem jo_118_41 : jb_op 118 41 = some (.iconst 1, 99, 0, 0) := by decide +kernel
theorem jo_118_42 : jb_op 118 42 = some (.iadd, 99, 0, 0) := by decide +kernel
theorem jo_118_43 : jb_op 118 43 = some (.putfield 241, 0, 11, 14) := by decide +kernel
theorem jty_11_14 : jb_Ty 11 14 = .int ∧ (jb_T 11 14).2.2.2 = false := by decide +kernel
theorem jo_118_46 : jb_op 118 46 = some (.aload_n 0, 99, 0, 0) := by decide +kernel
theorem jo_118_47 : jb_op 118 47 = some (.getfield 241, 0, 11, 14) := by decide +kernel
theorem jo_118_50 : jb_op 118 50 = some (.ireturn, 99, 0, 0) := by decide +kernel
theorem jl_118 : jb_ml 118 = 2 := by decide +kernel
theorem jo_119_0 : jb_op 119 0 = some (.aload_n 0, 99, 0, 0) := by decide +kernel
theorem jo_119_1 : jb_op 119 1 = some (.getfield 262, 0, 11, 28) := by decide +kernel
theorem jf_307_28 : jm_f 307 28 = some none := by decide +kernel
theorem jo_119_4 : jb_op 119 4 = some (.iconst (-1), 99, 0, 0) := by decide +kernel
theorem jo_119_5 : jb_op 119 5 = some (.if_icmp .ne (39), 99, 0, 0) := by decide +kernel
theorem jo_119_8 : jb_op 119 8 = some (.aload_n 0, 99, 0, 0) := by decide +kernel
theorem jo_119_9 : jb_op 119 9 = some (.invokevirtual 265, 2, 46, 0) := by decide +kernel
theorem jh_46_119 : jb_ht 46 < jb_ht 119 := by decide +kernel
theorem jw_46 : jb_ow 46 = 11 := by decide +kernel
theorem jo_119_44 : jb_op 119 44 = some (.aload_n 0, 99, 0, 0) := by decide +kernel
theorem jo_119_45 : jb_op 119 45 = some (.aload_n 0, 99, 0, 0) := by decide +kernel
theorem jo_119_46 : jb_op 119 46 = some (.getfield 262, 0, 11, 28) := by decide +kernel
theorem jo_119_49 : jb_op 119 49 = some (.iconst (-1), 99, 0, 0) := by decide +kernel
theorem jo_119_50 : jb_op 119 50 = some (.if_icmp .ne (10), 99, 0, 0) := by decide +kernel
theorem jo_119_60 : jb_op 119 60 = some (.aload_n 0, 99, 0, 0) := by decide +kernel
theorem jo_119_61 : jb_op 119 61 = some (.getfield 262, 0, 11, 28) := by decide +kernel
theorem jo_119_64 : jb_op 119 64 = some (.putfield 262, 0, 11, 28) := by decide +kernel
theorem jty_11_28 : jb_Ty 11 28 = .int ∧ (jb_T 11 28).2.2.2 = false := by decide +kernel
theorem jo_119_67 : jb_op 119 67 = some (.iconst 0, 99, 0, 0) := by decide +kernel
theorem jo_119_68 : jb_op 119 68 = some (.ireturn, 99, 0, 0) := by decide +kernel
theorem jr_119 : jb_ret 119 = (some .int) := by decide +kernel
theorem jo_119_12 : jb_op 119 12 = some (.iload_n 1, 99, 0, 0) := by decide +kernel
theorem jo_119_13 : jb_op 119 13 = some (.iload_n 2, 99, 0, 0) := by decide +kernel
theorem jo_119_14 : jb_op 119 14 = some (.invokestatic 85, 4, 31, 3) := by decide +kernel
theorem jh_31_119 : jb_ht 31 < jb_ht 119 := by decide +kernel
theorem jo_119_17 : jb_op 119 17 = some (.ifCond .eq (27), 99, 0, 0) := by decide +kernel
theorem jo_119_53 : jb_op 119 53 = some (.aload_n 0, 99, 0, 0) := by decide +kernel
theorem jo_119_54 : jb_op 119 54 = some (.getfield 256, 0, 11, 27) := by decide +kernel
theorem jo_119_57 : jb_op 119 57 = some (.goto 7, 99, 0, 0) := by decide +kernel
theorem jo_119_20 : jb_op 119 20 = some (.aload_n 0, 99, 0, 0) := by decide +kernel
theorem jo_119_21 : jb_op 119 21 = some (.dup, 99, 0, 0) := by decide +kernel
theorem jo_119_22 : jb_op 119 22 = some (.getfield 256, 0, 11, 27) := by decide +kernel
theorem jo_119_25 : jb_op 119 25 = some (.iconst 1, 99, 0, 0) := by decide +kernel
theorem jo_119_26 : jb_op 119 26 = some (.iadd, 99, 0, 0) := by decide +kernel
theorem jo_119_27 : jb_op 119 27 = some (.putfield 256, 0, 11, 27) := by decide +kernel
theorem jty_11_27 : jb_Ty 11 27 = .int ∧ (jb_T 11 27).2.2.2 = false := by decide +kernel
theorem jo_119_30 : jb_op 119 30 = some (.aload_n 0, 99, 0, 0) := by decide +kernel
theorem jo_119_31 : jb_op 119 31 = some (.getfield 29, 0, 11, 13) := by decide +kernel
theorem jo_119_34 : jb_op 119 34 = some (.aload_n 0, 99, 0, 0) := by decide +kernel
theorem jo_119_35 : jb_op 119 35 = some (.getfield 256, 0, 11, 27) := by decide +kernel
theorem jo_119_38 : jb_op 119 38 = some (.iconst 1, 99, 0, 0) := by decide +kernel
theorem jo_119_39 : jb_op 119 39 = some (.isub, 99, 0, 0) := by decide +kernel
theorem jo_119_40 : jb_op 119 40 = some (.iaload, 99, 0, 0) := by decide +kernel
theorem jo_119_41 : jb_op 119 41 = some (.iload_n 1, 99, 0, 0) := by decide +kernel
theorem jo_119_42 : jb_op 119 42 = some (.isub, 99, 0, 0) := by decide +kernel
theorem jo_119_43 : jb_op 119 43 = some (.ireturn, 99, 0, 0) := by decide +kernel
theorem jl_119 : jb_ml 119 = 3 := by decide +kernel
theorem jo_120_0 : jb_op 120 0 = some (.aload_n 0, 99, 0, 0) := by decide +kernel
theorem jo_120_1 : jb_op 120 1 = some (.invokevirtual 265, 2, 46, 0) := by decide +kernel
theorem jh_46_120 : jb_ht 46 < jb_ht 120 := by decide +kernel
theorem jo_120_4 : jb_op 120 4 = some (.bipush 46, 99, 0, 0) := by decide +kernel
theorem jo_120_6 : jb_op 120 6 = some (.if_icmp .eq (17), 99, 0, 0) := by decide +kernel
theorem jo_120_23 : jb_op 120 23 = some (.iconst 1, 99, 0, 0) := by decide +kernel
theorem jo_120_24 : jb_op 120 24 = some (.goto 4, 99, 0, 0) := by decide +kernel
theorem jo_120_28 : jb_op 120 28 = some (.ireturn, 99, 0, 0) := by decide +kernel
theorem jr_120 : jb_ret 120 = (some .boolean) := by decide +kernel
theorem jo_120_9 : jb_op 120 9 = some (.aload_n 0, 99, 0, 0) := by decide +kernel
theorem jo_120_10 : jb_op 120 10 = some (.invokevirtual 265, 2, 46, 0) := by decide +kernel
theorem jo_120_13 : jb_op 120 13 = some (.bipush 97, 99, 0, 0) := by decide +kernel
theorem jo_120_15 : jb_op 120 15 = some (.bipush 101, 99, 0, 0) := by decide +kernel
theorem jo_120_17 : jb_op 120 17 = some (.invokestatic 85, 4, 31, 3) := by decide +kernel
theorem jh_31_120 : jb_ht 31 < jb_ht 120 := by decide +kernel
theorem jo_120_20 : jb_op 120 20 = some (.ifCond .eq (7), 99, 0, 0) := by decide +kernel
theorem jo_120_27 : jb_op 120 27 = some (.iconst 0, 99, 0, 0) := by decide +kernel
theorem jl_120 : jb_ml 120 = 1 := by decide +kernel
theorem jo_123_0 : jb_op 123 0 = some (.aload_n 0, 99, 0, 0) := by decide +kernel
theorem jo_123_1 : jb_op 123 1 = some (.getfield 12, 0, 9, 0) := by decide +kernel
theorem jo_123_4 : jb_op 123 4 = some (.aload_n 1, 99, 0, 0) := by decide +kernel
theorem jo_123_5 : jb_op 123 5 = some (.getfield 12, 0, 9, 0) := by decide +kernel
theorem jo_123_8 : jb_op 123 8 = some (.invokevirtual 49, 2, 53, 1) := by decide +kernel
theorem jh_53_123 : jb_ht 53 < jb_ht 123 := by decide +kernel
theorem jw_53 : jb_ow 53 = 0 := by decide +kernel
theorem jo_123_11 : jb_op 123 11 = some (.aload_n 0, 99, 0, 0) := by decide +kernel
theorem jo_123_12 : jb_op 123 12 = some (.getfield 21, 0, 9, 1) := by decide +kernel
theorem jo_123_15 : jb_op 123 15 = some (.aload_n 1, 99, 0, 0) := by decide +kernel
theorem jo_123_16 : jb_op 123 16 = some (.getfield 21, 0, 9, 1) := by decide +kernel
theorem jo_123_19 : jb_op 123 19 = some (.invokevirtual 53, 2, 54, 1) := by decide +kernel
theorem jh_54_123 : jb_ht 54 < jb_ht 123 := by decide +kernel
theorem jw_54 : jb_ow 54 = 1 := by decide +kernel
theorem jo_123_22 : jb_op 123 22 = some (.aload_n 0, 99, 0, 0) := by decide +kernel
theorem jo_123_23 : jb_op 123 23 = some (.getfield 28, 0, 9, 2) := by decide +kernel
theorem jo_123_26 : jb_op 123 26 = some (.aload_n 1, 99, 0, 0) := by decide +kernel
theorem jo_123_27 : jb_op 123 27 = some (.getfield 28, 0, 9, 2) := by decide +kernel
theorem jo_123_30 : jb_op 123 30 = some (.invokevirtual 56, 2, 55, 1) := by decide +kernel
theorem jh_55_123 : jb_ht 55 < jb_ht 123 := by decide +kernel
theorem jw_55 : jb_ow 55 = 7 := by decide +kernel
theorem jo_123_33 : jb_op 123 33 = some (.aload_n 0, 99, 0, 0) := by decide +kernel
theorem jo_123_34 : jb_op 123 34 = some (.getfield 35, 0, 9, 3) := by decide +kernel
theorem jo_123_37 : jb_op 123 37 = some (.aload_n 1, 99, 0, 0) := by decide +kernel
theorem jo_123_38 : jb_op 123 38 = some (.getfield 35, 0, 9, 3) := by decide +kernel
theorem jo_123_41 : jb_op 123 41 = some (.invokevirtual 59, 2, 56, 1) := by decide +kernel
theorem jh_56_123 : jb_ht 56 < jb_ht 123 := by decide +kernel
theorem jw_56 : jb_ow 56 = 4 := by decide +kernel
theorem jo_123_44 : jb_op 123 44 = some (.aload_n 0, 99, 0, 0) := by decide +kernel
theorem jo_123_45 : jb_op 123 45 = some (.aload_n 1, 99, 0, 0) := by decide +kernel
theorem jo_123_46 : jb_op 123 46 = some (.getfield 39, 0, 9, 4) := by decide +kernel
theorem jo_123_49 : jb_op 123 49 = some (.putfield 39, 0, 9, 4) := by decide +kernel
theorem jty_9_4 : jb_Ty 9 4 = .int ∧ (jb_T 9 4).2.2.2 = false := by decide +kernel
theorem jo_123_52 : jb_op 123 52 = some (.aload_n 0, 99, 0, 0) := by decide +kernel
theorem jo_123_53 : jb_op 123 53 = some (.aload_n 1, 99, 0, 0) := by decide +kernel
theorem jo_123_54 : jb_op 123 54 = some (.getfield 43, 0, 9, 5) := by decide +kernel
theorem jo_123_57 : jb_op 123 57 = some (.putfield 43, 0, 9, 5) := by decide +kernel
theorem jty_9_5 : jb_Ty 9 5 = .int ∧ (jb_T 9 5).2.2.2 = false := by decide +kernel
theorem jo_123_60 : jb_op 123 60 = some (.aload_n 0, 99, 0, 0) := by decide +kernel
theorem jo_123_61 : jb_op 123 61 = some (.aload_n 1, 99, 0, 0) := by decide +kernel
theorem jo_123_62 : jb_op 123 62 = some (.getfield 46, 0, 9, 6) := by decide +kernel
theorem jo_123_65 : jb_op 123 65 = some (.putfield 46, 0, 9, 6) := by decide +kernel
theorem jty_9_6 : jb_Ty 9 6 = .int ∧ (jb_T 9 6).2.2.2 = false := by decide +kernel
theorem jo_123_68 : jb_op 123 68 = some (.return_, 99, 0, 0) := by decide +kernel
theorem jr_123 : jb_ret 123 = none := by decide +kernel
theorem jl_123 : jb_ml 123 = 2 := by decide +kernel
theorem jo_124_0 : jb_op 124 0 = some (.iload_n 1, 99, 0, 0) := by decide +kernel
theorem jo_124_1 : jb_op 124 1 = some (.ifCond .lt (8), 99, 0, 0) := by decide +kernel
theorem jo_124_9 : jb_op 124 9 = some (.bipush (-2), 99, 0, 0) := by decide +kernel
theorem jo_124_11 : jb_op 124 11 = some (.ireturn, 99, 0, 0) := by decide +kernel
theorem jr_124 : jb_ret 124 = (some .int) := by decide +kernel
theorem jo_124_4 : jb_op 124 4 = some (.iload_n 1, 99, 0, 0) := by decide +kernel
theorem jo_124_5 : jb_op 124 5 = some (.iconst 2, 99, 0, 0) := by decide +kernel
theorem jo_124_6 : jb_op 124 6 = some (.if_icmp .le (6), 99, 0, 0) := by decide +kernel
theorem jo_124_12 : jb_op 124 12 = some (.aload_n 2, 99, 0, 0) := by decide +kernel
theorem jo_124_13 : jb_op 124 13 = some (.invokevirtual 30, 2, 12, 0) := by decide +kernel
theorem jh_12_124 : jb_ht 12 < jb_ht 124 := by decide +kernel
theorem jo_124_16 : jb_op 124 16 = some (.istore 4, 99, 0, 0) := by decide +kernel
theorem jo_124_18 : jb_op 124 18 = some (.iload 4, 99, 0, 0) := by decide +kernel
theorem jo_124_20 : jb_op 124 20 = some (.iconst 1, 99, 0, 0) := by decide +kernel
theorem jo_124_21 : jb_op 124 21 = some (.if_icmp .lt (9), 99, 0, 0) := by decide +kernel
theorem jo_124_30 : jb_op 124 30 = some (.aload_n 3, 99, 0, 0) := by decide +kernel
theorem jo_124_31 : jb_op 124 31 = some (.iconst 4, 99, 0, 0) := by decide +kernel
theorem jo_124_32 : jb_op 124 32 = some (.iload 4, 99, 0, 0) := by decide +kernel
theorem jo_124_34 : jb_op 124 34 = some (.invokevirtual 34, 2, 7, 2) := by decide +kernel
theorem jh_7_124 : jb_ht 7 < jb_ht 124 := by decide +kernel
theorem jo_124_24 : jb_op 124 24 = some (.iload 4, 99, 0, 0) := by decide +kernel
theorem jo_124_26 : jb_op 124 26 = some (.iconst 4, 99, 0, 0) := by decide +kernel
theorem jo_124_27 : jb_op 124 27 = some (.if_icmp .le (11), 99, 0, 0) := by decide +kernel
theorem jo_124_38 : jb_op 124 38 = some (.aload_n 2, 99, 0, 0) := by decide +kernel
theorem jo_124_39 : jb_op 124 39 = some (.iconst 0, 99, 0, 0) := by decide +kernel
theorem jo_124_40 : jb_op 124 40 = some (.invokevirtual 40, 2, 6, 1) := by decide +kernel
theorem jh_6_124 : jb_ht 6 < jb_ht 124 := by decide +kernel
theorem jo_124_43 : jb_op 124 43 = some (.iconst 5, 99, 0, 0) := by decide +kernel
theorem jo_124_44 : jb_op 124 44 = some (.if_icmp .ne (10), 99, 0, 0) := by decide +kernel
theorem jo_124_47 : jb_op 124 47 = some (.aload_n 3, 99, 0, 0) := by decide +kernel
theorem jo_124_48 : jb_op 124 48 = some (.iconst 5, 99, 0, 0) := by decide +kernel
theorem jo_124_49 : jb_op 124 49 = some (.iconst 0, 99, 0, 0) := by decide +kernel
theorem jo_124_50 : jb_op 124 50 = some (.invokevirtual 34, 2, 7, 2) := by decide +kernel
theorem jo_124_54 : jb_op 124 54 = some (.aload_n 2, 99, 0, 0) := by decide +kernel
theorem jo_124_55 : jb_op 124 55 = some (.iload 4, 99, 0, 0) := by decide +kernel
theorem jo_124_57 : jb_op 124 57 = some (.iconst 1, 99, 0, 0) := by decide +kernel
theorem jo_124_58 : jb_op 124 58 = some (.isub, 99, 0, 0) := by decide +kernel
theorem jo_124_59 : jb_op 124 59 = some (.invokevirtual 40, 2, 6, 1) := by decide +kernel
theorem jo_124_62 : jb_op 124 62 = some (.iconst 5, 99, 0, 0) := by decide +kernel
theorem jo_124_63 : jb_op 124 63 = some (.if_icmp .ne (13), 99, 0, 0) := by decide +kernel
theorem jo_124_66 : jb_op 124 66 = some (.aload_n 3, 99, 0, 0) := by decide +kernel
theorem jo_124_67 : jb_op 124 67 = some (.iconst 5, 99, 0, 0) := by decide +kernel
theorem jo_124_68 : jb_op 124 68 = some (.iload 4, 99, 0, 0) := by decide +kernel
theorem jo_124_70 : jb_op 124 70 = some (.iconst 1, 99, 0, 0) := by decide +kernel
theorem jo_124_71 : jb_op 124 71 = some (.isub, 99, 0, 0) := by decide +kernel
theorem jo_124_72 : jb_op 124 72 = some (.invokevirtual 34, 2, 7, 2) := by decide +kernel
theorem jo_124_76 : jb_op 124 76 = some (.aload_n 2, 99, 0, 0) := by decide +kernel
theorem jo_124_77 : jb_op 124 77 = some (.invokestatic 44, 4, 60, 1) := by decide +kernel
theorem jh_60_124 : jb_ht 60 < jb_ht 124 := by decide +kernel
theorem jo_124_80 : jb_op 124 80 = some (.istore 5, 99, 0, 0) := by decide +kernel
theorem jo_124_82 : jb_op 124 82 = some (.aload_n 0, 99, 0, 0) := by decide +kernel
theorem jo_124_83 : jb_op 124 83 = some (.iload 5, 99, 0, 0) := by decide +kernel
theorem jo_124_85 : jb_op 124 85 = some (.invokevirtual 48, 2, 61, 1) := by decide +kernel
theorem jh_61_124 : jb_ht 61 < jb_ht 124 := by decide +kernel
theorem jw_61 : jb_ow 61 = 1 := by decide +kernel
theorem jo_124_88 : jb_op 124 88 = some (.istore 6, 99, 0, 0) := by decide +kernel
theorem jo_124_90 : jb_op 124 90 = some (.iload 6, 99, 0, 0) := by decide +kernel
theorem jo_124_92 : jb_op 124 92 = some (.iconst (-1), 99, 0, 0) := by decide +kernel
theorem jo_124_93 : jb_op 124 93 = some (.if_icmp .eq (11), 99, 0, 0) := by decide +kernel
theorem jo_124_104 : jb_op 124 104 = some (.aload_n 0, 99, 0, 0) := by decide +kernel
theorem jo_124_105 : jb_op 124 105 = some (.getfield 14, 0, 1, 0) := by decide +kernel
theorem jo_124_108 : jb_op 124 108 = some (.invokevirtual 51, 2, 11, 0) := by decide +kernel
theorem jh_11_124 : jb_ht 11 < jb_ht 124 := by decide +kernel
theorem jo_124_96 : jb_op 124 96 = some (.aload_n 3, 99, 0, 0) := by decide +kernel
theorem jo_124_97 : jb_op 124 97 = some (.iconst 2, 99, 0, 0) := by decide +kernel
theorem jo_124_98 : jb_op 124 98 = some (.iload 6, 99, 0, 0) := by decide +kernel
theorem jo_124_100 : jb_op 124 100 = some (.invokevirtual 34, 2, 7, 2) := by decide +kernel
theorem jo_124_103 : jb_op 124 103 = some (.ireturn, 99, 0, 0) := by decide +kernel
theorem jo_124_111 : jb_op 124 111 = some (.ifCond .eq (11), 99, 0, 0) := by decide +kernel
theorem jo_124_122 : jb_op 124 122 = some (.aload_n 0, 99, 0, 0) := by decide +kernel
theorem jo_124_123 : jb_op 124 123 = some (.getfield 14, 0, 1, 0) := by decide +kernel
theorem jo_124_126 : jb_op 124 126 = some (.iload_n 1, 99, 0, 0) := by decide +kernel
theorem jo_124_127 : jb_op 124 127 = some (.invokevirtual 55, 2, 1, 1) := by decide +kernel
theorem jh_1_124 : jb_ht 1 < jb_ht 124 := by decide +kernel
theorem jo_124_114 : jb_op 124 114 = some (.aload_n 3, 99, 0, 0) := by decide +kernel
theorem jo_124_115 : jb_op 124 115 = some (.iconst 1, 99, 0, 0) := by decide +kernel
theorem jo_124_116 : jb_op 124 116 = some (.bipush 8, 99, 0, 0) := by decide +kernel
theorem jo_124_118 : jb_op 124 118 = some (.invokevirtual 34, 2, 7, 2) := by decide +kernel
theorem jo_124_121 : jb_op 124 121 = some (.ireturn, 99, 0, 0) := by decide +kernel
theorem jo_124_130 : jb_op 124 130 = some (.aload_n 0, 99, 0, 0) := by decide +kernel
theorem jo_124_131 : jb_op 124 131 = some (.getfield 20, 0, 1, 1) := by decide +kernel
theorem jo_124_134 : jb_op 124 134 = some (.iload 4, 99, 0, 0) := by decide +kernel
theorem jo_124_136 : jb_op 124 136 = some (.invokevirtual 55, 2, 1, 1) := by decide +kernel
theorem jo_124_139 : jb_op 124 139 = some (.aload_n 0, 99, 0, 0) := by decide +kernel
theorem jo_124_140 : jb_op 124 140 = some (.getfield 23, 0, 1, 2) := by decide +kernel
theorem jo_124_143 : jb_op 124 143 = some (.iload 5, 99, 0, 0) := by decide +kernel
theorem jo_124_145 : jb_op 124 145 = some (.invokevirtual 55, 2, 1, 1) := by decide +kernel
theorem jo_124_148 : jb_op 124 148 = some (.aload_n 0, 99, 0, 0) := by decide +kernel
theorem jo_124_149 : jb_op 124 149 = some (.getfield 14, 0, 1, 0) := by decide +kernel
theorem jo_124_152 : jb_op 124 152 = some (.invokevirtual 30, 2, 12, 0) := by decide +kernel
theorem jo_124_155 : jb_op 124 155 = some (.iconst 1, 99, 0, 0) := by decide +kernel
theorem jo_124_156 : jb_op 124 156 = some (.isub, 99, 0, 0) := by decide +kernel
theorem jo_124_157 : jb_op 124 157 = some (.ireturn, 99, 0, 0) := by decide +kernel
theorem jo_124_75 : jb_op 124 75 = some (.ireturn, 99, 0, 0) := by decide +kernel
theorem jo_124_53 : jb_op 124 53 = some (.ireturn, 99, 0, 0) := by decide +kernel
theorem jo_124_37 : jb_op 124 37 = some (.ireturn, 99, 0, 0) := by decide +kernel
theorem jl_124 : jb_ml 124 = 7 := by decide +kernel
theorem jo_125_0 : jb_op 125 0 = some (.aload_n 0, 99, 0, 0) := by decide +kernel
theorem jo_125_1 : jb_op 125 1 = some (.getfield 14, 0, 1, 0) := by decide +kernel
theorem jo_125_4 : jb_op 125 4 = some (.iload_n 1, 99, 0, 0) := by decide +kernel
theorem jo_125_5 : jb_op 125 5 = some (.invokevirtual 58, 2, 4, 1) := by decide +kernel
theorem jh_4_125 : jb_ht 4 < jb_ht 125 := by decide +kernel
theorem jo_125_8 : jb_op 125 8 = some (.ifCond .ne (5), 99, 0, 0) := by decide +kernel
theorem jo_125_11 : jb_op 125 11 = some (.iconst (-1), 99, 0, 0) := by decide +kernel
theorem jo_125_12 : jb_op 125 12 = some (.ireturn, 99, 0, 0) := by decide +kernel
theorem jr_125 : jb_ret 125 = (some .int) := by decide +kernel
theorem jo_125_13 : jb_op 125 13 = some (.aload_n 0, 99, 0, 0) := by decide +kernel
theorem jo_125_14 : jb_op 125 14 = some (.getfield 14, 0, 1, 0) := by decide +kernel
theorem jo_125_17 : jb_op 125 17 = some (.iload_n 1, 99, 0, 0) := by decide +kernel
theorem jo_125_18 : jb_op 125 18 = some (.invokevirtual 62, 2, 62, 1) := by decide +kernel
theorem jh_62_125 : jb_ht 62 < jb_ht 125 := by decide +kernel
theorem jw_62 : jb_ow 62 = 6 := by decide +kernel
theorem jo_125_21 : jb_op 125 21 = some (.aload_n 0, 99, 0, 0) := by decide +kernel
theorem jo_125_22 : jb_op 125 22 = some (.getfield 20, 0, 1, 1) := by decide +kernel
theorem jo_125_25 : jb_op 125 25 = some (.iload_n 1, 99, 0, 0) := by decide +kernel
theorem jo_125_26 : jb_op 125 26 = some (.invokevirtual 62, 2, 62, 1) := by decide +kernel
theorem jo_125_29 : jb_op 125 29 = some (.aload_n 0, 99, 0, 0) := by decide +kernel
theorem jo_125_30 : jb_op 125 30 = some (.getfield 23, 0, 1, 2) := by decide +kernel
theorem jo_125_33 : jb_op 125 33 = some (.iload_n 1, 99, 0, 0) := by decide +kernel
theorem jo_125_34 : jb_op 125 34 = some (.invokevirtual 62, 2, 62, 1) := by decide +kernel
theorem jo_125_37 : jb_op 125 37 = some (.aload_n 0, 99, 0, 0) := by decide +kernel
theorem jo_125_38 : jb_op 125 38 = some (.getfield 14, 0, 1, 0) := by decide +kernel
theorem jo_125_41 : jb_op 125 41 = some (.invokevirtual 30, 2, 12, 0) := by decide +kernel
theorem jh_12_125 : jb_ht 12 < jb_ht 125 := by decide +kernel
theorem jo_125_44 : jb_op 125 44 = some (.ireturn, 99, 0, 0) := by decide +kernel
theorem jl_125 : jb_ml 125 = 2 := by decide +kernel
theorem jo_126_0 : jb_op 126 0 = some (.aload_n 0, 99, 0, 0) := by decide +kernel
theorem jo_126_1 : jb_op 126 1 = some (.getfield 14, 0, 7, 0) := by decide +kernel
theorem jo_126_4 : jb_op 126 4 = some (.iload_n 1, 99, 0, 0) := by decide +kernel
theorem jo_126_5 : jb_op 126 5 = some (.invokevirtual 48, 2, 4, 1) := by decide +kernel
theorem jh_4_126 : jb_ht 4 < jb_ht 126 := by decide +kernel
theorem jo_126_8 : jb_op 126 8 = some (.ifCond .ne (5), 99, 0, 0) := by decide +kernel
theorem jo_126_11 : jb_op 126 11 = some (.iconst (-1), 99, 0, 0) := by decide +kernel
theorem jo_126_12 : jb_op 126 12 = some (.ireturn, 99, 0, 0) := by decide +kernel
theorem jr_126 : jb_ret 126 = (some .int) := by decide +kernel
theorem jo_126_13 : jb_op 126 13 = some (.aload_n 0, 99, 0, 0) := by decide +kernel
theorem jo_126_14 : jb_op 126 14 = some (.getfield 14, 0, 7, 0) := by decide +kernel
theorem jo_126_17 : jb_op 126 17 = some (.iload_n 1, 99, 0, 0) := by decide +kernel
theorem jo_126_18 : jb_op 126 18 = some (.invokevirtual 59, 2, 62, 1) := by decide +kernel
theorem jh_62_126 : jb_ht 62 < jb_ht 126 := by decide +kernel
theorem jo_126_21 : jb_op 126 21 = some (.aload_n 0, 99, 0, 0) := by decide +kernel
theorem jo_126_22 : jb_op 126 22 = some (.getfield 20, 0, 7, 1) := by decide +kernel
theorem jo_126_25 : jb_op 126 25 = some (.iload_n 1, 99, 0, 0) := by decide +kernel
theorem jo_126_26 : jb_op 126 26 = some (.invokevirtual 59, 2, 62, 1) := by decide +kernel
theorem jo_126_29 : jb_op 126 29 = some (.aload_n 0, 99, 0, 0) := by decide +kernel
theorem jo_126_30 : jb_op 126 30 = some (.getfield 14, 0, 7, 0) := by decide +kernel
theorem jo_126_33 : jb_op 126 33 = some (.invokevirtual 44, 2, 12, 0) := by decide +kernel
theorem jh_12_126 : jb_ht 12 < jb_ht 126 := by decide +kernel
theorem jo_126_36 : jb_op 126 36 = some (.ireturn, 99, 0, 0) := by decide +kernel
theorem jl_126 : jb_ml 126 = 2 := by decide +kernel
theorem jo_127_0 : jb_op 127 0 = some (.iconst 0, 99, 0, 0) := by decide +kernel
theorem jo_127_1 : jb_op 127 1 = some (.istore_n 2, 99, 0, 0) := by decide +kernel
theorem jo_127_2 : jb_op 127 2 = some (.iload_n 2, 99, 0, 0) := by decide +kernel
theorem jo_127_3 : jb_op 127 3 = some (.aload_n 1, 99, 0, 0) := by decide +kernel
theorem jo_127_4 : jb_op 127 4 = some (.invokevirtual 54, 2, 12, 0) := by decide +kernel
theorem jh_12_127 : jb_ht 12 < jb_ht 127 := by decide +kernel
theorem jo_127_7 : jb_op 127 7 = some (.if_icmp .ge (23), 99, 0, 0) := by decide +kernel
theorem jo_127_30 : jb_op 127 30 = some (.iconst 0, 99, 0, 0) := by decide +kernel
theorem jo_127_31 : jb_op 127 31 = some (.ireturn, 99, 0, 0) := by decide +kernel
theorem jr_127 : jb_ret 127 = (some .boolean) := by decide +kernel
theorem jo_127_10 : jb_op 127 10 = some (.aload_n 0, 99, 0, 0) := by decide +kernel
theorem jo_127_11 : jb_op 127 11 = some (.aload_n 1, 99, 0, 0) := by decide +kernel
theorem jo_127_12 : jb_op 127 12 = some (.iload_n 2, 99, 0, 0) := by decide +kernel
theorem jo_127_13 : jb_op 127 13 = some (.invokevirtual 41, 2, 6, 1) := by decide +kernel
theorem jh_6_127 : jb_ht 6 < jb_ht 127 := by decide +kernel
theorem jo_127_16 : jb_op 127 16 = some (.invokevirtual 58, 2, 65, 1) := by decide +kernel
theorem jh_65_127 : jb_ht 65 < jb_ht 127 := by decide +kernel
theorem jw_65 : jb_ow 65 = 0 := by decide +kernel
theorem jo_127_19 : jb_op 127 19 = some (.ifCond .eq (5), 99, 0, 0) := by decide +kernel
theorem jo_127_24 : jb_op 127 24 = some (.iinc 2 1, 99, 0, 0) := by decide +kernel
theorem jo_127_27 : jb_op 127 27 = some (.goto (-25), 99, 0, 0) := by decide +kernel
theorem jo_127_22 : jb_op 127 22 = some (.iconst 1, 99, 0, 0) := by decide +kernel
theorem jo_127_23 : jb_op 127 23 = some (.ireturn, 99, 0, 0) := by decide +kernel
theorem jl_127 : jb_ml 127 = 3 := by decide +kernel
theorem jo_128_0 : jb_op 128 0 = some (.aload_n 0, 99, 0, 0) := by decide +kernel
theorem jo_128_1 : jb_op 128 1 = some (.getfield 14, 0, 4, 0) := by decide +kernel
theorem jo_128_4 : jb_op 128 4 = some (.iconst 0, 99, 0, 0) := by decide +kernel
theorem jo_128_5 : jb_op 128 5 = some (.invokevirtual 35, 2, 66, 1) := by decide +kernel
theorem jh_66_128 : jb_ht 66 < jb_ht 128 := by decide +kernel
theorem jw_66 : jb_ow 66 = 6 := by decide +kernel
theorem jo_128_8 : jb_op 128 8 = some (.aload_n 0, 99, 0, 0) := by decide +kernel
theorem jo_128_9 : jb_op 128 9 = some (.getfield 20, 0, 4, 1) := by decide +kernel
theorem jo_128_12 : jb_op 128 12 = some (.invokevirtual 38, 2, 12, 0) := by decide +kernel
theorem jh_12_128 : jb_ht 12 < jb_ht 128 := by decide +kernel
theorem jo_128_15 : jb_op 128 15 = some (.iconst 1, 99, 0, 0) := by decide +kernel
theorem jo_128_16 : jb_op 128 16 = some (.isub, 99, 0, 0) := by decide +kernel
theorem jo_128_17 : jb_op 128 17 = some (.istore_n 1, 99, 0, 0) := by decide +kernel
theorem jo_128_18 : jb_op 128 18 = some (.iload_n 1, 99, 0, 0) := by decide +kernel
theorem jo_128_19 : jb_op 128 19 = some (.bipush 12, 99, 0, 0) := by decide +kernel
theorem jo_128_21 : jb_op 128 21 = some (.if_icmp .lt (28), 99, 0, 0) := by decide +kernel
theorem jo_128_49 : jb_op 128 49 = some (.return_, 99, 0, 0) := by decide +kernel
theorem jr_128 : jb_ret 128 = none := by decide +kernel
theorem jo_128_24 : jb_op 128 24 = some (.aload_n 0, 99, 0, 0) := by decide +kernel
theorem jo_128_25 : jb_op 128 25 = some (.getfield 20, 0, 4, 1) := by decide +kernel
theorem jo_128_28 : jb_op 128 28 = some (.iload_n 1, 99, 0, 0) := by decide +kernel
theorem jo_128_29 : jb_op 128 29 = some (.aload_n 0, 99, 0, 0) := by decide +kernel
theorem jo_128_30 : jb_op 128 30 = some (.getfield 20, 0, 4, 1) := by decide +kernel
theorem jo_128_33 : jb_op 128 33 = some (.iload_n 1, 99, 0, 0) := by decide +kernel
theorem jo_128_34 : jb_op 128 34 = some (.bipush 12, 99, 0, 0) := by decide +kernel
theorem jo_128_36 : jb_op 128 36 = some (.isub, 99, 0, 0) := by decide +kernel
theorem jo_128_37 : jb_op 128 37 = some (.invokevirtual 42, 2, 6, 1) := by decide +kernel
theorem jh_6_128 : jb_ht 6 < jb_ht 128 := by decide +kernel
theorem jo_128_40 : jb_op 128 40 = some (.invokevirtual 46, 2, 8, 2) := by decide +kernel
theorem jh_8_128 : jb_ht 8 < jb_ht 128 := by decide +kernel
theorem jo_128_43 : jb_op 128 43 = some (.iinc 1 (-1), 99, 0, 0) := by decide +kernel
theorem jo_128_46 : jb_op 128 46 = some (.goto (-28), 99, 0, 0) := by decide +kernel
theorem jl_128 : jb_ml 128 = 2 := by decide +kernel
theorem jo_129_0 : jb_op 129 0 = some (.aload_n 0, 99, 0, 0) := by decide +kernel
theorem jo_129_1 : jb_op 129 1 = some (.iload_n 1, 99, 0, 0) := by decide +kernel
theorem jo_129_2 : jb_op 129 2 = some (.invokevirtual 58, 2, 65, 1) := by decide +kernel
theorem jh_65_129 : jb_ht 65 < jb_ht 129 := by decide +kernel
theorem jo_129_5 : jb_op 129 5 = some (.ifCond .ne (5), 99, 0, 0) := by decide +kernel
theorem jo_129_8 : jb_op 129 8 = some (.iconst 5, 99, 0, 0) := by decide +kernel
theorem jo_129_9 : jb_op 129 9 = some (.ireturn, 99, 0, 0) := by decide +kernel
theorem jr_129 : jb_ret 129 = (some .int) := by decide +kernel
theorem jo_129_10 : jb_op 129 10 = some (.aload_n 0, 99, 0, 0) := by decide +kernel
theorem jo_129_11 : jb_op 129 11 = some (.getfield 20, 0, 0, 1) := by decide +kernel
theorem jo_129_14 : jb_op 129 14 = some (.iload_n 1, 99, 0, 0) := by decide +kernel
theorem jo_129_15 : jb_op 129 15 = some (.aload_n 0, 99, 0, 0) := by decide +kernel
theorem jo_129_16 : jb_op 129 16 = some (.getfield 20, 0, 0, 1) := by decide +kernel
theorem jo_129_19 : jb_op 129 19 = some (.iload_n 1, 99, 0, 0) := by decide +kernel
theorem jo_129_20 : jb_op 129 20 = some (.invokevirtual 41, 2, 6, 1) := by decide +kernel
theorem jh_6_129 : jb_ht 6 < jb_ht 129 := by decide +kernel
theorem jo_129_23 : jb_op 129 23 = some (.iconst 1, 99, 0, 0) := by decide +kernel
theorem jo_129_24 : jb_op 129 24 = some (.iadd, 99, 0, 0) := by decide +kernel
theorem jo_129_25 : jb_op 129 25 = some (.invokevirtual 51, 2, 8, 2) := by decide +kernel
theorem jh_8_129 : jb_ht 8 < jb_ht 129 := by decide +kernel
theorem jo_129_28 : jb_op 129 28 = some (.aload_n 0, 99, 0, 0) := by decide +kernel
theorem jo_129_29 : jb_op 129 29 = some (.getfield 23, 0, 0, 2) := by decide +kernel
theorem jf_2_2 : jm_f 2 2 = some (some 7) := by decide +kernel
theorem jo_129_32 : jb_op 129 32 = some (.iload_n 1, 99, 0, 0) := by decide +kernel
theorem jo_129_33 : jb_op 129 33 = some (.aload_n 0, 99, 0, 0) := by decide +kernel
theorem jo_129_34 : jb_op 129 34 = some (.getfield 23, 0, 0, 2) := by decide +kernel
theorem jo_129_37 : jb_op 129 37 = some (.iload_n 1, 99, 0, 0) := by decide +kernel
theorem jo_129_38 : jb_op 129 38 = some (.invokevirtual 41, 2, 6, 1) := by decide +kernel
theorem jc_7 : jm_c 7 = 6 := by decide +kernel
theorem jo_129_41 : jb_op 129 41 = some (.iconst 1, 99, 0, 0) := by decide +kernel
theorem jo_129_42 : jb_op 129 42 = some (.iadd, 99, 0, 0) := by decide +kernel
theorem jo_129_43 : jb_op 129 43 = some (.invokevirtual 51, 2, 8, 2) := by decide +kernel
theorem jo_129_46 : jb_op 129 46 = some (.iload_n 1, 99, 0, 0) := by decide +kernel
theorem jo_129_47 : jb_op 129 47 = some (.ireturn, 99, 0, 0) := by decide +kernel
theorem jl_129 : jb_ml 129 = 2 := by decide +kernel
theorem jo_130_0 : jb_op 130 0 = some (.iconst 0, 99, 0, 0) := by decide +kernel
theorem jo_130_1 : jb_op 130 1 = some (.istore_n 2, 99, 0, 0) := by decide +kernel
theorem jo_130_2 : jb_op 130 2 = some (.iconst 0, 99, 0, 0) := by decide +kernel
theorem jo_130_3 : jb_op 130 3 = some (.istore_n 3, 99, 0, 0) := by decide +kernel
theorem jo_130_4 : jb_op 130 4 = some (.iload_n 3, 99, 0, 0) := by decide +kernel
theorem jo_130_5 : jb_op 130 5 = some (.aload_n 0, 99, 0, 0) := by decide +kernel
theorem jo_130_6 : jb_op 130 6 = some (.getfield 10, 0, 10, 0) := by decide +kernel
theorem jf_0_0 : jm_f 0 0 = some (some 1) := by decide +kernel
theorem jo_130_9 : jb_op 130 9 = some (.getfield 140, 1, 9, 2) := by decide +kernel
theorem jc_1 : jm_c 1 = 9 := by decide +kernel
theorem jf_1_2 : jm_f 1 2 = some (some 16) := by decide +kernel
theorem jo_130_12 : jb_op 130 12 = some (.getfield 189, 1, 7, 0) := by decide +kernel
theorem jo_130_15 : jb_op 130 15 = some (.invokevirtual 120, 2, 12, 0) := by decide +kernel
theorem jh_12_130 : jb_ht 12 < jb_ht 130 := by decide +kernel
theorem jo_130_18 : jb_op 130 18 = some (.if_icmp .ge (63), 99, 0, 0) := by decide +kernel
theorem jo_130_81 : jb_op 130 81 = some (.iload_n 2, 99, 0, 0) := by decide +kernel
theorem jo_130_82 : jb_op 130 82 = some (.ireturn, 99, 0, 0) := by decide +kernel
theorem jr_130 : jb_ret 130 = (some .int) := by decide +kernel
theorem jo_130_21 : jb_op 130 21 = some (.aload_n 0, 99, 0, 0) := by decide +kernel
theorem jo_130_22 : jb_op 130 22 = some (.getfield 10, 0, 10, 0) := by decide +kernel
theorem jo_130_25 : jb_op 130 25 = some (.getfield 140, 1, 9, 2) := by decide +kernel
theorem jo_130_28 : jb_op 130 28 = some (.getfield 189, 1, 7, 0) := by decide +kernel
theorem jo_130_31 : jb_op 130 31 = some (.iload_n 3, 99, 0, 0) := by decide +kernel
theorem jo_130_32 : jb_op 130 32 = some (.invokevirtual 164, 2, 6, 1) := by decide +kernel
theorem jh_6_130 : jb_ht 6 < jb_ht 130 := by decide +kernel
theorem jo_130_35 : jb_op 130 35 = some (.istore 4, 99, 0, 0) := by decide +kernel
theorem jo_130_37 : jb_op 130 37 = some (.aload_n 0, 99, 0, 0) := by decide +kernel
theorem jo_130_38 : jb_op 130 38 = some (.getfield 10, 0, 10, 0) := by decide +kernel
theorem jo_130_41 : jb_op 130 41 = some (.getfield 140, 1, 9, 2) := by decide +kernel
theorem jo_130_44 : jb_op 130 44 = some (.getfield 190, 1, 7, 1) := by decide +kernel
theorem jo_130_47 : jb_op 130 47 = some (.iload_n 3, 99, 0, 0) := by decide +kernel
theorem jo_130_48 : jb_op 130 48 = some (.invokevirtual 164, 2, 6, 1) := by decide +kernel
theorem jo_130_51 : jb_op 130 51 = some (.istore 5, 99, 0, 0) := by decide +kernel
theorem jo_130_53 : jb_op 130 53 = some (.aload_n 0, 99, 0, 0) := by decide +kernel
theorem jo_130_54 : jb_op 130 54 = some (.getfield 10, 0, 10, 0) := by decide +kernel
theorem jo_130_57 : jb_op 130 57 = some (.getfield 92, 1, 9, 0) := by decide +kernel
theorem jf_1_0 : jm_f 1 0 = some (some 2) := by decide +kernel
theorem jo_130_60 : jb_op 130 60 = some (.iload_n 1, 99, 0, 0) := by decide +kernel
theorem jo_130_61 : jb_op 130 61 = some (.iload 4, 99, 0, 0) := by decide +kernel
theorem jo_130_63 : jb_op 130 63 = some (.iload 5, 99, 0, 0) := by decide +kernel
theorem jo_130_65 : jb_op 130 65 = some (.invokevirtual 226, 2, 68, 3) := by decide +kernel
theorem jh_68_130 : jb_ht 68 < jb_ht 130 := by decide +kernel
theorem jw_68 : jb_ow 68 = 0 := by decide +kernel
theorem jo_130_68 : jb_op 130 68 = some (.iload_n 1, 99, 0, 0) := by decide +kernel
theorem jo_130_69 : jb_op 130 69 = some (.if_icmp .ne (6), 99, 0, 0) := by decide +kernel
theorem jo_130_72 : jb_op 130 72 = some (.iinc 2 1, 99, 0, 0) := by decide +kernel
theorem jo_130_75 : jb_op 130 75 = some (.iinc 3 1, 99, 0, 0) := by decide +kernel
theorem jo_130_78 : jb_op 130 78 = some (.goto (-74), 99, 0, 0) := by decide +kernel
theorem jl_130 : jb_ml 130 = 6 := by decide +kernel
theorem jo_131_0 : jb_op 131 0 = some (.iconst 0, 99, 0, 0) := by decide +kernel
theorem jo_131_1 : jb_op 131 1 = some (.istore_n 3, 99, 0, 0) := by decide +kernel
theorem jo_131_2 : jb_op 131 2 = some (.iconst 0, 99, 0, 0) := by decide +kernel
theorem jo_131_3 : jb_op 131 3 = some (.istore 4, 99, 0, 0) := by decide +kernel
theorem jo_131_5 : jb_op 131 5 = some (.iload 4, 99, 0, 0) := by decide +kernel
theorem jo_131_7 : jb_op 131 7 = some (.aload_n 0, 99, 0, 0) := by decide +kernel
theorem jo_131_8 : jb_op 131 8 = some (.getfield 20, 0, 1, 1) := by decide +kernel
theorem jo_131_11 : jb_op 131 11 = some (.iload_n 1, 99, 0, 0) := by decide +kernel
theorem jo_131_12 : jb_op 131 12 = some (.invokevirtual 40, 2, 6, 1) := by decide +kernel
theorem jh_6_131 : jb_ht 6 < jb_ht 131 := by decide +kernel
theorem jo_131_15 : jb_op 131 15 = some (.if_icmp .ge (23), 99, 0, 0) := by decide +kernel
theorem jo_131_38 : jb_op 131 38 = some (.iload_n 3, 99, 0, 0) := by decide +kernel
theorem jo_131_39 : jb_op 131 39 = some (.ireturn, 99, 0, 0) := by decide +kernel
theorem jr_131 : jb_ret 131 = (some .int) := by decide +kernel
theorem jo_131_18 : jb_op 131 18 = some (.aload_n 0, 99, 0, 0) := by decide +kernel
theorem jo_131_19 : jb_op 131 19 = some (.iload_n 1, 99, 0, 0) := by decide +kernel
theorem jo_131_20 : jb_op 131 20 = some (.iload 4, 99, 0, 0) := by decide +kernel
theorem jo_131_22 : jb_op 131 22 = some (.invokevirtual 68, 2, 69, 2) := by decide +kernel
theorem jh_69_131 : jb_ht 69 < jb_ht 131 := by decide +kernel
theorem jw_69 : jb_ow 69 = 1 := by decide +kernel
theorem jo_131_25 : jb_op 131 25 = some (.iload_n 2, 99, 0, 0) := by decide +kernel
theorem jo_131_26 : jb_op 131 26 = some (.if_icmp .ne (6), 99, 0, 0) := by decide +kernel
theorem jo_131_29 : jb_op 131 29 = some (.iinc 3 1, 99, 0, 0) := by decide +kernel
theorem jo_131_32 : jb_op 131 32 = some (.iinc 4 1, 99, 0, 0) := by decide +kernel
theorem jo_131_35 : jb_op 131 35 = some (.goto (-30), 99, 0, 0) := by decide +kernel
theorem jl_131 : jb_ml 131 = 5 := by decide +kernel
theorem jo_132_0 : jb_op 132 0 = some (.aload_n 0, 99, 0, 0) := by decide +kernel
theorem jo_132_1 : jb_op 132 1 = some (.getfield 10, 0, 10, 0) := by decide +kernel
theorem jo_132_4 : jb_op 132 4 = some (.getfield 140, 1, 9, 2) := by decide +kernel
theorem jo_132_7 : jb_op 132 7 = some (.getfield 189, 1, 7, 0) := by decide +kernel
theorem jo_132_10 : jb_op 132 10 = some (.iload_n 1, 99, 0, 0) := by decide +kernel
theorem jo_132_11 : jb_op 132 11 = some (.invokevirtual 164, 2, 6, 1) := by decide +kernel
theorem jh_6_132 : jb_ht 6 < jb_ht 132 := by decide +kernel
theorem jo_132_14 : jb_op 132 14 = some (.istore_n 2, 99, 0, 0) := by decide +kernel
theorem jo_132_15 : jb_op 132 15 = some (.aload_n 0, 99, 0, 0) := by decide +kernel
theorem jo_132_16 : jb_op 132 16 = some (.getfield 10, 0, 10, 0) := by decide +kernel
theorem jo_132_19 : jb_op 132 19 = some (.getfield 140, 1, 9, 2) := by decide +kernel
theorem jo_132_22 : jb_op 132 22 = some (.getfield 190, 1, 7, 1) := by decide +kernel
theorem jo_132_25 : jb_op 132 25 = some (.iload_n 1, 99, 0, 0) := by decide +kernel
theorem jo_132_26 : jb_op 132 26 = some (.invokevirtual 164, 2, 6, 1) := by decide +kernel
theorem jo_132_29 : jb_op 132 29 = some (.istore_n 3, 99, 0, 0) := by decide +kernel
theorem jo_132_30 : jb_op 132 30 = some (.iconst 0, 99, 0, 0) := by decide +kernel
theorem jo_132_31 : jb_op 132 31 = some (.istore 4, 99, 0, 0) := by decide +kernel
theorem jo_132_33 : jb_op 132 33 = some (.iconst 0, 99, 0, 0) := by decide +kernel
theorem jo_132_34 : jb_op 132 34 = some (.istore 5, 99, 0, 0) := by decide +kernel
theorem jo_132_36 : jb_op 132 36 = some (.iload 5, 99, 0, 0) := by decide +kernel
theorem jo_132_38 : jb_op 132 38 = some (.iconst 5, 99, 0, 0) := by decide +kernel
theorem jo_132_39 : jb_op 132 39 = some (.if_icmp .ge (31), 99, 0, 0) := by decide +kernel
theorem jo_132_70 : jb_op 132 70 = some (.iload 4, 99, 0, 0) := by decide +kernel
theorem jo_132_72 : jb_op 132 72 = some (.ireturn, 99, 0, 0) := by decide +kernel
theorem jr_132 : jb_ret 132 = (some .int) := by decide +kernel
theorem jo_132_42 : jb_op 132 42 = some (.aload_n 0, 99, 0, 0) := by decide +kernel
theorem jo_132_43 : jb_op 132 43 = some (.getfield 10, 0, 10, 0) := by decide +kernel
theorem jo_132_46 : jb_op 132 46 = some (.getfield 92, 1, 9, 0) := by decide +kernel
theorem jo_132_49 : jb_op 132 49 = some (.iload 5, 99, 0, 0) := by decide +kernel
theorem jo_132_51 : jb_op 132 51 = some (.iload_n 2, 99, 0, 0) := by decide +kernel
theorem jo_132_52 : jb_op 132 52 = some (.iload_n 3, 99, 0, 0) := by decide +kernel
theorem jo_132_53 : jb_op 132 53 = some (.invokevirtual 226, 2, 68, 3) := by decide +kernel
theorem jh_68_132 : jb_ht 68 < jb_ht 132 := by decide +kernel
theorem jo_132_56 : jb_op 132 56 = some (.iload 5, 99, 0, 0) := by decide +kernel
theorem jo_132_58 : jb_op 132 58 = some (.if_icmp .ne (6), 99, 0, 0) := by decide +kernel
theorem jo_132_61 : jb_op 132 61 = some (.iinc 4 1, 99, 0, 0) := by decide +kernel
theorem jo_132_64 : jb_op 132 64 = some (.iinc 5 1, 99, 0, 0) := by decide +kernel
theorem jo_132_67 : jb_op 132 67 = some (.goto (-31), 99, 0, 0) := by decide +kernel
theorem jl_132 : jb_ml 132 = 6 := by decide +kernel
theorem jo_133_0 : jb_op 133 0 = some (.aload_n 2, 99, 0, 0) := by decide +kernel
theorem jo_133_1 : jb_op 133 1 = some (.invokevirtual 49, 2, 13, 0) := by decide +kernel
theorem jh_13_133 : jb_ht 13 < jb_ht 133 := by decide +kernel
theorem jw_13 : jb_ow 13 = 6 := by decide +kernel
theorem jo_133_4 : jb_op 133 4 = some (.iconst 0, 99, 0, 0) := by decide +kernel
theorem jo_133_5 : jb_op 133 5 = some (.istore_n 3, 99, 0, 0) := by decide +kernel
theorem jo_133_6 : jb_op 133 6 = some (.iload_n 3, 99, 0, 0) := by decide +kernel
theorem jo_133_7 : jb_op 133 7 = some (.aload_n 0, 99, 0, 0) := by decide +kernel
theorem jo_133_8 : jb_op 133 8 = some (.getfield 14, 0, 4, 0) := by decide +kernel
theorem jo_133_11 : jb_op 133 11 = some (.iload_n 1, 99, 0, 0) := by decide +kernel
theorem jo_133_12 : jb_op 133 12 = some (.invokevirtual 42, 2, 6, 1) := by decide +kernel
theorem jh_6_133 : jb_ht 6 < jb_ht 133 := by decide +kernel
theorem jo_133_15 : jb_op 133 15 = some (.if_icmp .ge (19), 99, 0, 0) := by decide +kernel
theorem jo_133_34 : jb_op 133 34 = some (.return_, 99, 0, 0) := by decide +kernel
theorem jr_133 : jb_ret 133 = none := by decide +kernel
theorem jo_133_18 : jb_op 133 18 = some (.aload_n 2, 99, 0, 0) := by decide +kernel
theorem jo_133_19 : jb_op 133 19 = some (.aload_n 0, 99, 0, 0) := by decide +kernel
theorem jo_133_20 : jb_op 133 20 = some (.iload_n 1, 99, 0, 0) := by decide +kernel
theorem jo_133_21 : jb_op 133 21 = some (.iload_n 3, 99, 0, 0) := by decide +kernel
theorem jo_133_22 : jb_op 133 22 = some (.invokevirtual 52, 2, 70, 2) := by decide +kernel
theorem jh_70_133 : jb_ht 70 < jb_ht 133 := by decide +kernel
theorem jw_70 : jb_ow 70 = 4 := by decide +kernel
theorem jo_133_25 : jb_op 133 25 = some (.invokevirtual 56, 2, 1, 1) := by decide +kernel
theorem jh_1_133 : jb_ht 1 < jb_ht 133 := by decide +kernel
theorem jo_133_28 : jb_op 133 28 = some (.iinc 3 1, 99, 0, 0) := by decide +kernel
theorem jo_133_31 : jb_op 133 31 = some (.goto (-25), 99, 0, 0) := by decide +kernel
theorem jl_133 : jb_ml 133 = 4 := by decide +kernel
theorem jo_134_0 : jb_op 134 0 = some (.aload_n 2, 99, 0, 0) := by decide +kernel
theorem jo_134_1 : jb_op 134 1 = some (.invokevirtual 24, 2, 12, 0) := by decide +kernel
theorem jh_12_134 : jb_ht 12 < jb_ht 134 := by decide +kernel
theorem jo_134_4 : jb_op 134 4 = some (.istore_n 3, 99, 0, 0) := by decide +kernel
theorem jo_134_5 : jb_op 134 5 = some (.aload_n 2, 99, 0, 0) := by decide +kernel
theorem jo_134_6 : jb_op 134 6 = some (.invokestatic 28, 4, 71, 1) := by decide +kernel
theorem jh_71_134 : jb_ht 71 < jb_ht 134 := by decide +kernel
theorem jo_134_9 : jb_op 134 9 = some (.ifCond .eq (5), 99, 0, 0) := by decide +kernel
theorem jo_134_14 : jb_op 134 14 = some (.aload_n 0, 99, 0, 0) := by decide +kernel
theorem jo_134_15 : jb_op 134 15 = some (.getfield 16, 0, 3, 0) := by decide +kernel
theorem jo_134_18 : jb_op 134 18 = some (.iload_n 3, 99, 0, 0) := by decide +kernel
theorem jo_134_19 : jb_op 134 19 = some (.iconst 1, 99, 0, 0) := by decide +kernel
theorem jo_134_20 : jb_op 134 20 = some (.iadd, 99, 0, 0) := by decide +kernel
theorem jo_134_21 : jb_op 134 21 = some (.iconst 3, 99, 0, 0) := by decide +kernel
theorem jo_134_22 : jb_op 134 22 = some (.imul, 99, 0, 0) := by decide +kernel
theorem jo_134_23 : jb_op 134 23 = some (.iconst 0, 99, 0, 0) := by decide +kernel
theorem jo_134_24 : jb_op 134 24 = some (.invokevirtual 32, 2, 48, 2) := by decide +kernel
theorem jh_48_134 : jb_ht 48 < jb_ht 134 := by decide +kernel
theorem jw_48 : jb_ow 48 = 6 := by decide +kernel
theorem jo_134_12 : jb_op 134 12 = some (.iconst 0, 99, 0, 0) := by decide +kernel
theorem jo_134_13 : jb_op 134 13 = some (.ireturn, 99, 0, 0) := by decide +kernel
theorem jr_134 : jb_ret 134 = (some .int) := by decide +kernel
theorem jo_134_27 : jb_op 134 27 = some (.aload_n 0, 99, 0, 0) := by decide +kernel
theorem jo_134_28 : jb_op 134 28 = some (.getfield 16, 0, 3, 0) := by decide +kernel
theorem jo_134_31 : jb_op 134 31 = some (.iload_n 3, 99, 0, 0) := by decide +kernel
theorem jo_134_32 : jb_op 134 32 = some (.iconst 2, 99, 0, 0) := by decide +kernel
theorem jo_134_33 : jb_op 134 33 = some (.invokestatic 36, 4, 15, 2) := by decide +kernel
theorem jh_15_134 : jb_ht 15 < jb_ht 134 := by decide +kernel
theorem jo_134_36 : jb_op 134 36 = some (.iconst 1, 99, 0, 0) := by decide +kernel
theorem jo_134_37 : jb_op 134 37 = some (.invokevirtual 40, 2, 8, 2) := by decide +kernel
theorem jh_8_134 : jb_ht 8 < jb_ht 134 := by decide +kernel
theorem jo_134_40 : jb_op 134 40 = some (.iload_n 3, 99, 0, 0) := by decide +kernel
theorem jo_134_41 : jb_op 134 41 = some (.iconst 1, 99, 0, 0) := by decide +kernel
theorem jo_134_42 : jb_op 134 42 = some (.isub, 99, 0, 0) := by decide +kernel
theorem jo_134_43 : jb_op 134 43 = some (.istore 4, 99, 0, 0) := by decide +kernel
theorem jo_134_45 : jb_op 134 45 = some (.iload 4, 99, 0, 0) := by decide +kernel
theorem jo_134_47 : jb_op 134 47 = some (.ifCond .lt (102), 99, 0, 0) := by decide +kernel
theorem jo_134_149 : jb_op 134 149 = some (.aload_n 0, 99, 0, 0) := by decide +kernel
theorem jo_134_150 : jb_op 134 150 = some (.getfield 16, 0, 3, 0) := by decide +kernel
theorem jo_134_153 : jb_op 134 153 = some (.iconst 0, 99, 0, 0) := by decide +kernel
theorem jo_134_154 : jb_op 134 154 = some (.iconst 0, 99, 0, 0) := by decide +kernel
theorem jo_134_155 : jb_op 134 155 = some (.invokestatic 36, 4, 15, 2) := by decide +kernel
theorem jo_134_50 : jb_op 134 50 = some (.aload_n 2, 99, 0, 0) := by decide +kernel
theorem jo_134_51 : jb_op 134 51 = some (.iload 4, 99, 0, 0) := by decide +kernel
theorem jo_134_53 : jb_op 134 53 = some (.invokevirtual 43, 2, 6, 1) := by decide +kernel
theorem jh_6_134 : jb_ht 6 < jb_ht 134 := by decide +kernel
theorem jo_134_56 : jb_op 134 56 = some (.iconst 5, 99, 0, 0) := by decide +kernel
theorem jo_134_57 : jb_op 134 57 = some (.if_icmp .ne (16), 99, 0, 0) := by decide +kernel
theorem jo_134_60 : jb_op 134 60 = some (.aload_n 0, 99, 0, 0) := by decide +kernel
theorem jo_134_61 : jb_op 134 61 = some (.iload 4, 99, 0, 0) := by decide +kernel
theorem jo_134_63 : jb_op 134 63 = some (.iconst 1, 99, 0, 0) := by decide +kernel
theorem jo_134_64 : jb_op 134 64 = some (.iadd, 99, 0, 0) := by decide +kernel
theorem jo_134_65 : jb_op 134 65 = some (.iload 4, 99, 0, 0) := by decide +kernel
theorem jo_134_67 : jb_op 134 67 = some (.invokevirtual 47, 2, 72, 2) := by decide +kernel
theorem jh_72_134 : jb_ht 72 < jb_ht 134 := by decide +kernel
theorem jw_72 : jb_ow 72 = 3 := by decide +kernel
theorem jo_134_73 : jb_op 134 73 = some (.iconst 0, 99, 0, 0) := by decide +kernel
theorem jo_134_74 : jb_op 134 74 = some (.istore 5, 99, 0, 0) := by decide +kernel
theorem jo_134_76 : jb_op 134 76 = some (.iload 5, 99, 0, 0) := by decide +kernel
theorem jo_134_78 : jb_op 134 78 = some (.aload_n 1, 99, 0, 0) := by decide +kernel
theorem jo_134_79 : jb_op 134 79 = some (.getfield 50, 1, 1, 0) := by decide +kernel
theorem jo_134_82 : jb_op 134 82 = some (.invokevirtual 24, 2, 12, 0) := by decide +kernel
theorem jo_134_85 : jb_op 134 85 = some (.if_icmp .ge (58), 99, 0, 0) := by decide +kernel
theorem jo_134_143 : jb_op 134 143 = some (.iinc 4 (-1), 99, 0, 0) := by decide +kernel
theorem jo_134_146 : jb_op 134 146 = some (.goto (-101), 99, 0, 0) := by decide +kernel
theorem jo_134_88 : jb_op 134 88 = some (.aload_n 1, 99, 0, 0) := by decide +kernel
theorem jo_134_89 : jb_op 134 89 = some (.iload 5, 99, 0, 0) := by decide +kernel
theorem jo_134_91 : jb_op 134 91 = some (.aload_n 2, 99, 0, 0) := by decide +kernel
theorem jo_134_92 : jb_op 134 92 = some (.iload 4, 99, 0, 0) := by decide +kernel
theorem jo_134_94 : jb_op 134 94 = some (.invokevirtual 55, 2, 73, 3) := by decide +kernel
theorem jh_73_134 : jb_ht 73 < jb_ht 134 := by decide +kernel
theorem jw_73 : jb_ow 73 = 1 := by decide +kernel
theorem jo_134_97 : jb_op 134 97 = some (.ifCond .eq (40), 99, 0, 0) := by decide +kernel
theorem jo_134_100 : jb_op 134 100 = some (.iload 4, 99, 0, 0) := by decide +kernel
theorem jo_134_102 : jb_op 134 102 = some (.aload_n 1, 99, 0, 0) := by decide +kernel
theorem jo_134_103 : jb_op 134 103 = some (.getfield 50, 1, 1, 0) := by decide +kernel
theorem jo_134_106 : jb_op 134 106 = some (.iload 5, 99, 0, 0) := by decide +kernel
theorem jo_134_108 : jb_op 134 108 = some (.invokevirtual 43, 2, 6, 1) := by decide +kernel
theorem jo_134_111 : jb_op 134 111 = some (.invokestatic 36, 4, 15, 2) := by decide +kernel
theorem jo_134_114 : jb_op 134 114 = some (.istore 6, 99, 0, 0) := by decide +kernel
theorem jo_134_116 : jb_op 134 116 = some (.aload_n 0, 99, 0, 0) := by decide +kernel
theorem jo_134_117 : jb_op 134 117 = some (.getfield 16, 0, 3, 0) := by decide +kernel
theorem jo_134_120 : jb_op 134 120 = some (.iload 6, 99, 0, 0) := by decide +kernel
theorem jo_134_122 : jb_op 134 122 = some (.aload_n 0, 99, 0, 0) := by decide +kernel
theorem jo_134_123 : jb_op 134 123 = some (.aload_n 1, 99, 0, 0) := by decide +kernel
theorem jo_134_124 : jb_op 134 124 = some (.iload 5, 99, 0, 0) := by decide +kernel
theorem jo_134_126 : jb_op 134 126 = some (.iload 4, 99, 0, 0) := by decide +kernel
theorem jo_134_128 : jb_op 134 128 = some (.invokevirtual 69, 2, 74, 3) := by decide +kernel
theorem jh_74_134 : jb_ht 74 < jb_ht 134 := by decide +kernel
theorem jw_74 : jb_ow 74 = 3 := by decide +kernel
theorem jo_134_131 : jb_op 134 131 = some (.sipush 9999, 99, 0, 0) := by decide +kernel
theorem jo_134_134 : jb_op 134 134 = some (.invokevirtual 65, 2, 16, 3) := by decide +kernel
theorem jh_16_134 : jb_ht 16 < jb_ht 134 := by decide +kernel
theorem jo_134_137 : jb_op 134 137 = some (.iinc 5 1, 99, 0, 0) := by decide +kernel
theorem jo_134_140 : jb_op 134 140 = some (.goto (-64), 99, 0, 0) := by decide +kernel
theorem jo_134_70 : jb_op 134 70 = some (.goto 73, 99, 0, 0) := by decide +kernel
theorem jo_134_158 : jb_op 134 158 = some (.invokevirtual 43, 2, 6, 1) := by decide +kernel
theorem jo_134_161 : jb_op 134 161 = some (.ireturn, 99, 0, 0) := by decide +kernel
theorem jl_134 : jb_ml 134 = 7 := by decide +kernel
theorem jo_135_0 : jb_op 135 0 = some (.iconst 0, 99, 0, 0) := by decide +kernel
theorem jo_135_1 : jb_op 135 1 = some (.istore 5, 99, 0, 0) := by decide +kernel
theorem jo_135_3 : jb_op 135 3 = some (.iload 5, 99, 0, 0) := by decide +kernel
theorem jo_135_5 : jb_op 135 5 = some (.aload_n 1, 99, 0, 0) := by decide +kernel
theorem jo_135_6 : jb_op 135 6 = some (.getfield 50, 1, 1, 0) := by decide +kernel
theorem jo_135_9 : jb_op 135 9 = some (.invokevirtual 24, 2, 12, 0) := by decide +kernel
theorem jh_12_135 : jb_ht 12 < jb_ht 135 := by decide +kernel
theorem jo_135_12 : jb_op 135 12 = some (.if_icmp .ge (60), 99, 0, 0) := by decide +kernel
theorem jo_135_72 : jb_op 135 72 = some (.iconst (-1), 99, 0, 0) := by decide +kernel
theorem jo_135_73 : jb_op 135 73 = some (.ireturn, 99, 0, 0) := by decide +kernel
theorem jr_135 : jb_ret 135 = (some .int) := by decide +kernel
theorem jo_135_15 : jb_op 135 15 = some (.aload_n 1, 99, 0, 0) := by decide +kernel
theorem jo_135_16 : jb_op 135 16 = some (.getfield 50, 1, 1, 0) := by decide +kernel
theorem jo_135_19 : jb_op 135 19 = some (.iload 5, 99, 0, 0) := by decide +kernel
theorem jo_135_21 : jb_op 135 21 = some (.invokevirtual 43, 2, 6, 1) := by decide +kernel
theorem jh_6_135 : jb_ht 6 < jb_ht 135 := by decide +kernel
theorem jo_135_24 : jb_op 135 24 = some (.iload 4, 99, 0, 0) := by decide +kernel
theorem jo_135_26 : jb_op 135 26 = some (.if_icmp .ne (18), 99, 0, 0) := by decide +kernel
theorem jo_135_29 : jb_op 135 29 = some (.aload_n 1, 99, 0, 0) := by decide +kernel
theorem jo_135_30 : jb_op 135 30 = some (.iload 5, 99, 0, 0) := by decide +kernel
theorem jo_135_32 : jb_op 135 32 = some (.aload_n 2, 99, 0, 0) := by decide +kernel
theorem jo_135_33 : jb_op 135 33 = some (.iload_n 3, 99, 0, 0) := by decide +kernel
theorem jo_135_34 : jb_op 135 34 = some (.invokevirtual 55, 2, 73, 3) := by decide +kernel
theorem jh_73_135 : jb_ht 73 < jb_ht 135 := by decide +kernel
theorem jo_135_44 : jb_op 135 44 = some (.iconst 0, 99, 0, 0) := by decide +kernel
theorem jo_135_45 : jb_op 135 45 = some (.istore 6, 99, 0, 0) := by decide +kernel
theorem jo_135_47 : jb_op 135 47 = some (.iload 6, 99, 0, 0) := by decide +kernel
theorem jo_135_49 : jb_op 135 49 = some (.ifCond .eq (17), 99, 0, 0) := by decide +kernel
theorem jo_135_66 : jb_op 135 66 = some (.iinc 5 1, 99, 0, 0) := by decide +kernel
theorem jo_135_69 : jb_op 135 69 = some (.goto (-66), 99, 0, 0) := by decide +kernel
theorem jo_135_37 : jb_op 135 37 = some (.ifCond .eq (7), 99, 0, 0) := by decide +kernel
theorem jo_135_40 : jb_op 135 40 = some (.iconst 1, 99, 0, 0) := by decide +kernel
theorem jo_135_41 : jb_op 135 41 = some (.goto 4, 99, 0, 0) := by decide +kernel
theorem jo_135_52 : jb_op 135 52 = some (.aload_n 0, 99, 0, 0) := by decide +kernel
theorem jo_135_53 : jb_op 135 53 = some (.aload_n 1, 99, 0, 0) := by decide +kernel
theorem jo_135_54 : jb_op 135 54 = some (.iload 5, 99, 0, 0) := by decide +kernel
theorem jo_135_56 : jb_op 135 56 = some (.iload_n 3, 99, 0, 0) := by decide +kernel
theorem jo_135_57 : jb_op 135 57 = some (.invokevirtual 69, 2, 74, 3) := by decide +kernel
theorem jh_74_135 : jb_ht 74 < jb_ht 135 := by decide +kernel
theorem jo_135_60 : jb_op 135 60 = some (.ifCond .le (6), 99, 0, 0) := by decide +kernel
theorem jo_135_63 : jb_op 135 63 = some (.iload 5, 99, 0, 0) := by decide +kernel
theorem jo_135_65 : jb_op 135 65 = some (.ireturn, 99, 0, 0) := by decide +kernel
theorem jl_135 : jb_ml 135 = 7 := by decide +kernel
theorem jo_136_0 : jb_op 136 0 = some (.aload_n 2, 99, 0, 0) := by decide +kernel
theorem jo_136_1 : jb_op 136 1 = some (.invokevirtual 24, 2, 12, 0) := by decide +kernel
theorem jh_12_136 : jb_ht 12 < jb_ht 136 := by decide +kernel
theorem jo_136_4 : jb_op 136 4 = some (.istore_n 3, 99, 0, 0) := by decide +kernel
theorem jo_136_5 : jb_op 136 5 = some (.aload_n 2, 99, 0, 0) := by decide +kernel
theorem jo_136_6 : jb_op 136 6 = some (.invokestatic 28, 4, 71, 1) := by decide +kernel
theorem jh_71_136 : jb_ht 71 < jb_ht 136 := by decide +kernel
theorem jo_136_9 : jb_op 136 9 = some (.ifCond .eq (5), 99, 0, 0) := by decide +kernel
theorem jo_136_14 : jb_op 136 14 = some (.aload_n 0, 99, 0, 0) := by decide +kernel
theorem jo_136_15 : jb_op 136 15 = some (.getfield 16, 0, 3, 0) := by decide +kernel
theorem jo_136_18 : jb_op 136 18 = some (.iload_n 3, 99, 0, 0) := by decide +kernel
theorem jo_136_19 : jb_op 136 19 = some (.iconst 1, 99, 0, 0) := by decide +kernel
theorem jo_136_20 : jb_op 136 20 = some (.iadd, 99, 0, 0) := by decide +kernel
theorem jo_136_21 : jb_op 136 21 = some (.iconst 3, 99, 0, 0) := by decide +kernel
theorem jo_136_22 : jb_op 136 22 = some (.imul, 99, 0, 0) := by decide +kernel
theorem jo_136_23 : jb_op 136 23 = some (.iconst 0, 99, 0, 0) := by decide +kernel
theorem jo_136_24 : jb_op 136 24 = some (.invokevirtual 32, 2, 48, 2) := by decide +kernel
theorem jh_48_136 : jb_ht 48 < jb_ht 136 := by decide +kernel
theorem jo_136_12 : jb_op 136 12 = some (.iconst 0, 99, 0, 0) := by decide +kernel
theorem jo_136_13 : jb_op 136 13 = some (.ireturn, 99, 0, 0) := by decide +kernel
theorem jr_136 : jb_ret 136 = (some .int) := by decide +kernel
theorem jo_136_27 : jb_op 136 27 = some (.aload_n 0, 99, 0, 0) := by decide +kernel
theorem jo_136_28 : jb_op 136 28 = some (.getfield 16, 0, 3, 0) := by decide +kernel
theorem jo_136_31 : jb_op 136 31 = some (.iconst 0, 99, 0, 0) := by decide +kernel
theorem jo_136_32 : jb_op 136 32 = some (.iconst 0, 99, 0, 0) := by decide +kernel
theorem jo_136_33 : jb_op 136 33 = some (.invokestatic 36, 4, 15, 2) := by decide +kernel
theorem jh_15_136 : jb_ht 15 < jb_ht 136 := by decide +kernel
theorem jo_136_36 : jb_op 136 36 = some (.iconst 1, 99, 0, 0) := by decide +kernel
theorem jo_136_37 : jb_op 136 37 = some (.invokevirtual 40, 2, 8, 2) := by decide +kernel
theorem jh_8_136 : jb_ht 8 < jb_ht 136 := by decide +kernel
theorem jo_136_40 : jb_op 136 40 = some (.iconst 0, 99, 0, 0) := by decide +kernel
theorem jo_136_41 : jb_op 136 41 = some (.istore 4, 99, 0, 0) := by decide +kernel
theorem jo_136_43 : jb_op 136 43 = some (.iload 4, 99, 0, 0) := by decide +kernel
theorem jo_136_45 : jb_op 136 45 = some (.iload_n 3, 99, 0, 0) := by decide +kernel
theorem jo_136_46 : jb_op 136 46 = some (.if_icmp .ge (124), 99, 0, 0) := by decide +kernel
theorem jo_136_170 : jb_op 136 170 = some (.aload_n 0, 99, 0, 0) := by decide +kernel
theorem jo_136_171 : jb_op 136 171 = some (.getfield 16, 0, 3, 0) := by decide +kernel
theorem jo_136_174 : jb_op 136 174 = some (.iload_n 3, 99, 0, 0) := by decide +kernel
theorem jo_136_175 : jb_op 136 175 = some (.iconst 2, 99, 0, 0) := by decide +kernel
theorem jo_136_176 : jb_op 136 176 = some (.invokestatic 36, 4, 15, 2) := by decide +kernel
theorem jo_136_49 : jb_op 136 49 = some (.aload_n 2, 99, 0, 0) := by decide +kernel
theorem jo_136_50 : jb_op 136 50 = some (.iload 4, 99, 0, 0) := by decide +kernel
theorem jo_136_52 : jb_op 136 52 = some (.invokevirtual 43, 2, 6, 1) := by decide +kernel
theorem jh_6_136 : jb_ht 6 < jb_ht 136 := by decide +kernel
theorem jo_136_55 : jb_op 136 55 = some (.iconst 5, 99, 0, 0) := by decide +kernel
theorem jo_136_56 : jb_op 136 56 = some (.if_icmp .ne (16), 99, 0, 0) := by decide +kernel
theorem jo_136_59 : jb_op 136 59 = some (.aload_n 0, 99, 0, 0) := by decide +kernel
theorem jo_136_60 : jb_op 136 60 = some (.iload 4, 99, 0, 0) := by decide +kernel
theorem jo_136_62 : jb_op 136 62 = some (.iload 4, 99, 0, 0) := by decide +kernel
theorem jo_136_64 : jb_op 136 64 = some (.iconst 1, 99, 0, 0) := by decide +kernel
theorem jo_136_65 : jb_op 136 65 = some (.iadd, 99, 0, 0) := by decide +kernel
theorem jo_136_66 : jb_op 136 66 = some (.invokevirtual 47, 2, 72, 2) := by decide +kernel
theorem jh_72_136 : jb_ht 72 < jb_ht 136 := by decide +kernel
theorem jo_136_72 : jb_op 136 72 = some (.iconst 0, 99, 0, 0) := by decide +kernel
theorem jo_136_73 : jb_op 136 73 = some (.istore 5, 99, 0, 0) := by decide +kernel
theorem jo_136_75 : jb_op 136 75 = some (.iload 5, 99, 0, 0) := by decide +kernel
theorem jo_136_77 : jb_op 136 77 = some (.aload_n 1, 99, 0, 0) := by decide +kernel
theorem jo_136_78 : jb_op 136 78 = some (.getfield 50, 1, 1, 0) := by decide +kernel
theorem jo_136_81 : jb_op 136 81 = some (.invokevirtual 24, 2, 12, 0) := by decide +kernel
theorem jo_136_84 : jb_op 136 84 = some (.if_icmp .ge (80), 99, 0, 0) := by decide +kernel
theorem jo_136_164 : jb_op 136 164 = some (.iinc 4 1, 99, 0, 0) := by decide +kernel
theorem jo_136_167 : jb_op 136 167 = some (.goto (-124), 99, 0, 0) := by decide +kernel
theorem jo_136_87 : jb_op 136 87 = some (.aload_n 1, 99, 0, 0) := by decide +kernel
theorem jo_136_88 : jb_op 136 88 = some (.iload 5, 99, 0, 0) := by decide +kernel
theorem jo_136_90 : jb_op 136 90 = some (.aload_n 2, 99, 0, 0) := by decide +kernel
theorem jo_136_91 : jb_op 136 91 = some (.iload 4, 99, 0, 0) := by decide +kernel
theorem jo_136_93 : jb_op 136 93 = some (.invokevirtual 55, 2, 73, 3) := by decide +kernel
theorem jh_73_136 : jb_ht 73 < jb_ht 136 := by decide +kernel
theorem jo_136_96 : jb_op 136 96 = some (.ifCond .eq (62), 99, 0, 0) := by decide +kernel
theorem jo_136_99 : jb_op 136 99 = some (.aload_n 1, 99, 0, 0) := by decide +kernel
theorem jo_136_100 : jb_op 136 100 = some (.getfield 50, 1, 1, 0) := by decide +kernel
theorem jo_136_103 : jb_op 136 103 = some (.iload 5, 99, 0, 0) := by decide +kernel
theorem jo_136_105 : jb_op 136 105 = some (.invokevirtual 43, 2, 6, 1) := by decide +kernel
theorem jo_136_108 : jb_op 136 108 = some (.istore 6, 99, 0, 0) := by decide +kernel
theorem jo_136_110 : jb_op 136 110 = some (.iload 4, 99, 0, 0) := by decide +kernel
theorem jo_136_112 : jb_op 136 112 = some (.aload_n 1, 99, 0, 0) := by decide +kernel
theorem jo_136_113 : jb_op 136 113 = some (.getfield 59, 1, 1, 1) := by decide +kernel
theorem jo_136_116 : jb_op 136 116 = some (.iload 5, 99, 0, 0) := by decide +kernel
theorem jo_136_118 : jb_op 136 118 = some (.invokevirtual 43, 2, 6, 1) := by decide +kernel
theorem jo_136_121 : jb_op 136 121 = some (.iadd, 99, 0, 0) := by decide +kernel
theorem jo_136_122 : jb_op 136 122 = some (.iload 6, 99, 0, 0) := by decide +kernel
theorem jo_136_124 : jb_op 136 124 = some (.invokestatic 62, 4, 17, 1) := by decide +kernel
theorem jh_17_136 : jb_ht 17 < jb_ht 136 := by decide +kernel
theorem jo_136_127 : jb_op 136 127 = some (.invokestatic 36, 4, 15, 2) := by decide +kernel
theorem jo_136_130 : jb_op 136 130 = some (.istore 7, 99, 0, 0) := by decide +kernel
theorem jo_136_132 : jb_op 136 132 = some (.aload_n 0, 99, 0, 0) := by decide +kernel
theorem jo_136_133 : jb_op 136 133 = some (.getfield 16, 0, 3, 0) := by decide +kernel
theorem jo_136_136 : jb_op 136 136 = some (.iload 7, 99, 0, 0) := by decide +kernel
theorem jo_136_138 : jb_op 136 138 = some (.aload_n 0, 99, 0, 0) := by decide +kernel
theorem jo_136_139 : jb_op 136 139 = some (.getfield 16, 0, 3, 0) := by decide +kernel
theorem jo_136_142 : jb_op 136 142 = some (.iload 4, 99, 0, 0) := by decide +kernel
theorem jo_136_144 : jb_op 136 144 = some (.iload 6, 99, 0, 0) := by decide +kernel
theorem jo_136_146 : jb_op 136 146 = some (.invokestatic 36, 4, 15, 2) := by decide +kernel
theorem jo_136_149 : jb_op 136 149 = some (.invokevirtual 43, 2, 6, 1) := by decide +kernel
theorem jo_136_152 : jb_op 136 152 = some (.sipush 9999, 99, 0, 0) := by decide +kernel
theorem jo_136_155 : jb_op 136 155 = some (.invokevirtual 65, 2, 16, 3) := by decide +kernel
theorem jh_16_136 : jb_ht 16 < jb_ht 136 := by decide +kernel
theorem jo_136_158 : jb_op 136 158 = some (.iinc 5 1, 99, 0, 0) := by decide +kernel
theorem jo_136_161 : jb_op 136 161 = some (.goto (-86), 99, 0, 0) := by decide +kernel
theorem jo_136_69 : jb_op 136 69 = some (.goto 95, 99, 0, 0) := by decide +kernel
theorem jo_136_179 : jb_op 136 179 = some (.invokevirtual 43, 2, 6, 1) := by decide +kernel
theorem jo_136_182 : jb_op 136 182 = some (.ireturn, 99, 0, 0) := by decide +kernel
theorem jl_136 : jb_ml 136 = 8 := by decide +kernel
theorem jo_137_0 : jb_op 137 0 = some (.aload_n 0, 99, 0, 0) := by decide +kernel
theorem jo_137_1 : jb_op 137 1 = some (.getfield 10, 0, 10, 0) := by decide +kernel
theorem jo_137_4 : jb_op 137 4 = some (.getfield 199, 1, 9, 3) := by decide +kernel
theorem jf_1_3 : jm_f 1 3 = some (some 21) := by decide +kernel
theorem jo_137_7 : jb_op 137 7 = some (.iload_n 1, 99, 0, 0) := by decide +kernel
theorem jo_137_8 : jb_op 137 8 = some (.iload_n 2, 99, 0, 0) := by decide +kernel
theorem jo_137_9 : jb_op 137 9 = some (.invokevirtual 223, 2, 70, 2) := by decide +kernel
theorem jh_70_137 : jb_ht 70 < jb_ht 137 := by decide +kernel
theorem jo_137_12 : jb_op 137 12 = some (.ireturn, 99, 0, 0) := by decide +kernel
theorem jr_137 : jb_ret 137 = (some .int) := by decide +kernel
theorem jl_137 : jb_ml 137 = 3 := by decide +kernel
theorem jo_138_0 : jb_op 138 0 = some (.aload_n 0, 99, 0, 0) := by decide +kernel
theorem jo_138_1 : jb_op 138 1 = some (.getfield 10, 0, 10, 0) := by decide +kernel
theorem jo_138_4 : jb_op 138 4 = some (.getfield 140, 1, 9, 2) := by decide +kernel
theorem jo_138_7 : jb_op 138 7 = some (.getfield 189, 1, 7, 0) := by decide +kernel
theorem jo_138_10 : jb_op 138 10 = some (.iload_n 1, 99, 0, 0) := by decide +kernel
theorem jo_138_11 : jb_op 138 11 = some (.invokevirtual 160, 2, 4, 1) := by decide +kernel
theorem jh_4_138 : jb_ht 4 < jb_ht 138 := by decide +kernel
theorem jo_138_14 : jb_op 138 14 = some (.ifCond .ne (5), 99, 0, 0) := by decide +kernel
theorem jo_138_17 : jb_op 138 17 = some (.iconst (-1), 99, 0, 0) := by decide +kernel
theorem jo_138_18 : jb_op 138 18 = some (.ireturn, 99, 0, 0) := by decide +kernel
theorem jr_138 : jb_ret 138 = (some .int) := by decide +kernel
theorem jo_138_19 : jb_op 138 19 = some (.aload_n 0, 99, 0, 0) := by decide +kernel
theorem jo_138_20 : jb_op 138 20 = some (.getfield 10, 0, 10, 0) := by decide +kernel
theorem jo_138_23 : jb_op 138 23 = some (.getfield 199, 1, 9, 3) := by decide +kernel
theorem jo_138_26 : jb_op 138 26 = some (.iload_n 2, 99, 0, 0) := by decide +kernel
theorem jo_138_27 : jb_op 138 27 = some (.iload_n 3, 99, 0, 0) := by decide +kernel
theorem jo_138_28 : jb_op 138 28 = some (.invokevirtual 223, 2, 70, 2) := by decide +kernel
theorem jh_70_138 : jb_ht 70 < jb_ht 138 := by decide +kernel
theorem jo_138_31 : jb_op 138 31 = some (.istore 4, 99, 0, 0) := by decide +kernel
theorem jo_138_33 : jb_op 138 33 = some (.iload 4, 99, 0, 0) := by decide +kernel
theorem jo_138_35 : jb_op 138 35 = some (.iconst (-1), 99, 0, 0) := by decide +kernel
theorem jo_138_36 : jb_op 138 36 = some (.if_icmp .ne (5), 99, 0, 0) := by decide +kernel
theorem jo_138_39 : jb_op 138 39 = some (.iconst (-1), 99, 0, 0) := by decide +kernel
theorem jo_138_40 : jb_op 138 40 = some (.ireturn, 99, 0, 0) := by decide +kernel
theorem jo_138_41 : jb_op 138 41 = some (.aload_n 0, 99, 0, 0) := by decide +kernel
theorem jo_138_42 : jb_op 138 42 = some (.getfield 10, 0, 10, 0) := by decide +kernel
theorem jo_138_45 : jb_op 138 45 = some (.getfield 140, 1, 9, 2) := by decide +kernel
theorem jo_138_48 : jb_op 138 48 = some (.getfield 189, 1, 7, 0) := by decide +kernel
theorem jo_138_51 : jb_op 138 51 = some (.iload_n 1, 99, 0, 0) := by decide +kernel
theorem jo_138_52 : jb_op 138 52 = some (.invokevirtual 164, 2, 6, 1) := by decide +kernel
theorem jh_6_138 : jb_ht 6 < jb_ht 138 := by decide +kernel
theorem jo_138_55 : jb_op 138 55 = some (.istore 5, 99, 0, 0) := by decide +kernel
theorem jo_138_57 : jb_op 138 57 = some (.aload_n 0, 99, 0, 0) := by decide +kernel
theorem jo_138_58 : jb_op 138 58 = some (.getfield 10, 0, 10, 0) := by decide +kernel
theorem jo_138_61 : jb_op 138 61 = some (.getfield 92, 1, 9, 0) := by decide +kernel
theorem jo_138_64 : jb_op 138 64 = some (.iload 4, 99, 0, 0) := by decide +kernel
theorem jo_138_66 : jb_op 138 66 = some (.iload 5, 99, 0, 0) := by decide +kernel
theorem jo_138_68 : jb_op 138 68 = some (.aload_n 0, 99, 0, 0) := by decide +kernel
theorem jo_138_69 : jb_op 138 69 = some (.getfield 10, 0, 10, 0) := by decide +kernel
theorem jo_138_72 : jb_op 138 72 = some (.getfield 140, 1, 9, 2) := by decide +kernel
theorem jo_138_75 : jb_op 138 75 = some (.getfield 190, 1, 7, 1) := by decide +kernel
theorem jo_138_78 : jb_op 138 78 = some (.iload_n 1, 99, 0, 0) := by decide +kernel
theorem jo_138_79 : jb_op 138 79 = some (.invokevirtual 164, 2, 6, 1) := by decide +kernel
theorem jo_138_82 : jb_op 138 82 = some (.invokevirtual 226, 2, 68, 3) := by decide +kernel
theorem jh_68_138 : jb_ht 68 < jb_ht 138 := by decide +kernel
theorem jo_138_85 : jb_op 138 85 = some (.ireturn, 99, 0, 0) := by decide +kernel
theorem jl_138 : jb_ml 138 = 6 := by decide +kernel
theorem jo_139_0 : jb_op 139 0 = some (.aload_n 0, 99, 0, 0) := by decide +kernel
theorem jo_139_1 : jb_op 139 1 = some (.getfield 77, 0, 10, 14) := by decide +kernel
theorem jo_139_4 : jb_op 139 4 = some (.invokevirtual 233, 2, 13, 0) := by decide +kernel
theorem jh_13_139 : jb_ht 13 < jb_ht 139 := by decide +kernel
theorem jo_139_7 : jb_op 139 7 = some (.iconst 0, 99, 0, 0) := by decide +kernel
theorem jo_139_8 : jb_op 139 8 = some (.istore_n 2, 99, 0, 0) := by decide +kernel
theorem jo_139_9 : jb_op 139 9 = some (.iload_n 2, 99, 0, 0) := by decide +kernel
theorem jo_139_10 : jb_op 139 10 = some (.iconst 5, 99, 0, 0) := by decide +kernel
theorem jo_139_11 : jb_op 139 11 = some (.if_icmp .ge (65), 99, 0, 0) := by decide +kernel
theorem jo_139_76 : jb_op 139 76 = some (.aload_n 0, 99, 0, 0) := by decide +kernel
theorem jo_139_77 : jb_op 139 77 = some (.iload_n 1, 99, 0, 0) := by decide +kernel
theorem jo_139_78 : jb_op 139 78 = some (.invokevirtual 239, 2, 78, 1) := by decide +kernel
theorem jh_78_139 : jb_ht 78 < jb_ht 139 := by decide +kernel
theorem jw_78 : jb_ow 78 = 10 := by decide +kernel
theorem jo_139_14 : jb_op 139 14 = some (.bipush 9, 99, 0, 0) := by decide +kernel
theorem jo_139_16 : jb_op 139 16 = some (.aload_n 0, 99, 0, 0) := by decide +kernel
theorem jo_139_17 : jb_op 139 17 = some (.getfield 10, 0, 10, 0) := by decide +kernel
theorem jo_139_20 : jb_op 139 20 = some (.getfield 92, 1, 9, 0) := by decide +kernel
theorem jo_139_23 : jb_op 139 23 = some (.getfield 167, 1, 0, 1) := by decide +kernel
theorem jo_139_26 : jb_op 139 26 = some (.iload_n 2, 99, 0, 0) := by decide +kernel
theorem jo_139_27 : jb_op 139 27 = some (.invokevirtual 164, 2, 6, 1) := by decide +kernel
theorem jh_6_139 : jb_ht 6 < jb_ht 139 := by decide +kernel
theorem jo_139_30 : jb_op 139 30 = some (.isub, 99, 0, 0) := by decide +kernel
theorem jo_139_31 : jb_op 139 31 = some (.istore_n 3, 99, 0, 0) := by decide +kernel
theorem jo_139_32 : jb_op 139 32 = some (.bipush 9, 99, 0, 0) := by decide +kernel
theorem jo_139_34 : jb_op 139 34 = some (.aload_n 0, 99, 0, 0) := by decide +kernel
theorem jo_139_35 : jb_op 139 35 = some (.getfield 10, 0, 10, 0) := by decide +kernel
theorem jo_139_38 : jb_op 139 38 = some (.getfield 92, 1, 9, 0) := by decide +kernel
theorem jo_139_41 : jb_op 139 41 = some (.getfield 157, 1, 0, 0) := by decide +kernel
theorem jo_139_44 : jb_op 139 44 = some (.iload_n 2, 99, 0, 0) := by decide +kernel
theorem jo_139_45 : jb_op 139 45 = some (.invokevirtual 164, 2, 6, 1) := by decide +kernel
theorem jo_139_48 : jb_op 139 48 = some (.isub, 99, 0, 0) := by decide +kernel
theorem jo_139_49 : jb_op 139 49 = some (.istore 4, 99, 0, 0) := by decide +kernel
theorem jo_139_51 : jb_op 139 51 = some (.aload_n 0, 99, 0, 0) := by decide +kernel
theorem jo_139_52 : jb_op 139 52 = some (.getfield 77, 0, 10, 14) := by decide +kernel
theorem jo_139_55 : jb_op 139 55 = some (.iload_n 3, 99, 0, 0) := by decide +kernel
theorem jo_139_56 : jb_op 139 56 = some (.bipush 10, 99, 0, 0) := by decide +kernel
theorem jo_139_58 : jb_op 139 58 = some (.imul, 99, 0, 0) := by decide +kernel
theorem jo_139_59 : jb_op 139 59 = some (.iload 4, 99, 0, 0) := by decide +kernel
theorem jo_139_61 : jb_op 139 61 = some (.iadd, 99, 0, 0) := by decide +kernel
theorem jo_139_62 : jb_op 139 62 = some (.bipush 10, 99, 0, 0) := by decide +kernel
theorem jo_139_64 : jb_op 139 64 = some (.imul, 99, 0, 0) := by decide +kernel
theorem jo_139_65 : jb_op 139 65 = some (.iload_n 2, 99, 0, 0) := by decide +kernel
theorem jo_139_66 : jb_op 139 66 = some (.iadd, 99, 0, 0) := by decide +kernel
theorem jo_139_67 : jb_op 139 67 = some (.invokevirtual 117, 2, 1, 1) := by decide +kernel
theorem jh_1_139 : jb_ht 1 < jb_ht 139 := by decide +kernel
theorem jo_139_70 : jb_op 139 70 = some (.iinc 2 1, 99, 0, 0) := by decide +kernel
theorem jo_139_73 : jb_op 139 73 = some (.goto (-64), 99, 0, 0) := by decide +kernel
theorem jo_139_81 : jb_op 139 81 = some (.ireturn, 99, 0, 0) := by decide +kernel
theorem jr_139 : jb_ret 139 = (some .int) := by decide +kernel
theorem jl_139 : jb_ml 139 = 5 := by decide +kernel
theorem jo_140_0 : jb_op 140 0 = some (.aload_n 0, 99, 0, 0) := by decide +kernel
theorem jo_140_1 : jb_op 140 1 = some (.getfield 77, 0, 10, 14) := by decide +kernel
theorem jo_140_4 : jb_op 140 4 = some (.invokevirtual 233, 2, 13, 0) := by decide +kernel
theorem jh_13_140 : jb_ht 13 < jb_ht 140 := by decide +kernel
theorem jo_140_7 : jb_op 140 7 = some (.iconst 0, 99, 0, 0) := by decide +kernel
theorem jo_140_8 : jb_op 140 8 = some (.istore_n 2, 99, 0, 0) := by decide +kernel
theorem jo_140_9 : jb_op 140 9 = some (.iload_n 2, 99, 0, 0) := by decide +kernel
theorem jo_140_10 : jb_op 140 10 = some (.aload_n 0, 99, 0, 0) := by decide +kernel
theorem jo_140_11 : jb_op 140 11 = some (.getfield 10, 0, 10, 0) := by decide +kernel
theorem jo_140_14 : jb_op 140 14 = some (.getfield 124, 1, 9, 1) := by decide +kernel
theorem jf_1_1 : jm_f 1 1 = some (some 9) := by decide +kernel
theorem jo_140_17 : jb_op 140 17 = some (.getfield 179, 1, 1, 0) := by decide +kernel
theorem jo_140_20 : jb_op 140 20 = some (.invokevirtual 120, 2, 12, 0) := by decide +kernel
theorem jh_12_140 : jb_ht 12 < jb_ht 140 := by decide +kernel
theorem jo_140_23 : jb_op 140 23 = some (.if_icmp .ge (35), 99, 0, 0) := by decide +kernel
theorem jo_140_58 : jb_op 140 58 = some (.aload_n 0, 99, 0, 0) := by decide +kernel
theorem jo_140_59 : jb_op 140 59 = some (.iload_n 1, 99, 0, 0) := by decide +kernel
theorem jo_140_60 : jb_op 140 60 = some (.invokevirtual 239, 2, 78, 1) := by decide +kernel
theorem jh_78_140 : jb_ht 78 < jb_ht 140 := by decide +kernel
theorem jo_140_26 : jb_op 140 26 = some (.aload_n 0, 99, 0, 0) := by decide +kernel
theorem jo_140_27 : jb_op 140 27 = some (.getfield 77, 0, 10, 14) := by decide +kernel
theorem jo_140_30 : jb_op 140 30 = some (.aload_n 0, 99, 0, 0) := by decide +kernel
theorem jo_140_31 : jb_op 140 31 = some (.getfield 10, 0, 10, 0) := by decide +kernel
theorem jo_140_34 : jb_op 140 34 = some (.getfield 124, 1, 9, 1) := by decide +kernel
theorem jo_140_37 : jb_op 140 37 = some (.getfield 242, 1, 1, 2) := by decide +kernel
theorem jo_140_40 : jb_op 140 40 = some (.iload_n 2, 99, 0, 0) := by decide +kernel
theorem jo_140_41 : jb_op 140 41 = some (.invokevirtual 164, 2, 6, 1) := by decide +kernel
theorem jh_6_140 : jb_ht 6 < jb_ht 140 := by decide +kernel
theorem jo_140_44 : jb_op 140 44 = some (.bipush 10, 99, 0, 0) := by decide +kernel
theorem jo_140_46 : jb_op 140 46 = some (.imul, 99, 0, 0) := by decide +kernel
theorem jo_140_47 : jb_op 140 47 = some (.iload_n 2, 99, 0, 0) := by decide +kernel
theorem jo_140_48 : jb_op 140 48 = some (.iadd, 99, 0, 0) := by decide +kernel
theorem jo_140_49 : jb_op 140 49 = some (.invokevirtual 117, 2, 1, 1) := by decide +kernel
theorem jh_1_140 : jb_ht 1 < jb_ht 140 := by decide +kernel
theorem jo_140_52 : jb_op 140 52 = some (.iinc 2 1, 99, 0, 0) := by decide +kernel
theorem jo_140_55 : jb_op 140 55 = some (.goto (-46), 99, 0, 0) := by decide +kernel
theorem jo_140_63 : jb_op 140 63 = some (.ireturn, 99, 0, 0) := by decide +kernel
theorem jr_140 : jb_ret 140 = (some .int) := by decide +kernel
theorem jl_140 : jb_ml 140 = 3 := by decide +kernel
theorem jo_141_0 : jb_op 141 0 = some (.iconst 0, 99, 0, 0) := by decide +kernel
theorem jo_141_1 : jb_op 141 1 = some (.istore_n 1, 99, 0, 0) := by decide +kernel
theorem jo_141_2 : jb_op 141 2 = some (.iload_n 1, 99, 0, 0) := by decide +kernel
theorem jo_141_3 : jb_op 141 3 = some (.aload_n 0, 99, 0, 0) := by decide +kernel
theorem jo_141_4 : jb_op 141 4 = some (.getfield 23, 0, 1, 2) := by decide +kernel
theorem jo_141_7 : jb_op 141 7 = some (.invokevirtual 30, 2, 12, 0) := by decide +kernel
theorem jh_12_141 : jb_ht 12 < jb_ht 141 := by decide +kernel
theorem jo_141_10 : jb_op 141 10 = some (.if_icmp .ge (27), 99, 0, 0) := by decide +kernel
theorem jo_141_37 : jb_op 141 37 = some (.iconst 1, 99, 0, 0) := by decide +kernel
theorem jo_141_38 : jb_op 141 38 = some (.ireturn, 99, 0, 0) := by decide +kernel
theorem jr_141 : jb_ret 141 = (some .boolean) := by decide +kernel
theorem jo_141_13 : jb_op 141 13 = some (.aload_n 0, 99, 0, 0) := by decide +kernel
theorem jo_141_14 : jb_op 141 14 = some (.aload_n 0, 99, 0, 0) := by decide +kernel
theorem jo_141_15 : jb_op 141 15 = some (.getfield 23, 0, 1, 2) := by decide +kernel
theorem jo_141_18 : jb_op 141 18 = some (.iload_n 1, 99, 0, 0) := by decide +kernel
theorem jo_141_19 : jb_op 141 19 = some (.invokevirtual 40, 2, 6, 1) := by decide +kernel
theorem jh_6_141 : jb_ht 6 < jb_ht 141 := by decide +kernel
theorem jo_141_22 : jb_op 141 22 = some (.invokevirtual 48, 2, 61, 1) := by decide +kernel
theorem jh_61_141 : jb_ht 61 < jb_ht 141 := by decide +kernel
theorem jo_141_25 : jb_op 141 25 = some (.iload_n 1, 99, 0, 0) := by decide +kernel
theorem jo_141_26 : jb_op 141 26 = some (.if_icmp .eq (5), 99, 0, 0) := by decide +kernel
theorem jo_141_31 : jb_op 141 31 = some (.iinc 1 1, 99, 0, 0) := by decide +kernel
theorem jo_141_34 : jb_op 141 34 = some (.goto (-32), 99, 0, 0) := by decide +kernel
theorem jo_141_29 : jb_op 141 29 = some (.iconst 0, 99, 0, 0) := by decide +kernel
theorem jo_141_30 : jb_op 141 30 = some (.ireturn, 99, 0, 0) := by decide +kernel
theorem jl_141 : jb_ml 141 = 2 := by decide +kernel
theorem jo_142_0 : jb_op 142 0 = some (.aload_n 0, 99, 0, 0) := by decide +kernel
theorem jo_142_1 : jb_op 142 1 = some (.getfield 10, 0, 10, 0) := by decide +kernel
theorem jo_142_4 : jb_op 142 4 = some (.getfield 92, 1, 9, 0) := by decide +kernel
theorem jo_142_7 : jb_op 142 7 = some (.getfield 167, 1, 0, 1) := by decide +kernel
theorem jo_142_10 : jb_op 142 10 = some (.invokevirtual 249, 2, 79, 0) := by decide +kernel
theorem jh_79_142 : jb_ht 79 < jb_ht 142 := by decide +kernel
theorem jw_79 : jb_ow 79 = 6 := by decide +kernel
theorem jo_142_13 : jb_op 142 13 = some (.i2d, 99, 0, 0) := by decide +kernel
theorem jo_142_14 : jb_op 142 14 = some (.ldc2_w 255, 12, 4617315517961601024, 0) := by decide +kernel
theorem jo_142_17 : jb_op 142 17 = some (.ddiv, 99, 0, 0) := by decide +kernel
theorem jo_142_18 : jb_op 142 18 = some (.dreturn, 99, 0, 0) := by decide +kernel
theorem jr_142 : jb_ret 142 = (some .double) := by decide +kernel
theorem jl_142 : jb_ml 142 = 1 := by decide +kernel
theorem jo_143_0 : jb_op 143 0 = some (.iload_n 1, 99, 0, 0) := by decide +kernel
theorem jo_143_1 : jb_op 143 1 = some (.tableswitch (162) (0) (9) #[(55), (69), (83), (97), (105), (113), (121), (135), (143), (154)], 99, 0, 0) := by decide +kernel
theorem jo_143_56 : jb_op 143 56 = some (.aload_n 0, 99, 0, 0) := by decide +kernel
theorem jo_143_57 : jb_op 143 57 = some (.getfield 10, 0, 10, 0) := by decide +kernel
theorem jo_143_60 : jb_op 143 60 = some (.getfield 124, 1, 9, 1) := by decide +kernel
theorem jo_143_63 : jb_op 143 63 = some (.getfield 179, 1, 1, 0) := by decide +kernel
theorem jo_143_66 : jb_op 143 66 = some (.invokevirtual 120, 2, 12, 0) := by decide +kernel
theorem jh_12_143 : jb_ht 12 < jb_ht 143 := by decide +kernel
theorem jo_143_70 : jb_op 143 70 = some (.aload_n 0, 99, 0, 0) := by decide +kernel
theorem jo_143_71 : jb_op 143 71 = some (.getfield 10, 0, 10, 0) := by decide +kernel
theorem jo_143_74 : jb_op 143 74 = some (.getfield 140, 1, 9, 2) := by decide +kernel
theorem jo_143_77 : jb_op 143 77 = some (.getfield 189, 1, 7, 0) := by decide +kernel
theorem jo_143_80 : jb_op 143 80 = some (.invokevirtual 120, 2, 12, 0) := by decide +kernel
theorem jo_143_84 : jb_op 143 84 = some (.aload_n 0, 99, 0, 0) := by decide +kernel
theorem jo_143_85 : jb_op 143 85 = some (.getfield 10, 0, 10, 0) := by decide +kernel
theorem jo_143_88 : jb_op 143 88 = some (.getfield 199, 1, 9, 3) := by decide +kernel
theorem jo_143_91 : jb_op 143 91 = some (.getfield 245, 1, 4, 0) := by decide +kernel
theorem jo_143_94 : jb_op 143 94 = some (.invokevirtual 120, 2, 12, 0) := by decide +kernel
theorem jo_143_98 : jb_op 143 98 = some (.aload_n 0, 99, 0, 0) := by decide +kernel
theorem jo_143_99 : jb_op 143 99 = some (.getfield 10, 0, 10, 0) := by decide +kernel
theorem jo_143_102 : jb_op 143 102 = some (.getfield 257, 1, 9, 4) := by decide +kernel
theorem jf_1_4 : jm_f 1 4 = some none := by decide +kernel
theorem jo_143_105 : jb_op 143 105 = some (.ireturn, 99, 0, 0) := by decide +kernel
theorem jr_143 : jb_ret 143 = (some .int) := by decide +kernel
theorem jo_143_106 : jb_op 143 106 = some (.aload_n 0, 99, 0, 0) := by decide +kernel
theorem jo_143_107 : jb_op 143 107 = some (.getfield 10, 0, 10, 0) := by decide +kernel
theorem jo_143_110 : jb_op 143 110 = some (.getfield 252, 1, 9, 5) := by decide +kernel
theorem jf_1_5 : jm_f 1 5 = some none := by decide +kernel
theorem jo_143_113 : jb_op 143 113 = some (.ireturn, 99, 0, 0) := by decide +kernel
theorem jo_143_114 : jb_op 143 114 = some (.aload_n 0, 99, 0, 0) := by decide +kernel
theorem jo_143_115 : jb_op 143 115 = some (.getfield 10, 0, 10, 0) := by decide +kernel
theorem jo_143_118 : jb_op 143 118 = some (.getfield 260, 1, 9, 6) := by decide +kernel
theorem jf_1_6 : jm_f 1 6 = some none := by decide +kernel
theorem jo_143_121 : jb_op 143 121 = some (.ireturn, 99, 0, 0) := by decide +kernel
theorem jo_143_122 : jb_op 143 122 = some (.aload_n 0, 99, 0, 0) := by decide +kernel
theorem jo_143_123 : jb_op 143 123 = some (.getfield 10, 0, 10, 0) := by decide +kernel
theorem jo_143_126 : jb_op 143 126 = some (.getfield 92, 1, 9, 0) := by decide +kernel
theorem jo_143_129 : jb_op 143 129 = some (.getfield 167, 1, 0, 1) := by decide +kernel
theorem jo_143_132 : jb_op 143 132 = some (.invokevirtual 249, 2, 79, 0) := by decide +kernel
theorem jh_79_143 : jb_ht 79 < jb_ht 143 := by decide +kernel
theorem jo_143_136 : jb_op 143 136 = some (.aload_n 0, 99, 0, 0) := by decide +kernel
theorem jo_143_137 : jb_op 143 137 = some (.getfield 55, 0, 10, 7) := by decide +kernel
theorem jo_143_140 : jb_op 143 140 = some (.invokevirtual 120, 2, 12, 0) := by decide +kernel
theorem jo_143_144 : jb_op 143 144 = some (.aload_n 0, 99, 0, 0) := by decide +kernel
theorem jo_143_145 : jb_op 143 145 = some (.getfield 46, 0, 10, 6) := by decide +kernel
theorem jo_143_148 : jb_op 143 148 = some (.getfield 263, 1, 8, 0) := by decide +kernel
theorem jo_143_151 : jb_op 143 151 = some (.invokevirtual 120, 2, 12, 0) := by decide +kernel
theorem jo_143_155 : jb_op 143 155 = some (.aload_n 0, 99, 0, 0) := by decide +kernel
theorem jo_143_156 : jb_op 143 156 = some (.getfield 25, 0, 10, 3) := by decide +kernel
theorem jf_0_3 : jm_f 0 3 = some (some 76) := by decide +kernel
theorem jo_143_159 : jb_op 143 159 = some (.getfield 266, 1, 2, 2) := by decide +kernel
theorem jo_143_162 : jb_op 143 162 = some (.ireturn, 99, 0, 0) := by decide +kernel
theorem jo_143_163 : jb_op 143 163 = some (.bipush (-2), 99, 0, 0) := by decide +kernel
theorem jo_143_165 : jb_op 143 165 = some (.ireturn, 99, 0, 0) := by decide +kernel
theorem jo_143_154 : jb_op 143 154 = some (.ireturn, 99, 0, 0) := by decide +kernel
theorem jo_143_143 : jb_op 143 143 = some (.ireturn, 99, 0, 0) := by decide +kernel
theorem jo_143_135 : jb_op 143 135 = some (.ireturn, 99, 0, 0) := by decide +kernel
theorem jo_143_97 : jb_op 143 97 = some (.ireturn, 99, 0, 0) := by decide +kernel
theorem jo_143_83 : jb_op 143 83 = some (.ireturn, 99, 0, 0) := by decide +kernel
theorem jo_143_69 : jb_op 143 69 = some (.ireturn, 99, 0, 0) := by decide +kernel
theorem jl_143 : jb_ml 143 = 2 := by decide +kernel
theorem jo_144_0 : jb_op 144 0 = some (.aload_n 0, 99, 0, 0) := by decide +kernel
theorem jo_144_1 : jb_op 144 1 = some (.getfield 59, 0, 10, 8) := by decide +kernel
theorem jo_144_4 : jb_op 144 4 = some (.invokevirtual 233, 2, 13, 0) := by decide +kernel
theorem jh_13_144 : jb_ht 13 < jb_ht 144 := by decide +kernel
theorem jo_144_7 : jb_op 144 7 = some (.iconst 0, 99, 0, 0) := by decide +kernel
theorem jo_144_8 : jb_op 144 8 = some (.istore_n 1, 99, 0, 0) := by decide +kernel
theorem jo_144_9 : jb_op 144 9 = some (.iload_n 1, 99, 0, 0) := by decide +kernel
theorem jo_144_10 : jb_op 144 10 = some (.aload_n 0, 99, 0, 0) := by decide +kernel
theorem jo_144_11 : jb_op 144 11 = some (.getfield 10, 0, 10, 0) := by decide +kernel
theorem jo_144_14 : jb_op 144 14 = some (.getfield 124, 1, 9, 1) := by decide +kernel
theorem jo_144_17 : jb_op 144 17 = some (.getfield 179, 1, 1, 0) := by decide +kernel
theorem jo_144_20 : jb_op 144 20 = some (.invokevirtual 120, 2, 12, 0) := by decide +kernel
theorem jh_12_144 : jb_ht 12 < jb_ht 144 := by decide +kernel
theorem jo_144_23 : jb_op 144 23 = some (.if_icmp .ge (103), 99, 0, 0) := by decide +kernel
theorem jo_144_126 : jb_op 144 126 = some (.aload_n 0, 99, 0, 0) := by decide +kernel
theorem jo_144_127 : jb_op 144 127 = some (.getfield 59, 0, 10, 8) := by decide +kernel
theorem jo_144_130 : jb_op 144 130 = some (.invokevirtual 120, 2, 12, 0) := by decide +kernel
theorem jo_144_26 : jb_op 144 26 = some (.iload_n 1, 99, 0, 0) := by decide +kernel
theorem jo_144_27 : jb_op 144 27 = some (.ifCond .le (12), 99, 0, 0) := by decide +kernel
theorem jo_144_30 : jb_op 144 30 = some (.aload_n 0, 99, 0, 0) := by decide +kernel
theorem jo_144_31 : jb_op 144 31 = some (.getfield 59, 0, 10, 8) := by decide +kernel
theorem jo_144_34 : jb_op 144 34 = some (.bipush 32, 99, 0, 0) := by decide +kernel
theorem jo_144_36 : jb_op 144 36 = some (.invokevirtual 117, 2, 1, 1) := by decide +kernel
theorem jh_1_144 : jb_ht 1 < jb_ht 144 := by decide +kernel
theorem jo_144_39 : jb_op 144 39 = some (.aload_n 0, 99, 0, 0) := by decide +kernel
theorem jo_144_40 : jb_op 144 40 = some (.getfield 59, 0, 10, 8) := by decide +kernel
theorem jo_144_43 : jb_op 144 43 = some (.aload_n 0, 99, 0, 0) := by decide +kernel
theorem jo_144_44 : jb_op 144 44 = some (.getfield 10, 0, 10, 0) := by decide +kernel
theorem jo_144_47 : jb_op 144 47 = some (.getfield 124, 1, 9, 1) := by decide +kernel
theorem jo_144_50 : jb_op 144 50 = some (.getfield 179, 1, 1, 0) := by decide +kernel
theorem jo_144_53 : jb_op 144 53 = some (.iload_n 1, 99, 0, 0) := by decide +kernel
theorem jo_144_54 : jb_op 144 54 = some (.invokevirtual 164, 2, 6, 1) := by decide +kernel
theorem jh_6_144 : jb_ht 6 < jb_ht 144 := by decide +kernel
theorem jo_144_57 : jb_op 144 57 = some (.invokestatic 271, 4, 19, 1) := by decide +kernel
theorem jh_19_144 : jb_ht 19 < jb_ht 144 := by decide +kernel
theorem jo_144_60 : jb_op 144 60 = some (.invokevirtual 117, 2, 1, 1) := by decide +kernel
theorem jo_144_63 : jb_op 144 63 = some (.aload_n 0, 99, 0, 0) := by decide +kernel
theorem jo_144_64 : jb_op 144 64 = some (.getfield 59, 0, 10, 8) := by decide +kernel
theorem jo_144_67 : jb_op 144 67 = some (.bipush 58, 99, 0, 0) := by decide +kernel
theorem jo_144_69 : jb_op 144 69 = some (.invokevirtual 117, 2, 1, 1) := by decide +kernel
theorem jo_144_72 : jb_op 144 72 = some (.iconst 0, 99, 0, 0) := by decide +kernel
theorem jo_144_73 : jb_op 144 73 = some (.istore_n 2, 99, 0, 0) := by decide +kernel
theorem jo_144_74 : jb_op 144 74 = some (.iload_n 2, 99, 0, 0) := by decide +kernel
theorem jo_144_75 : jb_op 144 75 = some (.aload_n 0, 99, 0, 0) := by decide +kernel
theorem jo_144_76 : jb_op 144 76 = some (.getfield 10, 0, 10, 0) := by decide +kernel
theorem jo_144_79 : jb_op 144 79 = some (.getfield 124, 1, 9, 1) := by decide +kernel
theorem jo_144_82 : jb_op 144 82 = some (.getfield 182, 1, 1, 1) := by decide +kernel
theorem jo_144_85 : jb_op 144 85 = some (.iload_n 1, 99, 0, 0) := by decide +kernel
theorem jo_144_86 : jb_op 144 86 = some (.invokevirtual 164, 2, 6, 1) := by decide +kernel
theorem jo_144_89 : jb_op 144 89 = some (.if_icmp .ge (31), 99, 0, 0) := by decide +kernel
theorem jo_144_120 : jb_op 144 120 = some (.iinc 1 1, 99, 0, 0) := by decide +kernel
theorem jo_144_123 : jb_op 144 123 = some (.goto (-114), 99, 0, 0) := by decide +kernel
theorem jo_144_92 : jb_op 144 92 = some (.aload_n 0, 99, 0, 0) := by decide +kernel
theorem jo_144_93 : jb_op 144 93 = some (.getfield 59, 0, 10, 8) := by decide +kernel
theorem jo_144_96 : jb_op 144 96 = some (.aload_n 0, 99, 0, 0) := by decide +kernel
theorem jo_144_97 : jb_op 144 97 = some (.getfield 10, 0, 10, 0) := by decide +kernel
theorem jo_144_100 : jb_op 144 100 = some (.getfield 124, 1, 9, 1) := by decide +kernel
theorem jo_144_103 : jb_op 144 103 = some (.iload_n 1, 99, 0, 0) := by decide +kernel
theorem jo_144_104 : jb_op 144 104 = some (.iload_n 2, 99, 0, 0) := by decide +kernel
theorem jo_144_105 : jb_op 144 105 = some (.invokevirtual 274, 2, 69, 2) := by decide +kernel
theorem jh_69_144 : jb_ht 69 < jb_ht 144 := by decide +kernel
theorem jo_144_108 : jb_op 144 108 = some (.invokestatic 268, 4, 18, 1) := by decide +kernel
theorem jh_18_144 : jb_ht 18 < jb_ht 144 := by decide +kernel
theorem jo_144_111 : jb_op 144 111 = some (.invokevirtual 117, 2, 1, 1) := by decide +kernel
theorem jo_144_114 : jb_op 144 114 = some (.iinc 2 1, 99, 0, 0) := by decide +kernel
theorem jo_144_117 : jb_op 144 117 = some (.goto (-43), 99, 0, 0) := by decide +kernel
theorem jo_144_133 : jb_op 144 133 = some (.ireturn, 99, 0, 0) := by decide +kernel
theorem jr_144 : jb_ret 144 = (some .int) := by decide +kernel
theorem jl_144 : jb_ml 144 = 3 := by decide +kernel
theorem jo_146_0 : jb_op 146 0 = some (.iload_n 2, 99, 0, 0) := by decide +kernel
theorem jo_146_1 : jb_op 146 1 = some (.iload_n 1, 99, 0, 0) := by decide +kernel
theorem jo_146_2 : jb_op 146 2 = some (.invokestatic 53, 4, 20, 1) := by decide +kernel
theorem jh_20_146 : jb_ht 20 < jb_ht 146 := by decide +kernel
theorem jo_146_5 : jb_op 146 5 = some (.invokevirtual 62, 2, 82, 0) := by decide +kernel
theorem jh_82_146 : jb_ht 82 < jb_ht 146 := by decide +kernel
theorem jw_82 : jb_ow 82 = 13 := by decide +kernel
theorem jo_146_8 : jb_op 146 8 = some (.iadd, 99, 0, 0) := by decide +kernel
theorem jo_146_9 : jb_op 146 9 = some (.istore_n 3, 99, 0, 0) := by decide +kernel
theorem jo_146_10 : jb_op 146 10 = some (.iload_n 1, 99, 0, 0) := by decide +kernel
theorem jo_146_11 : jb_op 146 11 = some (.iconst 2, 99, 0, 0) := by decide +kernel
theorem jo_146_12 : jb_op 146 12 = some (.if_icmp .eq (11), 99, 0, 0) := by decide +kernel
theorem jo_146_23 : jb_op 146 23 = some (.iload_n 3, 99, 0, 0) := by decide +kernel
theorem jo_146_24 : jb_op 146 24 = some (.istore 4, 99, 0, 0) := by decide +kernel
theorem jo_146_15 : jb_op 146 15 = some (.iload_n 1, 99, 0, 0) := by decide +kernel
theorem jo_146_16 : jb_op 146 16 = some (.bipush 7, 99, 0, 0) := by decide +kernel
theorem jo_146_18 : jb_op 146 18 = some (.if_icmp .eq (5), 99, 0, 0) := by decide +kernel
theorem jo_146_21 : jb_op 146 21 = some (.iload_n 3, 99, 0, 0) := by decide +kernel
theorem jo_146_22 : jb_op 146 22 = some (.ireturn, 99, 0, 0) := by decide +kernel
theorem jr_146 : jb_ret 146 = (some .int) := by decide +kernel
theorem jo_146_26 : jb_op 146 26 = some (.iload 4, 99, 0, 0) := by decide +kernel
theorem jo_146_28 : jb_op 146 28 = some (.aload_n 0, 99, 0, 0) := by decide +kernel
theorem jo_146_29 : jb_op 146 29 = some (.getfield 14, 0, 8, 0) := by decide +kernel
theorem jo_146_32 : jb_op 146 32 = some (.invokevirtual 46, 2, 12, 0) := by decide +kernel
theorem jh_12_146 : jb_ht 12 < jb_ht 146 := by decide +kernel
theorem jo_146_35 : jb_op 146 35 = some (.if_icmp .ge (28), 99, 0, 0) := by decide +kernel
theorem jo_146_63 : jb_op 146 63 = some (.aload_n 0, 99, 0, 0) := by decide +kernel
theorem jo_146_64 : jb_op 146 64 = some (.getfield 14, 0, 8, 0) := by decide +kernel
theorem jo_146_67 : jb_op 146 67 = some (.invokevirtual 46, 2, 12, 0) := by decide +kernel
theorem jo_146_38 : jb_op 146 38 = some (.aload_n 0, 99, 0, 0) := by decide +kernel
theorem jo_146_39 : jb_op 146 39 = some (.getfield 14, 0, 8, 0) := by decide +kernel
theorem jo_146_42 : jb_op 146 42 = some (.iload 4, 99, 0, 0) := by decide +kernel
theorem jo_146_44 : jb_op 146 44 = some (.invokevirtual 50, 2, 6, 1) := by decide +kernel
theorem jh_6_146 : jb_ht 6 < jb_ht 146 := by decide +kernel
theorem jo_146_47 : jb_op 146 47 = some (.invokestatic 69, 5, 10, 1) := by decide +kernel
theorem jh_10_146 : jb_ht 10 < jb_ht 146 := by decide +kernel
theorem jo_146_50 : jb_op 146 50 = some (.iconst (-1), 99, 0, 0) := by decide +kernel
theorem jo_146_51 : jb_op 146 51 = some (.if_icmp .ne (6), 99, 0, 0) := by decide +kernel
theorem jo_146_54 : jb_op 146 54 = some (.iload 4, 99, 0, 0) := by decide +kernel
theorem jo_146_56 : jb_op 146 56 = some (.ireturn, 99, 0, 0) := by decide +kernel
theorem jo_146_57 : jb_op 146 57 = some (.iinc 4 1, 99, 0, 0) := by decide +kernel
theorem jo_146_60 : jb_op 146 60 = some (.goto (-34), 99, 0, 0) := by decide +kernel
theorem jo_146_70 : jb_op 146 70 = some (.ireturn, 99, 0, 0) := by decide +kernel
theorem jl_146 : jb_ml 146 = 5 := by decide +kernel
theorem jo_148_0 : jb_op 148 0 = some (.aload_n 2, 99, 0, 0) := by decide +kernel
theorem jo_148_1 : jb_op 148 1 = some (.invokevirtual 29, 2, 13, 0) := by decide +kernel
theorem jh_13_148 : jb_ht 13 < jb_ht 148 := by decide +kernel
theorem jo_148_4 : jb_op 148 4 = some (.aload_n 0, 99, 0, 0) := by decide +kernel
theorem jo_148_5 : jb_op 148 5 = some (.getfield 23, 0, 8, 2) := by decide +kernel
theorem jf_282_2 : jm_f 282 2 = some (some 287) := by decide +kernel
theorem jo_148_8 : jb_op 148 8 = some (.iload_n 1, 99, 0, 0) := by decide +kernel
theorem jo_148_9 : jb_op 148 9 = some (.invokevirtual 50, 2, 6, 1) := by decide +kernel
theorem jc_287 : jm_c 287 = 6 := by decide +kernel
theorem jh_6_148 : jb_ht 6 < jb_ht 148 := by decide +kernel
theorem jo_148_12 : jb_op 148 12 = some (.aload_n 0, 99, 0, 0) := by decide +kernel
theorem jo_148_13 : jb_op 148 13 = some (.getfield 20, 0, 8, 1) := by decide +kernel
theorem jf_282_1 : jm_f 282 1 = some (some 285) := by decide +kernel
theorem jo_148_16 : jb_op 148 16 = some (.iload_n 1, 99, 0, 0) := by decide +kernel
theorem jo_148_17 : jb_op 148 17 = some (.invokevirtual 50, 2, 6, 1) := by decide +kernel
theorem jc_285 : jm_c 285 = 6 := by decide +kernel
theorem jo_148_20 : jb_op 148 20 = some (.invokestatic 53, 4, 20, 1) := by decide +kernel
theorem jh_20_148 : jb_ht 20 < jb_ht 148 := by decide +kernel
theorem jo_148_23 : jb_op 148 23 = some (.invokevirtual 62, 2, 82, 0) := by decide +kernel
theorem jh_82_148 : jb_ht 82 < jb_ht 148 := by decide +kernel
theorem jo_148_26 : jb_op 148 26 = some (.iadd, 99, 0, 0) := by decide +kernel
theorem jo_148_27 : jb_op 148 27 = some (.iconst 1, 99, 0, 0) := by decide +kernel
theorem jo_148_28 : jb_op 148 28 = some (.isub, 99, 0, 0) := by decide +kernel
theorem jo_148_29 : jb_op 148 29 = some (.istore_n 3, 99, 0, 0) := by decide +kernel
theorem jo_148_30 : jb_op 148 30 = some (.iload_n 3, 99, 0, 0) := by decide +kernel
theorem jo_148_31 : jb_op 148 31 = some (.istore 4, 99, 0, 0) := by decide +kernel
theorem jo_148_33 : jb_op 148 33 = some (.iload 4, 99, 0, 0) := by decide +kernel
theorem jo_148_35 : jb_op 148 35 = some (.aload_n 0, 99, 0, 0) := by decide +kernel
theorem jo_148_36 : jb_op 148 36 = some (.getfield 26, 0, 8, 3) := by decide +kernel
theorem jf_282_3 : jm_f 282 3 = some (some 289) := by decide +kernel
theorem jo_148_39 : jb_op 148 39 = some (.iload_n 1, 99, 0, 0) := by decide +kernel
theorem jo_148_40 : jb_op 148 40 = some (.invokevirtual 50, 2, 6, 1) := by decide +kernel
theorem jc_289 : jm_c 289 = 6 := by decide +kernel
theorem jo_148_43 : jb_op 148 43 = some (.if_icmp .ge (25), 99, 0, 0) := by decide +kernel
theorem jo_148_68 : jb_op 148 68 = some (.return_, 99, 0, 0) := by decide +kernel
theorem jr_148 : jb_ret 148 = none := by decide +kernel
theorem jo_148_46 : jb_op 148 46 = some (.aload_n 2, 99, 0, 0) := by decide +kernel
theorem jo_148_47 : jb_op 148 47 = some (.aload_n 0, 99, 0, 0) := by decide +kernel
theorem jo_148_48 : jb_op 148 48 = some (.getfield 14, 0, 8, 0) := by decide +kernel
theorem jo_148_51 : jb_op 148 51 = some (.iload 4, 99, 0, 0) := by decide +kernel
theorem jo_148_53 : jb_op 148 53 = some (.invokevirtual 50, 2, 6, 1) := by decide +kernel
theorem jo_148_56 : jb_op 148 56 = some (.invokestatic 69, 5, 10, 1) := by decide +kernel
theorem jh_10_148 : jb_ht 10 < jb_ht 148 := by decide +kernel
theorem jo_148_59 : jb_op 148 59 = some (.invokevirtual 43, 2, 1, 1) := by decide +kernel
theorem jh_1_148 : jb_ht 1 < jb_ht 148 := by decide +kernel
theorem jo_148_62 : jb_op 148 62 = some (.iinc 4 1, 99, 0, 0) := by decide +kernel
theorem jo_148_65 : jb_op 148 65 = some (.goto (-32), 99, 0, 0) := by decide +kernel
theorem jl_148 : jb_ml 148 = 5 := by decide +kernel
theorem jo_149_0 : jb_op 149 0 = some (.aload_n 0, 99, 0, 0) := by decide +kernel
theorem jo_149_1 : jb_op 149 1 = some (.getfield 53, 0, 11, 17) := by decide +kernel
theorem jo_149_4 : jb_op 149 4 = some (.ifCond .eq (18), 99, 0, 0) := by decide +kernel
theorem jo_149_22 : jb_op 149 22 = some (.aload_n 0, 99, 0, 0) := by decide +kernel
theorem jo_149_23 : jb_op 149 23 = some (.invokevirtual 82, 2, 96, 0) := by decide +kernel
theorem jh_96_149 : jb_ht 96 < jb_ht 149 := by decide +kernel
theorem jw_96 : jb_ow 96 = 11 := by decide +kernel
theorem jo_149_7 : jb_op 149 7 = some (.aload_n 0, 99, 0, 0) := by decide +kernel
theorem jo_149_8 : jb_op 149 8 = some (.aload_n 0, 99, 0, 0) := by decide +kernel
theorem jo_149_9 : jb_op 149 9 = some (.getfield 53, 0, 11, 17) := by decide +kernel
theorem jo_149_12 : jb_op 149 12 = some (.aload_n 0, 99, 0, 0) := by decide +kernel
theorem jo_149_13 : jb_op 149 13 = some (.getfield 56, 0, 11, 18) := by decide +kernel
theorem jo_149_16 : jb_op 149 16 = some (.iconst 0, 99, 0, 0) := by decide +kernel
theorem jo_149_17 : jb_op 149 17 = some (.iconst 0, 99, 0, 0) := by decide +kernel
theorem jo_149_18 : jb_op 149 18 = some (.invokevirtual 78, 2, 95, 4) := by decide +kernel
theorem jh_95_149 : jb_ht 95 < jb_ht 149 := by decide +kernel
theorem jw_95 : jb_ow 95 = 11 := by decide +kernel
theorem jo_149_21 : jb_op 149 21 = some (.ireturn, 99, 0, 0) := by decide +kernel
theorem jr_149 : jb_ret 149 = (some .int) := by decide +kernel
theorem jo_149_26 : jb_op 149 26 = some (.iload_n 1, 99, 0, 0) := by decide +kernel
theorem jo_149_27 : jb_op 149 27 = some (.ireturn, 99, 0, 0) := by decide +kernel
theorem jl_149 : jb_ml 149 = 2 := by decide +kernel
theorem jo_150_0 : jb_op 150 0 = some (.iconst (-1), 99, 0, 0) := by decide +kernel
theorem jo_150_1 : jb_op 150 1 = some (.istore_n 1, 99, 0, 0) := by decide +kernel
theorem jo_150_2 : jb_op 150 2 = some (.iconst 0, 99, 0, 0) := by decide +kernel
theorem jo_150_3 : jb_op 150 3 = some (.istore_n 2, 99, 0, 0) := by decide +kernel
theorem jo_150_4 : jb_op 150 4 = some (.iload_n 2, 99, 0, 0) := by decide +kernel
theorem jo_150_5 : jb_op 150 5 = some (.aload_n 0, 99, 0, 0) := by decide +kernel
theorem jo_150_6 : jb_op 150 6 = some (.getfield 9, 0, 11, 0) := by decide +kernel
theorem jo_150_9 : jb_op 150 9 = some (.iconst 0, 99, 0, 0) := by decide +kernel
theorem jo_150_10 : jb_op 150 10 = some (.iaload, 99, 0, 0) := by decide +kernel
theorem jo_150_11 : jb_op 150 11 = some (.if_icmp .ge (42), 99, 0, 0) := by decide +kernel
theorem jo_150_53 : jb_op 150 53 = some (.iload_n 1, 99, 0, 0) := by decide +kernel
theorem jo_150_54 : jb_op 150 54 = some (.ireturn, 99, 0, 0) := by decide +kernel
theorem jr_150 : jb_ret 150 = (some .int) := by decide +kernel
theorem jo_150_14 : jb_op 150 14 = some (.aload_n 0, 99, 0, 0) := by decide +kernel
theorem jo_150_15 : jb_op 150 15 = some (.getfield 9, 0, 11, 0) := by decide +kernel
theorem jo_150_18 : jb_op 150 18 = some (.iload_n 2, 99, 0, 0) := by decide +kernel
theorem jo_150_19 : jb_op 150 19 = some (.invokestatic 130, 4, 36, 1) := by decide +kernel
theorem jh_36_150 : jb_ht 36 < jb_ht 150 := by decide +kernel
theorem jo_150_22 : jb_op 150 22 = some (.iconst 1, 99, 0, 0) := by decide +kernel
theorem jo_150_23 : jb_op 150 23 = some (.iadd, 99, 0, 0) := by decide +kernel
theorem jo_150_24 : jb_op 150 24 = some (.iaload, 99, 0, 0) := by decide +kernel
theorem jo_150_25 : jb_op 150 25 = some (.aload_n 0, 99, 0, 0) := by decide +kernel
theorem jo_150_26 : jb_op 150 26 = some (.getfield 124, 0, 11, 20) := by decide +kernel
theorem jo_150_29 : jb_op 150 29 = some (.if_icmp .ne (16), 99, 0, 0) := by decide +kernel
theorem jo_150_32 : jb_op 150 32 = some (.aload_n 0, 99, 0, 0) := by decide +kernel
theorem jo_150_33 : jb_op 150 33 = some (.iload_n 2, 99, 0, 0) := by decide +kernel
theorem jo_150_34 : jb_op 150 34 = some (.iconst 0, 99, 0, 0) := by decide +kernel
theorem jo_150_35 : jb_op 150 35 = some (.invokevirtual 133, 2, 100, 2) := by decide +kernel
theorem jh_100_150 : jb_ht 100 < jb_ht 150 := by decide +kernel
theorem jw_100 : jb_ow 100 = 11 := by decide +kernel
theorem jo_150_45 : jb_op 150 45 = some (.iload_n 1, 99, 0, 0) := by decide +kernel
theorem jo_150_46 : jb_op 150 46 = some (.istore_n 1, 99, 0, 0) := by decide +kernel
theorem jo_150_47 : jb_op 150 47 = some (.iinc 2 1, 99, 0, 0) := by decide +kernel
theorem jo_150_50 : jb_op 150 50 = some (.goto (-46), 99, 0, 0) := by decide +kernel
theorem jo_150_38 : jb_op 150 38 = some (.ifCond .eq (7), 99, 0, 0) := by decide +kernel
theorem jo_150_41 : jb_op 150 41 = some (.iload_n 2, 99, 0, 0) := by decide +kernel
theorem jo_150_42 : jb_op 150 42 = some (.goto 4, 99, 0, 0) := by decide +kernel
theorem jl_150 : jb_ml 150 = 3 := by decide +kernel
theorem jo_151_0 : jb_op 151 0 = some (.iconst 0, 99, 0, 0) := by decide +kernel
theorem jo_151_1 : jb_op 151 1 = some (.istore_n 1, 99, 0, 0) := by decide +kernel
theorem jo_151_2 : jb_op 151 2 = some (.iload_n 1, 99, 0, 0) := by decide +kernel
theorem jo_151_3 : jb_op 151 3 = some (.iconst 3, 99, 0, 0) := by decide +kernel
theorem jo_151_4 : jb_op 151 4 = some (.if_icmp .ge (37), 99, 0, 0) := by decide +kernel
theorem jo_151_41 : jb_op 151 41 = some (.aload_n 0, 99, 0, 0) := by decide +kernel
theorem jo_151_42 : jb_op 151 42 = some (.getfield 124, 0, 11, 20) := by decide +kernel
theorem jo_151_45 : jb_op 151 45 = some (.iconst 1, 99, 0, 0) := by decide +kernel
theorem jo_151_46 : jb_op 151 46 = some (.isub, 99, 0, 0) := by decide +kernel
theorem jo_151_47 : jb_op 151 47 = some (.istore_n 1, 99, 0, 0) := by decide +kernel
theorem jo_151_7 : jb_op 151 7 = some (.aload_n 0, 99, 0, 0) := by decide +kernel
theorem jo_151_8 : jb_op 151 8 = some (.getfield 38, 0, 11, 21) := by decide +kernel
theorem jf_307_21 : jm_f 307 21 = some (some 316) := by decide +kernel
theorem jo_151_11 : jb_op 151 11 = some (.iconst 3, 99, 0, 0) := by decide +kernel
theorem jo_151_12 : jb_op 151 12 = some (.aload_n 0, 99, 0, 0) := by decide +kernel
theorem jo_151_13 : jb_op 151 13 = some (.getfield 124, 0, 11, 20) := by decide +kernel
theorem jo_151_16 : jb_op 151 16 = some (.imul, 99, 0, 0) := by decide +kernel
theorem jo_151_17 : jb_op 151 17 = some (.iload_n 1, 99, 0, 0) := by decide +kernel
theorem jo_151_18 : jb_op 151 18 = some (.iadd, 99, 0, 0) := by decide +kernel
theorem jo_151_19 : jb_op 151 19 = some (.iconst 0, 99, 0, 0) := by decide +kernel
theorem jo_151_20 : jb_op 151 20 = some (.iastore, 99, 0, 0) := by decide +kernel
theorem jc_316 : jm_c 316 = 12 := by decide +kernel
theorem jn_316 : jm_ln 316 = 63 := by decide +kernel
theorem jo_151_21 : jb_op 151 21 = some (.aload_n 0, 99, 0, 0) := by decide +kernel
theorem jo_151_22 : jb_op 151 22 = some (.getfield 41, 0, 11, 22) := by decide +kernel
theorem jo_151_25 : jb_op 151 25 = some (.iconst 3, 99, 0, 0) := by decide +kernel
theorem jo_151_26 : jb_op 151 26 = some (.aload_n 0, 99, 0, 0) := by decide +kernel
theorem jo_151_27 : jb_op 151 27 = some (.getfield 124, 0, 11, 20) := by decide +kernel
theorem jo_151_30 : jb_op 151 30 = some (.imul, 99, 0, 0) := by decide +kernel
theorem jo_151_31 : jb_op 151 31 = some (.iload_n 1, 99, 0, 0) := by decide +kernel
theorem jo_151_32 : jb_op 151 32 = some (.iadd, 99, 0, 0) := by decide +kernel
theorem jo_151_33 : jb_op 151 33 = some (.iconst 0, 99, 0, 0) := by decide +kernel
theorem jo_151_34 : jb_op 151 34 = some (.iastore, 99, 0, 0) := by decide +kernel
theorem jo_151_35 : jb_op 151 35 = some (.iinc 1 1, 99, 0, 0) := by decide +kernel
theorem jo_151_38 : jb_op 151 38 = some (.goto (-36), 99, 0, 0) := by decide +kernel
theorem jo_151_48 : jb_op 151 48 = some (.iload_n 1, 99, 0, 0) := by decide +kernel
theorem jo_151_49 : jb_op 151 49 = some (.ifCond .lt (160), 99, 0, 0) := by decide +kernel
theorem jo_151_209 : jb_op 151 209 = some (.sipush 9999, 99, 0, 0) := by decide +kernel
theorem jo_151_212 : jb_op 151 212 = some (.aload_n 0, 99, 0, 0) := by decide +kernel
theorem jo_151_213 : jb_op 151 213 = some (.getfield 38, 0, 11, 21) := by decide +kernel
theorem jo_151_216 : jb_op 151 216 = some (.iconst 0, 99, 0, 0) := by decide +kernel
theorem jo_151_217 : jb_op 151 217 = some (.iaload, 99, 0, 0) := by decide +kernel
theorem jo_151_218 : jb_op 151 218 = some (.invokestatic 171, 15, 1, 0) := by decide +kernel
theorem jo_151_221 : jb_op 151 221 = some (.ireturn, 99, 0, 0) := by decide +kernel
theorem jr_151 : jb_ret 151 = (some .int) := by decide +kernel
theorem jo_151_52 : jb_op 151 52 = some (.iconst 0, 99, 0, 0) := by decide +kernel
theorem jo_151_53 : jb_op 151 53 = some (.istore_n 2, 99, 0, 0) := by decide +kernel
theorem jo_151_54 : jb_op 151 54 = some (.iload_n 2, 99, 0, 0) := by decide +kernel
