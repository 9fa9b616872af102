/-! ===== what stands where: by the kernel ===== -/
theorem jo_201_115 : jb_op 201 115 = some (.invokevirtual 176, 2, 170, 1) := by decide +kernel
theorem jh_170_201 : jb_ht 170 < jb_ht 201 := by decide +kernel
theorem jw_170 : jb_ow 170 = 1 := by decide +kernel
theorem jo_201_119 : jb_op 201 119 = some (.bipush (-2), 99, 0, 0) := by decide +kernel
theorem jo_201_121 : jb_op 201 121 = some (.ireturn, 99, 0, 0) := by decide +kernel
theorem jo_201_118 : jb_op 201 118 = some (.ireturn, 99, 0, 0) := by decide +kernel
theorem jo_201_106 : jb_op 201 106 = some (.ireturn, 99, 0, 0) := by decide +kernel
theorem jo_201_100 : jb_op 201 100 = some (.ireturn, 99, 0, 0) := by decide +kernel
theorem jo_201_85 : jb_op 201 85 = some (.ireturn, 99, 0, 0) := by decide +kernel
theorem jo_201_70 : jb_op 201 70 = some (.ireturn, 99, 0, 0) := by decide +kernel
theorem jl_201 : jb_ml 201 = 3 := by decide +kernel
theorem jo_202_0 : jb_op 202 0 = some (.aload_n 0, 99, 0, 0) := by decide +kernel
theorem jo_202_1 : jb_op 202 1 = some (.getfield 10, 0, 10, 0) := by decide +kernel
theorem jo_202_4 : jb_op 202 4 = some (.getfield 199, 1, 9, 3) := by decide +kernel
theorem jo_202_7 : jb_op 202 7 = some (.iload_n 3, 99, 0, 0) := by decide +kernel
theorem jo_202_8 : jb_op 202 8 = some (.aload_n 0, 99, 0, 0) := by decide +kernel
theorem jo_202_9 : jb_op 202 9 = some (.getfield 65, 0, 10, 10) := by decide +kernel
theorem jo_202_12 : jb_op 202 12 = some (.invokevirtual 206, 2, 133, 2) := by decide +kernel
theorem jh_133_202 : jb_ht 133 < jb_ht 202 := by decide +kernel
theorem jo_202_15 : jb_op 202 15 = some (.aload_n 0, 99, 0, 0) := by decide +kernel
theorem jo_202_16 : jb_op 202 16 = some (.getfield 71, 0, 10, 12) := by decide +kernel
theorem jo_202_19 : jb_op 202 19 = some (.invokevirtual 233, 2, 13, 0) := by decide +kernel
theorem jh_13_202 : jb_ht 13 < jb_ht 202 := by decide +kernel
theorem jo_202_22 : jb_op 202 22 = some (.iconst 0, 99, 0, 0) := by decide +kernel
theorem jo_202_23 : jb_op 202 23 = some (.istore 4, 99, 0, 0) := by decide +kernel
theorem jo_202_25 : jb_op 202 25 = some (.iload 4, 99, 0, 0) := by decide +kernel
theorem jo_202_27 : jb_op 202 27 = some (.aload_n 0, 99, 0, 0) := by decide +kernel
theorem jo_202_28 : jb_op 202 28 = some (.getfield 65, 0, 10, 10) := by decide +kernel
theorem jo_202_31 : jb_op 202 31 = some (.invokevirtual 120, 2, 12, 0) := by decide +kernel
theorem jh_12_202 : jb_ht 12 < jb_ht 202 := by decide +kernel
theorem jo_202_34 : jb_op 202 34 = some (.if_icmp .ge (37), 99, 0, 0) := by decide +kernel
theorem jo_202_71 : jb_op 202 71 = some (.aload_n 0, 99, 0, 0) := by decide +kernel
theorem jo_202_72 : jb_op 202 72 = some (.getfield 39, 0, 10, 5) := by decide +kernel
theorem jo_202_75 : jb_op 202 75 = some (.aload_n 0, 99, 0, 0) := by decide +kernel
theorem jo_202_76 : jb_op 202 76 = some (.getfield 10, 0, 10, 0) := by decide +kernel
theorem jo_202_79 : jb_op 202 79 = some (.getfield 124, 1, 9, 1) := by decide +kernel
theorem jo_202_82 : jb_op 202 82 = some (.aload_n 0, 99, 0, 0) := by decide +kernel
theorem jo_202_83 : jb_op 202 83 = some (.getfield 71, 0, 10, 12) := by decide +kernel
theorem jo_202_86 : jb_op 202 86 = some (.aload_n 0, 99, 0, 0) := by decide +kernel
theorem jo_202_87 : jb_op 202 87 = some (.getfield 74, 0, 10, 13) := by decide +kernel
theorem jf_0_13 : jm_f 0 13 = some (some 303) := by decide +kernel
theorem jo_202_90 : jb_op 202 90 = some (.invokevirtual 316, 2, 172, 3) := by decide +kernel
theorem jh_172_202 : jb_ht 172 < jb_ht 202 := by decide +kernel
theorem jw_172 : jb_ow 172 = 3 := by decide +kernel
theorem jo_202_37 : jb_op 202 37 = some (.aload_n 0, 99, 0, 0) := by decide +kernel
theorem jo_202_38 : jb_op 202 38 = some (.getfield 71, 0, 10, 12) := by decide +kernel
theorem jo_202_41 : jb_op 202 41 = some (.aload_n 0, 99, 0, 0) := by decide +kernel
theorem jo_202_42 : jb_op 202 42 = some (.getfield 10, 0, 10, 0) := by decide +kernel
theorem jo_202_45 : jb_op 202 45 = some (.getfield 92, 1, 9, 0) := by decide +kernel
theorem jo_202_48 : jb_op 202 48 = some (.aload_n 0, 99, 0, 0) := by decide +kernel
theorem jo_202_49 : jb_op 202 49 = some (.getfield 65, 0, 10, 10) := by decide +kernel
theorem jo_202_52 : jb_op 202 52 = some (.iload 4, 99, 0, 0) := by decide +kernel
theorem jo_202_54 : jb_op 202 54 = some (.invokevirtual 164, 2, 6, 1) := by decide +kernel
theorem jh_6_202 : jb_ht 6 < jb_ht 202 := by decide +kernel
theorem jo_202_57 : jb_op 202 57 = some (.iload_n 1, 99, 0, 0) := by decide +kernel
theorem jo_202_58 : jb_op 202 58 = some (.iload_n 2, 99, 0, 0) := by decide +kernel
theorem jo_202_59 : jb_op 202 59 = some (.invokevirtual 226, 2, 68, 3) := by decide +kernel
theorem jh_68_202 : jb_ht 68 < jb_ht 202 := by decide +kernel
theorem jo_202_62 : jb_op 202 62 = some (.invokevirtual 117, 2, 1, 1) := by decide +kernel
theorem jh_1_202 : jb_ht 1 < jb_ht 202 := by decide +kernel
theorem jo_202_65 : jb_op 202 65 = some (.iinc 4 1, 99, 0, 0) := by decide +kernel
theorem jo_202_68 : jb_op 202 68 = some (.goto (-43), 99, 0, 0) := by decide +kernel
theorem jo_202_93 : jb_op 202 93 = some (.ifCond .ne (5), 99, 0, 0) := by decide +kernel
theorem jo_202_96 : jb_op 202 96 = some (.iconst 0, 99, 0, 0) := by decide +kernel
theorem jo_202_97 : jb_op 202 97 = some (.ireturn, 99, 0, 0) := by decide +kernel
theorem jr_202 : jb_ret 202 = (some .int) := by decide +kernel
theorem jo_202_98 : jb_op 202 98 = some (.aload_n 0, 99, 0, 0) := by decide +kernel
theorem jo_202_99 : jb_op 202 99 = some (.getfield 39, 0, 10, 5) := by decide +kernel
theorem jo_202_102 : jb_op 202 102 = some (.aload_n 0, 99, 0, 0) := by decide +kernel
theorem jo_202_103 : jb_op 202 103 = some (.getfield 10, 0, 10, 0) := by decide +kernel
theorem jo_202_106 : jb_op 202 106 = some (.getfield 124, 1, 9, 1) := by decide +kernel
theorem jo_202_109 : jb_op 202 109 = some (.aload_n 0, 99, 0, 0) := by decide +kernel
theorem jo_202_110 : jb_op 202 110 = some (.getfield 65, 0, 10, 10) := by decide +kernel
theorem jo_202_113 : jb_op 202 113 = some (.aload_n 0, 99, 0, 0) := by decide +kernel
theorem jo_202_114 : jb_op 202 114 = some (.getfield 68, 0, 10, 11) := by decide +kernel
theorem jf_0_11 : jm_f 0 11 = some (some 299) := by decide +kernel
theorem jo_202_117 : jb_op 202 117 = some (.invokevirtual 316, 2, 172, 3) := by decide +kernel
theorem jo_202_120 : jb_op 202 120 = some (.istore 4, 99, 0, 0) := by decide +kernel
theorem jo_202_122 : jb_op 202 122 = some (.iload 4, 99, 0, 0) := by decide +kernel
theorem jo_202_124 : jb_op 202 124 = some (.ifCond .eq (21), 99, 0, 0) := by decide +kernel
theorem jo_202_145 : jb_op 202 145 = some (.iconst 2, 99, 0, 0) := by decide +kernel
theorem jo_202_146 : jb_op 202 146 = some (.ireturn, 99, 0, 0) := by decide +kernel
theorem jo_202_127 : jb_op 202 127 = some (.aload_n 0, 99, 0, 0) := by decide +kernel
theorem jo_202_128 : jb_op 202 128 = some (.getfield 74, 0, 10, 13) := by decide +kernel
theorem jo_202_131 : jb_op 202 131 = some (.aload_n 0, 99, 0, 0) := by decide +kernel
theorem jo_202_132 : jb_op 202 132 = some (.getfield 68, 0, 10, 11) := by decide +kernel
theorem jo_202_135 : jb_op 202 135 = some (.invokevirtual 319, 2, 75, 1) := by decide +kernel
theorem jc_303 : jm_c 303 = 6 := by decide +kernel
theorem jh_75_202 : jb_ht 75 < jb_ht 202 := by decide +kernel
theorem jw_75 : jb_ow 75 = 6 := by decide +kernel
theorem jo_202_138 : jb_op 202 138 = some (.ifCond .eq (7), 99, 0, 0) := by decide +kernel
theorem jo_202_141 : jb_op 202 141 = some (.iconst 1, 99, 0, 0) := by decide +kernel
theorem jo_202_142 : jb_op 202 142 = some (.goto 4, 99, 0, 0) := by decide +kernel
theorem jl_202 : jb_ml 202 = 5 := by decide +kernel
theorem jo_203_0 : jb_op 203 0 = some (.aload_n 0, 99, 0, 0) := by decide +kernel
theorem jo_203_1 : jb_op 203 1 = some (.getfield 10, 0, 10, 0) := by decide +kernel
theorem jo_203_4 : jb_op 203 4 = some (.getfield 199, 1, 9, 3) := by decide +kernel
theorem jo_203_7 : jb_op 203 7 = some (.iload_n 1, 99, 0, 0) := by decide +kernel
theorem jo_203_8 : jb_op 203 8 = some (.aload_n 0, 99, 0, 0) := by decide +kernel
theorem jo_203_9 : jb_op 203 9 = some (.getfield 65, 0, 10, 10) := by decide +kernel
theorem jo_203_12 : jb_op 203 12 = some (.invokevirtual 206, 2, 133, 2) := by decide +kernel
theorem jh_133_203 : jb_ht 133 < jb_ht 203 := by decide +kernel
theorem jo_203_15 : jb_op 203 15 = some (.aload_n 0, 99, 0, 0) := by decide +kernel
theorem jo_203_16 : jb_op 203 16 = some (.getfield 39, 0, 10, 5) := by decide +kernel
theorem jo_203_19 : jb_op 203 19 = some (.aload_n 0, 99, 0, 0) := by decide +kernel
theorem jo_203_20 : jb_op 203 20 = some (.getfield 10, 0, 10, 0) := by decide +kernel
theorem jo_203_23 : jb_op 203 23 = some (.getfield 124, 1, 9, 1) := by decide +kernel
theorem jo_203_26 : jb_op 203 26 = some (.aload_n 0, 99, 0, 0) := by decide +kernel
theorem jo_203_27 : jb_op 203 27 = some (.getfield 65, 0, 10, 10) := by decide +kernel
theorem jo_203_30 : jb_op 203 30 = some (.aload_n 0, 99, 0, 0) := by decide +kernel
theorem jo_203_31 : jb_op 203 31 = some (.getfield 68, 0, 10, 11) := by decide +kernel
theorem jo_203_34 : jb_op 203 34 = some (.invokevirtual 316, 2, 172, 3) := by decide +kernel
theorem jh_172_203 : jb_ht 172 < jb_ht 203 := by decide +kernel
theorem jo_203_37 : jb_op 203 37 = some (.ireturn, 99, 0, 0) := by decide +kernel
theorem jr_203 : jb_ret 203 = (some .boolean) := by decide +kernel
theorem jl_203 : jb_ml 203 = 2 := by decide +kernel
theorem jo_204_0 : jb_op 204 0 = some (.iload_n 1, 99, 0, 0) := by decide +kernel
theorem jo_204_1 : jb_op 204 1 = some (.invokestatic 53, 4, 20, 1) := by decide +kernel
theorem jh_20_204 : jb_ht 20 < jb_ht 204 := by decide +kernel
theorem jo_204_4 : jb_op 204 4 = some (.astore_n 3, 99, 0, 0) := by decide +kernel
theorem jo_204_5 : jb_op 204 5 = some (.iconst 0, 99, 0, 0) := by decide +kernel
theorem jo_204_6 : jb_op 204 6 = some (.istore 4, 99, 0, 0) := by decide +kernel
theorem jo_204_8 : jb_op 204 8 = some (.iload 4, 99, 0, 0) := by decide +kernel
theorem jo_204_10 : jb_op 204 10 = some (.aload_n 3, 99, 0, 0) := by decide +kernel
theorem jo_204_11 : jb_op 204 11 = some (.invokevirtual 62, 2, 82, 0) := by decide +kernel
theorem jh_82_204 : jb_ht 82 < jb_ht 204 := by decide +kernel
theorem jo_204_14 : jb_op 204 14 = some (.if_icmp .ge (35), 99, 0, 0) := by decide +kernel
theorem jo_204_49 : jb_op 204 49 = some (.aload_n 3, 99, 0, 0) := by decide +kernel
theorem jo_204_50 : jb_op 204 50 = some (.invokevirtual 62, 2, 82, 0) := by decide +kernel
theorem jo_204_17 : jb_op 204 17 = some (.aload_n 3, 99, 0, 0) := by decide +kernel
theorem jo_204_18 : jb_op 204 18 = some (.iload 4, 99, 0, 0) := by decide +kernel
theorem jo_204_20 : jb_op 204 20 = some (.invokevirtual 65, 2, 178, 1) := by decide +kernel
theorem jh_178_204 : jb_ht 178 < jb_ht 204 := by decide +kernel
theorem jw_178 : jb_ow 178 = 13 := by decide +kernel
theorem jo_204_23 : jb_op 204 23 = some (.aload_n 0, 99, 0, 0) := by decide +kernel
theorem jo_204_24 : jb_op 204 24 = some (.getfield 14, 0, 8, 0) := by decide +kernel
theorem jo_204_27 : jb_op 204 27 = some (.iload_n 2, 99, 0, 0) := by decide +kernel
theorem jo_204_28 : jb_op 204 28 = some (.iload 4, 99, 0, 0) := by decide +kernel
theorem jo_204_30 : jb_op 204 30 = some (.iadd, 99, 0, 0) := by decide +kernel
theorem jo_204_31 : jb_op 204 31 = some (.invokevirtual 50, 2, 6, 1) := by decide +kernel
theorem jh_6_204 : jb_ht 6 < jb_ht 204 := by decide +kernel
theorem jo_204_34 : jb_op 204 34 = some (.invokestatic 83, 4, 84, 2) := by decide +kernel
theorem jh_84_204 : jb_ht 84 < jb_ht 204 := by decide +kernel
theorem jo_204_37 : jb_op 204 37 = some (.ifCond .ne (6), 99, 0, 0) := by decide +kernel
theorem jo_204_40 : jb_op 204 40 = some (.iload 4, 99, 0, 0) := by decide +kernel
theorem jo_204_42 : jb_op 204 42 = some (.ireturn, 99, 0, 0) := by decide +kernel
theorem jr_204 : jb_ret 204 = (some .int) := by decide +kernel
theorem jo_204_43 : jb_op 204 43 = some (.iinc 4 1, 99, 0, 0) := by decide +kernel
theorem jo_204_46 : jb_op 204 46 = some (.goto (-38), 99, 0, 0) := by decide +kernel
theorem jo_204_53 : jb_op 204 53 = some (.ireturn, 99, 0, 0) := by decide +kernel
theorem jl_204 : jb_ml 204 = 5 := by decide +kernel
theorem jo_205_0 : jb_op 205 0 = some (.aload_n 0, 99, 0, 0) := by decide +kernel
theorem jo_205_1 : jb_op 205 1 = some (.getfield 20, 0, 8, 1) := by decide +kernel
theorem jo_205_4 : jb_op 205 4 = some (.iload_n 1, 99, 0, 0) := by decide +kernel
theorem jo_205_5 : jb_op 205 5 = some (.invokevirtual 50, 2, 6, 1) := by decide +kernel
theorem jh_6_205 : jb_ht 6 < jb_ht 205 := by decide +kernel
theorem jo_205_8 : jb_op 205 8 = some (.invokestatic 53, 4, 20, 1) := by decide +kernel
theorem jh_20_205 : jb_ht 20 < jb_ht 205 := by decide +kernel
theorem jo_205_11 : jb_op 205 11 = some (.astore_n 3, 99, 0, 0) := by decide +kernel
theorem jo_205_12 : jb_op 205 12 = some (.aload_n 3, 99, 0, 0) := by decide +kernel
theorem jo_205_13 : jb_op 205 13 = some (.bipush 32, 99, 0, 0) := by decide +kernel
theorem jo_205_15 : jb_op 205 15 = some (.invokevirtual 57, 2, 179, 1) := by decide +kernel
theorem jh_179_205 : jb_ht 179 < jb_ht 205 := by decide +kernel
theorem jw_179 : jb_ow 179 = 13 := by decide +kernel
theorem jo_205_18 : jb_op 205 18 = some (.iconst 1, 99, 0, 0) := by decide +kernel
theorem jo_205_19 : jb_op 205 19 = some (.iadd, 99, 0, 0) := by decide +kernel
theorem jo_205_20 : jb_op 205 20 = some (.iconst 2, 99, 0, 0) := by decide +kernel
theorem jo_205_21 : jb_op 205 21 = some (.iload_n 2, 99, 0, 0) := by decide +kernel
theorem jo_205_22 : jb_op 205 22 = some (.imul, 99, 0, 0) := by decide +kernel
theorem jo_205_23 : jb_op 205 23 = some (.iadd, 99, 0, 0) := by decide +kernel
theorem jo_205_24 : jb_op 205 24 = some (.istore 4, 99, 0, 0) := by decide +kernel
theorem jo_205_26 : jb_op 205 26 = some (.iload 4, 99, 0, 0) := by decide +kernel
theorem jo_205_28 : jb_op 205 28 = some (.ifCond .lt (12), 99, 0, 0) := by decide +kernel
theorem jo_205_40 : jb_op 205 40 = some (.iconst (-1), 99, 0, 0) := by decide +kernel
theorem jo_205_41 : jb_op 205 41 = some (.ireturn, 99, 0, 0) := by decide +kernel
theorem jr_205 : jb_ret 205 = (some .int) := by decide +kernel
theorem jo_205_31 : jb_op 205 31 = some (.iload 4, 99, 0, 0) := by decide +kernel
theorem jo_205_33 : jb_op 205 33 = some (.aload_n 3, 99, 0, 0) := by decide +kernel
theorem jo_205_34 : jb_op 205 34 = some (.invokevirtual 62, 2, 82, 0) := by decide +kernel
theorem jh_82_205 : jb_ht 82 < jb_ht 205 := by decide +kernel
theorem jo_205_37 : jb_op 205 37 = some (.if_icmp .lt (5), 99, 0, 0) := by decide +kernel
theorem jo_205_42 : jb_op 205 42 = some (.aload_n 0, 99, 0, 0) := by decide +kernel
theorem jo_205_43 : jb_op 205 43 = some (.getfield 14, 0, 8, 0) := by decide +kernel
theorem jo_205_46 : jb_op 205 46 = some (.aload_n 0, 99, 0, 0) := by decide +kernel
theorem jo_205_47 : jb_op 205 47 = some (.getfield 23, 0, 8, 2) := by decide +kernel
theorem jo_205_50 : jb_op 205 50 = some (.iload_n 1, 99, 0, 0) := by decide +kernel
theorem jo_205_51 : jb_op 205 51 = some (.invokevirtual 50, 2, 6, 1) := by decide +kernel
theorem jo_205_54 : jb_op 205 54 = some (.iload 4, 99, 0, 0) := by decide +kernel
theorem jo_205_56 : jb_op 205 56 = some (.iadd, 99, 0, 0) := by decide +kernel
theorem jo_205_57 : jb_op 205 57 = some (.invokevirtual 50, 2, 6, 1) := by decide +kernel
theorem jo_205_60 : jb_op 205 60 = some (.istore 5, 99, 0, 0) := by decide +kernel
theorem jo_205_62 : jb_op 205 62 = some (.aload_n 3, 99, 0, 0) := by decide +kernel
theorem jo_205_63 : jb_op 205 63 = some (.iload 4, 99, 0, 0) := by decide +kernel
theorem jo_205_65 : jb_op 205 65 = some (.invokevirtual 65, 2, 178, 1) := by decide +kernel
theorem jh_178_205 : jb_ht 178 < jb_ht 205 := by decide +kernel
theorem jo_205_68 : jb_op 205 68 = some (.lookupswitch (54) #[((66), (36)), ((68), (48)), ((75), (42))], 99, 0, 0) := by decide +kernel
theorem jo_205_104 : jb_op 205 104 = some (.iload 5, 99, 0, 0) := by decide +kernel
theorem jo_205_106 : jb_op 205 106 = some (.invokestatic 69, 5, 10, 1) := by decide +kernel
theorem jh_10_205 : jb_ht 10 < jb_ht 205 := by decide +kernel
theorem jo_205_116 : jb_op 205 116 = some (.iload 5, 99, 0, 0) := by decide +kernel
theorem jo_205_118 : jb_op 205 118 = some (.bipush 48, 99, 0, 0) := by decide +kernel
theorem jo_205_120 : jb_op 205 120 = some (.isub, 99, 0, 0) := by decide +kernel
theorem jo_205_121 : jb_op 205 121 = some (.ireturn, 99, 0, 0) := by decide +kernel
theorem jo_205_110 : jb_op 205 110 = some (.iload 5, 99, 0, 0) := by decide +kernel
theorem jo_205_112 : jb_op 205 112 = some (.invokestatic 72, 5, 24, 1) := by decide +kernel
theorem jh_24_205 : jb_ht 24 < jb_ht 205 := by decide +kernel
theorem jo_205_122 : jb_op 205 122 = some (.iconst (-1), 99, 0, 0) := by decide +kernel
theorem jo_205_123 : jb_op 205 123 = some (.ireturn, 99, 0, 0) := by decide +kernel
theorem jo_205_115 : jb_op 205 115 = some (.ireturn, 99, 0, 0) := by decide +kernel
theorem jo_205_109 : jb_op 205 109 = some (.ireturn, 99, 0, 0) := by decide +kernel
theorem jl_205 : jb_ml 205 = 6 := by decide +kernel
theorem jo_206_0 : jb_op 206 0 = some (.aload_n 0, 99, 0, 0) := by decide +kernel
theorem jo_206_1 : jb_op 206 1 = some (.getfield 25, 0, 10, 3) := by decide +kernel
theorem jo_206_4 : jb_op 206 4 = some (.getfield 266, 1, 2, 2) := by decide +kernel
theorem jo_206_7 : jb_op 206 7 = some (.ifCond .ne (6), 99, 0, 0) := by decide +kernel
theorem jo_206_10 : jb_op 206 10 = some (.bipush (-3), 99, 0, 0) := by decide +kernel
theorem jo_206_12 : jb_op 206 12 = some (.ireturn, 99, 0, 0) := by decide +kernel
theorem jr_206 : jb_ret 206 = (some .int) := by decide +kernel
theorem jo_206_13 : jb_op 206 13 = some (.aload_n 0, 99, 0, 0) := by decide +kernel
theorem jo_206_14 : jb_op 206 14 = some (.getfield 25, 0, 10, 3) := by decide +kernel
theorem jo_206_17 : jb_op 206 17 = some (.aload_n 0, 99, 0, 0) := by decide +kernel
theorem jo_206_18 : jb_op 206 18 = some (.getfield 10, 0, 10, 0) := by decide +kernel
theorem jo_206_21 : jb_op 206 21 = some (.invokevirtual 293, 2, 180, 1) := by decide +kernel
theorem jh_180_206 : jb_ht 180 < jb_ht 206 := by decide +kernel
theorem jw_180 : jb_ow 180 = 2 := by decide +kernel
theorem jo_206_24 : jb_op 206 24 = some (.aload_n 0, 99, 0, 0) := by decide +kernel
theorem jo_206_25 : jb_op 206 25 = some (.getfield 25, 0, 10, 3) := by decide +kernel
theorem jo_206_28 : jb_op 206 28 = some (.getfield 266, 1, 2, 2) := by decide +kernel
theorem jo_206_31 : jb_op 206 31 = some (.ireturn, 99, 0, 0) := by decide +kernel
theorem jl_206 : jb_ml 206 = 1 := by decide +kernel
theorem jo_207_0 : jb_op 207 0 = some (.iload_n 1, 99, 0, 0) := by decide +kernel
theorem jo_207_1 : jb_op 207 1 = some (.invokestatic 141, 4, 99, 1) := by decide +kernel
theorem jh_99_207 : jb_ht 99 < jb_ht 207 := by decide +kernel
theorem jo_207_4 : jb_op 207 4 = some (.ifCond .ne (6), 99, 0, 0) := by decide +kernel
theorem jo_207_7 : jb_op 207 7 = some (.bipush (-2), 99, 0, 0) := by decide +kernel
theorem jo_207_9 : jb_op 207 9 = some (.ireturn, 99, 0, 0) := by decide +kernel
theorem jr_207 : jb_ret 207 = (some .int) := by decide +kernel
theorem jo_207_10 : jb_op 207 10 = some (.aload_n 0, 99, 0, 0) := by decide +kernel
theorem jo_207_11 : jb_op 207 11 = some (.invokevirtual 104, 2, 93, 0) := by decide +kernel
theorem jh_93_207 : jb_ht 93 < jb_ht 207 := by decide +kernel
theorem jo_207_14 : jb_op 207 14 = some (.aload_n 0, 99, 0, 0) := by decide +kernel
theorem jo_207_15 : jb_op 207 15 = some (.invokevirtual 144, 2, 35, 0) := by decide +kernel
theorem jh_35_207 : jb_ht 35 < jb_ht 207 := by decide +kernel
theorem jo_207_18 : jb_op 207 18 = some (.aload_n 0, 99, 0, 0) := by decide +kernel
theorem jo_207_19 : jb_op 207 19 = some (.aload_n 0, 99, 0, 0) := by decide +kernel
theorem jo_207_20 : jb_op 207 20 = some (.iload_n 1, 99, 0, 0) := by decide +kernel
theorem jo_207_21 : jb_op 207 21 = some (.invokevirtual 147, 2, 185, 1) := by decide +kernel
theorem jh_185_207 : jb_ht 185 < jb_ht 207 := by decide +kernel
theorem jw_185 : jb_ow 185 = 11 := by decide +kernel
theorem jo_207_24 : jb_op 207 24 = some (.invokevirtual 115, 2, 149, 1) := by decide +kernel
theorem jh_149_207 : jb_ht 149 < jb_ht 207 := by decide +kernel
theorem jo_207_27 : jb_op 207 27 = some (.istore_n 2, 99, 0, 0) := by decide +kernel
theorem jo_207_28 : jb_op 207 28 = some (.aload_n 0, 99, 0, 0) := by decide +kernel
theorem jo_207_29 : jb_op 207 29 = some (.iload_n 2, 99, 0, 0) := by decide +kernel
theorem jo_207_30 : jb_op 207 30 = some (.bipush (-5), 99, 0, 0) := by decide +kernel
theorem jo_207_32 : jb_op 207 32 = some (.if_icmp .ne (10), 99, 0, 0) := by decide +kernel
theorem jo_207_35 : jb_op 207 35 = some (.aload_n 0, 99, 0, 0) := by decide +kernel
theorem jo_207_36 : jb_op 207 36 = some (.getfield 121, 0, 11, 12) := by decide +kernel
theorem jo_207_39 : jb_op 207 39 = some (.goto 4, 99, 0, 0) := by decide +kernel
theorem jo_207_43 : jb_op 207 43 = some (.putfield 121, 0, 11, 12) := by decide +kernel
theorem jo_207_46 : jb_op 207 46 = some (.iload_n 2, 99, 0, 0) := by decide +kernel
theorem jo_207_47 : jb_op 207 47 = some (.ireturn, 99, 0, 0) := by decide +kernel
theorem jo_207_42 : jb_op 207 42 = some (.iconst 0, 99, 0, 0) := by decide +kernel
theorem jl_207 : jb_ml 207 = 3 := by decide +kernel
theorem jo_208_0 : jb_op 208 0 = some (.aload_n 0, 99, 0, 0) := by decide +kernel
theorem jo_208_1 : jb_op 208 1 = some (.iload_n 1, 99, 0, 0) := by decide +kernel
theorem jo_208_2 : jb_op 208 2 = some (.invokevirtual 194, 2, 108, 1) := by decide +kernel
theorem jh_108_208 : jb_ht 108 < jb_ht 208 := by decide +kernel
theorem jo_208_5 : jb_op 208 5 = some (.ifCond .ne (5), 99, 0, 0) := by decide +kernel
theorem jo_208_8 : jb_op 208 8 = some (.iconst (-1), 99, 0, 0) := by decide +kernel
theorem jo_208_9 : jb_op 208 9 = some (.ireturn, 99, 0, 0) := by decide +kernel
theorem jr_208 : jb_ret 208 = (some .int) := by decide +kernel
theorem jo_208_10 : jb_op 208 10 = some (.aload_n 0, 99, 0, 0) := by decide +kernel
theorem jo_208_11 : jb_op 208 11 = some (.iload_n 1, 99, 0, 0) := by decide +kernel
theorem jo_208_12 : jb_op 208 12 = some (.invokevirtual 197, 2, 109, 1) := by decide +kernel
theorem jh_109_208 : jb_ht 109 < jb_ht 208 := by decide +kernel
theorem jo_208_15 : jb_op 208 15 = some (.aload_n 0, 99, 0, 0) := by decide +kernel
theorem jo_208_16 : jb_op 208 16 = some (.invokevirtual 201, 2, 194, 0) := by decide +kernel
theorem jh_194_208 : jb_ht 194 < jb_ht 208 := by decide +kernel
theorem jw_194 : jb_ow 194 = 11 := by decide +kernel
theorem jo_208_19 : jb_op 208 19 = some (.ifCond .ne (8), 99, 0, 0) := by decide +kernel
theorem jo_208_22 : jb_op 208 22 = some (.bipush (-6), 99, 0, 0) := by decide +kernel
theorem jo_208_24 : jb_op 208 24 = some (.goto 27, 99, 0, 0) := by decide +kernel
theorem jo_208_51 : jb_op 208 51 = some (.ireturn, 99, 0, 0) := by decide +kernel
theorem jo_208_27 : jb_op 208 27 = some (.iload_n 2, 99, 0, 0) := by decide +kernel
theorem jo_208_28 : jb_op 208 28 = some (.iconst 0, 99, 0, 0) := by decide +kernel
theorem jo_208_29 : jb_op 208 29 = some (.aload_n 0, 99, 0, 0) := by decide +kernel
theorem jo_208_30 : jb_op 208 30 = some (.getfield 188, 0, 11, 24) := by decide +kernel
theorem jo_208_33 : jb_op 208 33 = some (.iconst 1, 99, 0, 0) := by decide +kernel
theorem jo_208_34 : jb_op 208 34 = some (.isub, 99, 0, 0) := by decide +kernel
theorem jo_208_35 : jb_op 208 35 = some (.invokestatic 85, 4, 31, 3) := by decide +kernel
theorem jh_31_208 : jb_ht 31 < jb_ht 208 := by decide +kernel
theorem jo_208_38 : jb_op 208 38 = some (.ifCond .eq (12), 99, 0, 0) := by decide +kernel
theorem jo_208_50 : jb_op 208 50 = some (.iconst (-1), 99, 0, 0) := by decide +kernel
theorem jo_208_41 : jb_op 208 41 = some (.aload_n 0, 99, 0, 0) := by decide +kernel
theorem jo_208_42 : jb_op 208 42 = some (.getfield 44, 0, 11, 23) := by decide +kernel
theorem jo_208_45 : jb_op 208 45 = some (.iload_n 2, 99, 0, 0) := by decide +kernel
theorem jo_208_46 : jb_op 208 46 = some (.iaload, 99, 0, 0) := by decide +kernel
theorem jo_208_47 : jb_op 208 47 = some (.goto 4, 99, 0, 0) := by decide +kernel
theorem jl_208 : jb_ml 208 = 3 := by decide +kernel
theorem jo_209_0 : jb_op 209 0 = some (.aload_n 0, 99, 0, 0) := by decide +kernel
theorem jo_209_1 : jb_op 209 1 = some (.iload_n 1, 99, 0, 0) := by decide +kernel
theorem jo_209_2 : jb_op 209 2 = some (.invokevirtual 194, 2, 108, 1) := by decide +kernel
theorem jh_108_209 : jb_ht 108 < jb_ht 209 := by decide +kernel
theorem jo_209_5 : jb_op 209 5 = some (.ifCond .ne (5), 99, 0, 0) := by decide +kernel
theorem jo_209_8 : jb_op 209 8 = some (.iconst (-1), 99, 0, 0) := by decide +kernel
theorem jo_209_9 : jb_op 209 9 = some (.ireturn, 99, 0, 0) := by decide +kernel
theorem jr_209 : jb_ret 209 = (some .int) := by decide +kernel
theorem jo_209_10 : jb_op 209 10 = some (.aload_n 0, 99, 0, 0) := by decide +kernel
theorem jo_209_11 : jb_op 209 11 = some (.iload_n 1, 99, 0, 0) := by decide +kernel
theorem jo_209_12 : jb_op 209 12 = some (.invokevirtual 197, 2, 109, 1) := by decide +kernel
theorem jh_109_209 : jb_ht 109 < jb_ht 209 := by decide +kernel
theorem jo_209_15 : jb_op 209 15 = some (.aload_n 0, 99, 0, 0) := by decide +kernel
theorem jo_209_16 : jb_op 209 16 = some (.invokevirtual 201, 2, 194, 0) := by decide +kernel
theorem jh_194_209 : jb_ht 194 < jb_ht 209 := by decide +kernel
theorem jo_209_19 : jb_op 209 19 = some (.ifCond .ne (6), 99, 0, 0) := by decide +kernel
theorem jo_209_22 : jb_op 209 22 = some (.bipush (-6), 99, 0, 0) := by decide +kernel
theorem jo_209_24 : jb_op 209 24 = some (.ireturn, 99, 0, 0) := by decide +kernel
theorem jo_209_25 : jb_op 209 25 = some (.aload_n 0, 99, 0, 0) := by decide +kernel
theorem jo_209_26 : jb_op 209 26 = some (.getfield 124, 0, 11, 20) := by decide +kernel
theorem jo_209_29 : jb_op 209 29 = some (.istore_n 2, 99, 0, 0) := by decide +kernel
theorem jo_209_30 : jb_op 209 30 = some (.iconst 0, 99, 0, 0) := by decide +kernel
theorem jo_209_31 : jb_op 209 31 = some (.istore_n 3, 99, 0, 0) := by decide +kernel
theorem jo_209_32 : jb_op 209 32 = some (.iload_n 3, 99, 0, 0) := by decide +kernel
theorem jo_209_33 : jb_op 209 33 = some (.aload_n 0, 99, 0, 0) := by decide +kernel
theorem jo_209_34 : jb_op 209 34 = some (.getfield 188, 0, 11, 24) := by decide +kernel
theorem jo_209_37 : jb_op 209 37 = some (.if_icmp .ge (28), 99, 0, 0) := by decide +kernel
theorem jo_209_65 : jb_op 209 65 = some (.iload_n 2, 99, 0, 0) := by decide +kernel
theorem jo_209_66 : jb_op 209 66 = some (.ireturn, 99, 0, 0) := by decide +kernel
theorem jo_209_40 : jb_op 209 40 = some (.iload_n 2, 99, 0, 0) := by decide +kernel
theorem jo_209_41 : jb_op 209 41 = some (.aload_n 0, 99, 0, 0) := by decide +kernel
theorem jo_209_42 : jb_op 209 42 = some (.getfield 9, 0, 11, 0) := by decide +kernel
theorem jo_209_45 : jb_op 209 45 = some (.aload_n 0, 99, 0, 0) := by decide +kernel
theorem jo_209_46 : jb_op 209 46 = some (.getfield 44, 0, 11, 23) := by decide +kernel
theorem jo_209_49 : jb_op 209 49 = some (.iload_n 3, 99, 0, 0) := by decide +kernel
theorem jo_209_50 : jb_op 209 50 = some (.iaload, 99, 0, 0) := by decide +kernel
theorem jo_209_51 : jb_op 209 51 = some (.invokestatic 130, 4, 36, 1) := by decide +kernel
theorem jh_36_209 : jb_ht 36 < jb_ht 209 := by decide +kernel
theorem jo_209_54 : jb_op 209 54 = some (.iconst 1, 99, 0, 0) := by decide +kernel
theorem jo_209_55 : jb_op 209 55 = some (.iadd, 99, 0, 0) := by decide +kernel
theorem jo_209_56 : jb_op 209 56 = some (.iaload, 99, 0, 0) := by decide +kernel
theorem jo_209_57 : jb_op 209 57 = some (.isub, 99, 0, 0) := by decide +kernel
theorem jo_209_58 : jb_op 209 58 = some (.istore_n 2, 99, 0, 0) := by decide +kernel
theorem jo_209_59 : jb_op 209 59 = some (.iinc 3 1, 99, 0, 0) := by decide +kernel
theorem jo_209_62 : jb_op 209 62 = some (.goto (-30), 99, 0, 0) := by decide +kernel
theorem jl_209 : jb_ml 209 = 4 := by decide +kernel
theorem jo_210_0 : jb_op 210 0 = some (.aload_n 0, 99, 0, 0) := by decide +kernel
theorem jo_210_1 : jb_op 210 1 = some (.iload_n 3, 99, 0, 0) := by decide +kernel
theorem jo_210_2 : jb_op 210 2 = some (.invokevirtual 197, 2, 109, 1) := by decide +kernel
theorem jh_109_210 : jb_ht 109 < jb_ht 210 := by decide +kernel
theorem jo_210_5 : jb_op 210 5 = some (.aload_n 0, 99, 0, 0) := by decide +kernel
theorem jo_210_6 : jb_op 210 6 = some (.invokevirtual 201, 2, 194, 0) := by decide +kernel
theorem jh_194_210 : jb_ht 194 < jb_ht 210 := by decide +kernel
theorem jo_210_9 : jb_op 210 9 = some (.istore 4, 99, 0, 0) := by decide +kernel
theorem jo_210_11 : jb_op 210 11 = some (.aload_n 0, 99, 0, 0) := by decide +kernel
theorem jo_210_12 : jb_op 210 12 = some (.getfield 188, 0, 11, 24) := by decide +kernel
theorem jo_210_15 : jb_op 210 15 = some (.istore 5, 99, 0, 0) := by decide +kernel
theorem jo_210_17 : jb_op 210 17 = some (.iconst 0, 99, 0, 0) := by decide +kernel
theorem jo_210_18 : jb_op 210 18 = some (.istore 6, 99, 0, 0) := by decide +kernel
theorem jo_210_20 : jb_op 210 20 = some (.iload 6, 99, 0, 0) := by decide +kernel
theorem jo_210_22 : jb_op 210 22 = some (.iload 5, 99, 0, 0) := by decide +kernel
theorem jo_210_24 : jb_op 210 24 = some (.if_icmp .ge (23), 99, 0, 0) := by decide +kernel
theorem jo_210_47 : jb_op 210 47 = some (.aload_n 0, 99, 0, 0) := by decide +kernel
theorem jo_210_48 : jb_op 210 48 = some (.iload_n 3, 99, 0, 0) := by decide +kernel
theorem jo_210_49 : jb_op 210 49 = some (.invokevirtual 197, 2, 109, 1) := by decide +kernel
theorem jo_210_27 : jb_op 210 27 = some (.aload_n 0, 99, 0, 0) := by decide +kernel
theorem jo_210_28 : jb_op 210 28 = some (.getfield 47, 0, 11, 25) := by decide +kernel
theorem jf_307_25 : jm_f 307 25 = some (some 319) := by decide +kernel
theorem jo_210_31 : jb_op 210 31 = some (.iload 6, 99, 0, 0) := by decide +kernel
theorem jo_210_33 : jb_op 210 33 = some (.aload_n 0, 99, 0, 0) := by decide +kernel
theorem jo_210_34 : jb_op 210 34 = some (.getfield 44, 0, 11, 23) := by decide +kernel
theorem jo_210_37 : jb_op 210 37 = some (.iload 6, 99, 0, 0) := by decide +kernel
theorem jo_210_39 : jb_op 210 39 = some (.iaload, 99, 0, 0) := by decide +kernel
theorem jo_210_40 : jb_op 210 40 = some (.iastore, 99, 0, 0) := by decide +kernel
theorem jc_319 : jm_c 319 = 12 := by decide +kernel
theorem jn_319 : jm_ln 319 = 20 := by decide +kernel
theorem jo_210_41 : jb_op 210 41 = some (.iinc 6 1, 99, 0, 0) := by decide +kernel
theorem jo_210_44 : jb_op 210 44 = some (.goto (-24), 99, 0, 0) := by decide +kernel
theorem jo_210_52 : jb_op 210 52 = some (.iconst 0, 99, 0, 0) := by decide +kernel
theorem jo_210_53 : jb_op 210 53 = some (.istore 6, 99, 0, 0) := by decide +kernel
theorem jo_210_55 : jb_op 210 55 = some (.iload 6, 99, 0, 0) := by decide +kernel
theorem jo_210_57 : jb_op 210 57 = some (.aload_n 0, 99, 0, 0) := by decide +kernel
theorem jo_210_58 : jb_op 210 58 = some (.getfield 124, 0, 11, 20) := by decide +kernel
theorem jo_210_61 : jb_op 210 61 = some (.if_icmp .ge (43), 99, 0, 0) := by decide +kernel
theorem jo_210_104 : jb_op 210 104 = some (.aload_n 0, 99, 0, 0) := by decide +kernel
theorem jo_210_105 : jb_op 210 105 = some (.invokevirtual 201, 2, 194, 0) := by decide +kernel
theorem jo_210_64 : jb_op 210 64 = some (.aload_n 0, 99, 0, 0) := by decide +kernel
theorem jo_210_65 : jb_op 210 65 = some (.getfield 35, 0, 11, 19) := by decide +kernel
theorem jo_210_68 : jb_op 210 68 = some (.iload 6, 99, 0, 0) := by decide +kernel
theorem jo_210_70 : jb_op 210 70 = some (.aload_n 0, 99, 0, 0) := by decide +kernel
theorem jo_210_71 : jb_op 210 71 = some (.iload_n 1, 99, 0, 0) := by decide +kernel
theorem jo_210_72 : jb_op 210 72 = some (.iload_n 2, 99, 0, 0) := by decide +kernel
theorem jo_210_73 : jb_op 210 73 = some (.aload_n 0, 99, 0, 0) := by decide +kernel
theorem jo_210_74 : jb_op 210 74 = some (.getfield 35, 0, 11, 19) := by decide +kernel
theorem jo_210_77 : jb_op 210 77 = some (.iload 6, 99, 0, 0) := by decide +kernel
theorem jo_210_79 : jb_op 210 79 = some (.iaload, 99, 0, 0) := by decide +kernel
theorem jo_210_80 : jb_op 210 80 = some (.invokevirtual 208, 2, 110, 3) := by decide +kernel
theorem jh_110_210 : jb_ht 110 < jb_ht 210 := by decide +kernel
theorem jo_210_83 : jb_op 210 83 = some (.ifCond .eq (13), 99, 0, 0) := by decide +kernel
theorem jo_210_96 : jb_op 210 96 = some (.iconst 5, 99, 0, 0) := by decide +kernel
theorem jo_210_97 : jb_op 210 97 = some (.iastore, 99, 0, 0) := by decide +kernel
theorem jo_210_98 : jb_op 210 98 = some (.iinc 6 1, 99, 0, 0) := by decide +kernel
theorem jo_210_101 : jb_op 210 101 = some (.goto (-46), 99, 0, 0) := by decide +kernel
theorem jo_210_86 : jb_op 210 86 = some (.aload_n 0, 99, 0, 0) := by decide +kernel
theorem jo_210_87 : jb_op 210 87 = some (.getfield 35, 0, 11, 19) := by decide +kernel
theorem jo_210_90 : jb_op 210 90 = some (.iload 6, 99, 0, 0) := by decide +kernel
theorem jo_210_92 : jb_op 210 92 = some (.iaload, 99, 0, 0) := by decide +kernel
theorem jo_210_93 : jb_op 210 93 = some (.goto 4, 99, 0, 0) := by decide +kernel
theorem jo_210_108 : jb_op 210 108 = some (.ifCond .ne (5), 99, 0, 0) := by decide +kernel
theorem jo_210_111 : jb_op 210 111 = some (.iconst 0, 99, 0, 0) := by decide +kernel
theorem jo_210_112 : jb_op 210 112 = some (.ireturn, 99, 0, 0) := by decide +kernel
theorem jr_210 : jb_ret 210 = (some .int) := by decide +kernel
theorem jo_210_113 : jb_op 210 113 = some (.iload 4, 99, 0, 0) := by decide +kernel
theorem jo_210_115 : jb_op 210 115 = some (.ifCond .eq (16), 99, 0, 0) := by decide +kernel
theorem jo_210_131 : jb_op 210 131 = some (.iconst 0, 99, 0, 0) := by decide +kernel
theorem jo_210_132 : jb_op 210 132 = some (.istore 4, 99, 0, 0) := by decide +kernel
theorem jo_210_134 : jb_op 210 134 = some (.iconst 0, 99, 0, 0) := by decide +kernel
theorem jo_210_135 : jb_op 210 135 = some (.istore 6, 99, 0, 0) := by decide +kernel
theorem jo_210_118 : jb_op 210 118 = some (.aload_n 0, 99, 0, 0) := by decide +kernel
theorem jo_210_119 : jb_op 210 119 = some (.getfield 188, 0, 11, 24) := by decide +kernel
theorem jo_210_122 : jb_op 210 122 = some (.iload 5, 99, 0, 0) := by decide +kernel
theorem jo_210_124 : jb_op 210 124 = some (.if_icmp .ne (7), 99, 0, 0) := by decide +kernel
theorem jo_210_127 : jb_op 210 127 = some (.iconst 1, 99, 0, 0) := by decide +kernel
theorem jo_210_128 : jb_op 210 128 = some (.goto 4, 99, 0, 0) := by decide +kernel
theorem jo_210_137 : jb_op 210 137 = some (.iload 6, 99, 0, 0) := by decide +kernel
theorem jo_210_139 : jb_op 210 139 = some (.iload 5, 99, 0, 0) := by decide +kernel
theorem jo_210_141 : jb_op 210 141 = some (.if_icmp .ge (38), 99, 0, 0) := by decide +kernel
theorem jo_210_179 : jb_op 210 179 = some (.iload 4, 99, 0, 0) := by decide +kernel
theorem jo_210_181 : jb_op 210 181 = some (.ifCond .eq (7), 99, 0, 0) := by decide +kernel
theorem jo_210_188 : jb_op 210 188 = some (.iconst 2, 99, 0, 0) := by decide +kernel
theorem jo_210_189 : jb_op 210 189 = some (.ireturn, 99, 0, 0) := by decide +kernel
theorem jo_210_184 : jb_op 210 184 = some (.iconst 1, 99, 0, 0) := by decide +kernel
theorem jo_210_185 : jb_op 210 185 = some (.goto 4, 99, 0, 0) := by decide +kernel
theorem jo_210_144 : jb_op 210 144 = some (.iload 4, 99, 0, 0) := by decide +kernel
theorem jo_210_146 : jb_op 210 146 = some (.ifCond .eq (33), 99, 0, 0) := by decide +kernel
theorem jo_210_149 : jb_op 210 149 = some (.aload_n 0, 99, 0, 0) := by decide +kernel
theorem jo_210_150 : jb_op 210 150 = some (.getfield 47, 0, 11, 25) := by decide +kernel
theorem jo_210_153 : jb_op 210 153 = some (.iload 6, 99, 0, 0) := by decide +kernel
theorem jo_210_155 : jb_op 210 155 = some (.iaload, 99, 0, 0) := by decide +kernel
theorem jo_210_156 : jb_op 210 156 = some (.aload_n 0, 99, 0, 0) := by decide +kernel
theorem jo_210_157 : jb_op 210 157 = some (.getfield 44, 0, 11, 23) := by decide +kernel
theorem jo_210_160 : jb_op 210 160 = some (.iload 6, 99, 0, 0) := by decide +kernel
theorem jo_210_162 : jb_op 210 162 = some (.iaload, 99, 0, 0) := by decide +kernel
theorem jo_210_163 : jb_op 210 163 = some (.if_icmp .ne (7), 99, 0, 0) := by decide +kernel
theorem jo_210_166 : jb_op 210 166 = some (.iconst 1, 99, 0, 0) := by decide +kernel
theorem jo_210_167 : jb_op 210 167 = some (.goto 4, 99, 0, 0) := by decide +kernel
theorem jo_210_171 : jb_op 210 171 = some (.istore 4, 99, 0, 0) := by decide +kernel
theorem jo_210_173 : jb_op 210 173 = some (.iinc 6 1, 99, 0, 0) := by decide +kernel
theorem jo_210_176 : jb_op 210 176 = some (.goto (-39), 99, 0, 0) := by decide +kernel
theorem jo_210_170 : jb_op 210 170 = some (.iconst 0, 99, 0, 0) := by decide +kernel
theorem jl_210 : jb_ml 210 = 7 := by decide +kernel
theorem jo_211_0 : jb_op 211 0 = some (.aload_n 0, 99, 0, 0) := by decide +kernel
theorem jo_211_1 : jb_op 211 1 = some (.iload_n 1, 99, 0, 0) := by decide +kernel
theorem jo_211_2 : jb_op 211 2 = some (.invokevirtual 194, 2, 108, 1) := by decide +kernel
theorem jh_108_211 : jb_ht 108 < jb_ht 211 := by decide +kernel
theorem jo_211_5 : jb_op 211 5 = some (.ifCond .ne (5), 99, 0, 0) := by decide +kernel
theorem jo_211_8 : jb_op 211 8 = some (.iconst (-1), 99, 0, 0) := by decide +kernel
theorem jo_211_9 : jb_op 211 9 = some (.ireturn, 99, 0, 0) := by decide +kernel
theorem jr_211 : jb_ret 211 = (some .int) := by decide +kernel
theorem jo_211_10 : jb_op 211 10 = some (.aload_n 0, 99, 0, 0) := by decide +kernel
theorem jo_211_11 : jb_op 211 11 = some (.iload_n 1, 99, 0, 0) := by decide +kernel
theorem jo_211_12 : jb_op 211 12 = some (.invokevirtual 197, 2, 109, 1) := by decide +kernel
theorem jh_109_211 : jb_ht 109 < jb_ht 211 := by decide +kernel
theorem jo_211_15 : jb_op 211 15 = some (.iconst 0, 99, 0, 0) := by decide +kernel
theorem jo_211_16 : jb_op 211 16 = some (.istore_n 2, 99, 0, 0) := by decide +kernel
theorem jo_211_17 : jb_op 211 17 = some (.iconst 0, 99, 0, 0) := by decide +kernel
theorem jo_211_18 : jb_op 211 18 = some (.istore_n 3, 99, 0, 0) := by decide +kernel
theorem jo_211_19 : jb_op 211 19 = some (.iload_n 3, 99, 0, 0) := by decide +kernel
theorem jo_211_20 : jb_op 211 20 = some (.aload_n 0, 99, 0, 0) := by decide +kernel
theorem jo_211_21 : jb_op 211 21 = some (.getfield 124, 0, 11, 20) := by decide +kernel
theorem jo_211_24 : jb_op 211 24 = some (.if_icmp .ge (21), 99, 0, 0) := by decide +kernel
theorem jo_211_45 : jb_op 211 45 = some (.aload_n 0, 99, 0, 0) := by decide +kernel
theorem jo_211_46 : jb_op 211 46 = some (.invokevirtual 201, 2, 194, 0) := by decide +kernel
theorem jh_194_211 : jb_ht 194 < jb_ht 211 := by decide +kernel
theorem jo_211_27 : jb_op 211 27 = some (.aload_n 0, 99, 0, 0) := by decide +kernel
theorem jo_211_28 : jb_op 211 28 = some (.iload_n 2, 99, 0, 0) := by decide +kernel
theorem jo_211_29 : jb_op 211 29 = some (.aload_n 0, 99, 0, 0) := by decide +kernel
theorem jo_211_30 : jb_op 211 30 = some (.getfield 35, 0, 11, 19) := by decide +kernel
theorem jo_211_33 : jb_op 211 33 = some (.iload_n 3, 99, 0, 0) := by decide +kernel
theorem jo_211_34 : jb_op 211 34 = some (.iaload, 99, 0, 0) := by decide +kernel
theorem jo_211_35 : jb_op 211 35 = some (.invokevirtual 247, 2, 115, 2) := by decide +kernel
theorem jh_115_211 : jb_ht 115 < jb_ht 211 := by decide +kernel
theorem jo_211_38 : jb_op 211 38 = some (.istore_n 2, 99, 0, 0) := by decide +kernel
theorem jo_211_39 : jb_op 211 39 = some (.iinc 3 1, 99, 0, 0) := by decide +kernel
theorem jo_211_42 : jb_op 211 42 = some (.goto (-23), 99, 0, 0) := by decide +kernel
theorem jo_211_49 : jb_op 211 49 = some (.istore_n 3, 99, 0, 0) := by decide +kernel
theorem jo_211_50 : jb_op 211 50 = some (.iconst 0, 99, 0, 0) := by decide +kernel
theorem jo_211_51 : jb_op 211 51 = some (.istore 4, 99, 0, 0) := by decide +kernel
theorem jo_211_53 : jb_op 211 53 = some (.iload 4, 99, 0, 0) := by decide +kernel
theorem jo_211_55 : jb_op 211 55 = some (.aload_n 0, 99, 0, 0) := by decide +kernel
theorem jo_211_56 : jb_op 211 56 = some (.getfield 188, 0, 11, 24) := by decide +kernel
theorem jo_211_59 : jb_op 211 59 = some (.if_icmp .ge (58), 99, 0, 0) := by decide +kernel
theorem jo_211_117 : jb_op 211 117 = some (.aload_n 0, 99, 0, 0) := by decide +kernel
theorem jo_211_118 : jb_op 211 118 = some (.iload_n 2, 99, 0, 0) := by decide +kernel
theorem jo_211_119 : jb_op 211 119 = some (.putfield 253, 0, 11, 16) := by decide +kernel
theorem jo_211_122 : jb_op 211 122 = some (.iload_n 2, 99, 0, 0) := by decide +kernel
theorem jo_211_123 : jb_op 211 123 = some (.ireturn, 99, 0, 0) := by decide +kernel
theorem jo_211_62 : jb_op 211 62 = some (.iload_n 3, 99, 0, 0) := by decide +kernel
theorem jo_211_63 : jb_op 211 63 = some (.ifCond .eq (54), 99, 0, 0) := by decide +kernel
theorem jo_211_66 : jb_op 211 66 = some (.aload_n 0, 99, 0, 0) := by decide +kernel
theorem jo_211_67 : jb_op 211 67 = some (.aload_n 0, 99, 0, 0) := by decide +kernel
theorem jo_211_68 : jb_op 211 68 = some (.iload_n 2, 99, 0, 0) := by decide +kernel
theorem jo_211_69 : jb_op 211 69 = some (.iload 4, 99, 0, 0) := by decide +kernel
theorem jo_211_71 : jb_op 211 71 = some (.ifCond .ne (8), 99, 0, 0) := by decide +kernel
theorem jo_211_74 : jb_op 211 74 = some (.bipush 61, 99, 0, 0) := by decide +kernel
theorem jo_211_76 : jb_op 211 76 = some (.goto 5, 99, 0, 0) := by decide +kernel
theorem jo_211_81 : jb_op 211 81 = some (.invokevirtual 244, 2, 43, 2) := by decide +kernel
theorem jh_43_211 : jb_ht 43 < jb_ht 211 := by decide +kernel
theorem jo_211_79 : jb_op 211 79 = some (.bipush 32, 99, 0, 0) := by decide +kernel
theorem jo_211_84 : jb_op 211 84 = some (.aload_n 0, 99, 0, 0) := by decide +kernel
theorem jo_211_85 : jb_op 211 85 = some (.getfield 44, 0, 11, 23) := by decide +kernel
theorem jo_211_88 : jb_op 211 88 = some (.iload 4, 99, 0, 0) := by decide +kernel
theorem jo_211_90 : jb_op 211 90 = some (.iaload, 99, 0, 0) := by decide +kernel
theorem jo_211_91 : jb_op 211 91 = some (.invokevirtual 250, 2, 116, 2) := by decide +kernel
theorem jh_116_211 : jb_ht 116 < jb_ht 211 := by decide +kernel
theorem jo_211_94 : jb_op 211 94 = some (.istore_n 2, 99, 0, 0) := by decide +kernel
theorem jo_211_95 : jb_op 211 95 = some (.aload_n 0, 99, 0, 0) := by decide +kernel
theorem jo_211_96 : jb_op 211 96 = some (.iload_n 2, 99, 0, 0) := by decide +kernel
theorem jo_211_97 : jb_op 211 97 = some (.bipush 48, 99, 0, 0) := by decide +kernel
theorem jo_211_99 : jb_op 211 99 = some (.aload_n 0, 99, 0, 0) := by decide +kernel
theorem jo_211_100 : jb_op 211 100 = some (.getfield 44, 0, 11, 23) := by decide +kernel
theorem jo_211_103 : jb_op 211 103 = some (.iload 4, 99, 0, 0) := by decide +kernel
theorem jo_211_105 : jb_op 211 105 = some (.iaload, 99, 0, 0) := by decide +kernel
theorem jo_211_106 : jb_op 211 106 = some (.iadd, 99, 0, 0) := by decide +kernel
theorem jo_211_107 : jb_op 211 107 = some (.invokevirtual 244, 2, 43, 2) := by decide +kernel
theorem jo_211_110 : jb_op 211 110 = some (.istore_n 2, 99, 0, 0) := by decide +kernel
theorem jo_211_111 : jb_op 211 111 = some (.iinc 4 1, 99, 0, 0) := by decide +kernel
theorem jo_211_114 : jb_op 211 114 = some (.goto (-61), 99, 0, 0) := by decide +kernel
theorem jl_211 : jb_ml 211 = 5 := by decide +kernel
theorem jo_212_0 : jb_op 212 0 = some (.aload_n 0, 99, 0, 0) := by decide +kernel
theorem jo_212_1 : jb_op 212 1 = some (.getfield 256, 0, 11, 27) := by decide +kernel
theorem jo_212_4 : jb_op 212 4 = some (.istore_n 1, 99, 0, 0) := by decide +kernel
theorem jo_212_5 : jb_op 212 5 = some (.iconst (-1), 99, 0, 0) := by decide +kernel
theorem jo_212_6 : jb_op 212 6 = some (.istore_n 2, 99, 0, 0) := by decide +kernel
theorem jo_212_7 : jb_op 212 7 = some (.iconst 0, 99, 0, 0) := by decide +kernel
theorem jo_212_8 : jb_op 212 8 = some (.istore_n 3, 99, 0, 0) := by decide +kernel
theorem jo_212_9 : jb_op 212 9 = some (.iload_n 3, 99, 0, 0) := by decide +kernel
theorem jo_212_10 : jb_op 212 10 = some (.bipush 8, 99, 0, 0) := by decide +kernel
theorem jo_212_12 : jb_op 212 12 = some (.if_icmp .ge (110), 99, 0, 0) := by decide +kernel
theorem jo_212_122 : jb_op 212 122 = some (.aload_n 0, 99, 0, 0) := by decide +kernel
theorem jo_212_123 : jb_op 212 123 = some (.iload_n 2, 99, 0, 0) := by decide +kernel
theorem jo_212_124 : jb_op 212 124 = some (.iconst (-1), 99, 0, 0) := by decide +kernel
theorem jo_212_125 : jb_op 212 125 = some (.if_icmp .ne (7), 99, 0, 0) := by decide +kernel
theorem jo_212_128 : jb_op 212 128 = some (.iload_n 1, 99, 0, 0) := by decide +kernel
theorem jo_212_129 : jb_op 212 129 = some (.goto 7, 99, 0, 0) := by decide +kernel
theorem jo_212_136 : jb_op 212 136 = some (.putfield 262, 0, 11, 28) := by decide +kernel
theorem jo_212_139 : jb_op 212 139 = some (.aload_n 0, 99, 0, 0) := by decide +kernel
theorem jo_212_140 : jb_op 212 140 = some (.dup, 99, 0, 0) := by decide +kernel
theorem jo_212_141 : jb_op 212 141 = some (.getfield 256, 0, 11, 27) := by decide +kernel
theorem jo_212_144 : jb_op 212 144 = some (.iload_n 2, 99, 0, 0) := by decide +kernel
theorem jo_212_145 : jb_op 212 145 = some (.iconst (-1), 99, 0, 0) := by decide +kernel
theorem jo_212_146 : jb_op 212 146 = some (.if_icmp .ne (7), 99, 0, 0) := by decide +kernel
theorem jo_212_149 : jb_op 212 149 = some (.iconst 0, 99, 0, 0) := by decide +kernel
theorem jo_212_150 : jb_op 212 150 = some (.goto 14, 99, 0, 0) := by decide +kernel
theorem jo_212_164 : jb_op 212 164 = some (.iadd, 99, 0, 0) := by decide +kernel
theorem jo_212_165 : jb_op 212 165 = some (.putfield 256, 0, 11, 27) := by decide +kernel
theorem jo_212_168 : jb_op 212 168 = some (.iload_n 2, 99, 0, 0) := by decide +kernel
theorem jo_212_169 : jb_op 212 169 = some (.ireturn, 99, 0, 0) := by decide +kernel
theorem jr_212 : jb_ret 212 = (some .int) := by decide +kernel
theorem jo_212_132 : jb_op 212 132 = some (.aload_n 0, 99, 0, 0) := by decide +kernel
theorem jo_212_133 : jb_op 212 133 = some (.getfield 262, 0, 11, 28) := by decide +kernel
theorem jo_212_153 : jb_op 212 153 = some (.iload_n 2, 99, 0, 0) := by decide +kernel
theorem jo_212_154 : jb_op 212 154 = some (.iconst 1, 99, 0, 0) := by decide +kernel
theorem jo_212_155 : jb_op 212 155 = some (.iadd, 99, 0, 0) := by decide +kernel
theorem jo_212_156 : jb_op 212 156 = some (.invokestatic 274, 4, 45, 1) := by decide +kernel
theorem jh_45_212 : jb_ht 45 < jb_ht 212 := by decide +kernel
theorem jo_212_15 : jb_op 212 15 = some (.iload_n 2, 99, 0, 0) := by decide +kernel
theorem jo_212_16 : jb_op 212 16 = some (.iconst (-1), 99, 0, 0) := by decide +kernel
theorem jo_212_17 : jb_op 212 17 = some (.if_icmp .ne (105), 99, 0, 0) := by decide +kernel
theorem jo_212_20 : jb_op 212 20 = some (.iload_n 3, 99, 0, 0) := by decide +kernel
theorem jo_212_21 : jb_op 212 21 = some (.iconst 1, 99, 0, 0) := by decide +kernel
theorem jo_212_22 : jb_op 212 22 = some (.iadd, 99, 0, 0) := by decide +kernel
theorem jo_212_23 : jb_op 212 23 = some (.invokestatic 274, 4, 45, 1) := by decide +kernel
theorem jo_212_26 : jb_op 212 26 = some (.iload_n 3, 99, 0, 0) := by decide +kernel
theorem jo_212_27 : jb_op 212 27 = some (.invokestatic 274, 4, 45, 1) := by decide +kernel
theorem jo_212_30 : jb_op 212 30 = some (.isub, 99, 0, 0) := by decide +kernel
theorem jo_212_31 : jb_op 212 31 = some (.istore 4, 99, 0, 0) := by decide +kernel
theorem jo_212_33 : jb_op 212 33 = some (.iconst 0, 99, 0, 0) := by decide +kernel
theorem jo_212_34 : jb_op 212 34 = some (.istore 5, 99, 0, 0) := by decide +kernel
theorem jo_212_36 : jb_op 212 36 = some (.iload 5, 99, 0, 0) := by decide +kernel
theorem jo_212_38 : jb_op 212 38 = some (.iload 4, 99, 0, 0) := by decide +kernel
theorem jo_212_40 : jb_op 212 40 = some (.if_icmp .ge (51), 99, 0, 0) := by decide +kernel
theorem jo_212_91 : jb_op 212 91 = some (.iload_n 1, 99, 0, 0) := by decide +kernel
theorem jo_212_92 : jb_op 212 92 = some (.aload_n 0, 99, 0, 0) := by decide +kernel
theorem jo_212_93 : jb_op 212 93 = some (.getfield 256, 0, 11, 27) := by decide +kernel
theorem jo_212_96 : jb_op 212 96 = some (.iload 5, 99, 0, 0) := by decide +kernel
theorem jo_212_98 : jb_op 212 98 = some (.iadd, 99, 0, 0) := by decide +kernel
theorem jo_212_99 : jb_op 212 99 = some (.invokestatic 285, 15, 0, 0) := by decide +kernel
theorem jo_212_102 : jb_op 212 102 = some (.istore_n 1, 99, 0, 0) := by decide +kernel
theorem jo_212_103 : jb_op 212 103 = some (.iload 5, 99, 0, 0) := by decide +kernel
theorem jo_212_105 : jb_op 212 105 = some (.iload 4, 99, 0, 0) := by decide +kernel
theorem jo_212_107 : jb_op 212 107 = some (.if_icmp .ne (7), 99, 0, 0) := by decide +kernel
theorem jo_212_110 : jb_op 212 110 = some (.iload_n 3, 99, 0, 0) := by decide +kernel
theorem jo_212_111 : jb_op 212 111 = some (.goto 4, 99, 0, 0) := by decide +kernel
theorem jo_212_115 : jb_op 212 115 = some (.istore_n 2, 99, 0, 0) := by decide +kernel
theorem jo_212_116 : jb_op 212 116 = some (.iinc 3 1, 99, 0, 0) := by decide +kernel
theorem jo_212_119 : jb_op 212 119 = some (.goto (-110), 99, 0, 0) := by decide +kernel
theorem jo_212_114 : jb_op 212 114 = some (.iload_n 2, 99, 0, 0) := by decide +kernel
theorem jo_212_43 : jb_op 212 43 = some (.aload_n 0, 99, 0, 0) := by decide +kernel
theorem jo_212_44 : jb_op 212 44 = some (.getfield 256, 0, 11, 27) := by decide +kernel
theorem jo_212_47 : jb_op 212 47 = some (.iload 5, 99, 0, 0) := by decide +kernel
theorem jo_212_49 : jb_op 212 49 = some (.iadd, 99, 0, 0) := by decide +kernel
theorem jo_212_50 : jb_op 212 50 = some (.aload_n 0, 99, 0, 0) := by decide +kernel
theorem jo_212_51 : jb_op 212 51 = some (.getfield 259, 0, 11, 26) := by decide +kernel
theorem jo_212_54 : jb_op 212 54 = some (.if_icmp .ge (37), 99, 0, 0) := by decide +kernel
theorem jo_212_57 : jb_op 212 57 = some (.aload_n 0, 99, 0, 0) := by decide +kernel
theorem jo_212_58 : jb_op 212 58 = some (.getfield 29, 0, 11, 13) := by decide +kernel
theorem jo_212_61 : jb_op 212 61 = some (.aload_n 0, 99, 0, 0) := by decide +kernel
theorem jo_212_62 : jb_op 212 62 = some (.getfield 256, 0, 11, 27) := by decide +kernel
theorem jo_212_65 : jb_op 212 65 = some (.iload 5, 99, 0, 0) := by decide +kernel
theorem jo_212_67 : jb_op 212 67 = some (.iadd, 99, 0, 0) := by decide +kernel
theorem jo_212_68 : jb_op 212 68 = some (.iaload, 99, 0, 0) := by decide +kernel
theorem jo_212_69 : jb_op 212 69 = some (.ldc_w 277, 11, 9, 0) := by decide +kernel
theorem jo_212_72 : jb_op 212 72 = some (.iload_n 3, 99, 0, 0) := by decide +kernel
theorem jo_212_73 : jb_op 212 73 = some (.invokestatic 274, 4, 45, 1) := by decide +kernel
theorem jo_212_76 : jb_op 212 76 = some (.iload 5, 99, 0, 0) := by decide +kernel
theorem jo_212_78 : jb_op 212 78 = some (.iadd, 99, 0, 0) := by decide +kernel
theorem jo_212_79 : jb_op 212 79 = some (.invokevirtual 279, 2, 178, 1) := by decide +kernel
theorem jh_178_212 : jb_ht 178 < jb_ht 212 := by decide +kernel
theorem jo_212_82 : jb_op 212 82 = some (.if_icmp .ne (9), 99, 0, 0) := by decide +kernel
theorem jo_212_85 : jb_op 212 85 = some (.iinc 5 1, 99, 0, 0) := by decide +kernel
theorem jo_212_88 : jb_op 212 88 = some (.goto (-52), 99, 0, 0) := by decide +kernel
theorem jo_212_159 : jb_op 212 159 = some (.iload_n 2, 99, 0, 0) := by decide +kernel
theorem jo_212_160 : jb_op 212 160 = some (.invokestatic 274, 4, 45, 1) := by decide +kernel
theorem jo_212_163 : jb_op 212 163 = some (.isub, 99, 0, 0) := by decide +kernel
theorem jl_212 : jb_ml 212 = 6 := by decide +kernel
theorem jo_213_0 : jb_op 213 0 = some (.aload_n 0, 99, 0, 0) := by decide +kernel
theorem jo_213_1 : jb_op 213 1 = some (.getfield 50, 0, 11, 30) := by decide +kernel
theorem jo_213_4 : jb_op 213 4 = some (.iload_n 1, 99, 0, 0) := by decide +kernel
theorem jo_213_5 : jb_op 213 5 = some (.iconst 1, 99, 0, 0) := by decide +kernel
theorem jo_213_6 : jb_op 213 6 = some (.iadd, 99, 0, 0) := by decide +kernel
theorem jo_213_7 : jb_op 213 7 = some (.iaload, 99, 0, 0) := by decide +kernel
theorem jo_213_8 : jb_op 213 8 = some (.istore_n 2, 99, 0, 0) := by decide +kernel
theorem jo_213_9 : jb_op 213 9 = some (.aload_n 0, 99, 0, 0) := by decide +kernel
theorem jo_213_10 : jb_op 213 10 = some (.getfield 50, 0, 11, 30) := by decide +kernel
theorem jo_213_13 : jb_op 213 13 = some (.iload_n 1, 99, 0, 0) := by decide +kernel
theorem jo_213_14 : jb_op 213 14 = some (.iconst 2, 99, 0, 0) := by decide +kernel
theorem jo_213_15 : jb_op 213 15 = some (.iadd, 99, 0, 0) := by decide +kernel
theorem jo_213_16 : jb_op 213 16 = some (.iaload, 99, 0, 0) := by decide +kernel
theorem jo_213_17 : jb_op 213 17 = some (.istore_n 3, 99, 0, 0) := by decide +kernel
theorem jo_213_18 : jb_op 213 18 = some (.aload_n 0, 99, 0, 0) := by decide +kernel
theorem jo_213_19 : jb_op 213 19 = some (.getfield 50, 0, 11, 30) := by decide +kernel
theorem jo_213_22 : jb_op 213 22 = some (.iload_n 1, 99, 0, 0) := by decide +kernel
theorem jo_213_23 : jb_op 213 23 = some (.iaload, 99, 0, 0) := by decide +kernel
theorem jo_213_24 : jb_op 213 24 = some (.tableswitch (104) (0) (6) #[(44), (56), (62), (73), (79), (86), (98)], 99, 0, 0) := by decide +kernel
theorem jo_213_68 : jb_op 213 68 = some (.aload_n 0, 99, 0, 0) := by decide +kernel
theorem jo_213_69 : jb_op 213 69 = some (.iload_n 2, 99, 0, 0) := by decide +kernel
theorem jo_213_70 : jb_op 213 70 = some (.invokestatic 107, 4, 33, 1) := by decide +kernel
theorem jh_33_213 : jb_ht 33 < jb_ht 213 := by decide +kernel
theorem jo_213_80 : jb_op 213 80 = some (.aload_n 0, 99, 0, 0) := by decide +kernel
theorem jo_213_81 : jb_op 213 81 = some (.iload_n 2, 99, 0, 0) := by decide +kernel
theorem jo_213_82 : jb_op 213 82 = some (.invokevirtual 118, 2, 97, 1) := by decide +kernel
theorem jh_97_213 : jb_ht 97 < jb_ht 213 := by decide +kernel
theorem jo_213_86 : jb_op 213 86 = some (.aload_n 0, 99, 0, 0) := by decide +kernel
theorem jo_213_87 : jb_op 213 87 = some (.iload_n 1, 99, 0, 0) := by decide +kernel
theorem jo_213_88 : jb_op 213 88 = some (.invokevirtual 313, 2, 47, 1) := by decide +kernel
theorem jh_47_213 : jb_ht 47 < jb_ht 213 := by decide +kernel
theorem jw_47 : jb_ow 47 = 11 := by decide +kernel
theorem jo_213_97 : jb_op 213 97 = some (.aload_n 0, 99, 0, 0) := by decide +kernel
theorem jo_213_98 : jb_op 213 98 = some (.iload_n 2, 99, 0, 0) := by decide +kernel
theorem jo_213_99 : jb_op 213 99 = some (.invokevirtual 153, 2, 102, 1) := by decide +kernel
theorem jh_102_213 : jb_ht 102 < jb_ht 213 := by decide +kernel
theorem jo_213_103 : jb_op 213 103 = some (.aload_n 0, 99, 0, 0) := by decide +kernel
theorem jo_213_104 : jb_op 213 104 = some (.iload_n 2, 99, 0, 0) := by decide +kernel
theorem jo_213_105 : jb_op 213 105 = some (.iload_n 3, 99, 0, 0) := by decide +kernel
theorem jo_213_106 : jb_op 213 106 = some (.invokevirtual 162, 2, 104, 2) := by decide +kernel
theorem jh_104_213 : jb_ht 104 < jb_ht 213 := by decide +kernel
theorem jo_213_110 : jb_op 213 110 = some (.aload_n 0, 99, 0, 0) := by decide +kernel
theorem jo_213_111 : jb_op 213 111 = some (.iload_n 2, 99, 0, 0) := by decide +kernel
theorem jo_213_112 : jb_op 213 112 = some (.invokestatic 156, 4, 37, 1) := by decide +kernel
theorem jh_37_213 : jb_ht 37 < jb_ht 213 := by decide +kernel
theorem jo_213_122 : jb_op 213 122 = some (.aload_n 0, 99, 0, 0) := by decide +kernel
theorem jo_213_123 : jb_op 213 123 = some (.iload_n 2, 99, 0, 0) := by decide +kernel
theorem jo_213_124 : jb_op 213 124 = some (.invokevirtual 168, 2, 106, 1) := by decide +kernel
theorem jh_106_213 : jb_ht 106 < jb_ht 213 := by decide +kernel
theorem jo_213_128 : jb_op 213 128 = some (.aload_n 0, 99, 0, 0) := by decide +kernel
theorem jo_213_129 : jb_op 213 129 = some (.iload_n 1, 99, 0, 0) := by decide +kernel
theorem jo_213_130 : jb_op 213 130 = some (.invokevirtual 313, 2, 47, 1) := by decide +kernel
theorem jo_213_133 : jb_op 213 133 = some (.aload_n 0, 99, 0, 0) := by decide +kernel
theorem jo_213_134 : jb_op 213 134 = some (.invokevirtual 179, 2, 107, 0) := by decide +kernel
theorem jh_107_213 : jb_ht 107 < jb_ht 213 := by decide +kernel
theorem jo_213_137 : jb_op 213 137 = some (.ireturn, 99, 0, 0) := by decide +kernel
theorem jr_213 : jb_ret 213 = (some .int) := by decide +kernel
theorem jo_213_127 : jb_op 213 127 = some (.ireturn, 99, 0, 0) := by decide +kernel
theorem jo_213_115 : jb_op 213 115 = some (.iconst 0, 99, 0, 0) := by decide +kernel
theorem jo_213_116 : jb_op 213 116 = some (.iadd, 99, 0, 0) := by decide +kernel
theorem jo_213_117 : jb_op 213 117 = some (.iload_n 3, 99, 0, 0) := by decide +kernel
theorem jo_213_118 : jb_op 213 118 = some (.invokevirtual 111, 2, 94, 2) := by decide +kernel
theorem jh_94_213 : jb_ht 94 < jb_ht 213 := by decide +kernel
theorem jo_213_121 : jb_op 213 121 = some (.ireturn, 99, 0, 0) := by decide +kernel
theorem jo_213_109 : jb_op 213 109 = some (.ireturn, 99, 0, 0) := by decide +kernel
theorem jo_213_102 : jb_op 213 102 = some (.ireturn, 99, 0, 0) := by decide +kernel
theorem jo_213_91 : jb_op 213 91 = some (.aload_n 0, 99, 0, 0) := by decide +kernel
theorem jo_213_92 : jb_op 213 92 = some (.iload_n 2, 99, 0, 0) := by decide +kernel
theorem jo_213_93 : jb_op 213 93 = some (.invokevirtual 147, 2, 185, 1) := by decide +kernel
theorem jh_185_213 : jb_ht 185 < jb_ht 213 := by decide +kernel
theorem jo_213_96 : jb_op 213 96 = some (.ireturn, 99, 0, 0) := by decide +kernel
theorem jo_213_85 : jb_op 213 85 = some (.ireturn, 99, 0, 0) := by decide +kernel
theorem jo_213_73 : jb_op 213 73 = some (.iconst 0, 99, 0, 0) := by decide +kernel
theorem jo_213_74 : jb_op 213 74 = some (.iadd, 99, 0, 0) := by decide +kernel
theorem jo_213_75 : jb_op 213 75 = some (.iload_n 3, 99, 0, 0) := by decide +kernel
theorem jo_213_76 : jb_op 213 76 = some (.invokevirtual 111, 2, 94, 2) := by decide +kernel
theorem jo_213_79 : jb_op 213 79 = some (.ireturn, 99, 0, 0) := by decide +kernel
theorem jl_213 : jb_ml 213 = 4 := by decide +kernel
theorem jo_215_0 : jb_op 215 0 = some (.aload_n 0, 99, 0, 0) := by decide +kernel
theorem jo_215_1 : jb_op 215 1 = some (.getfield 16, 0, 10, 1) := by decide +kernel
theorem jo_215_4 : jb_op 215 4 = some (.aload_n 0, 99, 0, 0) := by decide +kernel
theorem jo_215_5 : jb_op 215 5 = some (.getfield 10, 0, 10, 0) := by decide +kernel
theorem jo_215_8 : jb_op 215 8 = some (.invokevirtual 88, 2, 123, 1) := by decide +kernel
theorem jc_26 : jm_c 26 = 9 := by decide +kernel
theorem jh_123_215 : jb_ht 123 < jb_ht 215 := by decide +kernel
theorem jo_215_11 : jb_op 215 11 = some (.aload_n 0, 99, 0, 0) := by decide +kernel
theorem jo_215_12 : jb_op 215 12 = some (.aload_n 0, 99, 0, 0) := by decide +kernel
theorem jo_215_13 : jb_op 215 13 = some (.getfield 10, 0, 10, 0) := by decide +kernel
theorem jo_215_16 : jb_op 215 16 = some (.getfield 92, 1, 9, 0) := by decide +kernel
theorem jo_215_19 : jb_op 215 19 = some (.iload_n 1, 99, 0, 0) := by decide +kernel
theorem jo_215_20 : jb_op 215 20 = some (.iload_n 2, 99, 0, 0) := by decide +kernel
theorem jo_215_21 : jb_op 215 21 = some (.aload_n 0, 99, 0, 0) := by decide +kernel
theorem jo_215_22 : jb_op 215 22 = some (.getfield 32, 0, 10, 4) := by decide +kernel
theorem jo_215_25 : jb_op 215 25 = some (.invokevirtual 96, 2, 57, 3) := by decide +kernel
theorem jh_57_215 : jb_ht 57 < jb_ht 215 := by decide +kernel
theorem jw_57 : jb_ow 57 = 0 := by decide +kernel
theorem jo_215_28 : jb_op 215 28 = some (.invokevirtual 102, 2, 200, 1) := by decide +kernel
theorem jh_200_215 : jb_ht 200 < jb_ht 215 := by decide +kernel
theorem jw_200 : jb_ow 200 = 10 := by decide +kernel
theorem jo_215_31 : jb_op 215 31 = some (.ireturn, 99, 0, 0) := by decide +kernel
theorem jr_215 : jb_ret 215 = (some .int) := by decide +kernel
theorem jl_215 : jb_ml 215 = 3 := by decide +kernel
theorem jo_216_0 : jb_op 216 0 = some (.aload_n 0, 99, 0, 0) := by decide +kernel
theorem jo_216_1 : jb_op 216 1 = some (.getfield 16, 0, 10, 1) := by decide +kernel
theorem jo_216_4 : jb_op 216 4 = some (.aload_n 0, 99, 0, 0) := by decide +kernel
theorem jo_216_5 : jb_op 216 5 = some (.getfield 10, 0, 10, 0) := by decide +kernel
theorem jo_216_8 : jb_op 216 8 = some (.invokevirtual 88, 2, 123, 1) := by decide +kernel
theorem jh_123_216 : jb_ht 123 < jb_ht 216 := by decide +kernel
theorem jo_216_11 : jb_op 216 11 = some (.aload_n 0, 99, 0, 0) := by decide +kernel
theorem jo_216_12 : jb_op 216 12 = some (.aload_n 0, 99, 0, 0) := by decide +kernel
theorem jo_216_13 : jb_op 216 13 = some (.getfield 10, 0, 10, 0) := by decide +kernel
theorem jo_216_16 : jb_op 216 16 = some (.getfield 92, 1, 9, 0) := by decide +kernel
theorem jo_216_19 : jb_op 216 19 = some (.iload_n 1, 99, 0, 0) := by decide +kernel
theorem jo_216_20 : jb_op 216 20 = some (.aload_n 0, 99, 0, 0) := by decide +kernel
theorem jo_216_21 : jb_op 216 21 = some (.getfield 32, 0, 10, 4) := by decide +kernel
theorem jo_216_24 : jb_op 216 24 = some (.invokevirtual 106, 2, 58, 2) := by decide +kernel
theorem jh_58_216 : jb_ht 58 < jb_ht 216 := by decide +kernel
theorem jw_58 : jb_ow 58 = 0 := by decide +kernel
theorem jo_216_27 : jb_op 216 27 = some (.invokevirtual 102, 2, 200, 1) := by decide +kernel
theorem jh_200_216 : jb_ht 200 < jb_ht 216 := by decide +kernel
theorem jo_216_30 : jb_op 216 30 = some (.ireturn, 99, 0, 0) := by decide +kernel
theorem jr_216 : jb_ret 216 = (some .int) := by decide +kernel
theorem jl_216 : jb_ml 216 = 2 := by decide +kernel
theorem jo_217_0 : jb_op 217 0 = some (.iload_n 1, 99, 0, 0) := by decide +kernel
theorem jo_217_1 : jb_op 217 1 = some (.ifCond .lt (10), 99, 0, 0) := by decide +kernel
theorem jo_217_4 : jb_op 217 4 = some (.aload_n 0, 99, 0, 0) := by decide +kernel
theorem jo_217_5 : jb_op 217 5 = some (.getfield 55, 0, 10, 7) := by decide +kernel
theorem jo_217_8 : jb_op 217 8 = some (.invokevirtual 233, 2, 13, 0) := by decide +kernel
theorem jh_13_217 : jb_ht 13 < jb_ht 217 := by decide +kernel
theorem jo_217_11 : jb_op 217 11 = some (.aload_n 0, 99, 0, 0) := by decide +kernel
theorem jo_217_12 : jb_op 217 12 = some (.iload_n 1, 99, 0, 0) := by decide +kernel
theorem jo_217_13 : jb_op 217 13 = some (.invokevirtual 102, 2, 200, 1) := by decide +kernel
theorem jh_200_217 : jb_ht 200 < jb_ht 217 := by decide +kernel
theorem jo_217_16 : jb_op 217 16 = some (.ireturn, 99, 0, 0) := by decide +kernel
theorem jr_217 : jb_ret 217 = (some .int) := by decide +kernel
theorem jl_217 : jb_ml 217 = 2 := by decide +kernel
theorem jo_218_0 : jb_op 218 0 = some (.aload_n 0, 99, 0, 0) := by decide +kernel
theorem jo_218_1 : jb_op 218 1 = some (.getfield 16, 0, 10, 1) := by decide +kernel
theorem jo_218_4 : jb_op 218 4 = some (.aload_n 0, 99, 0, 0) := by decide +kernel
theorem jo_218_5 : jb_op 218 5 = some (.getfield 10, 0, 10, 0) := by decide +kernel
theorem jo_218_8 : jb_op 218 8 = some (.invokevirtual 88, 2, 123, 1) := by decide +kernel
theorem jh_123_218 : jb_ht 123 < jb_ht 218 := by decide +kernel
theorem jo_218_11 : jb_op 218 11 = some (.aload_n 0, 99, 0, 0) := by decide +kernel
theorem jo_218_12 : jb_op 218 12 = some (.aload_n 0, 99, 0, 0) := by decide +kernel
theorem jo_218_13 : jb_op 218 13 = some (.getfield 10, 0, 10, 0) := by decide +kernel
theorem jo_218_16 : jb_op 218 16 = some (.getfield 124, 1, 9, 1) := by decide +kernel
theorem jo_218_19 : jb_op 218 19 = some (.iload_n 1, 99, 0, 0) := by decide +kernel
theorem jo_218_20 : jb_op 218 20 = some (.invokevirtual 137, 2, 125, 1) := by decide +kernel
theorem jh_125_218 : jb_ht 125 < jb_ht 218 := by decide +kernel
theorem jw_125 : jb_ow 125 = 1 := by decide +kernel
theorem jo_218_23 : jb_op 218 23 = some (.invokevirtual 102, 2, 200, 1) := by decide +kernel
theorem jh_200_218 : jb_ht 200 < jb_ht 218 := by decide +kernel
theorem jo_218_26 : jb_op 218 26 = some (.ireturn, 99, 0, 0) := by decide +kernel
theorem jr_218 : jb_ret 218 = (some .int) := by decide +kernel
theorem jl_218 : jb_ml 218 = 2 := by decide +kernel
theorem jo_219_0 : jb_op 219 0 = some (.aload_n 0, 99, 0, 0) := by decide +kernel
theorem jo_219_1 : jb_op 219 1 = some (.getfield 16, 0, 10, 1) := by decide +kernel
theorem jo_219_4 : jb_op 219 4 = some (.aload_n 0, 99, 0, 0) := by decide +kernel
theorem jo_219_5 : jb_op 219 5 = some (.getfield 10, 0, 10, 0) := by decide +kernel
theorem jo_219_8 : jb_op 219 8 = some (.invokevirtual 88, 2, 123, 1) := by decide +kernel
theorem jh_123_219 : jb_ht 123 < jb_ht 219 := by decide +kernel
theorem jo_219_11 : jb_op 219 11 = some (.aload_n 0, 99, 0, 0) := by decide +kernel
theorem jo_219_12 : jb_op 219 12 = some (.aload_n 0, 99, 0, 0) := by decide +kernel
theorem jo_219_13 : jb_op 219 13 = some (.getfield 10, 0, 10, 0) := by decide +kernel
theorem jo_219_16 : jb_op 219 16 = some (.getfield 140, 1, 9, 2) := by decide +kernel
theorem jo_219_19 : jb_op 219 19 = some (.iload_n 1, 99, 0, 0) := by decide +kernel
theorem jo_219_20 : jb_op 219 20 = some (.iload_n 2, 99, 0, 0) := by decide +kernel
theorem jo_219_21 : jb_op 219 21 = some (.aload_n 0, 99, 0, 0) := by decide +kernel
theorem jo_219_22 : jb_op 219 22 = some (.getfield 32, 0, 10, 4) := by decide +kernel
theorem jo_219_25 : jb_op 219 25 = some (.invokevirtual 144, 2, 63, 3) := by decide +kernel
theorem jh_63_219 : jb_ht 63 < jb_ht 219 := by decide +kernel
theorem jw_63 : jb_ow 63 = 7 := by decide +kernel
theorem jo_219_28 : jb_op 219 28 = some (.invokevirtual 102, 2, 200, 1) := by decide +kernel
theorem jh_200_219 : jb_ht 200 < jb_ht 219 := by decide +kernel
theorem jo_219_31 : jb_op 219 31 = some (.ireturn, 99, 0, 0) := by decide +kernel
theorem jr_219 : jb_ret 219 = (some .int) := by decide +kernel
theorem jl_219 : jb_ml 219 = 3 := by decide +kernel
theorem jo_220_0 : jb_op 220 0 = some (.aload_n 0, 99, 0, 0) := by decide +kernel
theorem jo_220_1 : jb_op 220 1 = some (.getfield 16, 0, 10, 1) := by decide +kernel
theorem jo_220_4 : jb_op 220 4 = some (.aload_n 0, 99, 0, 0) := by decide +kernel
theorem jo_220_5 : jb_op 220 5 = some (.getfield 10, 0, 10, 0) := by decide +kernel
theorem jo_220_8 : jb_op 220 8 = some (.invokevirtual 88, 2, 123, 1) := by decide +kernel
theorem jh_123_220 : jb_ht 123 < jb_ht 220 := by decide +kernel
theorem jo_220_11 : jb_op 220 11 = some (.aload_n 0, 99, 0, 0) := by decide +kernel
theorem jo_220_12 : jb_op 220 12 = some (.aload_n 0, 99, 0, 0) := by decide +kernel
theorem jo_220_13 : jb_op 220 13 = some (.getfield 10, 0, 10, 0) := by decide +kernel
theorem jo_220_16 : jb_op 220 16 = some (.getfield 140, 1, 9, 2) := by decide +kernel
theorem jo_220_19 : jb_op 220 19 = some (.iload_n 1, 99, 0, 0) := by decide +kernel
theorem jo_220_20 : jb_op 220 20 = some (.iload_n 2, 99, 0, 0) := by decide +kernel
theorem jo_220_21 : jb_op 220 21 = some (.aload_n 0, 99, 0, 0) := by decide +kernel
theorem jo_220_22 : jb_op 220 22 = some (.getfield 32, 0, 10, 4) := by decide +kernel
theorem jo_220_25 : jb_op 220 25 = some (.invokevirtual 149, 2, 64, 3) := by decide +kernel
theorem jh_64_220 : jb_ht 64 < jb_ht 220 := by decide +kernel
theorem jw_64 : jb_ow 64 = 7 := by decide +kernel
theorem jo_220_28 : jb_op 220 28 = some (.invokevirtual 102, 2, 200, 1) := by decide +kernel
theorem jh_200_220 : jb_ht 200 < jb_ht 220 := by decide +kernel
theorem jo_220_31 : jb_op 220 31 = some (.ireturn, 99, 0, 0) := by decide +kernel
theorem jr_220 : jb_ret 220 = (some .int) := by decide +kernel
theorem jl_220 : jb_ml 220 = 3 := by decide +kernel
theorem jo_221_0 : jb_op 221 0 = some (.aload_n 0, 99, 0, 0) := by decide +kernel
theorem jo_221_1 : jb_op 221 1 = some (.getfield 16, 0, 10, 1) := by decide +kernel
theorem jo_221_4 : jb_op 221 4 = some (.aload_n 0, 99, 0, 0) := by decide +kernel
theorem jo_221_5 : jb_op 221 5 = some (.getfield 10, 0, 10, 0) := by decide +kernel
theorem jo_221_8 : jb_op 221 8 = some (.invokevirtual 88, 2, 123, 1) := by decide +kernel
theorem jh_123_221 : jb_ht 123 < jb_ht 221 := by decide +kernel
theorem jo_221_11 : jb_op 221 11 = some (.aload_n 0, 99, 0, 0) := by decide +kernel
theorem jo_221_12 : jb_op 221 12 = some (.aload_n 0, 99, 0, 0) := by decide +kernel
theorem jo_221_13 : jb_op 221 13 = some (.getfield 10, 0, 10, 0) := by decide +kernel
theorem jo_221_16 : jb_op 221 16 = some (.getfield 140, 1, 9, 2) := by decide +kernel
theorem jo_221_19 : jb_op 221 19 = some (.iload_n 1, 99, 0, 0) := by decide +kernel
theorem jo_221_20 : jb_op 221 20 = some (.invokevirtual 150, 2, 126, 1) := by decide +kernel
theorem jh_126_221 : jb_ht 126 < jb_ht 221 := by decide +kernel
theorem jw_126 : jb_ow 126 = 7 := by decide +kernel
theorem jo_221_23 : jb_op 221 23 = some (.invokevirtual 102, 2, 200, 1) := by decide +kernel
theorem jh_200_221 : jb_ht 200 < jb_ht 221 := by decide +kernel
theorem jo_221_26 : jb_op 221 26 = some (.ireturn, 99, 0, 0) := by decide +kernel
theorem jr_221 : jb_ret 221 = (some .int) := by decide +kernel
theorem jl_221 : jb_ml 221 = 2 := by decide +kernel
theorem jo_222_0 : jb_op 222 0 = some (.aload_n 0, 99, 0, 0) := by decide +kernel
theorem jo_222_1 : jb_op 222 1 = some (.getfield 10, 0, 10, 0) := by decide +kernel
theorem jo_222_4 : jb_op 222 4 = some (.getfield 140, 1, 9, 2) := by decide +kernel
theorem jo_222_7 : jb_op 222 7 = some (.getfield 189, 1, 7, 0) := by decide +kernel
theorem jo_222_10 : jb_op 222 10 = some (.iload_n 1, 99, 0, 0) := by decide +kernel
theorem jo_222_11 : jb_op 222 11 = some (.invokevirtual 164, 2, 6, 1) := by decide +kernel
theorem jh_6_222 : jb_ht 6 < jb_ht 222 := by decide +kernel
theorem jo_222_14 : jb_op 222 14 = some (.istore_n 2, 99, 0, 0) := by decide +kernel
theorem jo_222_15 : jb_op 222 15 = some (.aload_n 0, 99, 0, 0) := by decide +kernel
theorem jo_222_16 : jb_op 222 16 = some (.getfield 10, 0, 10, 0) := by decide +kernel
theorem jo_222_19 : jb_op 222 19 = some (.getfield 140, 1, 9, 2) := by decide +kernel
theorem jo_222_22 : jb_op 222 22 = some (.getfield 190, 1, 7, 1) := by decide +kernel
theorem jo_222_25 : jb_op 222 25 = some (.iload_n 1, 99, 0, 0) := by decide +kernel
theorem jo_222_26 : jb_op 222 26 = some (.invokevirtual 164, 2, 6, 1) := by decide +kernel
theorem jo_222_29 : jb_op 222 29 = some (.istore_n 3, 99, 0, 0) := by decide +kernel
theorem jo_222_30 : jb_op 222 30 = some (.iconst 0, 99, 0, 0) := by decide +kernel
theorem jo_222_31 : jb_op 222 31 = some (.istore 4, 99, 0, 0) := by decide +kernel
theorem jo_222_33 : jb_op 222 33 = some (.iconst 0, 99, 0, 0) := by decide +kernel
theorem jo_222_34 : jb_op 222 34 = some (.istore 5, 99, 0, 0) := by decide +kernel
theorem jo_222_36 : jb_op 222 36 = some (.iload 5, 99, 0, 0) := by decide +kernel
theorem jo_222_38 : jb_op 222 38 = some (.aload_n 0, 99, 0, 0) := by decide +kernel
theorem jo_222_39 : jb_op 222 39 = some (.getfield 10, 0, 10, 0) := by decide +kernel
theorem jo_222_42 : jb_op 222 42 = some (.getfield 199, 1, 9, 3) := by decide +kernel
theorem jo_222_45 : jb_op 222 45 = some (.getfield 245, 1, 4, 0) := by decide +kernel
theorem jo_222_48 : jb_op 222 48 = some (.invokevirtual 120, 2, 12, 0) := by decide +kernel
theorem jh_12_222 : jb_ht 12 < jb_ht 222 := by decide +kernel
theorem jo_222_51 : jb_op 222 51 = some (.if_icmp .ge (24), 99, 0, 0) := by decide +kernel
theorem jo_222_75 : jb_op 222 75 = some (.iload 4, 99, 0, 0) := by decide +kernel
theorem jo_222_77 : jb_op 222 77 = some (.ireturn, 99, 0, 0) := by decide +kernel
theorem jr_222 : jb_ret 222 = (some .int) := by decide +kernel
theorem jo_222_54 : jb_op 222 54 = some (.aload_n 0, 99, 0, 0) := by decide +kernel
theorem jo_222_55 : jb_op 222 55 = some (.iload_n 2, 99, 0, 0) := by decide +kernel
theorem jo_222_56 : jb_op 222 56 = some (.iload_n 3, 99, 0, 0) := by decide +kernel
theorem jo_222_57 : jb_op 222 57 = some (.iload 5, 99, 0, 0) := by decide +kernel
theorem jo_222_59 : jb_op 222 59 = some (.invokevirtual 230, 2, 202, 3) := by decide +kernel
theorem jh_202_222 : jb_ht 202 < jb_ht 222 := by decide +kernel
theorem jw_202 : jb_ow 202 = 10 := by decide +kernel
theorem jo_222_62 : jb_op 222 62 = some (.iconst 1, 99, 0, 0) := by decide +kernel
theorem jo_222_63 : jb_op 222 63 = some (.if_icmp .ne (6), 99, 0, 0) := by decide +kernel
theorem jo_222_66 : jb_op 222 66 = some (.iinc 4 1, 99, 0, 0) := by decide +kernel
theorem jo_222_69 : jb_op 222 69 = some (.iinc 5 1, 99, 0, 0) := by decide +kernel
theorem jo_222_72 : jb_op 222 72 = some (.goto (-36), 99, 0, 0) := by decide +kernel
theorem jl_222 : jb_ml 222 = 6 := by decide +kernel
theorem jo_223_0 : jb_op 223 0 = some (.aload_n 0, 99, 0, 0) := by decide +kernel
theorem jo_223_1 : jb_op 223 1 = some (.getfield 10, 0, 10, 0) := by decide +kernel
theorem jo_223_4 : jb_op 223 4 = some (.getfield 199, 1, 9, 3) := by decide +kernel
theorem jo_223_7 : jb_op 223 7 = some (.iload_n 1, 99, 0, 0) := by decide +kernel
theorem jo_223_8 : jb_op 223 8 = some (.invokevirtual 203, 2, 76, 1) := by decide +kernel
theorem jh_76_223 : jb_ht 76 < jb_ht 223 := by decide +kernel
theorem jo_223_11 : jb_op 223 11 = some (.ifCond .ne (5), 99, 0, 0) := by decide +kernel
theorem jo_223_14 : jb_op 223 14 = some (.iconst (-1), 99, 0, 0) := by decide +kernel
theorem jo_223_15 : jb_op 223 15 = some (.ireturn, 99, 0, 0) := by decide +kernel
theorem jr_223 : jb_ret 223 = (some .int) := by decide +kernel
theorem jo_223_16 : jb_op 223 16 = some (.aload_n 0, 99, 0, 0) := by decide +kernel
theorem jo_223_17 : jb_op 223 17 = some (.iload_n 1, 99, 0, 0) := by decide +kernel
theorem jo_223_18 : jb_op 223 18 = some (.invokevirtual 217, 2, 203, 1) := by decide +kernel
theorem jh_203_223 : jb_ht 203 < jb_ht 223 := by decide +kernel
theorem jw_203 : jb_ow 203 = 10 := by decide +kernel
theorem jo_223_21 : jb_op 223 21 = some (.ifCond .ne (6), 99, 0, 0) := by decide +kernel
theorem jo_223_24 : jb_op 223 24 = some (.bipush (-6), 99, 0, 0) := by decide +kernel
theorem jo_223_26 : jb_op 223 26 = some (.ireturn, 99, 0, 0) := by decide +kernel
theorem jo_223_27 : jb_op 223 27 = some (.aload_n 0, 99, 0, 0) := by decide +kernel
theorem jo_223_28 : jb_op 223 28 = some (.getfield 68, 0, 10, 11) := by decide +kernel
theorem jo_223_31 : jb_op 223 31 = some (.iload_n 2, 99, 0, 0) := by decide +kernel
theorem jo_223_32 : jb_op 223 32 = some (.invokevirtual 160, 2, 4, 1) := by decide +kernel
theorem jc_299 : jm_c 299 = 6 := by decide +kernel
theorem jh_4_223 : jb_ht 4 < jb_ht 223 := by decide +kernel
theorem jo_223_35 : jb_op 223 35 = some (.ifCond .eq (14), 99, 0, 0) := by decide +kernel
theorem jo_223_49 : jb_op 223 49 = some (.iconst (-1), 99, 0, 0) := by decide +kernel
theorem jo_223_50 : jb_op 223 50 = some (.ireturn, 99, 0, 0) := by decide +kernel
theorem jo_223_38 : jb_op 223 38 = some (.aload_n 0, 99, 0, 0) := by decide +kernel
theorem jo_223_39 : jb_op 223 39 = some (.getfield 68, 0, 10, 11) := by decide +kernel
theorem jo_223_42 : jb_op 223 42 = some (.iload_n 2, 99, 0, 0) := by decide +kernel
theorem jo_223_43 : jb_op 223 43 = some (.invokevirtual 164, 2, 6, 1) := by decide +kernel
theorem jh_6_223 : jb_ht 6 < jb_ht 223 := by decide +kernel
theorem jo_223_46 : jb_op 223 46 = some (.goto 4, 99, 0, 0) := by decide +kernel
theorem jl_223 : jb_ml 223 = 3 := by decide +kernel
theorem jo_224_0 : jb_op 224 0 = some (.aload_n 0, 99, 0, 0) := by decide +kernel
theorem jo_224_1 : jb_op 224 1 = some (.getfield 10, 0, 10, 0) := by decide +kernel
theorem jo_224_4 : jb_op 224 4 = some (.getfield 199, 1, 9, 3) := by decide +kernel
theorem jo_224_7 : jb_op 224 7 = some (.iload_n 1, 99, 0, 0) := by decide +kernel
theorem jo_224_8 : jb_op 224 8 = some (.invokevirtual 203, 2, 76, 1) := by decide +kernel
theorem jh_76_224 : jb_ht 76 < jb_ht 224 := by decide +kernel
theorem jo_224_11 : jb_op 224 11 = some (.ifCond .ne (5), 99, 0, 0) := by decide +kernel
theorem jo_224_14 : jb_op 224 14 = some (.iconst (-1), 99, 0, 0) := by decide +kernel
theorem jo_224_15 : jb_op 224 15 = some (.ireturn, 99, 0, 0) := by decide +kernel
theorem jr_224 : jb_ret 224 = (some .int) := by decide +kernel
theorem jo_224_16 : jb_op 224 16 = some (.aload_n 0, 99, 0, 0) := by decide +kernel
theorem jo_224_17 : jb_op 224 17 = some (.iload_n 1, 99, 0, 0) := by decide +kernel
theorem jo_224_18 : jb_op 224 18 = some (.invokevirtual 217, 2, 203, 1) := by decide +kernel
theorem jh_203_224 : jb_ht 203 < jb_ht 224 := by decide +kernel
theorem jo_224_21 : jb_op 224 21 = some (.ifCond .eq (13), 99, 0, 0) := by decide +kernel
theorem jo_224_34 : jb_op 224 34 = some (.bipush (-6), 99, 0, 0) := by decide +kernel
theorem jo_224_36 : jb_op 224 36 = some (.ireturn, 99, 0, 0) := by decide +kernel
theorem jo_224_24 : jb_op 224 24 = some (.aload_n 0, 99, 0, 0) := by decide +kernel
theorem jo_224_25 : jb_op 224 25 = some (.getfield 39, 0, 10, 5) := by decide +kernel
theorem jo_224_28 : jb_op 224 28 = some (.getfield 220, 1, 3, 1) := by decide +kernel
theorem jo_224_31 : jb_op 224 31 = some (.goto 5, 99, 0, 0) := by decide +kernel
theorem jl_224 : jb_ml 224 = 2 := by decide +kernel
theorem jo_225_0 : jb_op 225 0 = some (.aload_n 0, 99, 0, 0) := by decide +kernel
theorem jo_225_1 : jb_op 225 1 = some (.getfield 10, 0, 10, 0) := by decide +kernel
theorem jo_225_4 : jb_op 225 4 = some (.getfield 140, 1, 9, 2) := by decide +kernel
theorem jo_225_7 : jb_op 225 7 = some (.getfield 189, 1, 7, 0) := by decide +kernel
theorem jo_225_10 : jb_op 225 10 = some (.iload_n 1, 99, 0, 0) := by decide +kernel
theorem jo_225_11 : jb_op 225 11 = some (.invokevirtual 160, 2, 4, 1) := by decide +kernel
theorem jh_4_225 : jb_ht 4 < jb_ht 225 := by decide +kernel
theorem jo_225_14 : jb_op 225 14 = some (.ifCond .eq (17), 99, 0, 0) := by decide +kernel
theorem jo_225_31 : jb_op 225 31 = some (.iconst (-1), 99, 0, 0) := by decide +kernel
theorem jo_225_32 : jb_op 225 32 = some (.ireturn, 99, 0, 0) := by decide +kernel
theorem jr_225 : jb_ret 225 = (some .int) := by decide +kernel
theorem jo_225_17 : jb_op 225 17 = some (.aload_n 0, 99, 0, 0) := by decide +kernel
theorem jo_225_18 : jb_op 225 18 = some (.getfield 10, 0, 10, 0) := by decide +kernel
theorem jo_225_21 : jb_op 225 21 = some (.getfield 199, 1, 9, 3) := by decide +kernel
theorem jo_225_24 : jb_op 225 24 = some (.iload_n 2, 99, 0, 0) := by decide +kernel
theorem jo_225_25 : jb_op 225 25 = some (.invokevirtual 203, 2, 76, 1) := by decide +kernel
theorem jh_76_225 : jb_ht 76 < jb_ht 225 := by decide +kernel
theorem jo_225_28 : jb_op 225 28 = some (.ifCond .ne (5), 99, 0, 0) := by decide +kernel
theorem jo_225_33 : jb_op 225 33 = some (.aload_n 0, 99, 0, 0) := by decide +kernel
theorem jo_225_34 : jb_op 225 34 = some (.getfield 10, 0, 10, 0) := by decide +kernel
theorem jo_225_37 : jb_op 225 37 = some (.getfield 140, 1, 9, 2) := by decide +kernel
theorem jo_225_40 : jb_op 225 40 = some (.getfield 189, 1, 7, 0) := by decide +kernel
theorem jo_225_43 : jb_op 225 43 = some (.iload_n 1, 99, 0, 0) := by decide +kernel
theorem jo_225_44 : jb_op 225 44 = some (.invokevirtual 164, 2, 6, 1) := by decide +kernel
theorem jh_6_225 : jb_ht 6 < jb_ht 225 := by decide +kernel
theorem jo_225_47 : jb_op 225 47 = some (.istore_n 3, 99, 0, 0) := by decide +kernel
theorem jo_225_48 : jb_op 225 48 = some (.aload_n 0, 99, 0, 0) := by decide +kernel
theorem jo_225_49 : jb_op 225 49 = some (.iload_n 3, 99, 0, 0) := by decide +kernel
theorem jo_225_50 : jb_op 225 50 = some (.aload_n 0, 99, 0, 0) := by decide +kernel
theorem jo_225_51 : jb_op 225 51 = some (.getfield 10, 0, 10, 0) := by decide +kernel
theorem jo_225_54 : jb_op 225 54 = some (.getfield 140, 1, 9, 2) := by decide +kernel
theorem jo_225_57 : jb_op 225 57 = some (.getfield 190, 1, 7, 1) := by decide +kernel
theorem jo_225_60 : jb_op 225 60 = some (.iload_n 1, 99, 0, 0) := by decide +kernel
theorem jo_225_61 : jb_op 225 61 = some (.invokevirtual 164, 2, 6, 1) := by decide +kernel
theorem jo_225_64 : jb_op 225 64 = some (.iload_n 2, 99, 0, 0) := by decide +kernel
theorem jo_225_65 : jb_op 225 65 = some (.invokevirtual 230, 2, 202, 3) := by decide +kernel
theorem jh_202_225 : jb_ht 202 < jb_ht 225 := by decide +kernel
theorem jo_225_68 : jb_op 225 68 = some (.ireturn, 99, 0, 0) := by decide +kernel
theorem jl_225 : jb_ml 225 = 4 := by decide +kernel
theorem jo_226_0 : jb_op 226 0 = some (.aload_n 0, 99, 0, 0) := by decide +kernel
theorem jo_226_1 : jb_op 226 1 = some (.getfield 10, 0, 10, 0) := by decide +kernel
theorem jo_226_4 : jb_op 226 4 = some (.getfield 140, 1, 9, 2) := by decide +kernel
theorem jo_226_7 : jb_op 226 7 = some (.getfield 189, 1, 7, 0) := by decide +kernel
theorem jo_226_10 : jb_op 226 10 = some (.iload_n 1, 99, 0, 0) := by decide +kernel
theorem jo_226_11 : jb_op 226 11 = some (.invokevirtual 160, 2, 4, 1) := by decide +kernel
theorem jh_4_226 : jb_ht 4 < jb_ht 226 := by decide +kernel
theorem jo_226_14 : jb_op 226 14 = some (.ifCond .eq (17), 99, 0, 0) := by decide +kernel
theorem jo_226_31 : jb_op 226 31 = some (.iconst (-1), 99, 0, 0) := by decide +kernel
theorem jo_226_32 : jb_op 226 32 = some (.ireturn, 99, 0, 0) := by decide +kernel
theorem jr_226 : jb_ret 226 = (some .int) := by decide +kernel
theorem jo_226_17 : jb_op 226 17 = some (.aload_n 0, 99, 0, 0) := by decide +kernel
theorem jo_226_18 : jb_op 226 18 = some (.getfield 10, 0, 10, 0) := by decide +kernel
theorem jo_226_21 : jb_op 226 21 = some (.getfield 199, 1, 9, 3) := by decide +kernel
theorem jo_226_24 : jb_op 226 24 = some (.iload_n 2, 99, 0, 0) := by decide +kernel
theorem jo_226_25 : jb_op 226 25 = some (.invokevirtual 203, 2, 76, 1) := by decide +kernel
theorem jh_76_226 : jb_ht 76 < jb_ht 226 := by decide +kernel
theorem jo_226_28 : jb_op 226 28 = some (.ifCond .ne (5), 99, 0, 0) := by decide +kernel
theorem jo_226_33 : jb_op 226 33 = some (.aload_n 0, 99, 0, 0) := by decide +kernel
theorem jo_226_34 : jb_op 226 34 = some (.getfield 10, 0, 10, 0) := by decide +kernel
theorem jo_226_37 : jb_op 226 37 = some (.getfield 140, 1, 9, 2) := by decide +kernel
theorem jo_226_40 : jb_op 226 40 = some (.getfield 189, 1, 7, 0) := by decide +kernel
theorem jo_226_43 : jb_op 226 43 = some (.iload_n 1, 99, 0, 0) := by decide +kernel
theorem jo_226_44 : jb_op 226 44 = some (.invokevirtual 164, 2, 6, 1) := by decide +kernel
theorem jh_6_226 : jb_ht 6 < jb_ht 226 := by decide +kernel
theorem jo_226_47 : jb_op 226 47 = some (.istore_n 3, 99, 0, 0) := by decide +kernel
theorem jo_226_48 : jb_op 226 48 = some (.iconst 0, 99, 0, 0) := by decide +kernel
theorem jo_226_49 : jb_op 226 49 = some (.istore 4, 99, 0, 0) := by decide +kernel
theorem jo_226_51 : jb_op 226 51 = some (.iload 4, 99, 0, 0) := by decide +kernel
theorem jo_226_53 : jb_op 226 53 = some (.bipush 9, 99, 0, 0) := by decide +kernel
theorem jo_226_55 : jb_op 226 55 = some (.if_icmp .gt (24), 99, 0, 0) := by decide +kernel
theorem jo_226_79 : jb_op 226 79 = some (.bipush (-6), 99, 0, 0) := by decide +kernel
theorem jo_226_81 : jb_op 226 81 = some (.ireturn, 99, 0, 0) := by decide +kernel
theorem jo_226_58 : jb_op 226 58 = some (.aload_n 0, 99, 0, 0) := by decide +kernel
theorem jo_226_59 : jb_op 226 59 = some (.iload_n 3, 99, 0, 0) := by decide +kernel
theorem jo_226_60 : jb_op 226 60 = some (.iload 4, 99, 0, 0) := by decide +kernel
theorem jo_226_62 : jb_op 226 62 = some (.iload_n 2, 99, 0, 0) := by decide +kernel
theorem jo_226_63 : jb_op 226 63 = some (.invokevirtual 230, 2, 202, 3) := by decide +kernel
theorem jh_202_226 : jb_ht 202 < jb_ht 226 := by decide +kernel
theorem jo_226_66 : jb_op 226 66 = some (.iconst 1, 99, 0, 0) := by decide +kernel
theorem jo_226_67 : jb_op 226 67 = some (.if_icmp .ne (6), 99, 0, 0) := by decide +kernel
theorem jo_226_70 : jb_op 226 70 = some (.iload 4, 99, 0, 0) := by decide +kernel
theorem jo_226_72 : jb_op 226 72 = some (.ireturn, 99, 0, 0) := by decide +kernel
theorem jo_226_73 : jb_op 226 73 = some (.iinc 4 1, 99, 0, 0) := by decide +kernel
theorem jo_226_76 : jb_op 226 76 = some (.goto (-25), 99, 0, 0) := by decide +kernel
theorem jl_226 : jb_ml 226 = 5 := by decide +kernel
theorem jo_227_0 : jb_op 227 0 = some (.aload_n 0, 99, 0, 0) := by decide +kernel
theorem jo_227_1 : jb_op 227 1 = some (.getfield 10, 0, 10, 0) := by decide +kernel
theorem jo_227_4 : jb_op 227 4 = some (.getfield 199, 1, 9, 3) := by decide +kernel
theorem jo_227_7 : jb_op 227 7 = some (.getfield 245, 1, 4, 0) := by decide +kernel
theorem jo_227_10 : jb_op 227 10 = some (.invokevirtual 120, 2, 12, 0) := by decide +kernel
theorem jh_12_227 : jb_ht 12 < jb_ht 227 := by decide +kernel
theorem jo_227_13 : jb_op 227 13 = some (.istore_n 1, 99, 0, 0) := by decide +kernel
theorem jo_227_14 : jb_op 227 14 = some (.iload_n 1, 99, 0, 0) := by decide +kernel
theorem jo_227_15 : jb_op 227 15 = some (.ifCond .ne (5), 99, 0, 0) := by decide +kernel
theorem jo_227_18 : jb_op 227 18 = some (.fconst 0, 99, 0, 0) := by decide +kernel
theorem jo_227_19 : jb_op 227 19 = some (.freturn, 99, 0, 0) := by decide +kernel
theorem jr_227 : jb_ret 227 = (some .float) := by decide +kernel
theorem jo_227_20 : jb_op 227 20 = some (.iconst 0, 99, 0, 0) := by decide +kernel
theorem jo_227_21 : jb_op 227 21 = some (.istore_n 2, 99, 0, 0) := by decide +kernel
theorem jo_227_22 : jb_op 227 22 = some (.iconst 0, 99, 0, 0) := by decide +kernel
theorem jo_227_23 : jb_op 227 23 = some (.istore_n 3, 99, 0, 0) := by decide +kernel
theorem jo_227_24 : jb_op 227 24 = some (.iload_n 3, 99, 0, 0) := by decide +kernel
theorem jo_227_25 : jb_op 227 25 = some (.iload_n 1, 99, 0, 0) := by decide +kernel
theorem jo_227_26 : jb_op 227 26 = some (.if_icmp .ge (20), 99, 0, 0) := by decide +kernel
theorem jo_227_46 : jb_op 227 46 = some (.iload_n 2, 99, 0, 0) := by decide +kernel
theorem jo_227_47 : jb_op 227 47 = some (.i2f, 99, 0, 0) := by decide +kernel
theorem jo_227_48 : jb_op 227 48 = some (.iload_n 1, 99, 0, 0) := by decide +kernel
theorem jo_227_49 : jb_op 227 49 = some (.i2f, 99, 0, 0) := by decide +kernel
theorem jo_227_50 : jb_op 227 50 = some (.fdiv, 99, 0, 0) := by decide +kernel
theorem jo_227_51 : jb_op 227 51 = some (.freturn, 99, 0, 0) := by decide +kernel
theorem jo_227_29 : jb_op 227 29 = some (.aload_n 0, 99, 0, 0) := by decide +kernel
theorem jo_227_30 : jb_op 227 30 = some (.iload_n 3, 99, 0, 0) := by decide +kernel
theorem jo_227_31 : jb_op 227 31 = some (.invokevirtual 217, 2, 203, 1) := by decide +kernel
theorem jh_203_227 : jb_ht 203 < jb_ht 227 := by decide +kernel
theorem jo_227_34 : jb_op 227 34 = some (.ifCond .eq (6), 99, 0, 0) := by decide +kernel
theorem jo_227_40 : jb_op 227 40 = some (.iinc 3 1, 99, 0, 0) := by decide +kernel
theorem jo_227_43 : jb_op 227 43 = some (.goto (-19), 99, 0, 0) := by decide +kernel
theorem jo_227_37 : jb_op 227 37 = some (.iinc 2 1, 99, 0, 0) := by decide +kernel
theorem jl_227 : jb_ml 227 = 4 := by decide +kernel
theorem jo_228_0 : jb_op 228 0 = some (.aload_n 0, 99, 0, 0) := by decide +kernel
theorem jo_228_1 : jb_op 228 1 = some (.getfield 10, 0, 10, 0) := by decide +kernel
theorem jo_228_4 : jb_op 228 4 = some (.getfield 199, 1, 9, 3) := by decide +kernel
theorem jo_228_7 : jb_op 228 7 = some (.iload_n 1, 99, 0, 0) := by decide +kernel
theorem jo_228_8 : jb_op 228 8 = some (.invokevirtual 203, 2, 76, 1) := by decide +kernel
theorem jh_76_228 : jb_ht 76 < jb_ht 228 := by decide +kernel
theorem jo_228_11 : jb_op 228 11 = some (.ifCond .ne (5), 99, 0, 0) := by decide +kernel
theorem jo_228_14 : jb_op 228 14 = some (.iconst (-1), 99, 0, 0) := by decide +kernel
theorem jo_228_15 : jb_op 228 15 = some (.ireturn, 99, 0, 0) := by decide +kernel
theorem jr_228 : jb_ret 228 = (some .int) := by decide +kernel
theorem jo_228_16 : jb_op 228 16 = some (.aload_n 0, 99, 0, 0) := by decide +kernel
theorem jo_228_17 : jb_op 228 17 = some (.iload_n 1, 99, 0, 0) := by decide +kernel
theorem jo_228_18 : jb_op 228 18 = some (.invokevirtual 217, 2, 203, 1) := by decide +kernel
theorem jh_203_228 : jb_ht 203 < jb_ht 228 := by decide +kernel
theorem jo_228_21 : jb_op 228 21 = some (.istore_n 2, 99, 0, 0) := by decide +kernel
theorem jo_228_22 : jb_op 228 22 = some (.aload_n 0, 99, 0, 0) := by decide +kernel
theorem jo_228_23 : jb_op 228 23 = some (.getfield 59, 0, 10, 8) := by decide +kernel
theorem jo_228_26 : jb_op 228 26 = some (.invokevirtual 233, 2, 13, 0) := by decide +kernel
theorem jh_13_228 : jb_ht 13 < jb_ht 228 := by decide +kernel
theorem jo_228_29 : jb_op 228 29 = some (.iconst 0, 99, 0, 0) := by decide +kernel
theorem jo_228_30 : jb_op 228 30 = some (.istore_n 3, 99, 0, 0) := by decide +kernel
theorem jo_228_31 : jb_op 228 31 = some (.iload_n 3, 99, 0, 0) := by decide +kernel
theorem jo_228_32 : jb_op 228 32 = some (.aload_n 0, 99, 0, 0) := by decide +kernel
theorem jo_228_33 : jb_op 228 33 = some (.getfield 65, 0, 10, 10) := by decide +kernel
theorem jo_228_36 : jb_op 228 36 = some (.invokevirtual 120, 2, 12, 0) := by decide +kernel
theorem jh_12_228 : jb_ht 12 < jb_ht 228 := by decide +kernel
theorem jo_228_39 : jb_op 228 39 = some (.if_icmp .ge (27), 99, 0, 0) := by decide +kernel
theorem jo_228_66 : jb_op 228 66 = some (.iconst 0, 99, 0, 0) := by decide +kernel
theorem jo_228_67 : jb_op 228 67 = some (.istore_n 3, 99, 0, 0) := by decide +kernel
theorem jo_228_42 : jb_op 228 42 = some (.aload_n 0, 99, 0, 0) := by decide +kernel
theorem jo_228_43 : jb_op 228 43 = some (.getfield 59, 0, 10, 8) := by decide +kernel
theorem jo_228_46 : jb_op 228 46 = some (.aload_n 0, 99, 0, 0) := by decide +kernel
theorem jo_228_47 : jb_op 228 47 = some (.getfield 65, 0, 10, 10) := by decide +kernel
theorem jo_228_50 : jb_op 228 50 = some (.iload_n 3, 99, 0, 0) := by decide +kernel
theorem jo_228_51 : jb_op 228 51 = some (.invokevirtual 164, 2, 6, 1) := by decide +kernel
theorem jh_6_228 : jb_ht 6 < jb_ht 228 := by decide +kernel
theorem jo_228_54 : jb_op 228 54 = some (.invokestatic 268, 4, 18, 1) := by decide +kernel
theorem jh_18_228 : jb_ht 18 < jb_ht 228 := by decide +kernel
theorem jo_228_57 : jb_op 228 57 = some (.invokevirtual 117, 2, 1, 1) := by decide +kernel
theorem jh_1_228 : jb_ht 1 < jb_ht 228 := by decide +kernel
theorem jo_228_60 : jb_op 228 60 = some (.iinc 3 1, 99, 0, 0) := by decide +kernel
theorem jo_228_63 : jb_op 228 63 = some (.goto (-32), 99, 0, 0) := by decide +kernel
theorem jo_228_68 : jb_op 228 68 = some (.iload_n 2, 99, 0, 0) := by decide +kernel
theorem jo_228_69 : jb_op 228 69 = some (.ifCond .eq (87), 99, 0, 0) := by decide +kernel
theorem jo_228_156 : jb_op 228 156 = some (.aload_n 0, 99, 0, 0) := by decide +kernel
theorem jo_228_157 : jb_op 228 157 = some (.getfield 59, 0, 10, 8) := by decide +kernel
theorem jo_228_160 : jb_op 228 160 = some (.invokevirtual 120, 2, 12, 0) := by decide +kernel
theorem jo_228_72 : jb_op 228 72 = some (.iload_n 3, 99, 0, 0) := by decide +kernel
theorem jo_228_73 : jb_op 228 73 = some (.aload_n 0, 99, 0, 0) := by decide +kernel
theorem jo_228_74 : jb_op 228 74 = some (.getfield 68, 0, 10, 11) := by decide +kernel
theorem jo_228_77 : jb_op 228 77 = some (.invokevirtual 120, 2, 12, 0) := by decide +kernel
theorem jo_228_80 : jb_op 228 80 = some (.if_icmp .ge (76), 99, 0, 0) := by decide +kernel
theorem jo_228_83 : jb_op 228 83 = some (.aload_n 0, 99, 0, 0) := by decide +kernel
theorem jo_228_84 : jb_op 228 84 = some (.getfield 59, 0, 10, 8) := by decide +kernel
theorem jo_228_87 : jb_op 228 87 = some (.iload_n 3, 99, 0, 0) := by decide +kernel
theorem jo_228_88 : jb_op 228 88 = some (.ifCond .ne (8), 99, 0, 0) := by decide +kernel
theorem jo_228_91 : jb_op 228 91 = some (.bipush 61, 99, 0, 0) := by decide +kernel
theorem jo_228_93 : jb_op 228 93 = some (.goto 5, 99, 0, 0) := by decide +kernel
theorem jo_228_98 : jb_op 228 98 = some (.invokevirtual 117, 2, 1, 1) := by decide +kernel
theorem jo_228_96 : jb_op 228 96 = some (.bipush 32, 99, 0, 0) := by decide +kernel
theorem jo_228_101 : jb_op 228 101 = some (.aload_n 0, 99, 0, 0) := by decide +kernel
theorem jo_228_102 : jb_op 228 102 = some (.getfield 59, 0, 10, 8) := by decide +kernel
theorem jo_228_105 : jb_op 228 105 = some (.aload_n 0, 99, 0, 0) := by decide +kernel
theorem jo_228_106 : jb_op 228 106 = some (.getfield 10, 0, 10, 0) := by decide +kernel
theorem jo_228_109 : jb_op 228 109 = some (.getfield 124, 1, 9, 1) := by decide +kernel
theorem jo_228_112 : jb_op 228 112 = some (.getfield 179, 1, 1, 0) := by decide +kernel
theorem jo_228_115 : jb_op 228 115 = some (.aload_n 0, 99, 0, 0) := by decide +kernel
theorem jo_228_116 : jb_op 228 116 = some (.getfield 68, 0, 10, 11) := by decide +kernel
theorem jo_228_119 : jb_op 228 119 = some (.iload_n 3, 99, 0, 0) := by decide +kernel
theorem jo_228_120 : jb_op 228 120 = some (.invokevirtual 164, 2, 6, 1) := by decide +kernel
theorem jo_228_123 : jb_op 228 123 = some (.invokevirtual 164, 2, 6, 1) := by decide +kernel
theorem jo_228_126 : jb_op 228 126 = some (.invokestatic 271, 4, 19, 1) := by decide +kernel
theorem jh_19_228 : jb_ht 19 < jb_ht 228 := by decide +kernel
theorem jo_228_129 : jb_op 228 129 = some (.invokevirtual 117, 2, 1, 1) := by decide +kernel
theorem jo_228_132 : jb_op 228 132 = some (.aload_n 0, 99, 0, 0) := by decide +kernel
theorem jo_228_133 : jb_op 228 133 = some (.getfield 59, 0, 10, 8) := by decide +kernel
theorem jo_228_136 : jb_op 228 136 = some (.bipush 48, 99, 0, 0) := by decide +kernel
theorem jo_228_138 : jb_op 228 138 = some (.aload_n 0, 99, 0, 0) := by decide +kernel
theorem jo_228_139 : jb_op 228 139 = some (.getfield 68, 0, 10, 11) := by decide +kernel
theorem jo_228_142 : jb_op 228 142 = some (.iload_n 3, 99, 0, 0) := by decide +kernel
theorem jo_228_143 : jb_op 228 143 = some (.invokevirtual 164, 2, 6, 1) := by decide +kernel
theorem jo_228_146 : jb_op 228 146 = some (.iadd, 99, 0, 0) := by decide +kernel
theorem jo_228_147 : jb_op 228 147 = some (.invokevirtual 117, 2, 1, 1) := by decide +kernel
theorem jo_228_150 : jb_op 228 150 = some (.iinc 3 1, 99, 0, 0) := by decide +kernel
theorem jo_228_153 : jb_op 228 153 = some (.goto (-85), 99, 0, 0) := by decide +kernel
theorem jo_228_163 : jb_op 228 163 = some (.ireturn, 99, 0, 0) := by decide +kernel
theorem jl_228 : jb_ml 228 = 4 := by decide +kernel
theorem jo_229_0 : jb_op 229 0 = some (.iconst 0, 99, 0, 0) := by decide +kernel
theorem jo_229_1 : jb_op 229 1 = some (.istore_n 2, 99, 0, 0) := by decide +kernel
theorem jo_229_2 : jb_op 229 2 = some (.iload_n 2, 99, 0, 0) := by decide +kernel
theorem jo_229_3 : jb_op 229 3 = some (.bipush 8, 99, 0, 0) := by decide +kernel
theorem jo_229_5 : jb_op 229 5 = some (.if_icmp .ge (27), 99, 0, 0) := by decide +kernel
theorem jo_229_32 : jb_op 229 32 = some (.iconst (-1), 99, 0, 0) := by decide +kernel
theorem jo_229_33 : jb_op 229 33 = some (.ireturn, 99, 0, 0) := by decide +kernel
theorem jr_229 : jb_ret 229 = (some .int) := by decide +kernel
theorem jo_229_8 : jb_op 229 8 = some (.aload_n 0, 99, 0, 0) := by decide +kernel
theorem jo_229_9 : jb_op 229 9 = some (.iload_n 2, 99, 0, 0) := by decide +kernel
theorem jo_229_10 : jb_op 229 10 = some (.iload_n 1, 99, 0, 0) := by decide +kernel
theorem jo_229_11 : jb_op 229 11 = some (.invokevirtual 75, 2, 204, 2) := by decide +kernel
theorem jh_204_229 : jb_ht 204 < jb_ht 229 := by decide +kernel
theorem jw_204 : jb_ow 204 = 8 := by decide +kernel
theorem jo_229_14 : jb_op 229 14 = some (.iload_n 2, 99, 0, 0) := by decide +kernel
theorem jo_229_15 : jb_op 229 15 = some (.invokestatic 53, 4, 20, 1) := by decide +kernel
theorem jh_20_229 : jb_ht 20 < jb_ht 229 := by decide +kernel
theorem jo_229_18 : jb_op 229 18 = some (.invokevirtual 62, 2, 82, 0) := by decide +kernel
theorem jh_82_229 : jb_ht 82 < jb_ht 229 := by decide +kernel
theorem jo_229_21 : jb_op 229 21 = some (.if_icmp .ne (5), 99, 0, 0) := by decide +kernel
theorem jo_229_24 : jb_op 229 24 = some (.iload_n 2, 99, 0, 0) := by decide +kernel
theorem jo_229_25 : jb_op 229 25 = some (.ireturn, 99, 0, 0) := by decide +kernel
theorem jo_229_26 : jb_op 229 26 = some (.iinc 2 1, 99, 0, 0) := by decide +kernel
theorem jo_229_29 : jb_op 229 29 = some (.goto (-27), 99, 0, 0) := by decide +kernel
theorem jl_229 : jb_ml 229 = 3 := by decide +kernel
theorem jo_230_0 : jb_op 230 0 = some (.iconst 0, 99, 0, 0) := by decide +kernel
theorem jo_230_1 : jb_op 230 1 = some (.istore_n 2, 99, 0, 0) := by decide +kernel
theorem jo_230_2 : jb_op 230 2 = some (.iconst 0, 99, 0, 0) := by decide +kernel
theorem jo_230_3 : jb_op 230 3 = some (.istore_n 3, 99, 0, 0) := by decide +kernel
theorem jo_230_4 : jb_op 230 4 = some (.iload_n 3, 99, 0, 0) := by decide +kernel
theorem jo_230_5 : jb_op 230 5 = some (.bipush 8, 99, 0, 0) := by decide +kernel
theorem jo_230_7 : jb_op 230 7 = some (.if_icmp .ge (20), 99, 0, 0) := by decide +kernel
theorem jo_230_27 : jb_op 230 27 = some (.iload_n 2, 99, 0, 0) := by decide +kernel
theorem jo_230_28 : jb_op 230 28 = some (.ireturn, 99, 0, 0) := by decide +kernel
theorem jr_230 : jb_ret 230 = (some .int) := by decide +kernel
theorem jo_230_10 : jb_op 230 10 = some (.iload_n 2, 99, 0, 0) := by decide +kernel
theorem jo_230_11 : jb_op 230 11 = some (.aload_n 0, 99, 0, 0) := by decide +kernel
theorem jo_230_12 : jb_op 230 12 = some (.iload_n 3, 99, 0, 0) := by decide +kernel
theorem jo_230_13 : jb_op 230 13 = some (.iload_n 1, 99, 0, 0) := by decide +kernel
theorem jo_230_14 : jb_op 230 14 = some (.invokevirtual 75, 2, 204, 2) := by decide +kernel
theorem jh_204_230 : jb_ht 204 < jb_ht 230 := by decide +kernel
theorem jo_230_17 : jb_op 230 17 = some (.invokestatic 78, 15, 0, 0) := by decide +kernel
theorem jo_230_20 : jb_op 230 20 = some (.istore_n 2, 99, 0, 0) := by decide +kernel
theorem jo_230_21 : jb_op 230 21 = some (.iinc 3 1, 99, 0, 0) := by decide +kernel
theorem jo_230_24 : jb_op 230 24 = some (.goto (-20), 99, 0, 0) := by decide +kernel
theorem jl_230 : jb_ml 230 = 4 := by decide +kernel
theorem jo_231_0 : jb_op 231 0 = some (.aload_n 0, 99, 0, 0) := by decide +kernel
theorem jo_231_1 : jb_op 231 1 = some (.getfield 46, 0, 10, 6) := by decide +kernel
theorem jo_231_4 : jb_op 231 4 = some (.iload_n 1, 99, 0, 0) := by decide +kernel
theorem jo_231_5 : jb_op 231 5 = some (.iconst 0, 99, 0, 0) := by decide +kernel
theorem jo_231_6 : jb_op 231 6 = some (.invokevirtual 310, 2, 205, 2) := by decide +kernel
theorem jh_205_231 : jb_ht 205 < jb_ht 231 := by decide +kernel
theorem jw_205 : jb_ow 205 = 8 := by decide +kernel
theorem jo_231_9 : jb_op 231 9 = some (.istore_n 2, 99, 0, 0) := by decide +kernel
theorem jo_231_10 : jb_op 231 10 = some (.aload_n 0, 99, 0, 0) := by decide +kernel
theorem jo_231_11 : jb_op 231 11 = some (.getfield 46, 0, 10, 6) := by decide +kernel
theorem jo_231_14 : jb_op 231 14 = some (.iload_n 1, 99, 0, 0) := by decide +kernel
theorem jo_231_15 : jb_op 231 15 = some (.iconst 1, 99, 0, 0) := by decide +kernel
theorem jo_231_16 : jb_op 231 16 = some (.invokevirtual 310, 2, 205, 2) := by decide +kernel
theorem jo_231_19 : jb_op 231 19 = some (.istore_n 3, 99, 0, 0) := by decide +kernel
theorem jo_231_20 : jb_op 231 20 = some (.aload_n 0, 99, 0, 0) := by decide +kernel
theorem jo_231_21 : jb_op 231 21 = some (.getfield 46, 0, 10, 6) := by decide +kernel
theorem jo_231_24 : jb_op 231 24 = some (.iload_n 1, 99, 0, 0) := by decide +kernel
theorem jo_231_25 : jb_op 231 25 = some (.aload_n 0, 99, 0, 0) := by decide +kernel
theorem jo_231_26 : jb_op 231 26 = some (.getfield 62, 0, 10, 9) := by decide +kernel
theorem jf_0_9 : jm_f 0 9 = some (some 295) := by decide +kernel
theorem jo_231_29 : jb_op 231 29 = some (.invokevirtual 313, 2, 148, 2) := by decide +kernel
theorem jh_148_231 : jb_ht 148 < jb_ht 231 := by decide +kernel
theorem jw_148 : jb_ow 148 = 8 := by decide +kernel
theorem jo_231_32 : jb_op 231 32 = some (.aload_n 0, 99, 0, 0) := by decide +kernel
theorem jo_231_33 : jb_op 231 33 = some (.getfield 46, 0, 10, 6) := by decide +kernel
theorem jo_231_36 : jb_op 231 36 = some (.getfield 300, 1, 8, 1) := by decide +kernel
theorem jo_231_39 : jb_op 231 39 = some (.iload_n 1, 99, 0, 0) := by decide +kernel
theorem jo_231_40 : jb_op 231 40 = some (.invokevirtual 164, 2, 6, 1) := by decide +kernel
theorem jh_6_231 : jb_ht 6 < jb_ht 231 := by decide +kernel
theorem jo_231_43 : jb_op 231 43 = some (.tableswitch (172) (0) (7) #[(45), (62), (78), (98), (110), (127), (144), (156)], 99, 0, 0) := by decide +kernel
theorem jo_231_88 : jb_op 231 88 = some (.aload_n 0, 99, 0, 0) := by decide +kernel
theorem jo_231_89 : jb_op 231 89 = some (.getfield 10, 0, 10, 0) := by decide +kernel
theorem jo_231_92 : jb_op 231 92 = some (.getfield 92, 1, 9, 0) := by decide +kernel
theorem jo_231_95 : jb_op 231 95 = some (.iload_n 2, 99, 0, 0) := by decide +kernel
theorem jo_231_96 : jb_op 231 96 = some (.iload_n 3, 99, 0, 0) := by decide +kernel
theorem jo_231_97 : jb_op 231 97 = some (.aload_n 0, 99, 0, 0) := by decide +kernel
theorem jo_231_98 : jb_op 231 98 = some (.getfield 32, 0, 10, 4) := by decide +kernel
theorem jo_231_101 : jb_op 231 101 = some (.invokevirtual 96, 2, 57, 3) := by decide +kernel
theorem jh_57_231 : jb_ht 57 < jb_ht 231 := by decide +kernel
theorem jo_231_105 : jb_op 231 105 = some (.aload_n 0, 99, 0, 0) := by decide +kernel
theorem jo_231_106 : jb_op 231 106 = some (.getfield 10, 0, 10, 0) := by decide +kernel
theorem jo_231_109 : jb_op 231 109 = some (.getfield 92, 1, 9, 0) := by decide +kernel
theorem jo_231_112 : jb_op 231 112 = some (.iload_n 2, 99, 0, 0) := by decide +kernel
theorem jo_231_113 : jb_op 231 113 = some (.aload_n 0, 99, 0, 0) := by decide +kernel
theorem jo_231_114 : jb_op 231 114 = some (.getfield 32, 0, 10, 4) := by decide +kernel
theorem jo_231_117 : jb_op 231 117 = some (.invokevirtual 106, 2, 58, 2) := by decide +kernel
theorem jh_58_231 : jb_ht 58 < jb_ht 231 := by decide +kernel
theorem jo_231_121 : jb_op 231 121 = some (.aload_n 0, 99, 0, 0) := by decide +kernel
theorem jo_231_122 : jb_op 231 122 = some (.getfield 10, 0, 10, 0) := by decide +kernel
theorem jo_231_125 : jb_op 231 125 = some (.getfield 124, 1, 9, 1) := by decide +kernel
theorem jo_231_128 : jb_op 231 128 = some (.iload_n 2, 99, 0, 0) := by decide +kernel
theorem jo_231_129 : jb_op 231 129 = some (.aload_n 0, 99, 0, 0) := by decide +kernel
theorem jo_231_130 : jb_op 231 130 = some (.getfield 62, 0, 10, 9) := by decide +kernel
theorem jo_231_133 : jb_op 231 133 = some (.aload_n 0, 99, 0, 0) := by decide +kernel
theorem jo_231_134 : jb_op 231 134 = some (.getfield 32, 0, 10, 4) := by decide +kernel
theorem jo_231_137 : jb_op 231 137 = some (.invokevirtual 128, 2, 124, 3) := by decide +kernel
theorem jh_124_231 : jb_ht 124 < jb_ht 231 := by decide +kernel
theorem jw_124 : jb_ow 124 = 1 := by decide +kernel
theorem jo_231_141 : jb_op 231 141 = some (.aload_n 0, 99, 0, 0) := by decide +kernel
theorem jo_231_142 : jb_op 231 142 = some (.getfield 10, 0, 10, 0) := by decide +kernel
theorem jo_231_145 : jb_op 231 145 = some (.getfield 124, 1, 9, 1) := by decide +kernel
theorem jo_231_148 : jb_op 231 148 = some (.iload_n 2, 99, 0, 0) := by decide +kernel
theorem jo_231_149 : jb_op 231 149 = some (.invokevirtual 137, 2, 125, 1) := by decide +kernel
theorem jh_125_231 : jb_ht 125 < jb_ht 231 := by decide +kernel
theorem jo_231_153 : jb_op 231 153 = some (.aload_n 0, 99, 0, 0) := by decide +kernel
theorem jo_231_154 : jb_op 231 154 = some (.getfield 10, 0, 10, 0) := by decide +kernel
theorem jo_231_157 : jb_op 231 157 = some (.getfield 140, 1, 9, 2) := by decide +kernel
theorem jo_231_160 : jb_op 231 160 = some (.iload_n 2, 99, 0, 0) := by decide +kernel
theorem jo_231_161 : jb_op 231 161 = some (.iload_n 3, 99, 0, 0) := by decide +kernel
theorem jo_231_162 : jb_op 231 162 = some (.aload_n 0, 99, 0, 0) := by decide +kernel
theorem jo_231_163 : jb_op 231 163 = some (.getfield 32, 0, 10, 4) := by decide +kernel
theorem jo_231_166 : jb_op 231 166 = some (.invokevirtual 144, 2, 63, 3) := by decide +kernel
theorem jh_63_231 : jb_ht 63 < jb_ht 231 := by decide +kernel
theorem jo_231_170 : jb_op 231 170 = some (.aload_n 0, 99, 0, 0) := by decide +kernel
theorem jo_231_171 : jb_op 231 171 = some (.getfield 10, 0, 10, 0) := by decide +kernel
theorem jo_231_174 : jb_op 231 174 = some (.getfield 140, 1, 9, 2) := by decide +kernel
theorem jo_231_177 : jb_op 231 177 = some (.iload_n 2, 99, 0, 0) := by decide +kernel
theorem jo_231_178 : jb_op 231 178 = some (.iload_n 3, 99, 0, 0) := by decide +kernel
theorem jo_231_179 : jb_op 231 179 = some (.aload_n 0, 99, 0, 0) := by decide +kernel
theorem jo_231_180 : jb_op 231 180 = some (.getfield 32, 0, 10, 4) := by decide +kernel
theorem jo_231_183 : jb_op 231 183 = some (.invokevirtual 149, 2, 64, 3) := by decide +kernel
theorem jh_64_231 : jb_ht 64 < jb_ht 231 := by decide +kernel
theorem jo_231_187 : jb_op 231 187 = some (.aload_n 0, 99, 0, 0) := by decide +kernel
theorem jo_231_188 : jb_op 231 188 = some (.getfield 10, 0, 10, 0) := by decide +kernel
theorem jo_231_191 : jb_op 231 191 = some (.getfield 140, 1, 9, 2) := by decide +kernel
theorem jo_231_194 : jb_op 231 194 = some (.iload_n 2, 99, 0, 0) := by decide +kernel
theorem jo_231_195 : jb_op 231 195 = some (.invokevirtual 150, 2, 126, 1) := by decide +kernel
theorem jh_126_231 : jb_ht 126 < jb_ht 231 := by decide +kernel
theorem jo_231_199 : jb_op 231 199 = some (.aload_n 0, 99, 0, 0) := by decide +kernel
theorem jo_231_200 : jb_op 231 200 = some (.getfield 10, 0, 10, 0) := by decide +kernel
theorem jo_231_203 : jb_op 231 203 = some (.aload_n 0, 99, 0, 0) := by decide +kernel
theorem jo_231_204 : jb_op 231 204 = some (.getfield 62, 0, 10, 9) := by decide +kernel
theorem jo_231_207 : jb_op 231 207 = some (.aload_n 0, 99, 0, 0) := by decide +kernel
theorem jo_231_208 : jb_op 231 208 = some (.getfield 32, 0, 10, 4) := by decide +kernel
theorem jo_231_211 : jb_op 231 211 = some (.invokevirtual 153, 2, 169, 2) := by decide +kernel
theorem jh_169_231 : jb_ht 169 < jb_ht 231 := by decide +kernel
theorem jw_169 : jb_ow 169 = 9 := by decide +kernel
theorem jo_231_215 : jb_op 231 215 = some (.iconst (-1), 99, 0, 0) := by decide +kernel
theorem jo_231_216 : jb_op 231 216 = some (.ireturn, 99, 0, 0) := by decide +kernel
theorem jr_231 : jb_ret 231 = (some .int) := by decide +kernel
theorem jo_231_214 : jb_op 231 214 = some (.ireturn, 99, 0, 0) := by decide +kernel
theorem jo_231_198 : jb_op 231 198 = some (.ireturn, 99, 0, 0) := by decide +kernel
theorem jo_231_186 : jb_op 231 186 = some (.ireturn, 99, 0, 0) := by decide +kernel
theorem jo_231_169 : jb_op 231 169 = some (.ireturn, 99, 0, 0) := by decide +kernel
theorem jo_231_152 : jb_op 231 152 = some (.ireturn, 99, 0, 0) := by decide +kernel
theorem jo_231_140 : jb_op 231 140 = some (.ireturn, 99, 0, 0) := by decide +kernel
theorem jo_231_120 : jb_op 231 120 = some (.ireturn, 99, 0, 0) := by decide +kernel
theorem jo_231_104 : jb_op 231 104 = some (.ireturn, 99, 0, 0) := by decide +kernel
theorem jl_231 : jb_ml 231 = 4 := by decide +kernel
theorem jo_232_0 : jb_op 232 0 = some (.iload_n 1, 99, 0, 0) := by decide +kernel
theorem jo_232_1 : jb_op 232 1 = some (.invokestatic 156, 4, 37, 1) := by decide +kernel
theorem jh_37_232 : jb_ht 37 < jb_ht 232 := by decide +kernel
theorem jo_232_4 : jb_op 232 4 = some (.istore_n 3, 99, 0, 0) := by decide +kernel
theorem jo_232_5 : jb_op 232 5 = some (.aload_n 0, 99, 0, 0) := by decide +kernel
theorem jo_232_6 : jb_op 232 6 = some (.aload_n 0, 99, 0, 0) := by decide +kernel
theorem jo_232_7 : jb_op 232 7 = some (.getfield 9, 0, 11, 0) := by decide +kernel
theorem jo_232_10 : jb_op 232 10 = some (.iload_n 3, 99, 0, 0) := by decide +kernel
theorem jo_232_11 : jb_op 232 11 = some (.iconst 0, 99, 0, 0) := by decide +kernel
theorem jo_232_12 : jb_op 232 12 = some (.iadd, 99, 0, 0) := by decide +kernel
theorem jo_232_13 : jb_op 232 13 = some (.iaload, 99, 0, 0) := by decide +kernel
theorem jo_232_14 : jb_op 232 14 = some (.aload_n 0, 99, 0, 0) := by decide +kernel
theorem jo_232_15 : jb_op 232 15 = some (.getfield 9, 0, 11, 0) := by decide +kernel
theorem jo_232_18 : jb_op 232 18 = some (.iload_n 3, 99, 0, 0) := by decide +kernel
theorem jo_232_19 : jb_op 232 19 = some (.iconst 1, 99, 0, 0) := by decide +kernel
theorem jo_232_20 : jb_op 232 20 = some (.iadd, 99, 0, 0) := by decide +kernel
theorem jo_232_21 : jb_op 232 21 = some (.iaload, 99, 0, 0) := by decide +kernel
theorem jo_232_22 : jb_op 232 22 = some (.iload_n 2, 99, 0, 0) := by decide +kernel
theorem jo_232_23 : jb_op 232 23 = some (.invokevirtual 211, 2, 210, 3) := by decide +kernel
theorem jh_210_232 : jb_ht 210 < jb_ht 232 := by decide +kernel
theorem jw_210 : jb_ow 210 = 11 := by decide +kernel
theorem jo_232_26 : jb_op 232 26 = some (.ireturn, 99, 0, 0) := by decide +kernel
theorem jr_232 : jb_ret 232 = (some .int) := by decide +kernel
theorem jl_232 : jb_ml 232 = 4 := by decide +kernel
theorem jo_233_0 : jb_op 233 0 = some (.aload_n 0, 99, 0, 0) := by decide +kernel
theorem jo_233_1 : jb_op 233 1 = some (.iload_n 1, 99, 0, 0) := by decide +kernel
theorem jo_233_2 : jb_op 233 2 = some (.invokevirtual 165, 2, 105, 1) := by decide +kernel
theorem jh_105_233 : jb_ht 105 < jb_ht 233 := by decide +kernel
theorem jo_233_5 : jb_op 233 5 = some (.ifCond .eq (11), 99, 0, 0) := by decide +kernel
theorem jo_233_16 : jb_op 233 16 = some (.iconst (-1), 99, 0, 0) := by decide +kernel
theorem jo_233_17 : jb_op 233 17 = some (.ireturn, 99, 0, 0) := by decide +kernel
theorem jr_233 : jb_ret 233 = (some .int) := by decide +kernel
theorem jo_233_8 : jb_op 233 8 = some (.aload_n 0, 99, 0, 0) := by decide +kernel
theorem jo_233_9 : jb_op 233 9 = some (.iload_n 2, 99, 0, 0) := by decide +kernel
theorem jo_233_10 : jb_op 233 10 = some (.invokevirtual 194, 2, 108, 1) := by decide +kernel
theorem jh_108_233 : jb_ht 108 < jb_ht 233 := by decide +kernel
theorem jo_233_13 : jb_op 233 13 = some (.ifCond .ne (5), 99, 0, 0) := by decide +kernel
theorem jo_233_18 : jb_op 233 18 = some (.bipush (-6), 99, 0, 0) := by decide +kernel
theorem jo_233_20 : jb_op 233 20 = some (.istore_n 3, 99, 0, 0) := by decide +kernel
theorem jo_233_21 : jb_op 233 21 = some (.bipush 9, 99, 0, 0) := by decide +kernel
theorem jo_233_23 : jb_op 233 23 = some (.istore 4, 99, 0, 0) := by decide +kernel
theorem jo_233_25 : jb_op 233 25 = some (.iload 4, 99, 0, 0) := by decide +kernel
theorem jo_233_27 : jb_op 233 27 = some (.ifCond .lt (38), 99, 0, 0) := by decide +kernel
theorem jo_233_65 : jb_op 233 65 = some (.iload_n 3, 99, 0, 0) := by decide +kernel
theorem jo_233_66 : jb_op 233 66 = some (.ireturn, 99, 0, 0) := by decide +kernel
theorem jo_233_30 : jb_op 233 30 = some (.aload_n 0, 99, 0, 0) := by decide +kernel
theorem jo_233_31 : jb_op 233 31 = some (.aload_n 0, 99, 0, 0) := by decide +kernel
theorem jo_233_32 : jb_op 233 32 = some (.getfield 9, 0, 11, 0) := by decide +kernel
theorem jo_233_35 : jb_op 233 35 = some (.iload_n 1, 99, 0, 0) := by decide +kernel
theorem jo_233_36 : jb_op 233 36 = some (.invokestatic 156, 4, 37, 1) := by decide +kernel
theorem jh_37_233 : jb_ht 37 < jb_ht 233 := by decide +kernel
theorem jo_233_39 : jb_op 233 39 = some (.iconst 0, 99, 0, 0) := by decide +kernel
theorem jo_233_40 : jb_op 233 40 = some (.iadd, 99, 0, 0) := by decide +kernel
theorem jo_233_41 : jb_op 233 41 = some (.iaload, 99, 0, 0) := by decide +kernel
theorem jo_233_42 : jb_op 233 42 = some (.iload 4, 99, 0, 0) := by decide +kernel
theorem jo_233_44 : jb_op 233 44 = some (.iload_n 2, 99, 0, 0) := by decide +kernel
theorem jo_233_45 : jb_op 233 45 = some (.invokevirtual 211, 2, 210, 3) := by decide +kernel
theorem jh_210_233 : jb_ht 210 < jb_ht 233 := by decide +kernel
theorem jo_233_48 : jb_op 233 48 = some (.iconst 1, 99, 0, 0) := by decide +kernel
theorem jo_233_49 : jb_op 233 49 = some (.if_icmp .ne (8), 99, 0, 0) := by decide +kernel
theorem jo_233_52 : jb_op 233 52 = some (.iload 4, 99, 0, 0) := by decide +kernel
theorem jo_233_54 : jb_op 233 54 = some (.goto 4, 99, 0, 0) := by decide +kernel
theorem jo_233_58 : jb_op 233 58 = some (.istore_n 3, 99, 0, 0) := by decide +kernel
theorem jo_233_59 : jb_op 233 59 = some (.iinc 4 (-1), 99, 0, 0) := by decide +kernel
theorem jo_233_62 : jb_op 233 62 = some (.goto (-37), 99, 0, 0) := by decide +kernel
theorem jo_233_57 : jb_op 233 57 = some (.iload_n 3, 99, 0, 0) := by decide +kernel
theorem jl_233 : jb_ml 233 = 5 := by decide +kernel
theorem jo_234_0 : jb_op 234 0 = some (.iconst 4, 99, 0, 0) := by decide +kernel
theorem jo_234_1 : jb_op 234 1 = some (.aload_n 0, 99, 0, 0) := by decide +kernel
theorem jo_234_2 : jb_op 234 2 = some (.getfield 300, 0, 11, 29) := by decide +kernel
theorem jf_307_29 : jm_f 307 29 = some none := by decide +kernel
theorem jo_234_5 : jb_op 234 5 = some (.imul, 99, 0, 0) := by decide +kernel
theorem jo_234_6 : jb_op 234 6 = some (.istore_n 1, 99, 0, 0) := by decide +kernel
theorem jo_234_7 : jb_op 234 7 = some (.aload_n 0, 99, 0, 0) := by decide +kernel
theorem jo_234_8 : jb_op 234 8 = some (.invokevirtual 303, 2, 212, 0) := by decide +kernel
theorem jh_212_234 : jb_ht 212 < jb_ht 234 := by decide +kernel
theorem jw_212 : jb_ow 212 = 11 := by decide +kernel
theorem jo_234_11 : jb_op 234 11 = some (.istore_n 2, 99, 0, 0) := by decide +kernel
theorem jo_234_12 : jb_op 234 12 = some (.aload_n 0, 99, 0, 0) := by decide +kernel
theorem jo_234_13 : jb_op 234 13 = some (.getfield 50, 0, 11, 30) := by decide +kernel
theorem jo_234_16 : jb_op 234 16 = some (.iload_n 1, 99, 0, 0) := by decide +kernel
theorem jo_234_17 : jb_op 234 17 = some (.iload_n 2, 99, 0, 0) := by decide +kernel
theorem jo_234_18 : jb_op 234 18 = some (.iastore, 99, 0, 0) := by decide +kernel
theorem jo_234_19 : jb_op 234 19 = some (.aload_n 0, 99, 0, 0) := by decide +kernel
theorem jo_234_20 : jb_op 234 20 = some (.dup, 99, 0, 0) := by decide +kernel
theorem jo_234_21 : jb_op 234 21 = some (.getfield 300, 0, 11, 29) := by decide +kernel
theorem jo_234_24 : jb_op 234 24 = some (.iconst 1, 99, 0, 0) := by decide +kernel
theorem jo_234_25 : jb_op 234 25 = some (.iadd, 99, 0, 0) := by decide +kernel
theorem jo_234_26 : jb_op 234 26 = some (.putfield 300, 0, 11, 29) := by decide +kernel
theorem jty_11_29 : jb_Ty 11 29 = .int ∧ (jb_T 11 29).2.2.2 = false := by decide +kernel
theorem jo_234_29 : jb_op 234 29 = some (.aload_n 0, 99, 0, 0) := by decide +kernel
theorem jo_234_30 : jb_op 234 30 = some (.getfield 262, 0, 11, 28) := by decide +kernel
theorem jo_234_33 : jb_op 234 33 = some (.iconst (-1), 99, 0, 0) := by decide +kernel
theorem jo_234_34 : jb_op 234 34 = some (.if_icmp .ne (9), 99, 0, 0) := by decide +kernel
theorem jo_234_37 : jb_op 234 37 = some (.aload_n 0, 99, 0, 0) := by decide +kernel
theorem jo_234_38 : jb_op 234 38 = some (.iload_n 1, 99, 0, 0) := by decide +kernel
theorem jo_234_39 : jb_op 234 39 = some (.iload_n 2, 99, 0, 0) := by decide +kernel
theorem jo_234_40 : jb_op 234 40 = some (.invokevirtual 306, 2, 198, 2) := by decide +kernel
theorem jh_198_234 : jb_ht 198 < jb_ht 234 := by decide +kernel
theorem jw_198 : jb_ow 198 = 11 := by decide +kernel
theorem jo_234_43 : jb_op 234 43 = some (.return_, 99, 0, 0) := by decide +kernel
theorem jr_234 : jb_ret 234 = none := by decide +kernel
theorem jl_234 : jb_ml 234 = 3 := by decide +kernel
theorem jo_235_0 : jb_op 235 0 = some (.aload_n 0, 99, 0, 0) := by decide +kernel
theorem jo_235_1 : jb_op 235 1 = some (.getfield 16, 0, 10, 1) := by decide +kernel
theorem jo_235_4 : jb_op 235 4 = some (.aload_n 0, 99, 0, 0) := by decide +kernel
theorem jo_235_5 : jb_op 235 5 = some (.getfield 10, 0, 10, 0) := by decide +kernel
theorem jo_235_8 : jb_op 235 8 = some (.invokevirtual 88, 2, 123, 1) := by decide +kernel
theorem jh_123_235 : jb_ht 123 < jb_ht 235 := by decide +kernel
theorem jo_235_11 : jb_op 235 11 = some (.aload_n 0, 99, 0, 0) := by decide +kernel
theorem jo_235_12 : jb_op 235 12 = some (.aload_n 0, 99, 0, 0) := by decide +kernel
theorem jo_235_13 : jb_op 235 13 = some (.getfield 10, 0, 10, 0) := by decide +kernel
theorem jo_235_16 : jb_op 235 16 = some (.getfield 124, 1, 9, 1) := by decide +kernel
theorem jo_235_19 : jb_op 235 19 = some (.iload_n 1, 99, 0, 0) := by decide +kernel
theorem jo_235_20 : jb_op 235 20 = some (.aload_n 0, 99, 0, 0) := by decide +kernel
theorem jo_235_21 : jb_op 235 21 = some (.getfield 55, 0, 10, 7) := by decide +kernel
theorem jo_235_24 : jb_op 235 24 = some (.aload_n 0, 99, 0, 0) := by decide +kernel
theorem jo_235_25 : jb_op 235 25 = some (.getfield 32, 0, 10, 4) := by decide +kernel
theorem jo_235_28 : jb_op 235 28 = some (.invokevirtual 128, 2, 124, 3) := by decide +kernel
theorem jh_124_235 : jb_ht 124 < jb_ht 235 := by decide +kernel
theorem jo_235_31 : jb_op 235 31 = some (.invokevirtual 134, 2, 217, 1) := by decide +kernel
theorem jh_217_235 : jb_ht 217 < jb_ht 235 := by decide +kernel
theorem jw_217 : jb_ow 217 = 10 := by decide +kernel
theorem jo_235_34 : jb_op 235 34 = some (.ireturn, 99, 0, 0) := by decide +kernel
theorem jr_235 : jb_ret 235 = (some .int) := by decide +kernel
theorem jl_235 : jb_ml 235 = 2 := by decide +kernel
theorem jo_236_0 : jb_op 236 0 = some (.aload_n 0, 99, 0, 0) := by decide +kernel
theorem jo_236_1 : jb_op 236 1 = some (.getfield 16, 0, 10, 1) := by decide +kernel
theorem jo_236_4 : jb_op 236 4 = some (.aload_n 0, 99, 0, 0) := by decide +kernel
theorem jo_236_5 : jb_op 236 5 = some (.getfield 10, 0, 10, 0) := by decide +kernel
theorem jo_236_8 : jb_op 236 8 = some (.invokevirtual 88, 2, 123, 1) := by decide +kernel
theorem jh_123_236 : jb_ht 123 < jb_ht 236 := by decide +kernel
theorem jo_236_11 : jb_op 236 11 = some (.aload_n 0, 99, 0, 0) := by decide +kernel
theorem jo_236_12 : jb_op 236 12 = some (.aload_n 0, 99, 0, 0) := by decide +kernel
theorem jo_236_13 : jb_op 236 13 = some (.getfield 10, 0, 10, 0) := by decide +kernel
theorem jo_236_16 : jb_op 236 16 = some (.aload_n 0, 99, 0, 0) := by decide +kernel
theorem jo_236_17 : jb_op 236 17 = some (.getfield 55, 0, 10, 7) := by decide +kernel
theorem jo_236_20 : jb_op 236 20 = some (.aload_n 0, 99, 0, 0) := by decide +kernel
theorem jo_236_21 : jb_op 236 21 = some (.getfield 32, 0, 10, 4) := by decide +kernel
theorem jo_236_24 : jb_op 236 24 = some (.invokevirtual 153, 2, 169, 2) := by decide +kernel
theorem jh_169_236 : jb_ht 169 < jb_ht 236 := by decide +kernel
theorem jo_236_27 : jb_op 236 27 = some (.invokevirtual 134, 2, 217, 1) := by decide +kernel
theorem jh_217_236 : jb_ht 217 < jb_ht 236 := by decide +kernel
theorem jo_236_30 : jb_op 236 30 = some (.ireturn, 99, 0, 0) := by decide +kernel
theorem jr_236 : jb_ret 236 = (some .int) := by decide +kernel
theorem jl_236 : jb_ml 236 = 1 := by decide +kernel
theorem jo_237_0 : jb_op 237 0 = some (.aload_n 0, 99, 0, 0) := by decide +kernel
theorem jo_237_1 : jb_op 237 1 = some (.getfield 10, 0, 10, 0) := by decide +kernel
theorem jo_237_4 : jb_op 237 4 = some (.getfield 140, 1, 9, 2) := by decide +kernel
theorem jo_237_7 : jb_op 237 7 = some (.getfield 189, 1, 7, 0) := by decide +kernel
theorem jo_237_10 : jb_op 237 10 = some (.iload_n 1, 99, 0, 0) := by decide +kernel
theorem jo_237_11 : jb_op 237 11 = some (.invokevirtual 160, 2, 4, 1) := by decide +kernel
theorem jh_4_237 : jb_ht 4 < jb_ht 237 := by decide +kernel
theorem jo_237_14 : jb_op 237 14 = some (.ifCond .ne (5), 99, 0, 0) := by decide +kernel
theorem jo_237_17 : jb_op 237 17 = some (.iconst (-1), 99, 0, 0) := by decide +kernel
theorem jo_237_18 : jb_op 237 18 = some (.ireturn, 99, 0, 0) := by decide +kernel
theorem jr_237 : jb_ret 237 = (some .int) := by decide +kernel
theorem jo_237_19 : jb_op 237 19 = some (.iload_n 2, 99, 0, 0) := by decide +kernel
theorem jo_237_20 : jb_op 237 20 = some (.tableswitch (74) (0) (3) #[(32), (47), (62), (68)], 99, 0, 0) := by decide +kernel
theorem jo_237_52 : jb_op 237 52 = some (.aload_n 0, 99, 0, 0) := by decide +kernel
theorem jo_237_53 : jb_op 237 53 = some (.getfield 10, 0, 10, 0) := by decide +kernel
theorem jo_237_56 : jb_op 237 56 = some (.getfield 140, 1, 9, 2) := by decide +kernel
theorem jo_237_59 : jb_op 237 59 = some (.getfield 189, 1, 7, 0) := by decide +kernel
theorem jo_237_62 : jb_op 237 62 = some (.iload_n 1, 99, 0, 0) := by decide +kernel
theorem jo_237_63 : jb_op 237 63 = some (.invokevirtual 164, 2, 6, 1) := by decide +kernel
theorem jh_6_237 : jb_ht 6 < jb_ht 237 := by decide +kernel
theorem jo_237_67 : jb_op 237 67 = some (.aload_n 0, 99, 0, 0) := by decide +kernel
theorem jo_237_68 : jb_op 237 68 = some (.getfield 10, 0, 10, 0) := by decide +kernel
theorem jo_237_71 : jb_op 237 71 = some (.getfield 140, 1, 9, 2) := by decide +kernel
theorem jo_237_74 : jb_op 237 74 = some (.getfield 190, 1, 7, 1) := by decide +kernel
theorem jo_237_77 : jb_op 237 77 = some (.iload_n 1, 99, 0, 0) := by decide +kernel
theorem jo_237_78 : jb_op 237 78 = some (.invokevirtual 164, 2, 6, 1) := by decide +kernel
theorem jo_237_82 : jb_op 237 82 = some (.aload_n 0, 99, 0, 0) := by decide +kernel
theorem jo_237_83 : jb_op 237 83 = some (.iload_n 1, 99, 0, 0) := by decide +kernel
theorem jo_237_84 : jb_op 237 84 = some (.invokevirtual 193, 2, 132, 1) := by decide +kernel
theorem jh_132_237 : jb_ht 132 < jb_ht 237 := by decide +kernel
theorem jw_132 : jb_ow 132 = 10 := by decide +kernel
theorem jo_237_88 : jb_op 237 88 = some (.aload_n 0, 99, 0, 0) := by decide +kernel
theorem jo_237_89 : jb_op 237 89 = some (.iload_n 1, 99, 0, 0) := by decide +kernel
theorem jo_237_90 : jb_op 237 90 = some (.invokevirtual 196, 2, 222, 1) := by decide +kernel
theorem jh_222_237 : jb_ht 222 < jb_ht 237 := by decide +kernel
theorem jw_222 : jb_ow 222 = 10 := by decide +kernel
theorem jo_237_94 : jb_op 237 94 = some (.bipush (-2), 99, 0, 0) := by decide +kernel
theorem jo_237_96 : jb_op 237 96 = some (.ireturn, 99, 0, 0) := by decide +kernel
theorem jo_237_93 : jb_op 237 93 = some (.ireturn, 99, 0, 0) := by decide +kernel
theorem jo_237_87 : jb_op 237 87 = some (.ireturn, 99, 0, 0) := by decide +kernel
theorem jo_237_81 : jb_op 237 81 = some (.ireturn, 99, 0, 0) := by decide +kernel
theorem jo_237_66 : jb_op 237 66 = some (.ireturn, 99, 0, 0) := by decide +kernel
theorem jl_237 : jb_ml 237 = 3 := by decide +kernel
theorem jo_238_0 : jb_op 238 0 = some (.aload_n 0, 99, 0, 0) := by decide +kernel
theorem jo_238_1 : jb_op 238 1 = some (.getfield 77, 0, 10, 14) := by decide +kernel
theorem jo_238_4 : jb_op 238 4 = some (.invokevirtual 233, 2, 13, 0) := by decide +kernel
theorem jh_13_238 : jb_ht 13 < jb_ht 238 := by decide +kernel
theorem jo_238_7 : jb_op 238 7 = some (.iconst 0, 99, 0, 0) := by decide +kernel
theorem jo_238_8 : jb_op 238 8 = some (.istore_n 2, 99, 0, 0) := by decide +kernel
theorem jo_238_9 : jb_op 238 9 = some (.iload_n 2, 99, 0, 0) := by decide +kernel
theorem jo_238_10 : jb_op 238 10 = some (.aload_n 0, 99, 0, 0) := by decide +kernel
theorem jo_238_11 : jb_op 238 11 = some (.getfield 10, 0, 10, 0) := by decide +kernel
theorem jo_238_14 : jb_op 238 14 = some (.getfield 140, 1, 9, 2) := by decide +kernel
theorem jo_238_17 : jb_op 238 17 = some (.getfield 189, 1, 7, 0) := by decide +kernel
theorem jo_238_20 : jb_op 238 20 = some (.invokevirtual 120, 2, 12, 0) := by decide +kernel
theorem jh_12_238 : jb_ht 12 < jb_ht 238 := by decide +kernel
theorem jo_238_23 : jb_op 238 23 = some (.if_icmp .ge (48), 99, 0, 0) := by decide +kernel
theorem jo_238_71 : jb_op 238 71 = some (.aload_n 0, 99, 0, 0) := by decide +kernel
theorem jo_238_72 : jb_op 238 72 = some (.iload_n 1, 99, 0, 0) := by decide +kernel
theorem jo_238_73 : jb_op 238 73 = some (.invokevirtual 239, 2, 78, 1) := by decide +kernel
theorem jh_78_238 : jb_ht 78 < jb_ht 238 := by decide +kernel
theorem jo_238_26 : jb_op 238 26 = some (.iconst 5, 99, 0, 0) := by decide +kernel
theorem jo_238_27 : jb_op 238 27 = some (.aload_n 0, 99, 0, 0) := by decide +kernel
theorem jo_238_28 : jb_op 238 28 = some (.iload_n 2, 99, 0, 0) := by decide +kernel
theorem jo_238_29 : jb_op 238 29 = some (.invokevirtual 196, 2, 222, 1) := by decide +kernel
theorem jh_222_238 : jb_ht 222 < jb_ht 238 := by decide +kernel
theorem jo_238_32 : jb_op 238 32 = some (.isub, 99, 0, 0) := by decide +kernel
theorem jo_238_33 : jb_op 238 33 = some (.istore_n 3, 99, 0, 0) := by decide +kernel
theorem jo_238_34 : jb_op 238 34 = some (.aload_n 0, 99, 0, 0) := by decide +kernel
theorem jo_238_35 : jb_op 238 35 = some (.getfield 77, 0, 10, 14) := by decide +kernel
theorem jo_238_38 : jb_op 238 38 = some (.iload_n 3, 99, 0, 0) := by decide +kernel
theorem jo_238_39 : jb_op 238 39 = some (.bipush 10, 99, 0, 0) := by decide +kernel
theorem jo_238_41 : jb_op 238 41 = some (.imul, 99, 0, 0) := by decide +kernel
theorem jo_238_42 : jb_op 238 42 = some (.aload_n 0, 99, 0, 0) := by decide +kernel
theorem jo_238_43 : jb_op 238 43 = some (.getfield 10, 0, 10, 0) := by decide +kernel
theorem jo_238_46 : jb_op 238 46 = some (.getfield 140, 1, 9, 2) := by decide +kernel
theorem jo_238_49 : jb_op 238 49 = some (.getfield 190, 1, 7, 1) := by decide +kernel
theorem jo_238_52 : jb_op 238 52 = some (.iload_n 2, 99, 0, 0) := by decide +kernel
theorem jo_238_53 : jb_op 238 53 = some (.invokevirtual 164, 2, 6, 1) := by decide +kernel
theorem jh_6_238 : jb_ht 6 < jb_ht 238 := by decide +kernel
theorem jo_238_56 : jb_op 238 56 = some (.iadd, 99, 0, 0) := by decide +kernel
theorem jo_238_57 : jb_op 238 57 = some (.bipush 10, 99, 0, 0) := by decide +kernel
theorem jo_238_59 : jb_op 238 59 = some (.imul, 99, 0, 0) := by decide +kernel
theorem jo_238_60 : jb_op 238 60 = some (.iload_n 2, 99, 0, 0) := by decide +kernel
theorem jo_238_61 : jb_op 238 61 = some (.iadd, 99, 0, 0) := by decide +kernel
theorem jo_238_62 : jb_op 238 62 = some (.invokevirtual 117, 2, 1, 1) := by decide +kernel
theorem jh_1_238 : jb_ht 1 < jb_ht 238 := by decide +kernel
theorem jo_238_65 : jb_op 238 65 = some (.iinc 2 1, 99, 0, 0) := by decide +kernel
theorem jo_238_68 : jb_op 238 68 = some (.goto (-59), 99, 0, 0) := by decide +kernel
theorem jo_238_76 : jb_op 238 76 = some (.ireturn, 99, 0, 0) := by decide +kernel
theorem jr_238 : jb_ret 238 = (some .int) := by decide +kernel
theorem jl_238 : jb_ml 238 = 4 := by decide +kernel
theorem jo_239_0 : jb_op 239 0 = some (.aload_n 0, 99, 0, 0) := by decide +kernel
theorem jo_239_1 : jb_op 239 1 = some (.getfield 20, 0, 8, 1) := by decide +kernel
theorem jo_239_4 : jb_op 239 4 = some (.invokevirtual 29, 2, 13, 0) := by decide +kernel
theorem jh_13_239 : jb_ht 13 < jb_ht 239 := by decide +kernel
theorem jo_239_7 : jb_op 239 7 = some (.aload_n 0, 99, 0, 0) := by decide +kernel
theorem jo_239_8 : jb_op 239 8 = some (.getfield 23, 0, 8, 2) := by decide +kernel
theorem jo_239_11 : jb_op 239 11 = some (.invokevirtual 29, 2, 13, 0) := by decide +kernel
theorem jo_239_14 : jb_op 239 14 = some (.aload_n 0, 99, 0, 0) := by decide +kernel
theorem jo_239_15 : jb_op 239 15 = some (.getfield 26, 0, 8, 3) := by decide +kernel
theorem jo_239_18 : jb_op 239 18 = some (.invokevirtual 29, 2, 13, 0) := by decide +kernel
theorem jo_239_21 : jb_op 239 21 = some (.iconst 0, 99, 0, 0) := by decide +kernel
theorem jo_239_22 : jb_op 239 22 = some (.istore_n 1, 99, 0, 0) := by decide +kernel
theorem jo_239_23 : jb_op 239 23 = some (.iconst 0, 99, 0, 0) := by decide +kernel
theorem jo_239_24 : jb_op 239 24 = some (.istore_n 2, 99, 0, 0) := by decide +kernel
theorem jo_239_25 : jb_op 239 25 = some (.iload_n 2, 99, 0, 0) := by decide +kernel
theorem jo_239_26 : jb_op 239 26 = some (.bipush 60, 99, 0, 0) := by decide +kernel
theorem jo_239_28 : jb_op 239 28 = some (.if_icmp .ge (97), 99, 0, 0) := by decide +kernel
theorem jo_239_125 : jb_op 239 125 = some (.iload_n 1, 99, 0, 0) := by decide +kernel
theorem jo_239_126 : jb_op 239 126 = some (.ireturn, 99, 0, 0) := by decide +kernel
theorem jr_239 : jb_ret 239 = (some .int) := by decide +kernel
theorem jo_239_31 : jb_op 239 31 = some (.aload_n 0, 99, 0, 0) := by decide +kernel
theorem jo_239_32 : jb_op 239 32 = some (.iload_n 1, 99, 0, 0) := by decide +kernel
theorem jo_239_33 : jb_op 239 33 = some (.invokevirtual 32, 2, 229, 1) := by decide +kernel
theorem jh_229_239 : jb_ht 229 < jb_ht 239 := by decide +kernel
theorem jw_229 : jb_ow 229 = 8 := by decide +kernel
theorem jo_239_36 : jb_op 239 36 = some (.istore_n 3, 99, 0, 0) := by decide +kernel
theorem jo_239_37 : jb_op 239 37 = some (.iload_n 3, 99, 0, 0) := by decide +kernel
theorem jo_239_38 : jb_op 239 38 = some (.iconst (-1), 99, 0, 0) := by decide +kernel
theorem jo_239_39 : jb_op 239 39 = some (.if_icmp .ne (11), 99, 0, 0) := by decide +kernel
theorem jo_239_42 : jb_op 239 42 = some (.iload_n 1, 99, 0, 0) := by decide +kernel
theorem jo_239_43 : jb_op 239 43 = some (.aload_n 0, 99, 0, 0) := by decide +kernel
theorem jo_239_44 : jb_op 239 44 = some (.iload_n 1, 99, 0, 0) := by decide +kernel
theorem jo_239_45 : jb_op 239 45 = some (.invokevirtual 36, 2, 230, 1) := by decide +kernel
theorem jh_230_239 : jb_ht 230 < jb_ht 239 := by decide +kernel
theorem jw_230 : jb_ow 230 = 8 := by decide +kernel
theorem jo_239_50 : jb_op 239 50 = some (.aload_n 0, 99, 0, 0) := by decide +kernel
theorem jo_239_51 : jb_op 239 51 = some (.iload_n 3, 99, 0, 0) := by decide +kernel
theorem jo_239_52 : jb_op 239 52 = some (.iload_n 1, 99, 0, 0) := by decide +kernel
theorem jo_239_53 : jb_op 239 53 = some (.invokevirtual 39, 2, 146, 2) := by decide +kernel
theorem jh_146_239 : jb_ht 146 < jb_ht 239 := by decide +kernel
theorem jw_146 : jb_ow 146 = 8 := by decide +kernel
theorem jo_239_56 : jb_op 239 56 = some (.istore 4, 99, 0, 0) := by decide +kernel
theorem jo_239_58 : jb_op 239 58 = some (.aload_n 0, 99, 0, 0) := by decide +kernel
theorem jo_239_59 : jb_op 239 59 = some (.getfield 20, 0, 8, 1) := by decide +kernel
theorem jo_239_62 : jb_op 239 62 = some (.iload_n 3, 99, 0, 0) := by decide +kernel
theorem jo_239_63 : jb_op 239 63 = some (.invokevirtual 43, 2, 1, 1) := by decide +kernel
theorem jh_1_239 : jb_ht 1 < jb_ht 239 := by decide +kernel
theorem jo_239_66 : jb_op 239 66 = some (.aload_n 0, 99, 0, 0) := by decide +kernel
theorem jo_239_67 : jb_op 239 67 = some (.getfield 23, 0, 8, 2) := by decide +kernel
theorem jo_239_70 : jb_op 239 70 = some (.iload_n 1, 99, 0, 0) := by decide +kernel
theorem jo_239_71 : jb_op 239 71 = some (.invokevirtual 43, 2, 1, 1) := by decide +kernel
theorem jo_239_74 : jb_op 239 74 = some (.aload_n 0, 99, 0, 0) := by decide +kernel
theorem jo_239_75 : jb_op 239 75 = some (.getfield 26, 0, 8, 3) := by decide +kernel
theorem jo_239_78 : jb_op 239 78 = some (.iload 4, 99, 0, 0) := by decide +kernel
theorem jo_239_80 : jb_op 239 80 = some (.invokevirtual 43, 2, 1, 1) := by decide +kernel
theorem jo_239_83 : jb_op 239 83 = some (.iload 4, 99, 0, 0) := by decide +kernel
theorem jo_239_85 : jb_op 239 85 = some (.aload_n 0, 99, 0, 0) := by decide +kernel
theorem jo_239_86 : jb_op 239 86 = some (.getfield 14, 0, 8, 0) := by decide +kernel
theorem jo_239_89 : jb_op 239 89 = some (.invokevirtual 46, 2, 12, 0) := by decide +kernel
theorem jh_12_239 : jb_ht 12 < jb_ht 239 := by decide +kernel
theorem jo_239_92 : jb_op 239 92 = some (.if_icmp .lt (5), 99, 0, 0) := by decide +kernel
theorem jo_239_97 : jb_op 239 97 = some (.aload_n 0, 99, 0, 0) := by decide +kernel
theorem jo_239_98 : jb_op 239 98 = some (.getfield 14, 0, 8, 0) := by decide +kernel
theorem jo_239_101 : jb_op 239 101 = some (.iload 4, 99, 0, 0) := by decide +kernel
theorem jo_239_103 : jb_op 239 103 = some (.invokevirtual 50, 2, 6, 1) := by decide +kernel
theorem jh_6_239 : jb_ht 6 < jb_ht 239 := by decide +kernel
theorem jo_239_95 : jb_op 239 95 = some (.iconst (-1), 99, 0, 0) := by decide +kernel
theorem jo_239_96 : jb_op 239 96 = some (.ireturn, 99, 0, 0) := by decide +kernel
theorem jo_239_106 : jb_op 239 106 = some (.bipush 59, 99, 0, 0) := by decide +kernel
theorem jo_239_108 : jb_op 239 108 = some (.if_icmp .eq (6), 99, 0, 0) := by decide +kernel
theorem jo_239_114 : jb_op 239 114 = some (.iload 4, 99, 0, 0) := by decide +kernel
theorem jo_239_116 : jb_op 239 116 = some (.iconst 1, 99, 0, 0) := by decide +kernel
theorem jo_239_117 : jb_op 239 117 = some (.iadd, 99, 0, 0) := by decide +kernel
theorem jo_239_118 : jb_op 239 118 = some (.istore_n 1, 99, 0, 0) := by decide +kernel
theorem jo_239_119 : jb_op 239 119 = some (.iinc 2 1, 99, 0, 0) := by decide +kernel
theorem jo_239_122 : jb_op 239 122 = some (.goto (-97), 99, 0, 0) := by decide +kernel
theorem jo_239_111 : jb_op 239 111 = some (.iload 4, 99, 0, 0) := by decide +kernel
theorem jo_239_113 : jb_op 239 113 = some (.ireturn, 99, 0, 0) := by decide +kernel
theorem jo_239_48 : jb_op 239 48 = some (.iadd, 99, 0, 0) := by decide +kernel
theorem jo_239_49 : jb_op 239 49 = some (.ireturn, 99, 0, 0) := by decide +kernel
theorem jl_239 : jb_ml 239 = 5 := by decide +kernel
theorem jo_240_0 : jb_op 240 0 = some (.iconst 0, 99, 0, 0) := by decide +kernel
theorem jo_240_1 : jb_op 240 1 = some (.istore_n 1, 99, 0, 0) := by decide +kernel
theorem jo_240_2 : jb_op 240 2 = some (.iload_n 1, 99, 0, 0) := by decide +kernel
theorem jo_240_3 : jb_op 240 3 = some (.aload_n 0, 99, 0, 0) := by decide +kernel
theorem jo_240_4 : jb_op 240 4 = some (.getfield 46, 0, 10, 6) := by decide +kernel
theorem jo_240_7 : jb_op 240 7 = some (.getfield 300, 1, 8, 1) := by decide +kernel
theorem jo_240_10 : jb_op 240 10 = some (.invokevirtual 120, 2, 12, 0) := by decide +kernel
theorem jh_12_240 : jb_ht 12 < jb_ht 240 := by decide +kernel
theorem jo_240_13 : jb_op 240 13 = some (.if_icmp .ge (50), 99, 0, 0) := by decide +kernel
theorem jo_240_63 : jb_op 240 63 = some (.aload_n 0, 99, 0, 0) := by decide +kernel
theorem jo_240_64 : jb_op 240 64 = some (.getfield 46, 0, 10, 6) := by decide +kernel
theorem jo_240_67 : jb_op 240 67 = some (.getfield 300, 1, 8, 1) := by decide +kernel
theorem jo_240_70 : jb_op 240 70 = some (.invokevirtual 120, 2, 12, 0) := by decide +kernel
theorem jo_240_16 : jb_op 240 16 = some (.aload_n 0, 99, 0, 0) := by decide +kernel
theorem jo_240_17 : jb_op 240 17 = some (.iload_n 1, 99, 0, 0) := by decide +kernel
theorem jo_240_18 : jb_op 240 18 = some (.invokevirtual 303, 2, 231, 1) := by decide +kernel
theorem jh_231_240 : jb_ht 231 < jb_ht 240 := by decide +kernel
theorem jw_231 : jb_ow 231 = 10 := by decide +kernel
theorem jo_240_21 : jb_op 240 21 = some (.istore_n 2, 99, 0, 0) := by decide +kernel
theorem jo_240_22 : jb_op 240 22 = some (.iload_n 2, 99, 0, 0) := by decide +kernel
theorem jo_240_23 : jb_op 240 23 = some (.ifCond .ge (34), 99, 0, 0) := by decide +kernel
theorem jo_240_57 : jb_op 240 57 = some (.iinc 1 1, 99, 0, 0) := by decide +kernel
theorem jo_240_60 : jb_op 240 60 = some (.goto (-58), 99, 0, 0) := by decide +kernel
theorem jo_240_26 : jb_op 240 26 = some (.aload_n 0, 99, 0, 0) := by decide +kernel
theorem jo_240_27 : jb_op 240 27 = some (.getfield 10, 0, 10, 0) := by decide +kernel
theorem jo_240_30 : jb_op 240 30 = some (.aload_n 0, 99, 0, 0) := by decide +kernel
theorem jo_240_31 : jb_op 240 31 = some (.getfield 16, 0, 10, 1) := by decide +kernel
theorem jo_240_34 : jb_op 240 34 = some (.invokevirtual 88, 2, 123, 1) := by decide +kernel
theorem jh_123_240 : jb_ht 123 < jb_ht 240 := by decide +kernel
theorem jo_240_37 : jb_op 240 37 = some (.aload_n 0, 99, 0, 0) := by decide +kernel
theorem jo_240_38 : jb_op 240 38 = some (.getfield 32, 0, 10, 4) := by decide +kernel
theorem jo_240_41 : jb_op 240 41 = some (.iload_n 1, 99, 0, 0) := by decide +kernel
theorem jo_240_42 : jb_op 240 42 = some (.iload_n 2, 99, 0, 0) := by decide +kernel
theorem jo_240_43 : jb_op 240 43 = some (.bipush (-5), 99, 0, 0) := by decide +kernel
theorem jo_240_45 : jb_op 240 45 = some (.if_icmp .ne (7), 99, 0, 0) := by decide +kernel
theorem jo_240_48 : jb_op 240 48 = some (.iconst 1, 99, 0, 0) := by decide +kernel
theorem jo_240_49 : jb_op 240 49 = some (.goto 4, 99, 0, 0) := by decide +kernel
theorem jo_240_53 : jb_op 240 53 = some (.invokevirtual 306, 2, 86, 2) := by decide +kernel
theorem jh_86_240 : jb_ht 86 < jb_ht 240 := by decide +kernel
theorem jw_86 : jb_ow 86 = 5 := by decide +kernel
theorem jo_240_52 : jb_op 240 52 = some (.iconst 0, 99, 0, 0) := by decide +kernel
theorem jo_240_56 : jb_op 240 56 = some (.ireturn, 99, 0, 0) := by decide +kernel
theorem jr_240 : jb_ret 240 = (some .int) := by decide +kernel
theorem jo_240_73 : jb_op 240 73 = some (.ireturn, 99, 0, 0) := by decide +kernel
theorem jl_240 : jb_ml 240 = 3 := by decide +kernel
theorem jo_241_0 : jb_op 241 0 = some (.aload_n 0, 99, 0, 0) := by decide +kernel
theorem jo_241_1 : jb_op 241 1 = some (.iload_n 1, 99, 0, 0) := by decide +kernel
theorem jo_241_2 : jb_op 241 2 = some (.invokevirtual 165, 2, 105, 1) := by decide +kernel
theorem jh_105_241 : jb_ht 105 < jb_ht 241 := by decide +kernel
theorem jo_241_5 : jb_op 241 5 = some (.ifCond .eq (11), 99, 0, 0) := by decide +kernel
theorem jo_241_16 : jb_op 241 16 = some (.iconst (-1), 99, 0, 0) := by decide +kernel
theorem jo_241_17 : jb_op 241 17 = some (.ireturn, 99, 0, 0) := by decide +kernel
theorem jr_241 : jb_ret 241 = (some .int) := by decide +kernel
theorem jo_241_8 : jb_op 241 8 = some (.aload_n 0, 99, 0, 0) := by decide +kernel
theorem jo_241_9 : jb_op 241 9 = some (.iload_n 2, 99, 0, 0) := by decide +kernel
theorem jo_241_10 : jb_op 241 10 = some (.invokevirtual 194, 2, 108, 1) := by decide +kernel
theorem jh_108_241 : jb_ht 108 < jb_ht 241 := by decide +kernel
theorem jo_241_13 : jb_op 241 13 = some (.ifCond .ne (5), 99, 0, 0) := by decide +kernel
theorem jo_241_18 : jb_op 241 18 = some (.aload_n 0, 99, 0, 0) := by decide +kernel
theorem jo_241_19 : jb_op 241 19 = some (.iload_n 1, 99, 0, 0) := by decide +kernel
theorem jo_241_20 : jb_op 241 20 = some (.iload_n 2, 99, 0, 0) := by decide +kernel
theorem jo_241_21 : jb_op 241 21 = some (.invokevirtual 215, 2, 232, 2) := by decide +kernel
theorem jh_232_241 : jb_ht 232 < jb_ht 241 := by decide +kernel
theorem jw_232 : jb_ow 232 = 11 := by decide +kernel
theorem jo_241_24 : jb_op 241 24 = some (.ireturn, 99, 0, 0) := by decide +kernel
theorem jl_241 : jb_ml 241 = 3 := by decide +kernel
theorem jo_242_0 : jb_op 242 0 = some (.iconst 0, 99, 0, 0) := by decide +kernel
theorem jo_242_1 : jb_op 242 1 = some (.istore_n 2, 99, 0, 0) := by decide +kernel
theorem jo_242_2 : jb_op 242 2 = some (.iconst 0, 99, 0, 0) := by decide +kernel
theorem jo_242_3 : jb_op 242 3 = some (.istore_n 3, 99, 0, 0) := by decide +kernel
theorem jo_242_4 : jb_op 242 4 = some (.iload_n 3, 99, 0, 0) := by decide +kernel
theorem jo_242_5 : jb_op 242 5 = some (.aload_n 0, 99, 0, 0) := by decide +kernel
theorem jo_242_6 : jb_op 242 6 = some (.getfield 9, 0, 11, 0) := by decide +kernel
theorem jo_242_9 : jb_op 242 9 = some (.iconst 2, 99, 0, 0) := by decide +kernel
theorem jo_242_10 : jb_op 242 10 = some (.iaload, 99, 0, 0) := by decide +kernel
theorem jo_242_11 : jb_op 242 11 = some (.if_icmp .ge (27), 99, 0, 0) := by decide +kernel
theorem jo_242_38 : jb_op 242 38 = some (.iload_n 2, 99, 0, 0) := by decide +kernel
theorem jo_242_39 : jb_op 242 39 = some (.ireturn, 99, 0, 0) := by decide +kernel
theorem jr_242 : jb_ret 242 = (some .int) := by decide +kernel
theorem jo_242_14 : jb_op 242 14 = some (.iload_n 2, 99, 0, 0) := by decide +kernel
theorem jo_242_15 : jb_op 242 15 = some (.aload_n 0, 99, 0, 0) := by decide +kernel
theorem jo_242_16 : jb_op 242 16 = some (.iload_n 1, 99, 0, 0) := by decide +kernel
theorem jo_242_17 : jb_op 242 17 = some (.iload_n 3, 99, 0, 0) := by decide +kernel
theorem jo_242_18 : jb_op 242 18 = some (.invokevirtual 215, 2, 232, 2) := by decide +kernel
theorem jh_232_242 : jb_ht 232 < jb_ht 242 := by decide +kernel
theorem jo_242_21 : jb_op 242 21 = some (.iconst 1, 99, 0, 0) := by decide +kernel
theorem jo_242_22 : jb_op 242 22 = some (.if_icmp .ne (7), 99, 0, 0) := by decide +kernel
theorem jo_242_25 : jb_op 242 25 = some (.iconst 1, 99, 0, 0) := by decide +kernel
theorem jo_242_26 : jb_op 242 26 = some (.goto 4, 99, 0, 0) := by decide +kernel
theorem jo_242_30 : jb_op 242 30 = some (.iadd, 99, 0, 0) := by decide +kernel
theorem jo_242_31 : jb_op 242 31 = some (.istore_n 2, 99, 0, 0) := by decide +kernel
theorem jo_242_32 : jb_op 242 32 = some (.iinc 3 1, 99, 0, 0) := by decide +kernel
theorem jo_242_35 : jb_op 242 35 = some (.goto (-31), 99, 0, 0) := by decide +kernel
theorem jo_242_29 : jb_op 242 29 = some (.iconst 0, 99, 0, 0) := by decide +kernel
theorem jl_242 : jb_ml 242 = 4 := by decide +kernel
theorem jo_243_0 : jb_op 243 0 = some (.aload_n 0, 99, 0, 0) := by decide +kernel
theorem jo_243_1 : jb_op 243 1 = some (.aload_n 0, 99, 0, 0) := by decide +kernel
theorem jo_243_2 : jb_op 243 2 = some (.getfield 241, 0, 11, 14) := by decide +kernel
theorem jo_243_5 : jb_op 243 5 = some (.putfield 259, 0, 11, 26) := by decide +kernel
theorem jty_11_26 : jb_Ty 11 26 = .int ∧ (jb_T 11 26).2.2.2 = false := by decide +kernel
theorem jo_243_8 : jb_op 243 8 = some (.aload_n 0, 99, 0, 0) := by decide +kernel
theorem jo_243_9 : jb_op 243 9 = some (.iconst 0, 99, 0, 0) := by decide +kernel
theorem jo_243_10 : jb_op 243 10 = some (.putfield 241, 0, 11, 14) := by decide +kernel
theorem jo_243_13 : jb_op 243 13 = some (.aload_n 0, 99, 0, 0) := by decide +kernel
theorem jo_243_14 : jb_op 243 14 = some (.iconst 0, 99, 0, 0) := by decide +kernel
theorem jo_243_15 : jb_op 243 15 = some (.putfield 256, 0, 11, 27) := by decide +kernel
theorem jo_243_18 : jb_op 243 18 = some (.aload_n 0, 99, 0, 0) := by decide +kernel
theorem jo_243_19 : jb_op 243 19 = some (.iconst (-1), 99, 0, 0) := by decide +kernel
theorem jo_243_20 : jb_op 243 20 = some (.putfield 262, 0, 11, 28) := by decide +kernel
theorem jo_243_23 : jb_op 243 23 = some (.aload_n 0, 99, 0, 0) := by decide +kernel
theorem jo_243_24 : jb_op 243 24 = some (.iconst 0, 99, 0, 0) := by decide +kernel
theorem jo_243_25 : jb_op 243 25 = some (.putfield 300, 0, 11, 29) := by decide +kernel
theorem jo_243_28 : jb_op 243 28 = some (.aload_n 0, 99, 0, 0) := by decide +kernel
theorem jo_243_29 : jb_op 243 29 = some (.invokevirtual 310, 2, 234, 0) := by decide +kernel
theorem jh_234_243 : jb_ht 234 < jb_ht 243 := by decide +kernel
theorem jw_234 : jb_ow 234 = 11 := by decide +kernel
theorem jo_243_32 : jb_op 243 32 = some (.aload_n 0, 99, 0, 0) := by decide +kernel
theorem jo_243_33 : jb_op 243 33 = some (.getfield 262, 0, 11, 28) := by decide +kernel
theorem jo_243_36 : jb_op 243 36 = some (.iconst (-1), 99, 0, 0) := by decide +kernel
theorem jo_243_37 : jb_op 243 37 = some (.if_icmp .ne (38), 99, 0, 0) := by decide +kernel
theorem jo_243_40 : jb_op 243 40 = some (.aload_n 0, 99, 0, 0) := by decide +kernel
theorem jo_243_41 : jb_op 243 41 = some (.getfield 256, 0, 11, 27) := by decide +kernel
theorem jo_243_44 : jb_op 243 44 = some (.aload_n 0, 99, 0, 0) := by decide +kernel
theorem jo_243_45 : jb_op 243 45 = some (.getfield 259, 0, 11, 26) := by decide +kernel
theorem jo_243_48 : jb_op 243 48 = some (.if_icmp .ge (27), 99, 0, 0) := by decide +kernel
theorem jo_243_75 : jb_op 243 75 = some (.return_, 99, 0, 0) := by decide +kernel
theorem jr_243 : jb_ret 243 = none := by decide +kernel
theorem jo_243_51 : jb_op 243 51 = some (.aload_n 0, 99, 0, 0) := by decide +kernel
theorem jo_243_52 : jb_op 243 52 = some (.bipush 59, 99, 0, 0) := by decide +kernel
theorem jo_243_54 : jb_op 243 54 = some (.bipush 59, 99, 0, 0) := by decide +kernel
theorem jo_243_56 : jb_op 243 56 = some (.invokevirtual 268, 2, 119, 2) := by decide +kernel
theorem jh_119_243 : jb_ht 119 < jb_ht 243 := by decide +kernel
theorem jo_243_59 : jb_op 243 59 = some (.istore_n 1, 99, 0, 0) := by decide +kernel
theorem jo_243_60 : jb_op 243 60 = some (.aload_n 0, 99, 0, 0) := by decide +kernel
theorem jo_243_61 : jb_op 243 61 = some (.getfield 262, 0, 11, 28) := by decide +kernel
theorem jo_243_64 : jb_op 243 64 = some (.iconst (-1), 99, 0, 0) := by decide +kernel
theorem jo_243_65 : jb_op 243 65 = some (.if_icmp .ne (7), 99, 0, 0) := by decide +kernel
theorem jo_243_68 : jb_op 243 68 = some (.aload_n 0, 99, 0, 0) := by decide +kernel
theorem jo_243_69 : jb_op 243 69 = some (.invokevirtual 310, 2, 234, 0) := by decide +kernel
theorem jo_243_72 : jb_op 243 72 = some (.goto (-40), 99, 0, 0) := by decide +kernel
theorem jl_243 : jb_ml 243 = 2 := by decide +kernel
theorem jo_244_0 : jb_op 244 0 = some (.aload_n 0, 99, 0, 0) := by decide +kernel
theorem jo_244_1 : jb_op 244 1 = some (.getfield 46, 0, 10, 6) := by decide +kernel
theorem jo_244_4 : jb_op 244 4 = some (.invokevirtual 275, 2, 239, 0) := by decide +kernel
theorem jh_239_244 : jb_ht 239 < jb_ht 244 := by decide +kernel
theorem jw_239 : jb_ow 239 = 8 := by decide +kernel
theorem jo_244_7 : jb_op 244 7 = some (.istore_n 1, 99, 0, 0) := by decide +kernel
theorem jo_244_8 : jb_op 244 8 = some (.iload_n 1, 99, 0, 0) := by decide +kernel
theorem jo_244_9 : jb_op 244 9 = some (.iconst (-1), 99, 0, 0) := by decide +kernel
theorem jo_244_10 : jb_op 244 10 = some (.if_icmp .eq (21), 99, 0, 0) := by decide +kernel
theorem jo_244_31 : jb_op 244 31 = some (.aload_n 0, 99, 0, 0) := by decide +kernel
theorem jo_244_32 : jb_op 244 32 = some (.getfield 16, 0, 10, 1) := by decide +kernel
theorem jo_244_35 : jb_op 244 35 = some (.aload_n 0, 99, 0, 0) := by decide +kernel
theorem jo_244_36 : jb_op 244 36 = some (.getfield 10, 0, 10, 0) := by decide +kernel
theorem jo_244_39 : jb_op 244 39 = some (.invokevirtual 88, 2, 123, 1) := by decide +kernel
theorem jh_123_244 : jb_ht 123 < jb_ht 244 := by decide +kernel
theorem jo_244_13 : jb_op 244 13 = some (.aload_n 0, 99, 0, 0) := by decide +kernel
theorem jo_244_14 : jb_op 244 14 = some (.iload_n 1, 99, 0, 0) := by decide +kernel
theorem jo_244_15 : jb_op 244 15 = some (.putfield 84, 0, 10, 16) := by decide +kernel
theorem jty_10_16 : jb_Ty 10 16 = .int ∧ (jb_T 10 16).2.2.2 = false := by decide +kernel
theorem jo_244_18 : jb_op 244 18 = some (.aload_n 0, 99, 0, 0) := by decide +kernel
theorem jo_244_19 : jb_op 244 19 = some (.getfield 46, 0, 10, 6) := by decide +kernel
theorem jo_244_22 : jb_op 244 22 = some (.getfield 263, 1, 8, 0) := by decide +kernel
theorem jo_244_25 : jb_op 244 25 = some (.invokevirtual 233, 2, 13, 0) := by decide +kernel
theorem jh_13_244 : jb_ht 13 < jb_ht 244 := by decide +kernel
theorem jo_244_28 : jb_op 244 28 = some (.bipush (-2), 99, 0, 0) := by decide +kernel
theorem jo_244_30 : jb_op 244 30 = some (.ireturn, 99, 0, 0) := by decide +kernel
theorem jr_244 : jb_ret 244 = (some .int) := by decide +kernel
theorem jo_244_42 : jb_op 244 42 = some (.aload_n 0, 99, 0, 0) := by decide +kernel
theorem jo_244_43 : jb_op 244 43 = some (.invokevirtual 278, 2, 240, 0) := by decide +kernel
theorem jh_240_244 : jb_ht 240 < jb_ht 244 := by decide +kernel
theorem jw_240 : jb_ow 240 = 10 := by decide +kernel
theorem jo_244_46 : jb_op 244 46 = some (.istore_n 2, 99, 0, 0) := by decide +kernel
theorem jo_244_47 : jb_op 244 47 = some (.aload_n 0, 99, 0, 0) := by decide +kernel
theorem jo_244_48 : jb_op 244 48 = some (.getfield 46, 0, 10, 6) := by decide +kernel
theorem jo_244_51 : jb_op 244 51 = some (.getfield 263, 1, 8, 0) := by decide +kernel
theorem jo_244_54 : jb_op 244 54 = some (.invokevirtual 233, 2, 13, 0) := by decide +kernel
theorem jo_244_57 : jb_op 244 57 = some (.aload_n 0, 99, 0, 0) := by decide +kernel
theorem jo_244_58 : jb_op 244 58 = some (.iload_n 2, 99, 0, 0) := by decide +kernel
theorem jo_244_59 : jb_op 244 59 = some (.invokevirtual 102, 2, 200, 1) := by decide +kernel
theorem jh_200_244 : jb_ht 200 < jb_ht 244 := by decide +kernel
theorem jo_244_62 : jb_op 244 62 = some (.ireturn, 99, 0, 0) := by decide +kernel
theorem jl_244 : jb_ml 244 = 3 := by decide +kernel
theorem jo_245_0 : jb_op 245 0 = some (.aload_n 0, 99, 0, 0) := by decide +kernel
theorem jo_245_1 : jb_op 245 1 = some (.iload_n 1, 99, 0, 0) := by decide +kernel
theorem jo_245_2 : jb_op 245 2 = some (.invokevirtual 165, 2, 105, 1) := by decide +kernel
theorem jh_105_245 : jb_ht 105 < jb_ht 245 := by decide +kernel
theorem jo_245_5 : jb_op 245 5 = some (.ifCond .ne (5), 99, 0, 0) := by decide +kernel
theorem jo_245_8 : jb_op 245 8 = some (.iconst (-1), 99, 0, 0) := by decide +kernel
theorem jo_245_9 : jb_op 245 9 = some (.ireturn, 99, 0, 0) := by decide +kernel
theorem jr_245 : jb_ret 245 = (some .int) := by decide +kernel
theorem jo_245_10 : jb_op 245 10 = some (.iload_n 2, 99, 0, 0) := by decide +kernel
theorem jo_245_11 : jb_op 245 11 = some (.tableswitch (53) (0) (3) #[(29), (29), (41), (47)], 99, 0, 0) := by decide +kernel
theorem jo_245_40 : jb_op 245 40 = some (.aload_n 0, 99, 0, 0) := by decide +kernel
theorem jo_245_41 : jb_op 245 41 = some (.getfield 9, 0, 11, 0) := by decide +kernel
theorem jo_245_44 : jb_op 245 44 = some (.iload_n 1, 99, 0, 0) := by decide +kernel
theorem jo_245_45 : jb_op 245 45 = some (.invokestatic 156, 4, 37, 1) := by decide +kernel
theorem jh_37_245 : jb_ht 37 < jb_ht 245 := by decide +kernel
theorem jo_245_52 : jb_op 245 52 = some (.aload_n 0, 99, 0, 0) := by decide +kernel
theorem jo_245_53 : jb_op 245 53 = some (.iload_n 1, 99, 0, 0) := by decide +kernel
theorem jo_245_54 : jb_op 245 54 = some (.invokevirtual 227, 2, 157, 1) := by decide +kernel
theorem jh_157_245 : jb_ht 157 < jb_ht 245 := by decide +kernel
theorem jw_157 : jb_ow 157 = 11 := by decide +kernel
theorem jo_245_58 : jb_op 245 58 = some (.aload_n 0, 99, 0, 0) := by decide +kernel
theorem jo_245_59 : jb_op 245 59 = some (.iload_n 1, 99, 0, 0) := by decide +kernel
theorem jo_245_60 : jb_op 245 60 = some (.invokevirtual 230, 2, 242, 1) := by decide +kernel
theorem jh_242_245 : jb_ht 242 < jb_ht 245 := by decide +kernel
theorem jw_242 : jb_ow 242 = 11 := by decide +kernel
theorem jo_245_64 : jb_op 245 64 = some (.bipush (-2), 99, 0, 0) := by decide +kernel
theorem jo_245_66 : jb_op 245 66 = some (.ireturn, 99, 0, 0) := by decide +kernel
theorem jo_245_63 : jb_op 245 63 = some (.ireturn, 99, 0, 0) := by decide +kernel
theorem jo_245_57 : jb_op 245 57 = some (.ireturn, 99, 0, 0) := by decide +kernel
theorem jo_245_48 : jb_op 245 48 = some (.iload_n 2, 99, 0, 0) := by decide +kernel
theorem jo_245_49 : jb_op 245 49 = some (.iadd, 99, 0, 0) := by decide +kernel
theorem jo_245_50 : jb_op 245 50 = some (.iaload, 99, 0, 0) := by decide +kernel
theorem jo_245_51 : jb_op 245 51 = some (.ireturn, 99, 0, 0) := by decide +kernel
theorem jl_245 : jb_ml 245 = 3 := by decide +kernel
theorem jo_246_0 : jb_op 246 0 = some (.iconst (-1), 99, 0, 0) := by decide +kernel
theorem jo_246_1 : jb_op 246 1 = some (.istore_n 2, 99, 0, 0) := by decide +kernel
theorem jo_246_2 : jb_op 246 2 = some (.iconst 0, 99, 0, 0) := by decide +kernel
theorem jo_246_3 : jb_op 246 3 = some (.istore_n 3, 99, 0, 0) := by decide +kernel
theorem jo_246_4 : jb_op 246 4 = some (.iload_n 3, 99, 0, 0) := by decide +kernel
theorem jo_246_5 : jb_op 246 5 = some (.aload_n 0, 99, 0, 0) := by decide +kernel
theorem jo_246_6 : jb_op 246 6 = some (.getfield 9, 0, 11, 0) := by decide +kernel
theorem jo_246_9 : jb_op 246 9 = some (.iconst 1, 99, 0, 0) := by decide +kernel
theorem jo_246_10 : jb_op 246 10 = some (.iaload, 99, 0, 0) := by decide +kernel
theorem jo_246_11 : jb_op 246 11 = some (.if_icmp .ge (120), 99, 0, 0) := by decide +kernel
theorem jo_246_131 : jb_op 246 131 = some (.iload_n 2, 99, 0, 0) := by decide +kernel
theorem jo_246_132 : jb_op 246 132 = some (.ireturn, 99, 0, 0) := by decide +kernel
theorem jr_246 : jb_ret 246 = (some .int) := by decide +kernel
theorem jo_246_14 : jb_op 246 14 = some (.iconst 0, 99, 0, 0) := by decide +kernel
theorem jo_246_15 : jb_op 246 15 = some (.istore 4, 99, 0, 0) := by decide +kernel
theorem jo_246_17 : jb_op 246 17 = some (.iconst 0, 99, 0, 0) := by decide +kernel
theorem jo_246_18 : jb_op 246 18 = some (.istore 5, 99, 0, 0) := by decide +kernel
theorem jo_246_20 : jb_op 246 20 = some (.iload 5, 99, 0, 0) := by decide +kernel
theorem jo_246_22 : jb_op 246 22 = some (.aload_n 0, 99, 0, 0) := by decide +kernel
theorem jo_246_23 : jb_op 246 23 = some (.getfield 9, 0, 11, 0) := by decide +kernel
theorem jo_246_26 : jb_op 246 26 = some (.iconst 1, 99, 0, 0) := by decide +kernel
theorem jo_246_27 : jb_op 246 27 = some (.iaload, 99, 0, 0) := by decide +kernel
theorem jo_246_28 : jb_op 246 28 = some (.if_icmp .ge (85), 99, 0, 0) := by decide +kernel
theorem jo_246_113 : jb_op 246 113 = some (.iload 4, 99, 0, 0) := by decide +kernel
theorem jo_246_115 : jb_op 246 115 = some (.iload_n 1, 99, 0, 0) := by decide +kernel
theorem jo_246_116 : jb_op 246 116 = some (.if_icmp .ne (7), 99, 0, 0) := by decide +kernel
theorem jo_246_119 : jb_op 246 119 = some (.iload_n 3, 99, 0, 0) := by decide +kernel
theorem jo_246_120 : jb_op 246 120 = some (.goto 4, 99, 0, 0) := by decide +kernel
theorem jo_246_124 : jb_op 246 124 = some (.istore_n 2, 99, 0, 0) := by decide +kernel
theorem jo_246_125 : jb_op 246 125 = some (.iinc 3 1, 99, 0, 0) := by decide +kernel
theorem jo_246_128 : jb_op 246 128 = some (.goto (-124), 99, 0, 0) := by decide +kernel
theorem jo_246_123 : jb_op 246 123 = some (.iload_n 2, 99, 0, 0) := by decide +kernel
theorem jo_246_31 : jb_op 246 31 = some (.aload_n 0, 99, 0, 0) := by decide +kernel
theorem jo_246_32 : jb_op 246 32 = some (.iload 5, 99, 0, 0) := by decide +kernel
theorem jo_246_34 : jb_op 246 34 = some (.invokevirtual 230, 2, 242, 1) := by decide +kernel
theorem jh_242_246 : jb_ht 242 < jb_ht 246 := by decide +kernel
theorem jo_246_37 : jb_op 246 37 = some (.aload_n 0, 99, 0, 0) := by decide +kernel
theorem jo_246_38 : jb_op 246 38 = some (.iload_n 3, 99, 0, 0) := by decide +kernel
theorem jo_246_39 : jb_op 246 39 = some (.invokevirtual 230, 2, 242, 1) := by decide +kernel
theorem jo_246_42 : jb_op 246 42 = some (.isub, 99, 0, 0) := by decide +kernel
theorem jo_246_43 : jb_op 246 43 = some (.istore 6, 99, 0, 0) := by decide +kernel
theorem jo_246_45 : jb_op 246 45 = some (.aload_n 0, 99, 0, 0) := by decide +kernel
theorem jo_246_46 : jb_op 246 46 = some (.getfield 9, 0, 11, 0) := by decide +kernel
theorem jo_246_49 : jb_op 246 49 = some (.iload_n 3, 99, 0, 0) := by decide +kernel
theorem jo_246_50 : jb_op 246 50 = some (.invokestatic 156, 4, 37, 1) := by decide +kernel
theorem jh_37_246 : jb_ht 37 < jb_ht 246 := by decide +kernel
theorem jo_246_53 : jb_op 246 53 = some (.iconst 1, 99, 0, 0) := by decide +kernel
theorem jo_246_54 : jb_op 246 54 = some (.iadd, 99, 0, 0) := by decide +kernel
theorem jo_246_55 : jb_op 246 55 = some (.iaload, 99, 0, 0) := by decide +kernel
theorem jo_246_56 : jb_op 246 56 = some (.aload_n 0, 99, 0, 0) := by decide +kernel
theorem jo_246_57 : jb_op 246 57 = some (.getfield 9, 0, 11, 0) := by decide +kernel
theorem jo_246_60 : jb_op 246 60 = some (.iload 5, 99, 0, 0) := by decide +kernel
theorem jo_246_62 : jb_op 246 62 = some (.invokestatic 156, 4, 37, 1) := by decide +kernel
theorem jo_246_65 : jb_op 246 65 = some (.iconst 1, 99, 0, 0) := by decide +kernel
theorem jo_246_66 : jb_op 246 66 = some (.iadd, 99, 0, 0) := by decide +kernel
theorem jo_246_67 : jb_op 246 67 = some (.iaload, 99, 0, 0) := by decide +kernel
theorem jo_246_68 : jb_op 246 68 = some (.isub, 99, 0, 0) := by decide +kernel
theorem jo_246_69 : jb_op 246 69 = some (.istore 7, 99, 0, 0) := by decide +kernel
theorem jo_246_71 : jb_op 246 71 = some (.iload 4, 99, 0, 0) := by decide +kernel
theorem jo_246_73 : jb_op 246 73 = some (.iload 6, 99, 0, 0) := by decide +kernel
theorem jo_246_75 : jb_op 246 75 = some (.ifCond .gt (24), 99, 0, 0) := by decide +kernel
theorem jo_246_99 : jb_op 246 99 = some (.iconst 1, 99, 0, 0) := by decide +kernel
theorem jo_246_100 : jb_op 246 100 = some (.goto 4, 99, 0, 0) := by decide +kernel
theorem jo_246_104 : jb_op 246 104 = some (.iadd, 99, 0, 0) := by decide +kernel
theorem jo_246_105 : jb_op 246 105 = some (.istore 4, 99, 0, 0) := by decide +kernel
theorem jo_246_107 : jb_op 246 107 = some (.iinc 5 1, 99, 0, 0) := by decide +kernel
theorem jo_246_110 : jb_op 246 110 = some (.goto (-90), 99, 0, 0) := by decide +kernel
theorem jo_246_78 : jb_op 246 78 = some (.iload 6, 99, 0, 0) := by decide +kernel
theorem jo_246_80 : jb_op 246 80 = some (.ifCond .ne (23), 99, 0, 0) := by decide +kernel
theorem jo_246_83 : jb_op 246 83 = some (.iload 7, 99, 0, 0) := by decide +kernel
theorem jo_246_85 : jb_op 246 85 = some (.ifCond .gt (14), 99, 0, 0) := by decide +kernel
theorem jo_246_88 : jb_op 246 88 = some (.iload 7, 99, 0, 0) := by decide +kernel
theorem jo_246_90 : jb_op 246 90 = some (.ifCond .ne (13), 99, 0, 0) := by decide +kernel
theorem jo_246_93 : jb_op 246 93 = some (.iload 5, 99, 0, 0) := by decide +kernel
theorem jo_246_95 : jb_op 246 95 = some (.iload_n 3, 99, 0, 0) := by decide +kernel
theorem jo_246_96 : jb_op 246 96 = some (.if_icmp .ge (7), 99, 0, 0) := by decide +kernel
theorem jo_246_103 : jb_op 246 103 = some (.iconst 0, 99, 0, 0) := by decide +kernel
theorem jl_246 : jb_ml 246 = 8 := by decide +kernel
theorem jo_247_0 : jb_op 247 0 = some (.aload_n 0, 99, 0, 0) := by decide +kernel
theorem jo_247_1 : jb_op 247 1 = some (.invokevirtual 316, 2, 243, 0) := by decide +kernel
theorem jh_243_247 : jb_ht 243 < jb_ht 247 := by decide +kernel
theorem jw_243 : jb_ow 243 = 11 := by decide +kernel
theorem jo_247_4 : jb_op 247 4 = some (.aload_n 0, 99, 0, 0) := by decide +kernel
theorem jo_247_5 : jb_op 247 5 = some (.getfield 262, 0, 11, 28) := by decide +kernel
theorem jo_247_8 : jb_op 247 8 = some (.iconst (-1), 99, 0, 0) := by decide +kernel
theorem jo_247_9 : jb_op 247 9 = some (.if_icmp .eq (14), 99, 0, 0) := by decide +kernel
theorem jo_247_23 : jb_op 247 23 = some (.aload_n 0, 99, 0, 0) := by decide +kernel
theorem jo_247_24 : jb_op 247 24 = some (.invokevirtual 104, 2, 93, 0) := by decide +kernel
theorem jh_93_247 : jb_ht 93 < jb_ht 247 := by decide +kernel
theorem jo_247_12 : jb_op 247 12 = some (.aload_n 0, 99, 0, 0) := by decide +kernel
theorem jo_247_13 : jb_op 247 13 = some (.aload_n 0, 99, 0, 0) := by decide +kernel
theorem jo_247_14 : jb_op 247 14 = some (.getfield 262, 0, 11, 28) := by decide +kernel
theorem jo_247_17 : jb_op 247 17 = some (.putfield 22, 0, 11, 10) := by decide +kernel
theorem jty_11_10 : jb_Ty 11 10 = .int ∧ (jb_T 11 10).2.2.2 = false := by decide +kernel
theorem jo_247_20 : jb_op 247 20 = some (.bipush (-2), 99, 0, 0) := by decide +kernel
theorem jo_247_22 : jb_op 247 22 = some (.ireturn, 99, 0, 0) := by decide +kernel
theorem jr_247 : jb_ret 247 = (some .int) := by decide +kernel
theorem jo_247_27 : jb_op 247 27 = some (.iconst 0, 99, 0, 0) := by decide +kernel
theorem jo_247_28 : jb_op 247 28 = some (.istore_n 1, 99, 0, 0) := by decide +kernel
theorem jo_247_29 : jb_op 247 29 = some (.iload_n 1, 99, 0, 0) := by decide +kernel
theorem jo_247_30 : jb_op 247 30 = some (.aload_n 0, 99, 0, 0) := by decide +kernel
theorem jo_247_31 : jb_op 247 31 = some (.getfield 300, 0, 11, 29) := by decide +kernel
theorem jo_247_34 : jb_op 247 34 = some (.if_icmp .ge (68), 99, 0, 0) := by decide +kernel
theorem jo_247_102 : jb_op 247 102 = some (.aload_n 0, 99, 0, 0) := by decide +kernel
theorem jo_247_103 : jb_op 247 103 = some (.aload_n 0, 99, 0, 0) := by decide +kernel
theorem jo_247_104 : jb_op 247 104 = some (.getfield 300, 0, 11, 29) := by decide +kernel
theorem jo_247_107 : jb_op 247 107 = some (.invokevirtual 115, 2, 149, 1) := by decide +kernel
theorem jh_149_247 : jb_ht 149 < jb_ht 247 := by decide +kernel
theorem jo_247_37 : jb_op 247 37 = some (.aload_n 0, 99, 0, 0) := by decide +kernel
theorem jo_247_38 : jb_op 247 38 = some (.iconst 4, 99, 0, 0) := by decide +kernel
theorem jo_247_39 : jb_op 247 39 = some (.iload_n 1, 99, 0, 0) := by decide +kernel
theorem jo_247_40 : jb_op 247 40 = some (.imul, 99, 0, 0) := by decide +kernel
theorem jo_247_41 : jb_op 247 41 = some (.invokevirtual 319, 2, 166, 1) := by decide +kernel
theorem jh_166_247 : jb_ht 166 < jb_ht 247 := by decide +kernel
theorem jw_166 : jb_ow 166 = 11 := by decide +kernel
theorem jo_247_44 : jb_op 247 44 = some (.istore_n 2, 99, 0, 0) := by decide +kernel
theorem jo_247_45 : jb_op 247 45 = some (.iload_n 2, 99, 0, 0) := by decide +kernel
theorem jo_247_46 : jb_op 247 46 = some (.ifCond .eq (13), 99, 0, 0) := by decide +kernel
theorem jo_247_59 : jb_op 247 59 = some (.iconst 0, 99, 0, 0) := by decide +kernel
theorem jo_247_60 : jb_op 247 60 = some (.istore_n 3, 99, 0, 0) := by decide +kernel
theorem jo_247_61 : jb_op 247 61 = some (.iload_n 2, 99, 0, 0) := by decide +kernel
theorem jo_247_62 : jb_op 247 62 = some (.ifCond .eq (10), 99, 0, 0) := by decide +kernel
theorem jo_247_72 : jb_op 247 72 = some (.aload_n 0, 99, 0, 0) := by decide +kernel
theorem jo_247_73 : jb_op 247 73 = some (.bipush 7, 99, 0, 0) := by decide +kernel
theorem jo_247_75 : jb_op 247 75 = some (.iload_n 1, 99, 0, 0) := by decide +kernel
theorem jo_247_76 : jb_op 247 76 = some (.iload_n 2, 99, 0, 0) := by decide +kernel
theorem jo_247_77 : jb_op 247 77 = some (.ifCond .eq (10), 99, 0, 0) := by decide +kernel
theorem jo_247_87 : jb_op 247 87 = some (.iconst 0, 99, 0, 0) := by decide +kernel
theorem jo_247_88 : jb_op 247 88 = some (.aload_n 0, 99, 0, 0) := by decide +kernel
theorem jo_247_89 : jb_op 247 89 = some (.getfield 56, 0, 11, 18) := by decide +kernel
theorem jo_247_92 : jb_op 247 92 = some (.invokevirtual 78, 2, 95, 4) := by decide +kernel
theorem jh_95_247 : jb_ht 95 < jb_ht 247 := by decide +kernel
theorem jo_247_49 : jb_op 247 49 = some (.aload_n 0, 99, 0, 0) := by decide +kernel
theorem jo_247_50 : jb_op 247 50 = some (.iconst 4, 99, 0, 0) := by decide +kernel
theorem jo_247_51 : jb_op 247 51 = some (.iload_n 1, 99, 0, 0) := by decide +kernel
theorem jo_247_52 : jb_op 247 52 = some (.imul, 99, 0, 0) := by decide +kernel
theorem jo_247_53 : jb_op 247 53 = some (.invokevirtual 322, 2, 213, 1) := by decide +kernel
theorem jh_213_247 : jb_ht 213 < jb_ht 247 := by decide +kernel
theorem jw_213 : jb_ow 213 = 11 := by decide +kernel
theorem jo_247_56 : jb_op 247 56 = some (.goto 4, 99, 0, 0) := by decide +kernel
theorem jo_247_65 : jb_op 247 65 = some (.aload_n 0, 99, 0, 0) := by decide +kernel
theorem jo_247_66 : jb_op 247 66 = some (.getfield 53, 0, 11, 17) := by decide +kernel
theorem jo_247_69 : jb_op 247 69 = some (.ifCond .eq (27), 99, 0, 0) := by decide +kernel
theorem jo_247_96 : jb_op 247 96 = some (.iinc 1 1, 99, 0, 0) := by decide +kernel
theorem jo_247_99 : jb_op 247 99 = some (.goto (-70), 99, 0, 0) := by decide +kernel
theorem jo_247_80 : jb_op 247 80 = some (.aload_n 0, 99, 0, 0) := by decide +kernel
theorem jo_247_81 : jb_op 247 81 = some (.getfield 53, 0, 11, 17) := by decide +kernel
theorem jo_247_84 : jb_op 247 84 = some (.goto 4, 99, 0, 0) := by decide +kernel
theorem jo_247_110 : jb_op 247 110 = some (.ireturn, 99, 0, 0) := by decide +kernel
theorem jo_247_95 : jb_op 247 95 = some (.ireturn, 99, 0, 0) := by decide +kernel
theorem jl_247 : jb_ml 247 = 4 := by decide +kernel
