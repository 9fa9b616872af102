/-! ===== what stands where: by the kernel ===== -/
theorem jo_151_55 : jb_op 151 55 = some (.iconst 3, 99, 0, 0) := by decide +kernel
theorem jo_151_56 : jb_op 151 56 = some (.if_icmp .ge (147), 99, 0, 0) := by decide +kernel
theorem jo_151_203 : jb_op 151 203 = some (.iinc 1 (-1), 99, 0, 0) := by decide +kernel
theorem jo_151_206 : jb_op 151 206 = some (.goto (-158), 99, 0, 0) := by decide +kernel
theorem jo_151_59 : jb_op 151 59 = some (.iconst 0, 99, 0, 0) := by decide +kernel
theorem jo_151_60 : jb_op 151 60 = some (.istore_n 3, 99, 0, 0) := by decide +kernel
theorem jo_151_61 : jb_op 151 61 = some (.iconst 0, 99, 0, 0) := by decide +kernel
theorem jo_151_62 : jb_op 151 62 = some (.istore 4, 99, 0, 0) := by decide +kernel
theorem jo_151_64 : jb_op 151 64 = some (.iload 4, 99, 0, 0) := by decide +kernel
theorem jo_151_66 : jb_op 151 66 = some (.aload_n 0, 99, 0, 0) := by decide +kernel
theorem jo_151_67 : jb_op 151 67 = some (.getfield 9, 0, 11, 0) := by decide +kernel
theorem jo_151_70 : jb_op 151 70 = some (.iconst 0, 99, 0, 0) := by decide +kernel
theorem jo_151_71 : jb_op 151 71 = some (.iaload, 99, 0, 0) := by decide +kernel
theorem jo_151_72 : jb_op 151 72 = some (.if_icmp .ge (76), 99, 0, 0) := by decide +kernel
theorem jo_151_148 : jb_op 151 148 = some (.aload_n 0, 99, 0, 0) := by decide +kernel
theorem jo_151_149 : jb_op 151 149 = some (.getfield 38, 0, 11, 21) := by decide +kernel
theorem jo_151_152 : jb_op 151 152 = some (.iconst 3, 99, 0, 0) := by decide +kernel
theorem jo_151_153 : jb_op 151 153 = some (.iload_n 1, 99, 0, 0) := by decide +kernel
theorem jo_151_154 : jb_op 151 154 = some (.imul, 99, 0, 0) := by decide +kernel
theorem jo_151_155 : jb_op 151 155 = some (.iload_n 2, 99, 0, 0) := by decide +kernel
theorem jo_151_156 : jb_op 151 156 = some (.iadd, 99, 0, 0) := by decide +kernel
theorem jo_151_157 : jb_op 151 157 = some (.iload_n 3, 99, 0, 0) := by decide +kernel
theorem jo_151_158 : jb_op 151 158 = some (.iastore, 99, 0, 0) := by decide +kernel
theorem jo_151_159 : jb_op 151 159 = some (.aload_n 0, 99, 0, 0) := by decide +kernel
theorem jo_151_160 : jb_op 151 160 = some (.getfield 41, 0, 11, 22) := by decide +kernel
theorem jo_151_163 : jb_op 151 163 = some (.iconst 3, 99, 0, 0) := by decide +kernel
theorem jo_151_164 : jb_op 151 164 = some (.iload_n 1, 99, 0, 0) := by decide +kernel
theorem jo_151_165 : jb_op 151 165 = some (.imul, 99, 0, 0) := by decide +kernel
theorem jo_151_166 : jb_op 151 166 = some (.iload_n 2, 99, 0, 0) := by decide +kernel
theorem jo_151_167 : jb_op 151 167 = some (.iadd, 99, 0, 0) := by decide +kernel
theorem jo_151_168 : jb_op 151 168 = some (.iload_n 3, 99, 0, 0) := by decide +kernel
theorem jo_151_169 : jb_op 151 169 = some (.aload_n 0, 99, 0, 0) := by decide +kernel
theorem jo_151_170 : jb_op 151 170 = some (.getfield 35, 0, 11, 19) := by decide +kernel
theorem jo_151_173 : jb_op 151 173 = some (.iload_n 1, 99, 0, 0) := by decide +kernel
theorem jo_151_174 : jb_op 151 174 = some (.iaload, 99, 0, 0) := by decide +kernel
theorem jo_151_175 : jb_op 151 175 = some (.iconst 5, 99, 0, 0) := by decide +kernel
theorem jo_151_176 : jb_op 151 176 = some (.if_icmp .ne (18), 99, 0, 0) := by decide +kernel
theorem jo_151_179 : jb_op 151 179 = some (.aload_n 0, 99, 0, 0) := by decide +kernel
theorem jo_151_180 : jb_op 151 180 = some (.getfield 41, 0, 11, 22) := by decide +kernel
theorem jo_151_183 : jb_op 151 183 = some (.iconst 3, 99, 0, 0) := by decide +kernel
theorem jo_151_184 : jb_op 151 184 = some (.iload_n 1, 99, 0, 0) := by decide +kernel
theorem jo_151_185 : jb_op 151 185 = some (.imul, 99, 0, 0) := by decide +kernel
theorem jo_151_186 : jb_op 151 186 = some (.iconst 3, 99, 0, 0) := by decide +kernel
theorem jo_151_187 : jb_op 151 187 = some (.iadd, 99, 0, 0) := by decide +kernel
theorem jo_151_188 : jb_op 151 188 = some (.iload_n 2, 99, 0, 0) := by decide +kernel
theorem jo_151_189 : jb_op 151 189 = some (.iadd, 99, 0, 0) := by decide +kernel
theorem jo_151_190 : jb_op 151 190 = some (.iaload, 99, 0, 0) := by decide +kernel
theorem jo_151_191 : jb_op 151 191 = some (.goto 4, 99, 0, 0) := by decide +kernel
theorem jo_151_195 : jb_op 151 195 = some (.iadd, 99, 0, 0) := by decide +kernel
theorem jo_151_196 : jb_op 151 196 = some (.iastore, 99, 0, 0) := by decide +kernel
theorem jo_151_197 : jb_op 151 197 = some (.iinc 2 1, 99, 0, 0) := by decide +kernel
theorem jo_151_200 : jb_op 151 200 = some (.goto (-146), 99, 0, 0) := by decide +kernel
theorem jo_151_194 : jb_op 151 194 = some (.iconst 0, 99, 0, 0) := by decide +kernel
theorem jo_151_75 : jb_op 151 75 = some (.aload_n 0, 99, 0, 0) := by decide +kernel
theorem jo_151_76 : jb_op 151 76 = some (.getfield 9, 0, 11, 0) := by decide +kernel
theorem jo_151_79 : jb_op 151 79 = some (.iload 4, 99, 0, 0) := by decide +kernel
theorem jo_151_81 : jb_op 151 81 = some (.invokestatic 130, 4, 36, 1) := by decide +kernel
theorem jh_36_151 : jb_ht 36 < jb_ht 151 := by decide +kernel
theorem jo_151_84 : jb_op 151 84 = some (.iconst 0, 99, 0, 0) := by decide +kernel
theorem jo_151_85 : jb_op 151 85 = some (.iadd, 99, 0, 0) := by decide +kernel
theorem jo_151_86 : jb_op 151 86 = some (.iaload, 99, 0, 0) := by decide +kernel
theorem jo_151_87 : jb_op 151 87 = some (.iload_n 2, 99, 0, 0) := by decide +kernel
theorem jo_151_88 : jb_op 151 88 = some (.if_icmp .ne (17), 99, 0, 0) := by decide +kernel
theorem jo_151_91 : jb_op 151 91 = some (.aload_n 0, 99, 0, 0) := by decide +kernel
theorem jo_151_92 : jb_op 151 92 = some (.iload 4, 99, 0, 0) := by decide +kernel
theorem jo_151_94 : jb_op 151 94 = some (.iload_n 1, 99, 0, 0) := by decide +kernel
theorem jo_151_95 : jb_op 151 95 = some (.invokevirtual 133, 2, 100, 2) := by decide +kernel
theorem jh_100_151 : jb_ht 100 < jb_ht 151 := by decide +kernel
theorem jo_151_105 : jb_op 151 105 = some (.iconst 0, 99, 0, 0) := by decide +kernel
theorem jo_151_106 : jb_op 151 106 = some (.istore 5, 99, 0, 0) := by decide +kernel
theorem jo_151_108 : jb_op 151 108 = some (.iload_n 3, 99, 0, 0) := by decide +kernel
theorem jo_151_109 : jb_op 151 109 = some (.iload 5, 99, 0, 0) := by decide +kernel
theorem jo_151_111 : jb_op 151 111 = some (.ifCond .eq (28), 99, 0, 0) := by decide +kernel
theorem jo_151_139 : jb_op 151 139 = some (.iconst 0, 99, 0, 0) := by decide +kernel
theorem jo_151_140 : jb_op 151 140 = some (.iadd, 99, 0, 0) := by decide +kernel
theorem jo_151_141 : jb_op 151 141 = some (.istore_n 3, 99, 0, 0) := by decide +kernel
theorem jo_151_142 : jb_op 151 142 = some (.iinc 4 1, 99, 0, 0) := by decide +kernel
theorem jo_151_145 : jb_op 151 145 = some (.goto (-81), 99, 0, 0) := by decide +kernel
theorem jo_151_98 : jb_op 151 98 = some (.ifCond .eq (7), 99, 0, 0) := by decide +kernel
theorem jo_151_101 : jb_op 151 101 = some (.iconst 1, 99, 0, 0) := by decide +kernel
theorem jo_151_102 : jb_op 151 102 = some (.goto 4, 99, 0, 0) := by decide +kernel
theorem jo_151_114 : jb_op 151 114 = some (.aload_n 0, 99, 0, 0) := by decide +kernel
theorem jo_151_115 : jb_op 151 115 = some (.iload_n 1, 99, 0, 0) := by decide +kernel
theorem jo_151_116 : jb_op 151 116 = some (.aload_n 0, 99, 0, 0) := by decide +kernel
theorem jo_151_117 : jb_op 151 117 = some (.getfield 9, 0, 11, 0) := by decide +kernel
theorem jo_151_120 : jb_op 151 120 = some (.iload 4, 99, 0, 0) := by decide +kernel
theorem jo_151_122 : jb_op 151 122 = some (.invokestatic 130, 4, 36, 1) := by decide +kernel
theorem jo_151_125 : jb_op 151 125 = some (.iconst 1, 99, 0, 0) := by decide +kernel
theorem jo_151_126 : jb_op 151 126 = some (.iadd, 99, 0, 0) := by decide +kernel
theorem jo_151_127 : jb_op 151 127 = some (.iaload, 99, 0, 0) := by decide +kernel
theorem jo_151_128 : jb_op 151 128 = some (.iadd, 99, 0, 0) := by decide +kernel
theorem jo_151_129 : jb_op 151 129 = some (.iload_n 2, 99, 0, 0) := by decide +kernel
theorem jo_151_130 : jb_op 151 130 = some (.invokestatic 182, 4, 40, 1) := by decide +kernel
theorem jh_40_151 : jb_ht 40 < jb_ht 151 := by decide +kernel
theorem jo_151_133 : jb_op 151 133 = some (.invokevirtual 185, 2, 41, 2) := by decide +kernel
theorem jh_41_151 : jb_ht 41 < jb_ht 151 := by decide +kernel
theorem jw_41 : jb_ow 41 = 11 := by decide +kernel
theorem jo_151_136 : jb_op 151 136 = some (.goto 4, 99, 0, 0) := by decide +kernel
theorem jl_151 : jb_ml 151 = 6 := by decide +kernel
theorem jo_152_0 : jb_op 152 0 = some (.aload_n 0, 99, 0, 0) := by decide +kernel
theorem jo_152_1 : jb_op 152 1 = some (.iload_n 1, 99, 0, 0) := by decide +kernel
theorem jo_152_2 : jb_op 152 2 = some (.invokevirtual 194, 2, 108, 1) := by decide +kernel
theorem jh_108_152 : jb_ht 108 < jb_ht 152 := by decide +kernel
theorem jw_108 : jb_ow 108 = 11 := by decide +kernel
theorem jo_152_5 : jb_op 152 5 = some (.ifCond .eq (28), 99, 0, 0) := by decide +kernel
theorem jo_152_33 : jb_op 152 33 = some (.iconst 0, 99, 0, 0) := by decide +kernel
theorem jo_152_34 : jb_op 152 34 = some (.istore_n 3, 99, 0, 0) := by decide +kernel
theorem jo_152_35 : jb_op 152 35 = some (.iload_n 3, 99, 0, 0) := by decide +kernel
theorem jo_152_36 : jb_op 152 36 = some (.ifCond .eq (19), 99, 0, 0) := by decide +kernel
theorem jo_152_55 : jb_op 152 55 = some (.iconst (-1), 99, 0, 0) := by decide +kernel
theorem jo_152_56 : jb_op 152 56 = some (.ireturn, 99, 0, 0) := by decide +kernel
theorem jr_152 : jb_ret 152 = (some .int) := by decide +kernel
theorem jo_152_8 : jb_op 152 8 = some (.iload_n 2, 99, 0, 0) := by decide +kernel
theorem jo_152_9 : jb_op 152 9 = some (.iconst 0, 99, 0, 0) := by decide +kernel
theorem jo_152_10 : jb_op 152 10 = some (.aload_n 0, 99, 0, 0) := by decide +kernel
theorem jo_152_11 : jb_op 152 11 = some (.getfield 9, 0, 11, 0) := by decide +kernel
theorem jo_152_14 : jb_op 152 14 = some (.iload_n 1, 99, 0, 0) := by decide +kernel
theorem jo_152_15 : jb_op 152 15 = some (.invokestatic 127, 4, 39, 1) := by decide +kernel
theorem jh_39_152 : jb_ht 39 < jb_ht 152 := by decide +kernel
theorem jo_152_18 : jb_op 152 18 = some (.iconst 0, 99, 0, 0) := by decide +kernel
theorem jo_152_19 : jb_op 152 19 = some (.iadd, 99, 0, 0) := by decide +kernel
theorem jo_152_20 : jb_op 152 20 = some (.iaload, 99, 0, 0) := by decide +kernel
theorem jo_152_21 : jb_op 152 21 = some (.iconst 1, 99, 0, 0) := by decide +kernel
theorem jo_152_22 : jb_op 152 22 = some (.isub, 99, 0, 0) := by decide +kernel
theorem jo_152_23 : jb_op 152 23 = some (.invokestatic 85, 4, 31, 3) := by decide +kernel
theorem jh_31_152 : jb_ht 31 < jb_ht 152 := by decide +kernel
theorem jo_152_26 : jb_op 152 26 = some (.ifCond .eq (7), 99, 0, 0) := by decide +kernel
theorem jo_152_29 : jb_op 152 29 = some (.iconst 1, 99, 0, 0) := by decide +kernel
theorem jo_152_30 : jb_op 152 30 = some (.goto 4, 99, 0, 0) := by decide +kernel
theorem jo_152_39 : jb_op 152 39 = some (.aload_n 0, 99, 0, 0) := by decide +kernel
theorem jo_152_40 : jb_op 152 40 = some (.getfield 9, 0, 11, 0) := by decide +kernel
theorem jo_152_43 : jb_op 152 43 = some (.iload_n 1, 99, 0, 0) := by decide +kernel
theorem jo_152_44 : jb_op 152 44 = some (.invokestatic 127, 4, 39, 1) := by decide +kernel
theorem jo_152_47 : jb_op 152 47 = some (.iconst 1, 99, 0, 0) := by decide +kernel
theorem jo_152_48 : jb_op 152 48 = some (.iadd, 99, 0, 0) := by decide +kernel
theorem jo_152_49 : jb_op 152 49 = some (.iload_n 2, 99, 0, 0) := by decide +kernel
theorem jo_152_50 : jb_op 152 50 = some (.iadd, 99, 0, 0) := by decide +kernel
theorem jo_152_51 : jb_op 152 51 = some (.iaload, 99, 0, 0) := by decide +kernel
theorem jo_152_52 : jb_op 152 52 = some (.goto 4, 99, 0, 0) := by decide +kernel
theorem jl_152 : jb_ml 152 = 4 := by decide +kernel
theorem jo_153_0 : jb_op 153 0 = some (.aload_n 0, 99, 0, 0) := by decide +kernel
theorem jo_153_1 : jb_op 153 1 = some (.iload_n 1, 99, 0, 0) := by decide +kernel
theorem jo_153_2 : jb_op 153 2 = some (.invokevirtual 165, 2, 105, 1) := by decide +kernel
theorem jh_105_153 : jb_ht 105 < jb_ht 153 := by decide +kernel
theorem jw_105 : jb_ow 105 = 11 := by decide +kernel
theorem jo_153_5 : jb_op 153 5 = some (.ifCond .eq (36), 99, 0, 0) := by decide +kernel
theorem jo_153_41 : jb_op 153 41 = some (.iconst 0, 99, 0, 0) := by decide +kernel
theorem jo_153_42 : jb_op 153 42 = some (.istore 4, 99, 0, 0) := by decide +kernel
theorem jo_153_44 : jb_op 153 44 = some (.iload 4, 99, 0, 0) := by decide +kernel
theorem jo_153_46 : jb_op 153 46 = some (.ifCond .ne (5), 99, 0, 0) := by decide +kernel
theorem jo_153_49 : jb_op 153 49 = some (.iconst (-1), 99, 0, 0) := by decide +kernel
theorem jo_153_50 : jb_op 153 50 = some (.ireturn, 99, 0, 0) := by decide +kernel
theorem jr_153 : jb_ret 153 = (some .int) := by decide +kernel
theorem jo_153_8 : jb_op 153 8 = some (.aload_n 0, 99, 0, 0) := by decide +kernel
theorem jo_153_9 : jb_op 153 9 = some (.iload_n 2, 99, 0, 0) := by decide +kernel
theorem jo_153_10 : jb_op 153 10 = some (.invokevirtual 194, 2, 108, 1) := by decide +kernel
theorem jh_108_153 : jb_ht 108 < jb_ht 153 := by decide +kernel
theorem jo_153_13 : jb_op 153 13 = some (.ifCond .eq (28), 99, 0, 0) := by decide +kernel
theorem jo_153_16 : jb_op 153 16 = some (.iload_n 3, 99, 0, 0) := by decide +kernel
theorem jo_153_17 : jb_op 153 17 = some (.iconst 0, 99, 0, 0) := by decide +kernel
theorem jo_153_18 : jb_op 153 18 = some (.aload_n 0, 99, 0, 0) := by decide +kernel
theorem jo_153_19 : jb_op 153 19 = some (.getfield 9, 0, 11, 0) := by decide +kernel
theorem jo_153_22 : jb_op 153 22 = some (.iload_n 2, 99, 0, 0) := by decide +kernel
theorem jo_153_23 : jb_op 153 23 = some (.invokestatic 127, 4, 39, 1) := by decide +kernel
theorem jh_39_153 : jb_ht 39 < jb_ht 153 := by decide +kernel
theorem jo_153_26 : jb_op 153 26 = some (.iconst 0, 99, 0, 0) := by decide +kernel
theorem jo_153_27 : jb_op 153 27 = some (.iadd, 99, 0, 0) := by decide +kernel
theorem jo_153_28 : jb_op 153 28 = some (.iaload, 99, 0, 0) := by decide +kernel
theorem jo_153_29 : jb_op 153 29 = some (.iconst 1, 99, 0, 0) := by decide +kernel
theorem jo_153_30 : jb_op 153 30 = some (.isub, 99, 0, 0) := by decide +kernel
theorem jo_153_31 : jb_op 153 31 = some (.invokestatic 85, 4, 31, 3) := by decide +kernel
theorem jh_31_153 : jb_ht 31 < jb_ht 153 := by decide +kernel
theorem jo_153_34 : jb_op 153 34 = some (.ifCond .eq (7), 99, 0, 0) := by decide +kernel
theorem jo_153_37 : jb_op 153 37 = some (.iconst 1, 99, 0, 0) := by decide +kernel
theorem jo_153_38 : jb_op 153 38 = some (.goto 4, 99, 0, 0) := by decide +kernel
theorem jo_153_51 : jb_op 153 51 = some (.aload_n 0, 99, 0, 0) := by decide +kernel
theorem jo_153_52 : jb_op 153 52 = some (.getfield 9, 0, 11, 0) := by decide +kernel
theorem jo_153_55 : jb_op 153 55 = some (.iload_n 2, 99, 0, 0) := by decide +kernel
theorem jo_153_56 : jb_op 153 56 = some (.invokestatic 127, 4, 39, 1) := by decide +kernel
theorem jo_153_59 : jb_op 153 59 = some (.iconst 1, 99, 0, 0) := by decide +kernel
theorem jo_153_60 : jb_op 153 60 = some (.iadd, 99, 0, 0) := by decide +kernel
theorem jo_153_61 : jb_op 153 61 = some (.iload_n 3, 99, 0, 0) := by decide +kernel
theorem jo_153_62 : jb_op 153 62 = some (.iadd, 99, 0, 0) := by decide +kernel
theorem jo_153_63 : jb_op 153 63 = some (.iaload, 99, 0, 0) := by decide +kernel
theorem jo_153_64 : jb_op 153 64 = some (.istore 5, 99, 0, 0) := by decide +kernel
theorem jo_153_66 : jb_op 153 66 = some (.iload_n 1, 99, 0, 0) := by decide +kernel
theorem jo_153_67 : jb_op 153 67 = some (.invokestatic 156, 4, 37, 1) := by decide +kernel
theorem jh_37_153 : jb_ht 37 < jb_ht 153 := by decide +kernel
theorem jo_153_70 : jb_op 153 70 = some (.istore 6, 99, 0, 0) := by decide +kernel
theorem jo_153_72 : jb_op 153 72 = some (.aload_n 0, 99, 0, 0) := by decide +kernel
theorem jo_153_73 : jb_op 153 73 = some (.aload_n 0, 99, 0, 0) := by decide +kernel
theorem jo_153_74 : jb_op 153 74 = some (.getfield 9, 0, 11, 0) := by decide +kernel
theorem jo_153_77 : jb_op 153 77 = some (.iload 6, 99, 0, 0) := by decide +kernel
theorem jo_153_79 : jb_op 153 79 = some (.iconst 0, 99, 0, 0) := by decide +kernel
theorem jo_153_80 : jb_op 153 80 = some (.iadd, 99, 0, 0) := by decide +kernel
theorem jo_153_81 : jb_op 153 81 = some (.iaload, 99, 0, 0) := by decide +kernel
theorem jo_153_82 : jb_op 153 82 = some (.aload_n 0, 99, 0, 0) := by decide +kernel
theorem jo_153_83 : jb_op 153 83 = some (.getfield 9, 0, 11, 0) := by decide +kernel
theorem jo_153_86 : jb_op 153 86 = some (.iload 6, 99, 0, 0) := by decide +kernel
theorem jo_153_88 : jb_op 153 88 = some (.iconst 1, 99, 0, 0) := by decide +kernel
theorem jo_153_89 : jb_op 153 89 = some (.iadd, 99, 0, 0) := by decide +kernel
theorem jo_153_90 : jb_op 153 90 = some (.iaload, 99, 0, 0) := by decide +kernel
theorem jo_153_91 : jb_op 153 91 = some (.iload 5, 99, 0, 0) := by decide +kernel
theorem jo_153_93 : jb_op 153 93 = some (.invokevirtual 208, 2, 110, 3) := by decide +kernel
theorem jh_110_153 : jb_ht 110 < jb_ht 153 := by decide +kernel
theorem jw_110 : jb_ow 110 = 11 := by decide +kernel
theorem jo_153_96 : jb_op 153 96 = some (.ifCond .eq (8), 99, 0, 0) := by decide +kernel
theorem jo_153_104 : jb_op 153 104 = some (.iconst 5, 99, 0, 0) := by decide +kernel
theorem jo_153_105 : jb_op 153 105 = some (.ireturn, 99, 0, 0) := by decide +kernel
theorem jo_153_99 : jb_op 153 99 = some (.iload 5, 99, 0, 0) := by decide +kernel
theorem jo_153_101 : jb_op 153 101 = some (.goto 4, 99, 0, 0) := by decide +kernel
theorem jl_153 : jb_ml 153 = 7 := by decide +kernel
theorem jo_154_0 : jb_op 154 0 = some (.iconst 0, 99, 0, 0) := by decide +kernel
theorem jo_154_1 : jb_op 154 1 = some (.istore_n 2, 99, 0, 0) := by decide +kernel
theorem jo_154_2 : jb_op 154 2 = some (.iconst 0, 99, 0, 0) := by decide +kernel
theorem jo_154_3 : jb_op 154 3 = some (.istore_n 3, 99, 0, 0) := by decide +kernel
theorem jo_154_4 : jb_op 154 4 = some (.iload_n 3, 99, 0, 0) := by decide +kernel
theorem jo_154_5 : jb_op 154 5 = some (.aload_n 0, 99, 0, 0) := by decide +kernel
theorem jo_154_6 : jb_op 154 6 = some (.getfield 9, 0, 11, 0) := by decide +kernel
theorem jo_154_9 : jb_op 154 9 = some (.iconst 1, 99, 0, 0) := by decide +kernel
theorem jo_154_10 : jb_op 154 10 = some (.iaload, 99, 0, 0) := by decide +kernel
theorem jo_154_11 : jb_op 154 11 = some (.if_icmp .ge (49), 99, 0, 0) := by decide +kernel
theorem jo_154_60 : jb_op 154 60 = some (.iload_n 2, 99, 0, 0) := by decide +kernel
theorem jo_154_61 : jb_op 154 61 = some (.ireturn, 99, 0, 0) := by decide +kernel
theorem jr_154 : jb_ret 154 = (some .int) := by decide +kernel
theorem jo_154_14 : jb_op 154 14 = some (.iload_n 3, 99, 0, 0) := by decide +kernel
theorem jo_154_15 : jb_op 154 15 = some (.invokestatic 156, 4, 37, 1) := by decide +kernel
theorem jh_37_154 : jb_ht 37 < jb_ht 154 := by decide +kernel
theorem jo_154_18 : jb_op 154 18 = some (.istore 4, 99, 0, 0) := by decide +kernel
theorem jo_154_20 : jb_op 154 20 = some (.iload_n 2, 99, 0, 0) := by decide +kernel
theorem jo_154_21 : jb_op 154 21 = some (.aload_n 0, 99, 0, 0) := by decide +kernel
theorem jo_154_22 : jb_op 154 22 = some (.aload_n 0, 99, 0, 0) := by decide +kernel
theorem jo_154_23 : jb_op 154 23 = some (.getfield 9, 0, 11, 0) := by decide +kernel
theorem jo_154_26 : jb_op 154 26 = some (.iload 4, 99, 0, 0) := by decide +kernel
theorem jo_154_28 : jb_op 154 28 = some (.iconst 0, 99, 0, 0) := by decide +kernel
theorem jo_154_29 : jb_op 154 29 = some (.iadd, 99, 0, 0) := by decide +kernel
theorem jo_154_30 : jb_op 154 30 = some (.iaload, 99, 0, 0) := by decide +kernel
theorem jo_154_31 : jb_op 154 31 = some (.aload_n 0, 99, 0, 0) := by decide +kernel
theorem jo_154_32 : jb_op 154 32 = some (.getfield 9, 0, 11, 0) := by decide +kernel
theorem jo_154_35 : jb_op 154 35 = some (.iload 4, 99, 0, 0) := by decide +kernel
theorem jo_154_37 : jb_op 154 37 = some (.iconst 1, 99, 0, 0) := by decide +kernel
theorem jo_154_38 : jb_op 154 38 = some (.iadd, 99, 0, 0) := by decide +kernel
theorem jo_154_39 : jb_op 154 39 = some (.iaload, 99, 0, 0) := by decide +kernel
theorem jo_154_40 : jb_op 154 40 = some (.iload_n 1, 99, 0, 0) := by decide +kernel
theorem jo_154_41 : jb_op 154 41 = some (.invokevirtual 208, 2, 110, 3) := by decide +kernel
theorem jh_110_154 : jb_ht 110 < jb_ht 154 := by decide +kernel
theorem jo_154_44 : jb_op 154 44 = some (.ifCond .eq (7), 99, 0, 0) := by decide +kernel
theorem jo_154_51 : jb_op 154 51 = some (.iconst 0, 99, 0, 0) := by decide +kernel
theorem jo_154_52 : jb_op 154 52 = some (.iadd, 99, 0, 0) := by decide +kernel
theorem jo_154_53 : jb_op 154 53 = some (.istore_n 2, 99, 0, 0) := by decide +kernel
theorem jo_154_54 : jb_op 154 54 = some (.iinc 3 1, 99, 0, 0) := by decide +kernel
theorem jo_154_57 : jb_op 154 57 = some (.goto (-53), 99, 0, 0) := by decide +kernel
theorem jo_154_47 : jb_op 154 47 = some (.iconst 1, 99, 0, 0) := by decide +kernel
theorem jo_154_48 : jb_op 154 48 = some (.goto 4, 99, 0, 0) := by decide +kernel
theorem jl_154 : jb_ml 154 = 5 := by decide +kernel
theorem jo_155_0 : jb_op 155 0 = some (.iconst 0, 99, 0, 0) := by decide +kernel
theorem jo_155_1 : jb_op 155 1 = some (.istore_n 2, 99, 0, 0) := by decide +kernel
theorem jo_155_2 : jb_op 155 2 = some (.iconst 0, 99, 0, 0) := by decide +kernel
theorem jo_155_3 : jb_op 155 3 = some (.istore_n 3, 99, 0, 0) := by decide +kernel
theorem jo_155_4 : jb_op 155 4 = some (.iload_n 3, 99, 0, 0) := by decide +kernel
theorem jo_155_5 : jb_op 155 5 = some (.aload_n 0, 99, 0, 0) := by decide +kernel
theorem jo_155_6 : jb_op 155 6 = some (.getfield 9, 0, 11, 0) := by decide +kernel
theorem jo_155_9 : jb_op 155 9 = some (.iconst 0, 99, 0, 0) := by decide +kernel
theorem jo_155_10 : jb_op 155 10 = some (.iaload, 99, 0, 0) := by decide +kernel
theorem jo_155_11 : jb_op 155 11 = some (.if_icmp .ge (26), 99, 0, 0) := by decide +kernel
theorem jo_155_37 : jb_op 155 37 = some (.iload_n 2, 99, 0, 0) := by decide +kernel
theorem jo_155_38 : jb_op 155 38 = some (.ireturn, 99, 0, 0) := by decide +kernel
theorem jr_155 : jb_ret 155 = (some .int) := by decide +kernel
theorem jo_155_14 : jb_op 155 14 = some (.iload_n 2, 99, 0, 0) := by decide +kernel
theorem jo_155_15 : jb_op 155 15 = some (.aload_n 0, 99, 0, 0) := by decide +kernel
theorem jo_155_16 : jb_op 155 16 = some (.iload_n 3, 99, 0, 0) := by decide +kernel
theorem jo_155_17 : jb_op 155 17 = some (.iload_n 1, 99, 0, 0) := by decide +kernel
theorem jo_155_18 : jb_op 155 18 = some (.invokevirtual 218, 2, 111, 2) := by decide +kernel
theorem jh_111_155 : jb_ht 111 < jb_ht 155 := by decide +kernel
theorem jw_111 : jb_ow 111 = 11 := by decide +kernel
theorem jo_155_21 : jb_op 155 21 = some (.ifCond .le (7), 99, 0, 0) := by decide +kernel
theorem jo_155_28 : jb_op 155 28 = some (.iconst 0, 99, 0, 0) := by decide +kernel
theorem jo_155_29 : jb_op 155 29 = some (.iadd, 99, 0, 0) := by decide +kernel
theorem jo_155_30 : jb_op 155 30 = some (.istore_n 2, 99, 0, 0) := by decide +kernel
theorem jo_155_31 : jb_op 155 31 = some (.iinc 3 1, 99, 0, 0) := by decide +kernel
theorem jo_155_34 : jb_op 155 34 = some (.goto (-30), 99, 0, 0) := by decide +kernel
theorem jo_155_24 : jb_op 155 24 = some (.iconst 1, 99, 0, 0) := by decide +kernel
theorem jo_155_25 : jb_op 155 25 = some (.goto 4, 99, 0, 0) := by decide +kernel
theorem jl_155 : jb_ml 155 = 4 := by decide +kernel
theorem jo_156_0 : jb_op 156 0 = some (.aload_n 0, 99, 0, 0) := by decide +kernel
theorem jo_156_1 : jb_op 156 1 = some (.iload_n 1, 99, 0, 0) := by decide +kernel
theorem jo_156_2 : jb_op 156 2 = some (.invokevirtual 150, 2, 101, 1) := by decide +kernel
theorem jh_101_156 : jb_ht 101 < jb_ht 156 := by decide +kernel
theorem jw_101 : jb_ow 101 = 11 := by decide +kernel
theorem jo_156_5 : jb_op 156 5 = some (.ifCond .ne (5), 99, 0, 0) := by decide +kernel
theorem jo_156_8 : jb_op 156 8 = some (.iconst (-1), 99, 0, 0) := by decide +kernel
theorem jo_156_9 : jb_op 156 9 = some (.ireturn, 99, 0, 0) := by decide +kernel
theorem jr_156 : jb_ret 156 = (some .int) := by decide +kernel
theorem jo_156_10 : jb_op 156 10 = some (.iload_n 2, 99, 0, 0) := by decide +kernel
theorem jo_156_11 : jb_op 156 11 = some (.iconst 2, 99, 0, 0) := by decide +kernel
theorem jo_156_12 : jb_op 156 12 = some (.if_icmp .ne (12), 99, 0, 0) := by decide +kernel
theorem jo_156_15 : jb_op 156 15 = some (.aload_n 0, 99, 0, 0) := by decide +kernel
theorem jo_156_16 : jb_op 156 16 = some (.iload_n 1, 99, 0, 0) := by decide +kernel
theorem jo_156_17 : jb_op 156 17 = some (.iconst 5, 99, 0, 0) := by decide +kernel
theorem jo_156_18 : jb_op 156 18 = some (.invokevirtual 218, 2, 111, 2) := by decide +kernel
theorem jh_111_156 : jb_ht 111 < jb_ht 156 := by decide +kernel
theorem jo_156_24 : jb_op 156 24 = some (.iload_n 2, 99, 0, 0) := by decide +kernel
theorem jo_156_25 : jb_op 156 25 = some (.iconst 0, 99, 0, 0) := by decide +kernel
theorem jo_156_26 : jb_op 156 26 = some (.iconst 1, 99, 0, 0) := by decide +kernel
theorem jo_156_27 : jb_op 156 27 = some (.invokestatic 85, 4, 31, 3) := by decide +kernel
theorem jh_31_156 : jb_ht 31 < jb_ht 156 := by decide +kernel
theorem jo_156_30 : jb_op 156 30 = some (.ifCond .eq (17), 99, 0, 0) := by decide +kernel
theorem jo_156_47 : jb_op 156 47 = some (.bipush (-2), 99, 0, 0) := by decide +kernel
theorem jo_156_49 : jb_op 156 49 = some (.ireturn, 99, 0, 0) := by decide +kernel
theorem jo_156_33 : jb_op 156 33 = some (.aload_n 0, 99, 0, 0) := by decide +kernel
theorem jo_156_34 : jb_op 156 34 = some (.getfield 9, 0, 11, 0) := by decide +kernel
theorem jo_156_37 : jb_op 156 37 = some (.iload_n 1, 99, 0, 0) := by decide +kernel
theorem jo_156_38 : jb_op 156 38 = some (.invokestatic 130, 4, 36, 1) := by decide +kernel
theorem jh_36_156 : jb_ht 36 < jb_ht 156 := by decide +kernel
theorem jo_156_41 : jb_op 156 41 = some (.iload_n 2, 99, 0, 0) := by decide +kernel
theorem jo_156_42 : jb_op 156 42 = some (.iadd, 99, 0, 0) := by decide +kernel
theorem jo_156_43 : jb_op 156 43 = some (.iaload, 99, 0, 0) := by decide +kernel
theorem jo_156_44 : jb_op 156 44 = some (.goto 5, 99, 0, 0) := by decide +kernel
theorem jo_156_21 : jb_op 156 21 = some (.goto 28, 99, 0, 0) := by decide +kernel
theorem jl_156 : jb_ml 156 = 3 := by decide +kernel
theorem jo_157_0 : jb_op 157 0 = some (.iconst 0, 99, 0, 0) := by decide +kernel
theorem jo_157_1 : jb_op 157 1 = some (.istore_n 2, 99, 0, 0) := by decide +kernel
theorem jo_157_2 : jb_op 157 2 = some (.iconst 0, 99, 0, 0) := by decide +kernel
theorem jo_157_3 : jb_op 157 3 = some (.istore_n 3, 99, 0, 0) := by decide +kernel
theorem jo_157_4 : jb_op 157 4 = some (.iload_n 3, 99, 0, 0) := by decide +kernel
theorem jo_157_5 : jb_op 157 5 = some (.iconst 5, 99, 0, 0) := by decide +kernel
theorem jo_157_6 : jb_op 157 6 = some (.if_icmp .ge (47), 99, 0, 0) := by decide +kernel
theorem jo_157_53 : jb_op 157 53 = some (.iload_n 2, 99, 0, 0) := by decide +kernel
theorem jo_157_54 : jb_op 157 54 = some (.ireturn, 99, 0, 0) := by decide +kernel
theorem jr_157 : jb_ret 157 = (some .int) := by decide +kernel
theorem jo_157_9 : jb_op 157 9 = some (.iload_n 2, 99, 0, 0) := by decide +kernel
theorem jo_157_10 : jb_op 157 10 = some (.aload_n 0, 99, 0, 0) := by decide +kernel
theorem jo_157_11 : jb_op 157 11 = some (.aload_n 0, 99, 0, 0) := by decide +kernel
theorem jo_157_12 : jb_op 157 12 = some (.getfield 9, 0, 11, 0) := by decide +kernel
theorem jo_157_15 : jb_op 157 15 = some (.iload_n 1, 99, 0, 0) := by decide +kernel
theorem jo_157_16 : jb_op 157 16 = some (.invokestatic 156, 4, 37, 1) := by decide +kernel
theorem jh_37_157 : jb_ht 37 < jb_ht 157 := by decide +kernel
theorem jo_157_19 : jb_op 157 19 = some (.iconst 0, 99, 0, 0) := by decide +kernel
theorem jo_157_20 : jb_op 157 20 = some (.iadd, 99, 0, 0) := by decide +kernel
theorem jo_157_21 : jb_op 157 21 = some (.iaload, 99, 0, 0) := by decide +kernel
theorem jo_157_22 : jb_op 157 22 = some (.aload_n 0, 99, 0, 0) := by decide +kernel
theorem jo_157_23 : jb_op 157 23 = some (.getfield 9, 0, 11, 0) := by decide +kernel
theorem jo_157_26 : jb_op 157 26 = some (.iload_n 1, 99, 0, 0) := by decide +kernel
theorem jo_157_27 : jb_op 157 27 = some (.invokestatic 156, 4, 37, 1) := by decide +kernel
theorem jo_157_30 : jb_op 157 30 = some (.iconst 1, 99, 0, 0) := by decide +kernel
theorem jo_157_31 : jb_op 157 31 = some (.iadd, 99, 0, 0) := by decide +kernel
theorem jo_157_32 : jb_op 157 32 = some (.iaload, 99, 0, 0) := by decide +kernel
theorem jo_157_33 : jb_op 157 33 = some (.iload_n 3, 99, 0, 0) := by decide +kernel
theorem jo_157_34 : jb_op 157 34 = some (.invokevirtual 208, 2, 110, 3) := by decide +kernel
theorem jh_110_157 : jb_ht 110 < jb_ht 157 := by decide +kernel
theorem jo_157_37 : jb_op 157 37 = some (.ifCond .eq (7), 99, 0, 0) := by decide +kernel
theorem jo_157_44 : jb_op 157 44 = some (.iconst 0, 99, 0, 0) := by decide +kernel
theorem jo_157_45 : jb_op 157 45 = some (.iadd, 99, 0, 0) := by decide +kernel
theorem jo_157_46 : jb_op 157 46 = some (.istore_n 2, 99, 0, 0) := by decide +kernel
theorem jo_157_47 : jb_op 157 47 = some (.iinc 3 1, 99, 0, 0) := by decide +kernel
theorem jo_157_50 : jb_op 157 50 = some (.goto (-46), 99, 0, 0) := by decide +kernel
theorem jo_157_40 : jb_op 157 40 = some (.iconst 1, 99, 0, 0) := by decide +kernel
theorem jo_157_41 : jb_op 157 41 = some (.goto 4, 99, 0, 0) := by decide +kernel
theorem jl_157 : jb_ml 157 = 4 := by decide +kernel
theorem jo_158_0 : jb_op 158 0 = some (.iconst (-1), 99, 0, 0) := by decide +kernel
theorem jo_158_1 : jb_op 158 1 = some (.istore_n 2, 99, 0, 0) := by decide +kernel
theorem jo_158_2 : jb_op 158 2 = some (.iconst 0, 99, 0, 0) := by decide +kernel
theorem jo_158_3 : jb_op 158 3 = some (.istore_n 3, 99, 0, 0) := by decide +kernel
theorem jo_158_4 : jb_op 158 4 = some (.iload_n 3, 99, 0, 0) := by decide +kernel
theorem jo_158_5 : jb_op 158 5 = some (.aload_n 0, 99, 0, 0) := by decide +kernel
theorem jo_158_6 : jb_op 158 6 = some (.getfield 9, 0, 11, 0) := by decide +kernel
theorem jo_158_9 : jb_op 158 9 = some (.iconst 0, 99, 0, 0) := by decide +kernel
theorem jo_158_10 : jb_op 158 10 = some (.iaload, 99, 0, 0) := by decide +kernel
theorem jo_158_11 : jb_op 158 11 = some (.if_icmp .ge (68), 99, 0, 0) := by decide +kernel
theorem jo_158_79 : jb_op 158 79 = some (.iload_n 2, 99, 0, 0) := by decide +kernel
theorem jo_158_80 : jb_op 158 80 = some (.ireturn, 99, 0, 0) := by decide +kernel
theorem jr_158 : jb_ret 158 = (some .int) := by decide +kernel
theorem jo_158_14 : jb_op 158 14 = some (.iconst 0, 99, 0, 0) := by decide +kernel
theorem jo_158_15 : jb_op 158 15 = some (.istore 4, 99, 0, 0) := by decide +kernel
theorem jo_158_17 : jb_op 158 17 = some (.iconst 0, 99, 0, 0) := by decide +kernel
theorem jo_158_18 : jb_op 158 18 = some (.istore 5, 99, 0, 0) := by decide +kernel
theorem jo_158_20 : jb_op 158 20 = some (.iload 5, 99, 0, 0) := by decide +kernel
theorem jo_158_22 : jb_op 158 22 = some (.aload_n 0, 99, 0, 0) := by decide +kernel
theorem jo_158_23 : jb_op 158 23 = some (.getfield 9, 0, 11, 0) := by decide +kernel
theorem jo_158_26 : jb_op 158 26 = some (.iconst 0, 99, 0, 0) := by decide +kernel
theorem jo_158_27 : jb_op 158 27 = some (.iaload, 99, 0, 0) := by decide +kernel
theorem jo_158_28 : jb_op 158 28 = some (.if_icmp .ge (33), 99, 0, 0) := by decide +kernel
theorem jo_158_61 : jb_op 158 61 = some (.iload 4, 99, 0, 0) := by decide +kernel
theorem jo_158_63 : jb_op 158 63 = some (.iload_n 1, 99, 0, 0) := by decide +kernel
theorem jo_158_64 : jb_op 158 64 = some (.if_icmp .ne (7), 99, 0, 0) := by decide +kernel
theorem jo_158_67 : jb_op 158 67 = some (.iload_n 3, 99, 0, 0) := by decide +kernel
theorem jo_158_68 : jb_op 158 68 = some (.goto 4, 99, 0, 0) := by decide +kernel
theorem jo_158_72 : jb_op 158 72 = some (.istore_n 2, 99, 0, 0) := by decide +kernel
theorem jo_158_73 : jb_op 158 73 = some (.iinc 3 1, 99, 0, 0) := by decide +kernel
theorem jo_158_76 : jb_op 158 76 = some (.goto (-72), 99, 0, 0) := by decide +kernel
theorem jo_158_71 : jb_op 158 71 = some (.iload_n 2, 99, 0, 0) := by decide +kernel
theorem jo_158_31 : jb_op 158 31 = some (.iload 4, 99, 0, 0) := by decide +kernel
theorem jo_158_33 : jb_op 158 33 = some (.aload_n 0, 99, 0, 0) := by decide +kernel
theorem jo_158_34 : jb_op 158 34 = some (.iload 5, 99, 0, 0) := by decide +kernel
theorem jo_158_36 : jb_op 158 36 = some (.invokevirtual 233, 2, 113, 1) := by decide +kernel
theorem jh_113_158 : jb_ht 113 < jb_ht 158 := by decide +kernel
theorem jw_113 : jb_ow 113 = 11 := by decide +kernel
theorem jo_158_39 : jb_op 158 39 = some (.aload_n 0, 99, 0, 0) := by decide +kernel
theorem jo_158_40 : jb_op 158 40 = some (.iload_n 3, 99, 0, 0) := by decide +kernel
theorem jo_158_41 : jb_op 158 41 = some (.invokevirtual 233, 2, 113, 1) := by decide +kernel
theorem jo_158_44 : jb_op 158 44 = some (.if_icmp .ge (7), 99, 0, 0) := by decide +kernel
theorem jo_158_51 : jb_op 158 51 = some (.iconst 0, 99, 0, 0) := by decide +kernel
theorem jo_158_52 : jb_op 158 52 = some (.iadd, 99, 0, 0) := by decide +kernel
theorem jo_158_53 : jb_op 158 53 = some (.istore 4, 99, 0, 0) := by decide +kernel
theorem jo_158_55 : jb_op 158 55 = some (.iinc 5 1, 99, 0, 0) := by decide +kernel
theorem jo_158_58 : jb_op 158 58 = some (.goto (-38), 99, 0, 0) := by decide +kernel
theorem jo_158_47 : jb_op 158 47 = some (.iconst 1, 99, 0, 0) := by decide +kernel
theorem jo_158_48 : jb_op 158 48 = some (.goto 4, 99, 0, 0) := by decide +kernel
theorem jl_158 : jb_ml 158 = 6 := by decide +kernel
theorem jo_159_0 : jb_op 159 0 = some (.aload_n 0, 99, 0, 0) := by decide +kernel
theorem jo_159_1 : jb_op 159 1 = some (.invokevirtual 236, 2, 114, 0) := by decide +kernel
theorem jh_114_159 : jb_ht 114 < jb_ht 159 := by decide +kernel
theorem jw_114 : jb_ow 114 = 11 := by decide +kernel
theorem jo_159_4 : jb_op 159 4 = some (.i2d, 99, 0, 0) := by decide +kernel
theorem jo_159_5 : jb_op 159 5 = some (.ldc2_w 239, 12, 4617315517961601024, 0) := by decide +kernel
theorem jo_159_8 : jb_op 159 8 = some (.ddiv, 99, 0, 0) := by decide +kernel
theorem jo_159_9 : jb_op 159 9 = some (.dreturn, 99, 0, 0) := by decide +kernel
theorem jr_159 : jb_ret 159 = (some .double) := by decide +kernel
theorem jl_159 : jb_ml 159 = 1 := by decide +kernel
theorem jo_160_0 : jb_op 160 0 = some (.iload_n 1, 99, 0, 0) := by decide +kernel
theorem jo_160_1 : jb_op 160 1 = some (.tableswitch (82) (0) (9) #[(55), (55), (55), (55), (55), (55), (62), (67), (72), (77)], 99, 0, 0) := by decide +kernel
theorem jo_160_56 : jb_op 160 56 = some (.aload_n 0, 99, 0, 0) := by decide +kernel
theorem jo_160_57 : jb_op 160 57 = some (.getfield 9, 0, 11, 0) := by decide +kernel
theorem jo_160_60 : jb_op 160 60 = some (.iload_n 1, 99, 0, 0) := by decide +kernel
theorem jo_160_61 : jb_op 160 61 = some (.iaload, 99, 0, 0) := by decide +kernel
theorem jo_160_62 : jb_op 160 62 = some (.ireturn, 99, 0, 0) := by decide +kernel
theorem jr_160 : jb_ret 160 = (some .int) := by decide +kernel
theorem jo_160_63 : jb_op 160 63 = some (.aload_n 0, 99, 0, 0) := by decide +kernel
theorem jo_160_64 : jb_op 160 64 = some (.invokevirtual 236, 2, 114, 0) := by decide +kernel
theorem jh_114_160 : jb_ht 114 < jb_ht 160 := by decide +kernel
theorem jo_160_68 : jb_op 160 68 = some (.aload_n 0, 99, 0, 0) := by decide +kernel
theorem jo_160_69 : jb_op 160 69 = some (.getfield 121, 0, 11, 12) := by decide +kernel
theorem jo_160_72 : jb_op 160 72 = some (.ireturn, 99, 0, 0) := by decide +kernel
theorem jo_160_73 : jb_op 160 73 = some (.aload_n 0, 99, 0, 0) := by decide +kernel
theorem jo_160_74 : jb_op 160 74 = some (.getfield 241, 0, 11, 14) := by decide +kernel
theorem jo_160_77 : jb_op 160 77 = some (.ireturn, 99, 0, 0) := by decide +kernel
theorem jo_160_78 : jb_op 160 78 = some (.aload_n 0, 99, 0, 0) := by decide +kernel
theorem jo_160_79 : jb_op 160 79 = some (.getfield 63, 0, 11, 5) := by decide +kernel
theorem jo_160_82 : jb_op 160 82 = some (.ireturn, 99, 0, 0) := by decide +kernel
theorem jo_160_83 : jb_op 160 83 = some (.bipush (-2), 99, 0, 0) := by decide +kernel
theorem jo_160_85 : jb_op 160 85 = some (.ireturn, 99, 0, 0) := by decide +kernel
theorem jo_160_67 : jb_op 160 67 = some (.ireturn, 99, 0, 0) := by decide +kernel
theorem jl_160 : jb_ml 160 = 2 := by decide +kernel
theorem jo_161_0 : jb_op 161 0 = some (.iconst 0, 99, 0, 0) := by decide +kernel
theorem jo_161_1 : jb_op 161 1 = some (.istore_n 1, 99, 0, 0) := by decide +kernel
theorem jo_161_2 : jb_op 161 2 = some (.iconst 0, 99, 0, 0) := by decide +kernel
theorem jo_161_3 : jb_op 161 3 = some (.istore_n 2, 99, 0, 0) := by decide +kernel
theorem jo_161_4 : jb_op 161 4 = some (.iload_n 2, 99, 0, 0) := by decide +kernel
theorem jo_161_5 : jb_op 161 5 = some (.aload_n 0, 99, 0, 0) := by decide +kernel
theorem jo_161_6 : jb_op 161 6 = some (.getfield 9, 0, 11, 0) := by decide +kernel
theorem jo_161_9 : jb_op 161 9 = some (.iconst 0, 99, 0, 0) := by decide +kernel
theorem jo_161_10 : jb_op 161 10 = some (.iaload, 99, 0, 0) := by decide +kernel
theorem jo_161_11 : jb_op 161 11 = some (.if_icmp .ge (80), 99, 0, 0) := by decide +kernel
theorem jo_161_91 : jb_op 161 91 = some (.aload_n 0, 99, 0, 0) := by decide +kernel
theorem jo_161_92 : jb_op 161 92 = some (.iload_n 1, 99, 0, 0) := by decide +kernel
theorem jo_161_93 : jb_op 161 93 = some (.putfield 253, 0, 11, 16) := by decide +kernel
theorem jty_11_16 : jb_Ty 11 16 = .int ∧ (jb_T 11 16).2.2.2 = false := by decide +kernel
theorem jo_161_96 : jb_op 161 96 = some (.iload_n 1, 99, 0, 0) := by decide +kernel
theorem jo_161_97 : jb_op 161 97 = some (.ireturn, 99, 0, 0) := by decide +kernel
theorem jr_161 : jb_ret 161 = (some .int) := by decide +kernel
theorem jo_161_14 : jb_op 161 14 = some (.aload_n 0, 99, 0, 0) := by decide +kernel
theorem jo_161_15 : jb_op 161 15 = some (.iload_n 2, 99, 0, 0) := by decide +kernel
theorem jo_161_16 : jb_op 161 16 = some (.ifCond .ne (7), 99, 0, 0) := by decide +kernel
theorem jo_161_19 : jb_op 161 19 = some (.iload_n 1, 99, 0, 0) := by decide +kernel
theorem jo_161_20 : jb_op 161 20 = some (.goto 10, 99, 0, 0) := by decide +kernel
theorem jo_161_23 : jb_op 161 23 = some (.aload_n 0, 99, 0, 0) := by decide +kernel
theorem jo_161_24 : jb_op 161 24 = some (.iload_n 1, 99, 0, 0) := by decide +kernel
theorem jo_161_25 : jb_op 161 25 = some (.bipush 32, 99, 0, 0) := by decide +kernel
theorem jo_161_27 : jb_op 161 27 = some (.invokevirtual 244, 2, 43, 2) := by decide +kernel
theorem jh_43_161 : jb_ht 43 < jb_ht 161 := by decide +kernel
theorem jo_161_30 : jb_op 161 30 = some (.iload_n 2, 99, 0, 0) := by decide +kernel
theorem jo_161_31 : jb_op 161 31 = some (.invokevirtual 250, 2, 116, 2) := by decide +kernel
theorem jh_116_161 : jb_ht 116 < jb_ht 161 := by decide +kernel
theorem jw_116 : jb_ow 116 = 11 := by decide +kernel
theorem jo_161_34 : jb_op 161 34 = some (.istore_n 1, 99, 0, 0) := by decide +kernel
theorem jo_161_35 : jb_op 161 35 = some (.aload_n 0, 99, 0, 0) := by decide +kernel
theorem jo_161_36 : jb_op 161 36 = some (.iload_n 1, 99, 0, 0) := by decide +kernel
theorem jo_161_37 : jb_op 161 37 = some (.bipush 58, 99, 0, 0) := by decide +kernel
theorem jo_161_39 : jb_op 161 39 = some (.invokevirtual 244, 2, 43, 2) := by decide +kernel
theorem jo_161_42 : jb_op 161 42 = some (.istore_n 1, 99, 0, 0) := by decide +kernel
theorem jo_161_43 : jb_op 161 43 = some (.iconst 0, 99, 0, 0) := by decide +kernel
theorem jo_161_44 : jb_op 161 44 = some (.istore_n 3, 99, 0, 0) := by decide +kernel
theorem jo_161_45 : jb_op 161 45 = some (.iload_n 3, 99, 0, 0) := by decide +kernel
theorem jo_161_46 : jb_op 161 46 = some (.aload_n 0, 99, 0, 0) := by decide +kernel
theorem jo_161_47 : jb_op 161 47 = some (.getfield 9, 0, 11, 0) := by decide +kernel
theorem jo_161_50 : jb_op 161 50 = some (.iload_n 2, 99, 0, 0) := by decide +kernel
theorem jo_161_51 : jb_op 161 51 = some (.invokestatic 130, 4, 36, 1) := by decide +kernel
theorem jh_36_161 : jb_ht 36 < jb_ht 161 := by decide +kernel
theorem jo_161_54 : jb_op 161 54 = some (.iconst 1, 99, 0, 0) := by decide +kernel
theorem jo_161_55 : jb_op 161 55 = some (.iadd, 99, 0, 0) := by decide +kernel
theorem jo_161_56 : jb_op 161 56 = some (.iaload, 99, 0, 0) := by decide +kernel
theorem jo_161_57 : jb_op 161 57 = some (.if_icmp .ge (28), 99, 0, 0) := by decide +kernel
theorem jo_161_85 : jb_op 161 85 = some (.iinc 2 1, 99, 0, 0) := by decide +kernel
theorem jo_161_88 : jb_op 161 88 = some (.goto (-84), 99, 0, 0) := by decide +kernel
theorem jo_161_60 : jb_op 161 60 = some (.aload_n 0, 99, 0, 0) := by decide +kernel
theorem jo_161_61 : jb_op 161 61 = some (.iload_n 1, 99, 0, 0) := by decide +kernel
theorem jo_161_62 : jb_op 161 62 = some (.aload_n 0, 99, 0, 0) := by decide +kernel
theorem jo_161_63 : jb_op 161 63 = some (.getfield 9, 0, 11, 0) := by decide +kernel
theorem jo_161_66 : jb_op 161 66 = some (.iload_n 2, 99, 0, 0) := by decide +kernel
theorem jo_161_67 : jb_op 161 67 = some (.invokestatic 130, 4, 36, 1) := by decide +kernel
theorem jo_161_70 : jb_op 161 70 = some (.iconst 2, 99, 0, 0) := by decide +kernel
theorem jo_161_71 : jb_op 161 71 = some (.iadd, 99, 0, 0) := by decide +kernel
theorem jo_161_72 : jb_op 161 72 = some (.iload_n 3, 99, 0, 0) := by decide +kernel
theorem jo_161_73 : jb_op 161 73 = some (.iadd, 99, 0, 0) := by decide +kernel
theorem jo_161_74 : jb_op 161 74 = some (.iaload, 99, 0, 0) := by decide +kernel
theorem jo_161_75 : jb_op 161 75 = some (.invokevirtual 247, 2, 115, 2) := by decide +kernel
theorem jh_115_161 : jb_ht 115 < jb_ht 161 := by decide +kernel
theorem jw_115 : jb_ow 115 = 11 := by decide +kernel
theorem jo_161_78 : jb_op 161 78 = some (.istore_n 1, 99, 0, 0) := by decide +kernel
theorem jo_161_79 : jb_op 161 79 = some (.iinc 3 1, 99, 0, 0) := by decide +kernel
theorem jo_161_82 : jb_op 161 82 = some (.goto (-37), 99, 0, 0) := by decide +kernel
theorem jl_161 : jb_ml 161 = 4 := by decide +kernel
theorem jo_162_0 : jb_op 162 0 = some (.aload_n 0, 99, 0, 0) := by decide +kernel
theorem jo_162_1 : jb_op 162 1 = some (.bipush 32, 99, 0, 0) := by decide +kernel
theorem jo_162_3 : jb_op 162 3 = some (.bipush 32, 99, 0, 0) := by decide +kernel
theorem jo_162_5 : jb_op 162 5 = some (.invokevirtual 268, 2, 119, 2) := by decide +kernel
theorem jh_119_162 : jb_ht 119 < jb_ht 162 := by decide +kernel
theorem jw_119 : jb_ow 119 = 11 := by decide +kernel
theorem jo_162_8 : jb_op 162 8 = some (.istore_n 1, 99, 0, 0) := by decide +kernel
theorem jo_162_9 : jb_op 162 9 = some (.return_, 99, 0, 0) := by decide +kernel
theorem jr_162 : jb_ret 162 = none := by decide +kernel
theorem jl_162 : jb_ml 162 = 2 := by decide +kernel
theorem jo_163_0 : jb_op 163 0 = some (.aload_n 0, 99, 0, 0) := by decide +kernel
theorem jo_163_1 : jb_op 163 1 = some (.bipush 48, 99, 0, 0) := by decide +kernel
theorem jo_163_3 : jb_op 163 3 = some (.bipush 57, 99, 0, 0) := by decide +kernel
theorem jo_163_5 : jb_op 163 5 = some (.invokevirtual 268, 2, 119, 2) := by decide +kernel
theorem jh_119_163 : jb_ht 119 < jb_ht 163 := by decide +kernel
theorem jo_163_8 : jb_op 163 8 = some (.ireturn, 99, 0, 0) := by decide +kernel
theorem jr_163 : jb_ret 163 = (some .int) := by decide +kernel
theorem jl_163 : jb_ml 163 = 1 := by decide +kernel
theorem jo_164_0 : jb_op 164 0 = some (.aload_n 0, 99, 0, 0) := by decide +kernel
theorem jo_164_1 : jb_op 164 1 = some (.invokevirtual 265, 2, 46, 0) := by decide +kernel
theorem jh_46_164 : jb_ht 46 < jb_ht 164 := by decide +kernel
theorem jo_164_4 : jb_op 164 4 = some (.istore_n 1, 99, 0, 0) := by decide +kernel
theorem jo_164_5 : jb_op 164 5 = some (.iload_n 1, 99, 0, 0) := by decide +kernel
theorem jo_164_6 : jb_op 164 6 = some (.bipush 110, 99, 0, 0) := by decide +kernel
theorem jo_164_8 : jb_op 164 8 = some (.if_icmp .ne (7), 99, 0, 0) := by decide +kernel
theorem jo_164_11 : jb_op 164 11 = some (.iconst 0, 99, 0, 0) := by decide +kernel
theorem jo_164_12 : jb_op 164 12 = some (.goto 14, 99, 0, 0) := by decide +kernel
theorem jo_164_26 : jb_op 164 26 = some (.istore_n 2, 99, 0, 0) := by decide +kernel
theorem jo_164_27 : jb_op 164 27 = some (.iload_n 1, 99, 0, 0) := by decide +kernel
theorem jo_164_28 : jb_op 164 28 = some (.bipush 110, 99, 0, 0) := by decide +kernel
theorem jo_164_30 : jb_op 164 30 = some (.if_icmp .eq (9), 99, 0, 0) := by decide +kernel
theorem jo_164_39 : jb_op 164 39 = some (.aload_n 0, 99, 0, 0) := by decide +kernel
theorem jo_164_40 : jb_op 164 40 = some (.iload_n 1, 99, 0, 0) := by decide +kernel
theorem jo_164_41 : jb_op 164 41 = some (.iload_n 1, 99, 0, 0) := by decide +kernel
theorem jo_164_42 : jb_op 164 42 = some (.invokevirtual 268, 2, 119, 2) := by decide +kernel
theorem jh_119_164 : jb_ht 119 < jb_ht 164 := by decide +kernel
theorem jo_164_15 : jb_op 164 15 = some (.iload_n 1, 99, 0, 0) := by decide +kernel
theorem jo_164_16 : jb_op 164 16 = some (.bipush 100, 99, 0, 0) := by decide +kernel
theorem jo_164_18 : jb_op 164 18 = some (.if_icmp .ne (7), 99, 0, 0) := by decide +kernel
theorem jo_164_21 : jb_op 164 21 = some (.iconst 1, 99, 0, 0) := by decide +kernel
theorem jo_164_22 : jb_op 164 22 = some (.goto 4, 99, 0, 0) := by decide +kernel
theorem jo_164_33 : jb_op 164 33 = some (.iload_n 1, 99, 0, 0) := by decide +kernel
theorem jo_164_34 : jb_op 164 34 = some (.bipush 100, 99, 0, 0) := by decide +kernel
theorem jo_164_36 : jb_op 164 36 = some (.if_icmp .ne (12), 99, 0, 0) := by decide +kernel
theorem jo_164_25 : jb_op 164 25 = some (.iconst 2, 99, 0, 0) := by decide +kernel
theorem jo_164_48 : jb_op 164 48 = some (.aload_n 0, 99, 0, 0) := by decide +kernel
theorem jo_164_49 : jb_op 164 49 = some (.bipush 116, 99, 0, 0) := by decide +kernel
theorem jo_164_51 : jb_op 164 51 = some (.bipush 116, 99, 0, 0) := by decide +kernel
theorem jo_164_53 : jb_op 164 53 = some (.invokevirtual 268, 2, 119, 2) := by decide +kernel
theorem jo_164_56 : jb_op 164 56 = some (.istore_n 3, 99, 0, 0) := by decide +kernel
theorem jo_164_57 : jb_op 164 57 = some (.iload_n 2, 99, 0, 0) := by decide +kernel
theorem jo_164_58 : jb_op 164 58 = some (.ireturn, 99, 0, 0) := by decide +kernel
theorem jr_164 : jb_ret 164 = (some .int) := by decide +kernel
theorem jo_164_45 : jb_op 164 45 = some (.goto 11, 99, 0, 0) := by decide +kernel
theorem jl_164 : jb_ml 164 = 4 := by decide +kernel
theorem jo_165_0 : jb_op 165 0 = some (.aload_n 0, 99, 0, 0) := by decide +kernel
theorem jo_165_1 : jb_op 165 1 = some (.getfield 50, 0, 11, 30) := by decide +kernel
theorem jo_165_4 : jb_op 165 4 = some (.iload_n 1, 99, 0, 0) := by decide +kernel
theorem jo_165_5 : jb_op 165 5 = some (.iconst 2, 99, 0, 0) := by decide +kernel
theorem jo_165_6 : jb_op 165 6 = some (.iadd, 99, 0, 0) := by decide +kernel
theorem jo_165_7 : jb_op 165 7 = some (.aload_n 0, 99, 0, 0) := by decide +kernel
theorem jo_165_8 : jb_op 165 8 = some (.getfield 256, 0, 11, 27) := by decide +kernel
theorem jo_165_11 : jb_op 165 11 = some (.iastore, 99, 0, 0) := by decide +kernel
theorem jo_165_12 : jb_op 165 12 = some (.aload_n 0, 99, 0, 0) := by decide +kernel
theorem jo_165_13 : jb_op 165 13 = some (.invokevirtual 271, 2, 120, 0) := by decide +kernel
theorem jh_120_165 : jb_ht 120 < jb_ht 165 := by decide +kernel
theorem jw_120 : jb_ow 120 = 11 := by decide +kernel
theorem jo_165_16 : jb_op 165 16 = some (.ifCond .ne (26), 99, 0, 0) := by decide +kernel
theorem jo_165_19 : jb_op 165 19 = some (.aload_n 0, 99, 0, 0) := by decide +kernel
theorem jo_165_20 : jb_op 165 20 = some (.aload_n 0, 99, 0, 0) := by decide +kernel
theorem jo_165_21 : jb_op 165 21 = some (.getfield 262, 0, 11, 28) := by decide +kernel
theorem jo_165_24 : jb_op 165 24 = some (.iconst (-1), 99, 0, 0) := by decide +kernel
theorem jo_165_25 : jb_op 165 25 = some (.if_icmp .ne (10), 99, 0, 0) := by decide +kernel
theorem jo_165_28 : jb_op 165 28 = some (.aload_n 0, 99, 0, 0) := by decide +kernel
theorem jo_165_29 : jb_op 165 29 = some (.getfield 256, 0, 11, 27) := by decide +kernel
theorem jo_165_32 : jb_op 165 32 = some (.goto 7, 99, 0, 0) := by decide +kernel
theorem jo_165_39 : jb_op 165 39 = some (.putfield 262, 0, 11, 28) := by decide +kernel
theorem jo_165_35 : jb_op 165 35 = some (.aload_n 0, 99, 0, 0) := by decide +kernel
theorem jo_165_36 : jb_op 165 36 = some (.getfield 262, 0, 11, 28) := by decide +kernel
theorem jo_165_42 : jb_op 165 42 = some (.aload_n 0, 99, 0, 0) := by decide +kernel
theorem jo_165_43 : jb_op 165 43 = some (.getfield 262, 0, 11, 28) := by decide +kernel
theorem jo_165_46 : jb_op 165 46 = some (.iconst (-1), 99, 0, 0) := by decide +kernel
theorem jo_165_47 : jb_op 165 47 = some (.if_icmp .ne (23), 99, 0, 0) := by decide +kernel
theorem jo_165_50 : jb_op 165 50 = some (.aload_n 0, 99, 0, 0) := by decide +kernel
theorem jo_165_51 : jb_op 165 51 = some (.invokevirtual 271, 2, 120, 0) := by decide +kernel
theorem jo_165_70 : jb_op 165 70 = some (.aload_n 0, 99, 0, 0) := by decide +kernel
theorem jo_165_71 : jb_op 165 71 = some (.getfield 50, 0, 11, 30) := by decide +kernel
theorem jo_165_74 : jb_op 165 74 = some (.iload_n 1, 99, 0, 0) := by decide +kernel
theorem jo_165_75 : jb_op 165 75 = some (.iconst 3, 99, 0, 0) := by decide +kernel
theorem jo_165_76 : jb_op 165 76 = some (.iadd, 99, 0, 0) := by decide +kernel
theorem jo_165_77 : jb_op 165 77 = some (.aload_n 0, 99, 0, 0) := by decide +kernel
theorem jo_165_78 : jb_op 165 78 = some (.getfield 256, 0, 11, 27) := by decide +kernel
theorem jo_165_81 : jb_op 165 81 = some (.iastore, 99, 0, 0) := by decide +kernel
theorem jo_165_82 : jb_op 165 82 = some (.return_, 99, 0, 0) := by decide +kernel
theorem jr_165 : jb_ret 165 = none := by decide +kernel
theorem jo_165_54 : jb_op 165 54 = some (.ifCond .eq (16), 99, 0, 0) := by decide +kernel
theorem jo_165_57 : jb_op 165 57 = some (.aload_n 0, 99, 0, 0) := by decide +kernel
theorem jo_165_58 : jb_op 165 58 = some (.dup, 99, 0, 0) := by decide +kernel
theorem jo_165_59 : jb_op 165 59 = some (.getfield 256, 0, 11, 27) := by decide +kernel
theorem jo_165_62 : jb_op 165 62 = some (.iconst 1, 99, 0, 0) := by decide +kernel
theorem jo_165_63 : jb_op 165 63 = some (.iadd, 99, 0, 0) := by decide +kernel
theorem jo_165_64 : jb_op 165 64 = some (.putfield 256, 0, 11, 27) := by decide +kernel
theorem jo_165_67 : jb_op 165 67 = some (.goto (-25), 99, 0, 0) := by decide +kernel
theorem jl_165 : jb_ml 165 = 2 := by decide +kernel
theorem jo_166_0 : jb_op 166 0 = some (.aload_n 0, 99, 0, 0) := by decide +kernel
theorem jo_166_1 : jb_op 166 1 = some (.getfield 50, 0, 11, 30) := by decide +kernel
theorem jo_166_4 : jb_op 166 4 = some (.iload_n 1, 99, 0, 0) := by decide +kernel
theorem jo_166_5 : jb_op 166 5 = some (.iconst 1, 99, 0, 0) := by decide +kernel
theorem jo_166_6 : jb_op 166 6 = some (.iadd, 99, 0, 0) := by decide +kernel
theorem jo_166_7 : jb_op 166 7 = some (.iaload, 99, 0, 0) := by decide +kernel
theorem jo_166_8 : jb_op 166 8 = some (.istore_n 2, 99, 0, 0) := by decide +kernel
theorem jo_166_9 : jb_op 166 9 = some (.aload_n 0, 99, 0, 0) := by decide +kernel
theorem jo_166_10 : jb_op 166 10 = some (.getfield 50, 0, 11, 30) := by decide +kernel
theorem jo_166_13 : jb_op 166 13 = some (.iload_n 1, 99, 0, 0) := by decide +kernel
theorem jo_166_14 : jb_op 166 14 = some (.iconst 2, 99, 0, 0) := by decide +kernel
theorem jo_166_15 : jb_op 166 15 = some (.iadd, 99, 0, 0) := by decide +kernel
theorem jo_166_16 : jb_op 166 16 = some (.iaload, 99, 0, 0) := by decide +kernel
theorem jo_166_17 : jb_op 166 17 = some (.istore_n 3, 99, 0, 0) := by decide +kernel
theorem jo_166_18 : jb_op 166 18 = some (.aload_n 0, 99, 0, 0) := by decide +kernel
theorem jo_166_19 : jb_op 166 19 = some (.getfield 50, 0, 11, 30) := by decide +kernel
theorem jo_166_22 : jb_op 166 22 = some (.iload_n 1, 99, 0, 0) := by decide +kernel
theorem jo_166_23 : jb_op 166 23 = some (.iaload, 99, 0, 0) := by decide +kernel
theorem jo_166_24 : jb_op 166 24 = some (.tableswitch (87) (0) (6) #[(44), (87), (87), (49), (55), (60), (81)], 99, 0, 0) := by decide +kernel
theorem jo_166_68 : jb_op 166 68 = some (.iload_n 3, 99, 0, 0) := by decide +kernel
theorem jo_166_69 : jb_op 166 69 = some (.invokestatic 101, 4, 92, 1) := by decide +kernel
theorem jh_92_166 : jb_ht 92 < jb_ht 166 := by decide +kernel
theorem jo_166_111 : jb_op 166 111 = some (.iconst 1, 99, 0, 0) := by decide +kernel
theorem jo_166_112 : jb_op 166 112 = some (.ireturn, 99, 0, 0) := by decide +kernel
theorem jr_166 : jb_ret 166 = (some .boolean) := by decide +kernel
theorem jo_166_73 : jb_op 166 73 = some (.aload_n 0, 99, 0, 0) := by decide +kernel
theorem jo_166_74 : jb_op 166 74 = some (.iload_n 2, 99, 0, 0) := by decide +kernel
theorem jo_166_75 : jb_op 166 75 = some (.invokevirtual 150, 2, 101, 1) := by decide +kernel
theorem jh_101_166 : jb_ht 101 < jb_ht 166 := by decide +kernel
theorem jo_166_79 : jb_op 166 79 = some (.iload_n 2, 99, 0, 0) := by decide +kernel
theorem jo_166_80 : jb_op 166 80 = some (.invokestatic 101, 4, 92, 1) := by decide +kernel
theorem jo_166_84 : jb_op 166 84 = some (.aload_n 0, 99, 0, 0) := by decide +kernel
theorem jo_166_85 : jb_op 166 85 = some (.iload_n 2, 99, 0, 0) := by decide +kernel
theorem jo_166_86 : jb_op 166 86 = some (.invokevirtual 165, 2, 105, 1) := by decide +kernel
theorem jh_105_166 : jb_ht 105 < jb_ht 166 := by decide +kernel
theorem jo_166_105 : jb_op 166 105 = some (.aload_n 0, 99, 0, 0) := by decide +kernel
theorem jo_166_106 : jb_op 166 106 = some (.iload_n 2, 99, 0, 0) := by decide +kernel
theorem jo_166_107 : jb_op 166 107 = some (.invokevirtual 165, 2, 105, 1) := by decide +kernel
theorem jo_166_110 : jb_op 166 110 = some (.ireturn, 99, 0, 0) := by decide +kernel
theorem jo_166_89 : jb_op 166 89 = some (.ifCond .eq (14), 99, 0, 0) := by decide +kernel
theorem jo_166_103 : jb_op 166 103 = some (.iconst 0, 99, 0, 0) := by decide +kernel
theorem jo_166_104 : jb_op 166 104 = some (.ireturn, 99, 0, 0) := by decide +kernel
theorem jo_166_92 : jb_op 166 92 = some (.iload_n 3, 99, 0, 0) := by decide +kernel
theorem jo_166_93 : jb_op 166 93 = some (.invokestatic 101, 4, 92, 1) := by decide +kernel
theorem jo_166_96 : jb_op 166 96 = some (.ifCond .eq (7), 99, 0, 0) := by decide +kernel
theorem jo_166_99 : jb_op 166 99 = some (.iconst 1, 99, 0, 0) := by decide +kernel
theorem jo_166_100 : jb_op 166 100 = some (.goto 4, 99, 0, 0) := by decide +kernel
theorem jo_166_83 : jb_op 166 83 = some (.ireturn, 99, 0, 0) := by decide +kernel
theorem jo_166_78 : jb_op 166 78 = some (.ireturn, 99, 0, 0) := by decide +kernel
theorem jo_166_72 : jb_op 166 72 = some (.ireturn, 99, 0, 0) := by decide +kernel
theorem jl_166 : jb_ml 166 = 4 := by decide +kernel
theorem jo_168_0 : jb_op 168 0 = some (.aload_n 0, 99, 0, 0) := by decide +kernel
theorem jo_168_1 : jb_op 168 1 = some (.getfield 21, 0, 2, 2) := by decide +kernel
theorem jo_168_4 : jb_op 168 4 = some (.bipush 8, 99, 0, 0) := by decide +kernel
theorem jo_168_6 : jb_op 168 6 = some (.if_icmp .lt (22), 99, 0, 0) := by decide +kernel
theorem jo_168_28 : jb_op 168 28 = some (.aload_n 0, 99, 0, 0) := by decide +kernel
theorem jo_168_29 : jb_op 168 29 = some (.aload_n 0, 99, 0, 0) := by decide +kernel
theorem jo_168_30 : jb_op 168 30 = some (.getfield 21, 0, 2, 2) := by decide +kernel
theorem jo_168_33 : jb_op 168 33 = some (.invokevirtual 25, 2, 9, 1) := by decide +kernel
theorem jh_9_168 : jb_ht 9 < jb_ht 168 := by decide +kernel
theorem jw_9 : jb_ow 9 = 2 := by decide +kernel
theorem jo_168_9 : jb_op 168 9 = some (.aload_n 0, 99, 0, 0) := by decide +kernel
theorem jo_168_10 : jb_op 168 10 = some (.aload_n 0, 99, 0, 0) := by decide +kernel
theorem jo_168_11 : jb_op 168 11 = some (.getfield 17, 0, 2, 1) := by decide +kernel
theorem jo_168_14 : jb_op 168 14 = some (.iconst 1, 99, 0, 0) := by decide +kernel
theorem jo_168_15 : jb_op 168 15 = some (.iadd, 99, 0, 0) := by decide +kernel
theorem jo_168_16 : jb_op 168 16 = some (.bipush 8, 99, 0, 0) := by decide +kernel
theorem jo_168_18 : jb_op 168 18 = some (.irem, 99, 0, 0) := by decide +kernel
theorem jo_168_19 : jb_op 168 19 = some (.putfield 17, 0, 2, 1) := by decide +kernel
theorem jty_2_1 : jb_Ty 2 1 = .int ∧ (jb_T 2 1).2.2.2 = false := by decide +kernel
theorem jo_168_22 : jb_op 168 22 = some (.aload_n 0, 99, 0, 0) := by decide +kernel
theorem jo_168_23 : jb_op 168 23 = some (.bipush 7, 99, 0, 0) := by decide +kernel
theorem jo_168_25 : jb_op 168 25 = some (.putfield 21, 0, 2, 2) := by decide +kernel
theorem jo_168_36 : jb_op 168 36 = some (.astore_n 2, 99, 0, 0) := by decide +kernel
theorem jo_168_37 : jb_op 168 37 = some (.aload_n 2, 99, 0, 0) := by decide +kernel
theorem jo_168_38 : jb_op 168 38 = some (.ifnonnull 4, 99, 0, 0) := by decide +kernel
theorem jo_168_42 : jb_op 168 42 = some (.aload_n 2, 99, 0, 0) := by decide +kernel
theorem jo_168_43 : jb_op 168 43 = some (.aload_n 1, 99, 0, 0) := by decide +kernel
theorem jo_168_44 : jb_op 168 44 = some (.invokevirtual 29, 2, 123, 1) := by decide +kernel
theorem jh_123_168 : jb_ht 123 < jb_ht 168 := by decide +kernel
theorem jw_123 : jb_ow 123 = 9 := by decide +kernel
theorem jo_168_47 : jb_op 168 47 = some (.aload_n 0, 99, 0, 0) := by decide +kernel
theorem jo_168_48 : jb_op 168 48 = some (.dup, 99, 0, 0) := by decide +kernel
theorem jo_168_49 : jb_op 168 49 = some (.getfield 21, 0, 2, 2) := by decide +kernel
theorem jo_168_52 : jb_op 168 52 = some (.iconst 1, 99, 0, 0) := by decide +kernel
theorem jo_168_53 : jb_op 168 53 = some (.iadd, 99, 0, 0) := by decide +kernel
theorem jo_168_54 : jb_op 168 54 = some (.putfield 21, 0, 2, 2) := by decide +kernel
theorem jo_168_57 : jb_op 168 57 = some (.return_, 99, 0, 0) := by decide +kernel
theorem jr_168 : jb_ret 168 = none := by decide +kernel
theorem jl_168 : jb_ml 168 = 3 := by decide +kernel
theorem jo_169_0 : jb_op 169 0 = some (.aload_n 1, 99, 0, 0) := by decide +kernel
theorem jo_169_1 : jb_op 169 1 = some (.invokevirtual 62, 2, 12, 0) := by decide +kernel
theorem jh_12_169 : jb_ht 12 < jb_ht 169 := by decide +kernel
theorem jo_169_4 : jb_op 169 4 = some (.istore_n 3, 99, 0, 0) := by decide +kernel
theorem jo_169_5 : jb_op 169 5 = some (.iload_n 3, 99, 0, 0) := by decide +kernel
theorem jo_169_6 : jb_op 169 6 = some (.iconst 1, 99, 0, 0) := by decide +kernel
theorem jo_169_7 : jb_op 169 7 = some (.if_icmp .lt (9), 99, 0, 0) := by decide +kernel
theorem jo_169_16 : jb_op 169 16 = some (.aload_n 2, 99, 0, 0) := by decide +kernel
theorem jo_169_17 : jb_op 169 17 = some (.iconst 4, 99, 0, 0) := by decide +kernel
theorem jo_169_18 : jb_op 169 18 = some (.iload_n 3, 99, 0, 0) := by decide +kernel
theorem jo_169_19 : jb_op 169 19 = some (.invokevirtual 68, 2, 7, 2) := by decide +kernel
theorem jh_7_169 : jb_ht 7 < jb_ht 169 := by decide +kernel
theorem jo_169_10 : jb_op 169 10 = some (.iload_n 3, 99, 0, 0) := by decide +kernel
theorem jo_169_11 : jb_op 169 11 = some (.bipush 12, 99, 0, 0) := by decide +kernel
theorem jo_169_13 : jb_op 169 13 = some (.if_icmp .le (10), 99, 0, 0) := by decide +kernel
theorem jo_169_23 : jb_op 169 23 = some (.aload_n 0, 99, 0, 0) := by decide +kernel
theorem jo_169_24 : jb_op 169 24 = some (.getfield 12, 0, 9, 0) := by decide +kernel
theorem jo_169_27 : jb_op 169 27 = some (.aload_n 1, 99, 0, 0) := by decide +kernel
theorem jo_169_28 : jb_op 169 28 = some (.invokevirtual 74, 2, 127, 1) := by decide +kernel
theorem jh_127_169 : jb_ht 127 < jb_ht 169 := by decide +kernel
theorem jw_127 : jb_ow 127 = 0 := by decide +kernel
theorem jo_169_31 : jb_op 169 31 = some (.ifCond .ne (11), 99, 0, 0) := by decide +kernel
theorem jo_169_34 : jb_op 169 34 = some (.aload_n 2, 99, 0, 0) := by decide +kernel
theorem jo_169_35 : jb_op 169 35 = some (.bipush 6, 99, 0, 0) := by decide +kernel
theorem jo_169_37 : jb_op 169 37 = some (.iload_n 3, 99, 0, 0) := by decide +kernel
theorem jo_169_38 : jb_op 169 38 = some (.invokevirtual 68, 2, 7, 2) := by decide +kernel
theorem jo_169_42 : jb_op 169 42 = some (.aload_n 0, 99, 0, 0) := by decide +kernel
theorem jo_169_43 : jb_op 169 43 = some (.getfield 35, 0, 9, 3) := by decide +kernel
theorem jo_169_46 : jb_op 169 46 = some (.invokevirtual 78, 2, 128, 0) := by decide +kernel
theorem jh_128_169 : jb_ht 128 < jb_ht 169 := by decide +kernel
theorem jw_128 : jb_ow 128 = 4 := by decide +kernel
theorem jo_169_49 : jb_op 169 49 = some (.aload_n 0, 99, 0, 0) := by decide +kernel
theorem jo_169_50 : jb_op 169 50 = some (.dup, 99, 0, 0) := by decide +kernel
theorem jo_169_51 : jb_op 169 51 = some (.getfield 39, 0, 9, 4) := by decide +kernel
theorem jo_169_54 : jb_op 169 54 = some (.iconst 1, 99, 0, 0) := by decide +kernel
theorem jo_169_55 : jb_op 169 55 = some (.iadd, 99, 0, 0) := by decide +kernel
theorem jo_169_56 : jb_op 169 56 = some (.putfield 39, 0, 9, 4) := by decide +kernel
theorem jo_169_59 : jb_op 169 59 = some (.iconst 0, 99, 0, 0) := by decide +kernel
theorem jo_169_60 : jb_op 169 60 = some (.istore 4, 99, 0, 0) := by decide +kernel
theorem jo_169_62 : jb_op 169 62 = some (.iconst 0, 99, 0, 0) := by decide +kernel
theorem jo_169_63 : jb_op 169 63 = some (.istore 5, 99, 0, 0) := by decide +kernel
theorem jo_169_65 : jb_op 169 65 = some (.iload 5, 99, 0, 0) := by decide +kernel
theorem jo_169_67 : jb_op 169 67 = some (.iload_n 3, 99, 0, 0) := by decide +kernel
theorem jo_169_68 : jb_op 169 68 = some (.if_icmp .ge (65), 99, 0, 0) := by decide +kernel
theorem jo_169_133 : jb_op 169 133 = some (.aload_n 0, 99, 0, 0) := by decide +kernel
theorem jo_169_134 : jb_op 169 134 = some (.dup, 99, 0, 0) := by decide +kernel
theorem jo_169_135 : jb_op 169 135 = some (.getfield 43, 0, 9, 5) := by decide +kernel
theorem jo_169_138 : jb_op 169 138 = some (.iload 4, 99, 0, 0) := by decide +kernel
theorem jo_169_140 : jb_op 169 140 = some (.iadd, 99, 0, 0) := by decide +kernel
theorem jo_169_141 : jb_op 169 141 = some (.putfield 43, 0, 9, 5) := by decide +kernel
theorem jo_169_144 : jb_op 169 144 = some (.iload 4, 99, 0, 0) := by decide +kernel
theorem jo_169_146 : jb_op 169 146 = some (.ireturn, 99, 0, 0) := by decide +kernel
theorem jr_169 : jb_ret 169 = (some .int) := by decide +kernel
theorem jo_169_71 : jb_op 169 71 = some (.aload_n 0, 99, 0, 0) := by decide +kernel
theorem jo_169_72 : jb_op 169 72 = some (.getfield 12, 0, 9, 0) := by decide +kernel
theorem jo_169_75 : jb_op 169 75 = some (.aload_n 1, 99, 0, 0) := by decide +kernel
theorem jo_169_76 : jb_op 169 76 = some (.iload 5, 99, 0, 0) := by decide +kernel
theorem jo_169_78 : jb_op 169 78 = some (.invokevirtual 81, 2, 6, 1) := by decide +kernel
theorem jh_6_169 : jb_ht 6 < jb_ht 169 := by decide +kernel
theorem jo_169_81 : jb_op 169 81 = some (.invokevirtual 85, 2, 129, 1) := by decide +kernel
theorem jh_129_169 : jb_ht 129 < jb_ht 169 := by decide +kernel
theorem jw_129 : jb_ow 129 = 0 := by decide +kernel
theorem jo_169_84 : jb_op 169 84 = some (.istore 6, 99, 0, 0) := by decide +kernel
theorem jo_169_86 : jb_op 169 86 = some (.aload_n 0, 99, 0, 0) := by decide +kernel
theorem jo_169_87 : jb_op 169 87 = some (.getfield 35, 0, 9, 3) := by decide +kernel
theorem jo_169_90 : jb_op 169 90 = some (.iload 6, 99, 0, 0) := by decide +kernel
theorem jo_169_92 : jb_op 169 92 = some (.invokevirtual 88, 2, 67, 1) := by decide +kernel
theorem jh_67_169 : jb_ht 67 < jb_ht 169 := by decide +kernel
theorem jw_67 : jb_ow 67 = 4 := by decide +kernel
theorem jo_169_95 : jb_op 169 95 = some (.iload 6, 99, 0, 0) := by decide +kernel
theorem jo_169_97 : jb_op 169 97 = some (.iconst 5, 99, 0, 0) := by decide +kernel
theorem jo_169_98 : jb_op 169 98 = some (.if_icmp .eq (9), 99, 0, 0) := by decide +kernel
theorem jo_169_107 : jb_op 169 107 = some (.aload_n 1, 99, 0, 0) := by decide +kernel
theorem jo_169_108 : jb_op 169 108 = some (.iload 5, 99, 0, 0) := by decide +kernel
theorem jo_169_110 : jb_op 169 110 = some (.invokevirtual 81, 2, 6, 1) := by decide +kernel
theorem jo_169_101 : jb_op 169 101 = some (.iinc 4 1, 99, 0, 0) := by decide +kernel
theorem jo_169_104 : jb_op 169 104 = some (.goto 23, 99, 0, 0) := by decide +kernel
theorem jo_169_127 : jb_op 169 127 = some (.iinc 5 1, 99, 0, 0) := by decide +kernel
theorem jo_169_130 : jb_op 169 130 = some (.goto (-65), 99, 0, 0) := by decide +kernel
theorem jo_169_113 : jb_op 169 113 = some (.iconst 5, 99, 0, 0) := by decide +kernel
theorem jo_169_114 : jb_op 169 114 = some (.if_icmp .eq (13), 99, 0, 0) := by decide +kernel
theorem jo_169_117 : jb_op 169 117 = some (.aload_n 0, 99, 0, 0) := by decide +kernel
theorem jo_169_118 : jb_op 169 118 = some (.dup, 99, 0, 0) := by decide +kernel
theorem jo_169_119 : jb_op 169 119 = some (.getfield 46, 0, 9, 6) := by decide +kernel
theorem jo_169_122 : jb_op 169 122 = some (.iconst 1, 99, 0, 0) := by decide +kernel
theorem jo_169_123 : jb_op 169 123 = some (.iadd, 99, 0, 0) := by decide +kernel
theorem jo_169_124 : jb_op 169 124 = some (.putfield 46, 0, 9, 6) := by decide +kernel
theorem jo_169_41 : jb_op 169 41 = some (.ireturn, 99, 0, 0) := by decide +kernel
theorem jo_169_22 : jb_op 169 22 = some (.ireturn, 99, 0, 0) := by decide +kernel
theorem jl_169 : jb_ml 169 = 7 := by decide +kernel
theorem jo_170_0 : jb_op 170 0 = some (.iconst 0, 99, 0, 0) := by decide +kernel
theorem jo_170_1 : jb_op 170 1 = some (.istore_n 2, 99, 0, 0) := by decide +kernel
theorem jo_170_2 : jb_op 170 2 = some (.iconst 0, 99, 0, 0) := by decide +kernel
theorem jo_170_3 : jb_op 170 3 = some (.istore_n 3, 99, 0, 0) := by decide +kernel
theorem jo_170_4 : jb_op 170 4 = some (.iload_n 3, 99, 0, 0) := by decide +kernel
theorem jo_170_5 : jb_op 170 5 = some (.aload_n 0, 99, 0, 0) := by decide +kernel
theorem jo_170_6 : jb_op 170 6 = some (.getfield 14, 0, 1, 0) := by decide +kernel
theorem jo_170_9 : jb_op 170 9 = some (.invokevirtual 30, 2, 12, 0) := by decide +kernel
theorem jh_12_170 : jb_ht 12 < jb_ht 170 := by decide +kernel
theorem jo_170_12 : jb_op 170 12 = some (.if_icmp .ge (21), 99, 0, 0) := by decide +kernel
theorem jo_170_33 : jb_op 170 33 = some (.iload_n 2, 99, 0, 0) := by decide +kernel
theorem jo_170_34 : jb_op 170 34 = some (.ireturn, 99, 0, 0) := by decide +kernel
theorem jr_170 : jb_ret 170 = (some .int) := by decide +kernel
theorem jo_170_15 : jb_op 170 15 = some (.aload_n 0, 99, 0, 0) := by decide +kernel
theorem jo_170_16 : jb_op 170 16 = some (.iload_n 3, 99, 0, 0) := by decide +kernel
theorem jo_170_17 : jb_op 170 17 = some (.iload_n 1, 99, 0, 0) := by decide +kernel
theorem jo_170_18 : jb_op 170 18 = some (.invokevirtual 71, 2, 131, 2) := by decide +kernel
theorem jh_131_170 : jb_ht 131 < jb_ht 170 := by decide +kernel
theorem jw_131 : jb_ow 131 = 1 := by decide +kernel
theorem jo_170_21 : jb_op 170 21 = some (.ifCond .le (6), 99, 0, 0) := by decide +kernel
theorem jo_170_27 : jb_op 170 27 = some (.iinc 3 1, 99, 0, 0) := by decide +kernel
theorem jo_170_30 : jb_op 170 30 = some (.goto (-26), 99, 0, 0) := by decide +kernel
theorem jo_170_24 : jb_op 170 24 = some (.iinc 2 1, 99, 0, 0) := by decide +kernel
theorem jl_170 : jb_ml 170 = 4 := by decide +kernel
theorem jo_171_0 : jb_op 171 0 = some (.aload_n 0, 99, 0, 0) := by decide +kernel
theorem jo_171_1 : jb_op 171 1 = some (.getfield 10, 0, 10, 0) := by decide +kernel
theorem jo_171_4 : jb_op 171 4 = some (.getfield 124, 1, 9, 1) := by decide +kernel
theorem jo_171_7 : jb_op 171 7 = some (.getfield 179, 1, 1, 0) := by decide +kernel
theorem jo_171_10 : jb_op 171 10 = some (.iload_n 1, 99, 0, 0) := by decide +kernel
theorem jo_171_11 : jb_op 171 11 = some (.invokevirtual 160, 2, 4, 1) := by decide +kernel
theorem jh_4_171 : jb_ht 4 < jb_ht 171 := by decide +kernel
theorem jo_171_14 : jb_op 171 14 = some (.ifCond .ne (5), 99, 0, 0) := by decide +kernel
theorem jo_171_17 : jb_op 171 17 = some (.iconst (-1), 99, 0, 0) := by decide +kernel
theorem jo_171_18 : jb_op 171 18 = some (.ireturn, 99, 0, 0) := by decide +kernel
theorem jr_171 : jb_ret 171 = (some .int) := by decide +kernel
theorem jo_171_19 : jb_op 171 19 = some (.iload_n 2, 99, 0, 0) := by decide +kernel
theorem jo_171_20 : jb_op 171 20 = some (.tableswitch (71) (0) (2) #[(28), (43), (58)], 99, 0, 0) := by decide +kernel
theorem jo_171_48 : jb_op 171 48 = some (.aload_n 0, 99, 0, 0) := by decide +kernel
theorem jo_171_49 : jb_op 171 49 = some (.getfield 10, 0, 10, 0) := by decide +kernel
theorem jo_171_52 : jb_op 171 52 = some (.getfield 124, 1, 9, 1) := by decide +kernel
theorem jo_171_55 : jb_op 171 55 = some (.getfield 179, 1, 1, 0) := by decide +kernel
theorem jo_171_58 : jb_op 171 58 = some (.iload_n 1, 99, 0, 0) := by decide +kernel
theorem jo_171_59 : jb_op 171 59 = some (.invokevirtual 164, 2, 6, 1) := by decide +kernel
theorem jh_6_171 : jb_ht 6 < jb_ht 171 := by decide +kernel
theorem jo_171_63 : jb_op 171 63 = some (.aload_n 0, 99, 0, 0) := by decide +kernel
theorem jo_171_64 : jb_op 171 64 = some (.getfield 10, 0, 10, 0) := by decide +kernel
theorem jo_171_67 : jb_op 171 67 = some (.getfield 124, 1, 9, 1) := by decide +kernel
theorem jo_171_70 : jb_op 171 70 = some (.getfield 182, 1, 1, 1) := by decide +kernel
theorem jo_171_73 : jb_op 171 73 = some (.iload_n 1, 99, 0, 0) := by decide +kernel
theorem jo_171_74 : jb_op 171 74 = some (.invokevirtual 164, 2, 6, 1) := by decide +kernel
theorem jo_171_78 : jb_op 171 78 = some (.aload_n 0, 99, 0, 0) := by decide +kernel
theorem jo_171_79 : jb_op 171 79 = some (.getfield 10, 0, 10, 0) := by decide +kernel
theorem jo_171_82 : jb_op 171 82 = some (.getfield 124, 1, 9, 1) := by decide +kernel
theorem jo_171_85 : jb_op 171 85 = some (.iload_n 1, 99, 0, 0) := by decide +kernel
theorem jo_171_86 : jb_op 171 86 = some (.iconst 5, 99, 0, 0) := by decide +kernel
theorem jo_171_87 : jb_op 171 87 = some (.invokevirtual 185, 2, 131, 2) := by decide +kernel
theorem jh_131_171 : jb_ht 131 < jb_ht 171 := by decide +kernel
theorem jo_171_91 : jb_op 171 91 = some (.bipush (-2), 99, 0, 0) := by decide +kernel
theorem jo_171_93 : jb_op 171 93 = some (.ireturn, 99, 0, 0) := by decide +kernel
theorem jo_171_90 : jb_op 171 90 = some (.ireturn, 99, 0, 0) := by decide +kernel
theorem jo_171_77 : jb_op 171 77 = some (.ireturn, 99, 0, 0) := by decide +kernel
theorem jo_171_62 : jb_op 171 62 = some (.ireturn, 99, 0, 0) := by decide +kernel
theorem jl_171 : jb_ml 171 = 3 := by decide +kernel
theorem jo_172_0 : jb_op 172 0 = some (.aload_n 3, 99, 0, 0) := by decide +kernel
theorem jo_172_1 : jb_op 172 1 = some (.invokevirtual 73, 2, 13, 0) := by decide +kernel
theorem jh_13_172 : jb_ht 13 < jb_ht 172 := by decide +kernel
theorem jo_172_4 : jb_op 172 4 = some (.aload_n 0, 99, 0, 0) := by decide +kernel
theorem jo_172_5 : jb_op 172 5 = some (.iconst 0, 99, 0, 0) := by decide +kernel
theorem jo_172_6 : jb_op 172 6 = some (.putfield 20, 0, 3, 1) := by decide +kernel
theorem jf_279_1 : jm_f 279 1 = some none := by decide +kernel
theorem jty_3_1 : jb_Ty 3 1 = .int ∧ (jb_T 3 1).2.2.2 = false := by decide +kernel
theorem jo_172_9 : jb_op 172 9 = some (.aload_n 0, 99, 0, 0) := by decide +kernel
theorem jo_172_10 : jb_op 172 10 = some (.aload_n 1, 99, 0, 0) := by decide +kernel
theorem jo_172_11 : jb_op 172 11 = some (.aload_n 2, 99, 0, 0) := by decide +kernel
theorem jo_172_12 : jb_op 172 12 = some (.invokevirtual 76, 2, 134, 2) := by decide +kernel
theorem jh_134_172 : jb_ht 134 < jb_ht 172 := by decide +kernel
theorem jw_134 : jb_ow 134 = 3 := by decide +kernel
theorem jo_172_15 : jb_op 172 15 = some (.iconst 1, 99, 0, 0) := by decide +kernel
theorem jo_172_16 : jb_op 172 16 = some (.if_icmp .eq (5), 99, 0, 0) := by decide +kernel
theorem jo_172_21 : jb_op 172 21 = some (.iconst 0, 99, 0, 0) := by decide +kernel
theorem jo_172_22 : jb_op 172 22 = some (.istore 4, 99, 0, 0) := by decide +kernel
theorem jo_172_24 : jb_op 172 24 = some (.iconst 0, 99, 0, 0) := by decide +kernel
theorem jo_172_25 : jb_op 172 25 = some (.istore 5, 99, 0, 0) := by decide +kernel
theorem jo_172_27 : jb_op 172 27 = some (.iconst 0, 99, 0, 0) := by decide +kernel
theorem jo_172_28 : jb_op 172 28 = some (.istore 6, 99, 0, 0) := by decide +kernel
theorem jo_172_19 : jb_op 172 19 = some (.iconst 0, 99, 0, 0) := by decide +kernel
theorem jo_172_20 : jb_op 172 20 = some (.ireturn, 99, 0, 0) := by decide +kernel
theorem jr_172 : jb_ret 172 = (some .boolean) := by decide +kernel
theorem jo_172_30 : jb_op 172 30 = some (.iload 6, 99, 0, 0) := by decide +kernel
theorem jo_172_32 : jb_op 172 32 = some (.aload_n 2, 99, 0, 0) := by decide +kernel
theorem jo_172_33 : jb_op 172 33 = some (.invokevirtual 24, 2, 12, 0) := by decide +kernel
theorem jh_12_172 : jb_ht 12 < jb_ht 172 := by decide +kernel
theorem jo_172_36 : jb_op 172 36 = some (.if_icmp .ge (83), 99, 0, 0) := by decide +kernel
theorem jo_172_119 : jb_op 172 119 = some (.iconst 1, 99, 0, 0) := by decide +kernel
theorem jo_172_120 : jb_op 172 120 = some (.ireturn, 99, 0, 0) := by decide +kernel
theorem jo_172_39 : jb_op 172 39 = some (.iload 4, 99, 0, 0) := by decide +kernel
theorem jo_172_41 : jb_op 172 41 = some (.aload_n 2, 99, 0, 0) := by decide +kernel
theorem jo_172_42 : jb_op 172 42 = some (.invokevirtual 24, 2, 12, 0) := by decide +kernel
theorem jo_172_45 : jb_op 172 45 = some (.if_icmp .ge (74), 99, 0, 0) := by decide +kernel
theorem jo_172_48 : jb_op 172 48 = some (.aload_n 2, 99, 0, 0) := by decide +kernel
theorem jo_172_49 : jb_op 172 49 = some (.iload 4, 99, 0, 0) := by decide +kernel
theorem jo_172_51 : jb_op 172 51 = some (.invokevirtual 43, 2, 6, 1) := by decide +kernel
theorem jh_6_172 : jb_ht 6 < jb_ht 172 := by decide +kernel
theorem jo_172_54 : jb_op 172 54 = some (.iconst 5, 99, 0, 0) := by decide +kernel
theorem jo_172_55 : jb_op 172 55 = some (.if_icmp .ne (19), 99, 0, 0) := by decide +kernel
theorem jo_172_58 : jb_op 172 58 = some (.aload_n 0, 99, 0, 0) := by decide +kernel
theorem jo_172_59 : jb_op 172 59 = some (.dup, 99, 0, 0) := by decide +kernel
theorem jo_172_60 : jb_op 172 60 = some (.getfield 20, 0, 3, 1) := by decide +kernel
theorem jo_172_63 : jb_op 172 63 = some (.iconst 1, 99, 0, 0) := by decide +kernel
theorem jo_172_64 : jb_op 172 64 = some (.iadd, 99, 0, 0) := by decide +kernel
theorem jo_172_65 : jb_op 172 65 = some (.putfield 20, 0, 3, 1) := by decide +kernel
theorem jo_172_68 : jb_op 172 68 = some (.iinc 4 1, 99, 0, 0) := by decide +kernel
theorem jo_172_71 : jb_op 172 71 = some (.goto 42, 99, 0, 0) := by decide +kernel
theorem jo_172_113 : jb_op 172 113 = some (.iinc 6 1, 99, 0, 0) := by decide +kernel
theorem jo_172_116 : jb_op 172 116 = some (.goto (-86), 99, 0, 0) := by decide +kernel
theorem jo_172_74 : jb_op 172 74 = some (.aload_n 0, 99, 0, 0) := by decide +kernel
theorem jo_172_75 : jb_op 172 75 = some (.aload_n 1, 99, 0, 0) := by decide +kernel
theorem jo_172_76 : jb_op 172 76 = some (.aload_n 2, 99, 0, 0) := by decide +kernel
theorem jo_172_77 : jb_op 172 77 = some (.iload 4, 99, 0, 0) := by decide +kernel
theorem jo_172_79 : jb_op 172 79 = some (.iload 5, 99, 0, 0) := by decide +kernel
theorem jo_172_81 : jb_op 172 81 = some (.invokevirtual 80, 2, 135, 4) := by decide +kernel
theorem jh_135_172 : jb_ht 135 < jb_ht 172 := by decide +kernel
theorem jw_135 : jb_ow 135 = 3 := by decide +kernel
theorem jo_172_84 : jb_op 172 84 = some (.istore 7, 99, 0, 0) := by decide +kernel
theorem jo_172_86 : jb_op 172 86 = some (.aload_n 3, 99, 0, 0) := by decide +kernel
theorem jo_172_87 : jb_op 172 87 = some (.iload 7, 99, 0, 0) := by decide +kernel
theorem jo_172_89 : jb_op 172 89 = some (.invokevirtual 84, 2, 1, 1) := by decide +kernel
theorem jh_1_172 : jb_ht 1 < jb_ht 172 := by decide +kernel
theorem jo_172_92 : jb_op 172 92 = some (.iload 4, 99, 0, 0) := by decide +kernel
theorem jo_172_94 : jb_op 172 94 = some (.aload_n 1, 99, 0, 0) := by decide +kernel
theorem jo_172_95 : jb_op 172 95 = some (.getfield 59, 1, 1, 1) := by decide +kernel
theorem jo_172_98 : jb_op 172 98 = some (.iload 7, 99, 0, 0) := by decide +kernel
theorem jo_172_100 : jb_op 172 100 = some (.invokevirtual 43, 2, 6, 1) := by decide +kernel
theorem jo_172_103 : jb_op 172 103 = some (.iadd, 99, 0, 0) := by decide +kernel
theorem jo_172_104 : jb_op 172 104 = some (.istore 4, 99, 0, 0) := by decide +kernel
theorem jo_172_106 : jb_op 172 106 = some (.iload 5, 99, 0, 0) := by decide +kernel
theorem jo_172_108 : jb_op 172 108 = some (.invokestatic 62, 4, 17, 1) := by decide +kernel
theorem jh_17_172 : jb_ht 17 < jb_ht 172 := by decide +kernel
theorem jo_172_111 : jb_op 172 111 = some (.istore 5, 99, 0, 0) := by decide +kernel
theorem jl_172 : jb_ml 172 = 8 := by decide +kernel
theorem jo_173_0 : jb_op 173 0 = some (.aload_n 0, 99, 0, 0) := by decide +kernel
theorem jo_173_1 : jb_op 173 1 = some (.getfield 10, 0, 10, 0) := by decide +kernel
theorem jo_173_4 : jb_op 173 4 = some (.getfield 199, 1, 9, 3) := by decide +kernel
theorem jo_173_7 : jb_op 173 7 = some (.iload_n 1, 99, 0, 0) := by decide +kernel
theorem jo_173_8 : jb_op 173 8 = some (.invokevirtual 203, 2, 76, 1) := by decide +kernel
theorem jh_76_173 : jb_ht 76 < jb_ht 173 := by decide +kernel
theorem jw_76 : jb_ow 76 = 4 := by decide +kernel
theorem jo_173_11 : jb_op 173 11 = some (.ifCond .ne (5), 99, 0, 0) := by decide +kernel
theorem jo_173_14 : jb_op 173 14 = some (.iconst (-1), 99, 0, 0) := by decide +kernel
theorem jo_173_15 : jb_op 173 15 = some (.ireturn, 99, 0, 0) := by decide +kernel
theorem jr_173 : jb_ret 173 = (some .int) := by decide +kernel
theorem jo_173_16 : jb_op 173 16 = some (.aload_n 0, 99, 0, 0) := by decide +kernel
theorem jo_173_17 : jb_op 173 17 = some (.getfield 10, 0, 10, 0) := by decide +kernel
theorem jo_173_20 : jb_op 173 20 = some (.getfield 199, 1, 9, 3) := by decide +kernel
theorem jo_173_23 : jb_op 173 23 = some (.iload_n 1, 99, 0, 0) := by decide +kernel
theorem jo_173_24 : jb_op 173 24 = some (.aload_n 0, 99, 0, 0) := by decide +kernel
theorem jo_173_25 : jb_op 173 25 = some (.getfield 65, 0, 10, 10) := by decide +kernel
theorem jo_173_28 : jb_op 173 28 = some (.invokevirtual 206, 2, 133, 2) := by decide +kernel
theorem jh_133_173 : jb_ht 133 < jb_ht 173 := by decide +kernel
theorem jw_133 : jb_ow 133 = 4 := by decide +kernel
theorem jo_173_31 : jb_op 173 31 = some (.aload_n 0, 99, 0, 0) := by decide +kernel
theorem jo_173_32 : jb_op 173 32 = some (.getfield 39, 0, 10, 5) := by decide +kernel
theorem jf_0_5 : jm_f 0 5 = some (some 279) := by decide +kernel
theorem jo_173_35 : jb_op 173 35 = some (.aload_n 0, 99, 0, 0) := by decide +kernel
theorem jo_173_36 : jb_op 173 36 = some (.getfield 10, 0, 10, 0) := by decide +kernel
theorem jo_173_39 : jb_op 173 39 = some (.getfield 124, 1, 9, 1) := by decide +kernel
theorem jo_173_42 : jb_op 173 42 = some (.aload_n 0, 99, 0, 0) := by decide +kernel
theorem jo_173_43 : jb_op 173 43 = some (.getfield 65, 0, 10, 10) := by decide +kernel
theorem jo_173_46 : jb_op 173 46 = some (.invokevirtual 210, 2, 136, 2) := by decide +kernel
theorem jh_136_173 : jb_ht 136 < jb_ht 173 := by decide +kernel
theorem jw_136 : jb_ow 136 = 3 := by decide +kernel
theorem jo_173_49 : jb_op 173 49 = some (.ireturn, 99, 0, 0) := by decide +kernel
theorem jl_173 : jb_ml 173 = 2 := by decide +kernel
theorem jo_174_0 : jb_op 174 0 = some (.aload_n 0, 99, 0, 0) := by decide +kernel
theorem jo_174_1 : jb_op 174 1 = some (.getfield 10, 0, 10, 0) := by decide +kernel
theorem jo_174_4 : jb_op 174 4 = some (.getfield 199, 1, 9, 3) := by decide +kernel
theorem jo_174_7 : jb_op 174 7 = some (.iload_n 1, 99, 0, 0) := by decide +kernel
theorem jo_174_8 : jb_op 174 8 = some (.invokevirtual 203, 2, 76, 1) := by decide +kernel
theorem jh_76_174 : jb_ht 76 < jb_ht 174 := by decide +kernel
theorem jo_174_11 : jb_op 174 11 = some (.ifCond .ne (5), 99, 0, 0) := by decide +kernel
theorem jo_174_14 : jb_op 174 14 = some (.iconst (-1), 99, 0, 0) := by decide +kernel
theorem jo_174_15 : jb_op 174 15 = some (.ireturn, 99, 0, 0) := by decide +kernel
theorem jr_174 : jb_ret 174 = (some .int) := by decide +kernel
theorem jo_174_16 : jb_op 174 16 = some (.aload_n 0, 99, 0, 0) := by decide +kernel
theorem jo_174_17 : jb_op 174 17 = some (.getfield 10, 0, 10, 0) := by decide +kernel
theorem jo_174_20 : jb_op 174 20 = some (.getfield 199, 1, 9, 3) := by decide +kernel
theorem jo_174_23 : jb_op 174 23 = some (.iload_n 1, 99, 0, 0) := by decide +kernel
theorem jo_174_24 : jb_op 174 24 = some (.aload_n 0, 99, 0, 0) := by decide +kernel
theorem jo_174_25 : jb_op 174 25 = some (.getfield 65, 0, 10, 10) := by decide +kernel
theorem jo_174_28 : jb_op 174 28 = some (.invokevirtual 206, 2, 133, 2) := by decide +kernel
theorem jh_133_174 : jb_ht 133 < jb_ht 174 := by decide +kernel
theorem jo_174_31 : jb_op 174 31 = some (.aload_n 0, 99, 0, 0) := by decide +kernel
theorem jo_174_32 : jb_op 174 32 = some (.getfield 39, 0, 10, 5) := by decide +kernel
theorem jo_174_35 : jb_op 174 35 = some (.aload_n 0, 99, 0, 0) := by decide +kernel
theorem jo_174_36 : jb_op 174 36 = some (.getfield 10, 0, 10, 0) := by decide +kernel
theorem jo_174_39 : jb_op 174 39 = some (.getfield 124, 1, 9, 1) := by decide +kernel
theorem jo_174_42 : jb_op 174 42 = some (.aload_n 0, 99, 0, 0) := by decide +kernel
theorem jo_174_43 : jb_op 174 43 = some (.getfield 65, 0, 10, 10) := by decide +kernel
theorem jo_174_46 : jb_op 174 46 = some (.invokevirtual 214, 2, 134, 2) := by decide +kernel
theorem jh_134_174 : jb_ht 134 < jb_ht 174 := by decide +kernel
theorem jo_174_49 : jb_op 174 49 = some (.ireturn, 99, 0, 0) := by decide +kernel
theorem jl_174 : jb_ml 174 = 2 := by decide +kernel
theorem jo_175_0 : jb_op 175 0 = some (.aload_n 0, 99, 0, 0) := by decide +kernel
theorem jo_175_1 : jb_op 175 1 = some (.getfield 39, 0, 10, 5) := by decide +kernel
theorem jo_175_4 : jb_op 175 4 = some (.aload_n 0, 99, 0, 0) := by decide +kernel
theorem jo_175_5 : jb_op 175 5 = some (.getfield 10, 0, 10, 0) := by decide +kernel
theorem jo_175_8 : jb_op 175 8 = some (.getfield 124, 1, 9, 1) := by decide +kernel
theorem jo_175_11 : jb_op 175 11 = some (.aload_n 0, 99, 0, 0) := by decide +kernel
theorem jo_175_12 : jb_op 175 12 = some (.getfield 55, 0, 10, 7) := by decide +kernel
theorem jo_175_15 : jb_op 175 15 = some (.invokevirtual 210, 2, 136, 2) := by decide +kernel
theorem jh_136_175 : jb_ht 136 < jb_ht 175 := by decide +kernel
theorem jo_175_18 : jb_op 175 18 = some (.ireturn, 99, 0, 0) := by decide +kernel
theorem jr_175 : jb_ret 175 = (some .int) := by decide +kernel
theorem jl_175 : jb_ml 175 = 1 := by decide +kernel
theorem jo_176_0 : jb_op 176 0 = some (.aload_n 0, 99, 0, 0) := by decide +kernel
theorem jo_176_1 : jb_op 176 1 = some (.getfield 10, 0, 10, 0) := by decide +kernel
theorem jo_176_4 : jb_op 176 4 = some (.getfield 199, 1, 9, 3) := by decide +kernel
theorem jo_176_7 : jb_op 176 7 = some (.iload_n 1, 99, 0, 0) := by decide +kernel
theorem jo_176_8 : jb_op 176 8 = some (.invokevirtual 203, 2, 76, 1) := by decide +kernel
theorem jh_76_176 : jb_ht 76 < jb_ht 176 := by decide +kernel
theorem jo_176_11 : jb_op 176 11 = some (.ifCond .ne (5), 99, 0, 0) := by decide +kernel
theorem jo_176_14 : jb_op 176 14 = some (.iconst (-1), 99, 0, 0) := by decide +kernel
theorem jo_176_15 : jb_op 176 15 = some (.ireturn, 99, 0, 0) := by decide +kernel
theorem jr_176 : jb_ret 176 = (some .int) := by decide +kernel
theorem jo_176_16 : jb_op 176 16 = some (.iload_n 2, 99, 0, 0) := by decide +kernel
theorem jo_176_17 : jb_op 176 17 = some (.iconst 1, 99, 0, 0) := by decide +kernel
theorem jo_176_18 : jb_op 176 18 = some (.if_icmp .lt (9), 99, 0, 0) := by decide +kernel
theorem jo_176_27 : jb_op 176 27 = some (.bipush (-2), 99, 0, 0) := by decide +kernel
theorem jo_176_29 : jb_op 176 29 = some (.ireturn, 99, 0, 0) := by decide +kernel
theorem jo_176_21 : jb_op 176 21 = some (.iload_n 2, 99, 0, 0) := by decide +kernel
theorem jo_176_22 : jb_op 176 22 = some (.bipush 12, 99, 0, 0) := by decide +kernel
theorem jo_176_24 : jb_op 176 24 = some (.if_icmp .le (6), 99, 0, 0) := by decide +kernel
theorem jo_176_30 : jb_op 176 30 = some (.aload_n 0, 99, 0, 0) := by decide +kernel
theorem jo_176_31 : jb_op 176 31 = some (.getfield 10, 0, 10, 0) := by decide +kernel
theorem jo_176_34 : jb_op 176 34 = some (.getfield 199, 1, 9, 3) := by decide +kernel
theorem jo_176_37 : jb_op 176 37 = some (.iload_n 1, 99, 0, 0) := by decide +kernel
theorem jo_176_38 : jb_op 176 38 = some (.aload_n 0, 99, 0, 0) := by decide +kernel
theorem jo_176_39 : jb_op 176 39 = some (.getfield 65, 0, 10, 10) := by decide +kernel
theorem jo_176_42 : jb_op 176 42 = some (.invokevirtual 206, 2, 133, 2) := by decide +kernel
theorem jh_133_176 : jb_ht 133 < jb_ht 176 := by decide +kernel
theorem jo_176_45 : jb_op 176 45 = some (.aload_n 0, 99, 0, 0) := by decide +kernel
theorem jo_176_46 : jb_op 176 46 = some (.getfield 71, 0, 10, 12) := by decide +kernel
theorem jf_0_12 : jm_f 0 12 = some (some 301) := by decide +kernel
theorem jo_176_49 : jb_op 176 49 = some (.invokevirtual 233, 2, 13, 0) := by decide +kernel
theorem jc_301 : jm_c 301 = 6 := by decide +kernel
theorem jh_13_176 : jb_ht 13 < jb_ht 176 := by decide +kernel
theorem jo_176_52 : jb_op 176 52 = some (.iconst 0, 99, 0, 0) := by decide +kernel
theorem jo_176_53 : jb_op 176 53 = some (.istore_n 3, 99, 0, 0) := by decide +kernel
theorem jo_176_54 : jb_op 176 54 = some (.iload_n 3, 99, 0, 0) := by decide +kernel
theorem jo_176_55 : jb_op 176 55 = some (.aload_n 0, 99, 0, 0) := by decide +kernel
theorem jo_176_56 : jb_op 176 56 = some (.getfield 65, 0, 10, 10) := by decide +kernel
theorem jo_176_59 : jb_op 176 59 = some (.invokevirtual 120, 2, 12, 0) := by decide +kernel
theorem jh_12_176 : jb_ht 12 < jb_ht 176 := by decide +kernel
theorem jo_176_62 : jb_op 176 62 = some (.if_icmp .ge (22), 99, 0, 0) := by decide +kernel
theorem jo_176_84 : jb_op 176 84 = some (.aload_n 0, 99, 0, 0) := by decide +kernel
theorem jo_176_85 : jb_op 176 85 = some (.getfield 39, 0, 10, 5) := by decide +kernel
theorem jo_176_88 : jb_op 176 88 = some (.aload_n 0, 99, 0, 0) := by decide +kernel
theorem jo_176_89 : jb_op 176 89 = some (.getfield 10, 0, 10, 0) := by decide +kernel
theorem jo_176_92 : jb_op 176 92 = some (.getfield 124, 1, 9, 1) := by decide +kernel
theorem jo_176_95 : jb_op 176 95 = some (.aload_n 0, 99, 0, 0) := by decide +kernel
theorem jo_176_96 : jb_op 176 96 = some (.getfield 71, 0, 10, 12) := by decide +kernel
theorem jo_176_99 : jb_op 176 99 = some (.invokevirtual 210, 2, 136, 2) := by decide +kernel
theorem jh_136_176 : jb_ht 136 < jb_ht 176 := by decide +kernel
theorem jo_176_65 : jb_op 176 65 = some (.aload_n 0, 99, 0, 0) := by decide +kernel
theorem jo_176_66 : jb_op 176 66 = some (.getfield 71, 0, 10, 12) := by decide +kernel
theorem jo_176_69 : jb_op 176 69 = some (.aload_n 0, 99, 0, 0) := by decide +kernel
theorem jo_176_70 : jb_op 176 70 = some (.iload_n 3, 99, 0, 0) := by decide +kernel
theorem jo_176_71 : jb_op 176 71 = some (.iload_n 2, 99, 0, 0) := by decide +kernel
theorem jo_176_72 : jb_op 176 72 = some (.invokevirtual 236, 2, 77, 2) := by decide +kernel
theorem jh_77_176 : jb_ht 77 < jb_ht 176 := by decide +kernel
theorem jw_77 : jb_ow 77 = 10 := by decide +kernel
theorem jo_176_75 : jb_op 176 75 = some (.invokevirtual 117, 2, 1, 1) := by decide +kernel
theorem jh_1_176 : jb_ht 1 < jb_ht 176 := by decide +kernel
theorem jo_176_78 : jb_op 176 78 = some (.iinc 3 1, 99, 0, 0) := by decide +kernel
theorem jo_176_81 : jb_op 176 81 = some (.goto (-27), 99, 0, 0) := by decide +kernel
theorem jo_176_102 : jb_op 176 102 = some (.ireturn, 99, 0, 0) := by decide +kernel
theorem jl_176 : jb_ml 176 = 4 := by decide +kernel
theorem jo_177_0 : jb_op 177 0 = some (.iconst 0, 99, 0, 0) := by decide +kernel
theorem jo_177_1 : jb_op 177 1 = some (.istore_n 1, 99, 0, 0) := by decide +kernel
theorem jo_177_2 : jb_op 177 2 = some (.iload_n 1, 99, 0, 0) := by decide +kernel
theorem jo_177_3 : jb_op 177 3 = some (.aload_n 0, 99, 0, 0) := by decide +kernel
theorem jo_177_4 : jb_op 177 4 = some (.getfield 10, 0, 10, 0) := by decide +kernel
theorem jo_177_7 : jb_op 177 7 = some (.getfield 199, 1, 9, 3) := by decide +kernel
theorem jo_177_10 : jb_op 177 10 = some (.getfield 245, 1, 4, 0) := by decide +kernel
theorem jo_177_13 : jb_op 177 13 = some (.invokevirtual 120, 2, 12, 0) := by decide +kernel
theorem jh_12_177 : jb_ht 12 < jb_ht 177 := by decide +kernel
theorem jo_177_16 : jb_op 177 16 = some (.if_icmp .ge (67), 99, 0, 0) := by decide +kernel
theorem jo_177_83 : jb_op 177 83 = some (.aload_n 0, 99, 0, 0) := by decide +kernel
theorem jo_177_84 : jb_op 177 84 = some (.getfield 10, 0, 10, 0) := by decide +kernel
theorem jo_177_87 : jb_op 177 87 = some (.getfield 124, 1, 9, 1) := by decide +kernel
theorem jo_177_90 : jb_op 177 90 = some (.invokevirtual 246, 2, 141, 0) := by decide +kernel
theorem jh_141_177 : jb_ht 141 < jb_ht 177 := by decide +kernel
theorem jw_141 : jb_ow 141 = 1 := by decide +kernel
theorem jo_177_19 : jb_op 177 19 = some (.aload_n 0, 99, 0, 0) := by decide +kernel
theorem jo_177_20 : jb_op 177 20 = some (.getfield 10, 0, 10, 0) := by decide +kernel
theorem jo_177_23 : jb_op 177 23 = some (.getfield 199, 1, 9, 3) := by decide +kernel
theorem jo_177_26 : jb_op 177 26 = some (.iload_n 1, 99, 0, 0) := by decide +kernel
theorem jo_177_27 : jb_op 177 27 = some (.aload_n 0, 99, 0, 0) := by decide +kernel
theorem jo_177_28 : jb_op 177 28 = some (.getfield 65, 0, 10, 10) := by decide +kernel
theorem jo_177_31 : jb_op 177 31 = some (.invokevirtual 206, 2, 133, 2) := by decide +kernel
theorem jh_133_177 : jb_ht 133 < jb_ht 177 := by decide +kernel
theorem jo_177_34 : jb_op 177 34 = some (.aload_n 0, 99, 0, 0) := by decide +kernel
theorem jo_177_35 : jb_op 177 35 = some (.getfield 39, 0, 10, 5) := by decide +kernel
theorem jo_177_38 : jb_op 177 38 = some (.aload_n 0, 99, 0, 0) := by decide +kernel
theorem jo_177_39 : jb_op 177 39 = some (.getfield 10, 0, 10, 0) := by decide +kernel
theorem jo_177_42 : jb_op 177 42 = some (.getfield 124, 1, 9, 1) := by decide +kernel
theorem jo_177_45 : jb_op 177 45 = some (.aload_n 0, 99, 0, 0) := by decide +kernel
theorem jo_177_46 : jb_op 177 46 = some (.getfield 65, 0, 10, 10) := by decide +kernel
theorem jo_177_49 : jb_op 177 49 = some (.invokevirtual 210, 2, 136, 2) := by decide +kernel
theorem jh_136_177 : jb_ht 136 < jb_ht 177 := by decide +kernel
theorem jo_177_52 : jb_op 177 52 = some (.istore_n 2, 99, 0, 0) := by decide +kernel
theorem jo_177_53 : jb_op 177 53 = some (.iload_n 2, 99, 0, 0) := by decide +kernel
theorem jo_177_54 : jb_op 177 54 = some (.aload_n 0, 99, 0, 0) := by decide +kernel
theorem jo_177_55 : jb_op 177 55 = some (.getfield 39, 0, 10, 5) := by decide +kernel
theorem jo_177_58 : jb_op 177 58 = some (.aload_n 0, 99, 0, 0) := by decide +kernel
theorem jo_177_59 : jb_op 177 59 = some (.getfield 10, 0, 10, 0) := by decide +kernel
theorem jo_177_62 : jb_op 177 62 = some (.getfield 124, 1, 9, 1) := by decide +kernel
theorem jo_177_65 : jb_op 177 65 = some (.aload_n 0, 99, 0, 0) := by decide +kernel
theorem jo_177_66 : jb_op 177 66 = some (.getfield 65, 0, 10, 10) := by decide +kernel
theorem jo_177_69 : jb_op 177 69 = some (.invokevirtual 214, 2, 134, 2) := by decide +kernel
theorem jh_134_177 : jb_ht 134 < jb_ht 177 := by decide +kernel
theorem jo_177_72 : jb_op 177 72 = some (.if_icmp .eq (5), 99, 0, 0) := by decide +kernel
theorem jo_177_77 : jb_op 177 77 = some (.iinc 1 1, 99, 0, 0) := by decide +kernel
theorem jo_177_80 : jb_op 177 80 = some (.goto (-78), 99, 0, 0) := by decide +kernel
theorem jo_177_75 : jb_op 177 75 = some (.iconst 0, 99, 0, 0) := by decide +kernel
theorem jo_177_76 : jb_op 177 76 = some (.ireturn, 99, 0, 0) := by decide +kernel
theorem jr_177 : jb_ret 177 = (some .boolean) := by decide +kernel
theorem jo_177_93 : jb_op 177 93 = some (.ifCond .eq (30), 99, 0, 0) := by decide +kernel
theorem jo_177_123 : jb_op 177 123 = some (.iconst 0, 99, 0, 0) := by decide +kernel
theorem jo_177_124 : jb_op 177 124 = some (.ireturn, 99, 0, 0) := by decide +kernel
theorem jo_177_96 : jb_op 177 96 = some (.aload_n 0, 99, 0, 0) := by decide +kernel
theorem jo_177_97 : jb_op 177 97 = some (.getfield 10, 0, 10, 0) := by decide +kernel
theorem jo_177_100 : jb_op 177 100 = some (.getfield 92, 1, 9, 0) := by decide +kernel
theorem jo_177_103 : jb_op 177 103 = some (.getfield 170, 1, 0, 2) := by decide +kernel
theorem jo_177_106 : jb_op 177 106 = some (.invokevirtual 249, 2, 79, 0) := by decide +kernel
theorem jh_79_177 : jb_ht 79 < jb_ht 177 := by decide +kernel
theorem jo_177_109 : jb_op 177 109 = some (.aload_n 0, 99, 0, 0) := by decide +kernel
theorem jo_177_110 : jb_op 177 110 = some (.getfield 10, 0, 10, 0) := by decide +kernel
theorem jo_177_113 : jb_op 177 113 = some (.getfield 252, 1, 9, 5) := by decide +kernel
theorem jo_177_116 : jb_op 177 116 = some (.if_icmp .ne (7), 99, 0, 0) := by decide +kernel
theorem jo_177_119 : jb_op 177 119 = some (.iconst 1, 99, 0, 0) := by decide +kernel
theorem jo_177_120 : jb_op 177 120 = some (.goto 4, 99, 0, 0) := by decide +kernel
theorem jl_177 : jb_ml 177 = 3 := by decide +kernel
theorem jo_180_0 : jb_op 180 0 = some (.aload_n 0, 99, 0, 0) := by decide +kernel
theorem jo_180_1 : jb_op 180 1 = some (.aload_n 0, 99, 0, 0) := by decide +kernel
theorem jo_180_2 : jb_op 180 2 = some (.getfield 21, 0, 2, 2) := by decide +kernel
theorem jo_180_5 : jb_op 180 5 = some (.iconst 1, 99, 0, 0) := by decide +kernel
theorem jo_180_6 : jb_op 180 6 = some (.isub, 99, 0, 0) := by decide +kernel
theorem jo_180_7 : jb_op 180 7 = some (.invokevirtual 25, 2, 9, 1) := by decide +kernel
theorem jh_9_180 : jb_ht 9 < jb_ht 180 := by decide +kernel
theorem jo_180_10 : jb_op 180 10 = some (.astore_n 2, 99, 0, 0) := by decide +kernel
theorem jo_180_11 : jb_op 180 11 = some (.aload_n 2, 99, 0, 0) := by decide +kernel
theorem jo_180_12 : jb_op 180 12 = some (.ifnonnull 4, 99, 0, 0) := by decide +kernel
theorem jo_180_16 : jb_op 180 16 = some (.aload_n 1, 99, 0, 0) := by decide +kernel
theorem jo_180_17 : jb_op 180 17 = some (.aload_n 2, 99, 0, 0) := by decide +kernel
theorem jo_180_18 : jb_op 180 18 = some (.invokevirtual 29, 2, 123, 1) := by decide +kernel
theorem jh_123_180 : jb_ht 123 < jb_ht 180 := by decide +kernel
theorem jo_180_21 : jb_op 180 21 = some (.aload_n 0, 99, 0, 0) := by decide +kernel
theorem jo_180_22 : jb_op 180 22 = some (.dup, 99, 0, 0) := by decide +kernel
theorem jo_180_23 : jb_op 180 23 = some (.getfield 21, 0, 2, 2) := by decide +kernel
theorem jo_180_26 : jb_op 180 26 = some (.iconst 1, 99, 0, 0) := by decide +kernel
theorem jo_180_27 : jb_op 180 27 = some (.isub, 99, 0, 0) := by decide +kernel
theorem jo_180_28 : jb_op 180 28 = some (.putfield 21, 0, 2, 2) := by decide +kernel
theorem jo_180_31 : jb_op 180 31 = some (.return_, 99, 0, 0) := by decide +kernel
theorem jr_180 : jb_ret 180 = none := by decide +kernel
theorem jl_180 : jb_ml 180 = 3 := by decide +kernel
theorem jo_181_0 : jb_op 181 0 = some (.aload_n 0, 99, 0, 0) := by decide +kernel
theorem jo_181_1 : jb_op 181 1 = some (.getfield 19, 0, 10, 2) := by decide +kernel
theorem jf_0_2 : jm_f 0 2 = some (some 51) := by decide +kernel
theorem jo_181_4 : jb_op 181 4 = some (.aload_n 0, 99, 0, 0) := by decide +kernel
theorem jo_181_5 : jb_op 181 5 = some (.getfield 10, 0, 10, 0) := by decide +kernel
theorem jo_181_8 : jb_op 181 8 = some (.invokevirtual 88, 2, 123, 1) := by decide +kernel
theorem jc_51 : jm_c 51 = 9 := by decide +kernel
theorem jh_123_181 : jb_ht 123 < jb_ht 181 := by decide +kernel
theorem jo_181_11 : jb_op 181 11 = some (.aload_n 0, 99, 0, 0) := by decide +kernel
theorem jo_181_12 : jb_op 181 12 = some (.iconst 1, 99, 0, 0) := by decide +kernel
theorem jo_181_13 : jb_op 181 13 = some (.putfield 80, 0, 10, 15) := by decide +kernel
theorem jf_0_15 : jm_f 0 15 = some none := by decide +kernel
theorem jty_10_15 : jb_Ty 10 15 = .boolean ∧ (jb_T 10 15).2.2.2 = false := by decide +kernel
theorem jo_181_16 : jb_op 181 16 = some (.aload_n 0, 99, 0, 0) := by decide +kernel
theorem jo_181_17 : jb_op 181 17 = some (.getfield 10, 0, 10, 0) := by decide +kernel
theorem jo_181_20 : jb_op 181 20 = some (.getfield 124, 1, 9, 1) := by decide +kernel
theorem jo_181_23 : jb_op 181 23 = some (.getfield 179, 1, 1, 0) := by decide +kernel
theorem jo_181_26 : jb_op 181 26 = some (.invokevirtual 120, 2, 12, 0) := by decide +kernel
theorem jh_12_181 : jb_ht 12 < jb_ht 181 := by decide +kernel
theorem jo_181_29 : jb_op 181 29 = some (.ireturn, 99, 0, 0) := by decide +kernel
theorem jr_181 : jb_ret 181 = (some .int) := by decide +kernel
theorem jl_181 : jb_ml 181 = 1 := by decide +kernel
theorem jo_182_0 : jb_op 182 0 = some (.aload_n 0, 99, 0, 0) := by decide +kernel
theorem jo_182_1 : jb_op 182 1 = some (.getfield 80, 0, 10, 15) := by decide +kernel
theorem jo_182_4 : jb_op 182 4 = some (.ifCond .ne (6), 99, 0, 0) := by decide +kernel
theorem jo_182_7 : jb_op 182 7 = some (.bipush (-3), 99, 0, 0) := by decide +kernel
theorem jo_182_9 : jb_op 182 9 = some (.ireturn, 99, 0, 0) := by decide +kernel
theorem jr_182 : jb_ret 182 = (some .int) := by decide +kernel
theorem jo_182_10 : jb_op 182 10 = some (.aload_n 0, 99, 0, 0) := by decide +kernel
theorem jo_182_11 : jb_op 182 11 = some (.getfield 10, 0, 10, 0) := by decide +kernel
theorem jo_182_14 : jb_op 182 14 = some (.aload_n 0, 99, 0, 0) := by decide +kernel
theorem jo_182_15 : jb_op 182 15 = some (.getfield 19, 0, 10, 2) := by decide +kernel
theorem jo_182_18 : jb_op 182 18 = some (.invokevirtual 88, 2, 123, 1) := by decide +kernel
theorem jh_123_182 : jb_ht 123 < jb_ht 182 := by decide +kernel
theorem jo_182_21 : jb_op 182 21 = some (.aload_n 0, 99, 0, 0) := by decide +kernel
theorem jo_182_22 : jb_op 182 22 = some (.getfield 25, 0, 10, 3) := by decide +kernel
theorem jo_182_25 : jb_op 182 25 = some (.invokevirtual 296, 2, 29, 0) := by decide +kernel
theorem jh_29_182 : jb_ht 29 < jb_ht 182 := by decide +kernel
theorem jw_29 : jb_ow 29 = 2 := by decide +kernel
theorem jo_182_28 : jb_op 182 28 = some (.aload_n 0, 99, 0, 0) := by decide +kernel
theorem jo_182_29 : jb_op 182 29 = some (.getfield 10, 0, 10, 0) := by decide +kernel
theorem jo_182_32 : jb_op 182 32 = some (.getfield 124, 1, 9, 1) := by decide +kernel
theorem jo_182_35 : jb_op 182 35 = some (.getfield 179, 1, 1, 0) := by decide +kernel
theorem jo_182_38 : jb_op 182 38 = some (.invokevirtual 120, 2, 12, 0) := by decide +kernel
theorem jh_12_182 : jb_ht 12 < jb_ht 182 := by decide +kernel
theorem jo_182_41 : jb_op 182 41 = some (.ireturn, 99, 0, 0) := by decide +kernel
theorem jl_182 : jb_ml 182 = 1 := by decide +kernel
theorem jo_183_0 : jb_op 183 0 = some (.iload_n 1, 99, 0, 0) := by decide +kernel
theorem jo_183_1 : jb_op 183 1 = some (.invokestatic 97, 4, 91, 1) := by decide +kernel
theorem jh_91_183 : jb_ht 91 < jb_ht 183 := by decide +kernel
theorem jo_183_4 : jb_op 183 4 = some (.ifCond .eq (10), 99, 0, 0) := by decide +kernel
theorem jo_183_14 : jb_op 183 14 = some (.iload_n 1, 99, 0, 0) := by decide +kernel
theorem jo_183_15 : jb_op 183 15 = some (.invokestatic 97, 4, 91, 1) := by decide +kernel
theorem jo_183_7 : jb_op 183 7 = some (.iload_n 2, 99, 0, 0) := by decide +kernel
theorem jo_183_8 : jb_op 183 8 = some (.invokestatic 101, 4, 92, 1) := by decide +kernel
theorem jh_92_183 : jb_ht 92 < jb_ht 183 := by decide +kernel
theorem jo_183_11 : jb_op 183 11 = some (.ifCond .ne (17), 99, 0, 0) := by decide +kernel
theorem jo_183_28 : jb_op 183 28 = some (.aload_n 0, 99, 0, 0) := by decide +kernel
theorem jo_183_29 : jb_op 183 29 = some (.invokevirtual 104, 2, 93, 0) := by decide +kernel
theorem jh_93_183 : jb_ht 93 < jb_ht 183 := by decide +kernel
theorem jw_93 : jb_ow 93 = 11 := by decide +kernel
theorem jo_183_32 : jb_op 183 32 = some (.aload_n 0, 99, 0, 0) := by decide +kernel
theorem jo_183_33 : jb_op 183 33 = some (.aload_n 0, 99, 0, 0) := by decide +kernel
theorem jo_183_34 : jb_op 183 34 = some (.iload_n 1, 99, 0, 0) := by decide +kernel
theorem jo_183_35 : jb_op 183 35 = some (.invokestatic 107, 4, 33, 1) := by decide +kernel
theorem jh_33_183 : jb_ht 33 < jb_ht 183 := by decide +kernel
theorem jo_183_38 : jb_op 183 38 = some (.iconst 0, 99, 0, 0) := by decide +kernel
theorem jo_183_39 : jb_op 183 39 = some (.iadd, 99, 0, 0) := by decide +kernel
theorem jo_183_40 : jb_op 183 40 = some (.iload_n 2, 99, 0, 0) := by decide +kernel
theorem jo_183_41 : jb_op 183 41 = some (.invokevirtual 111, 2, 94, 2) := by decide +kernel
theorem jh_94_183 : jb_ht 94 < jb_ht 183 := by decide +kernel
theorem jw_94 : jb_ow 94 = 11 := by decide +kernel
theorem jo_183_44 : jb_op 183 44 = some (.invokevirtual 115, 2, 149, 1) := by decide +kernel
theorem jh_149_183 : jb_ht 149 < jb_ht 183 := by decide +kernel
theorem jw_149 : jb_ow 149 = 11 := by decide +kernel
theorem jo_183_47 : jb_op 183 47 = some (.ireturn, 99, 0, 0) := by decide +kernel
theorem jr_183 : jb_ret 183 = (some .int) := by decide +kernel
theorem jo_183_18 : jb_op 183 18 = some (.ifCond .eq (8), 99, 0, 0) := by decide +kernel
theorem jo_183_26 : jb_op 183 26 = some (.iconst (-1), 99, 0, 0) := by decide +kernel
theorem jo_183_27 : jb_op 183 27 = some (.ireturn, 99, 0, 0) := by decide +kernel
theorem jo_183_21 : jb_op 183 21 = some (.bipush (-2), 99, 0, 0) := by decide +kernel
theorem jo_183_23 : jb_op 183 23 = some (.goto 4, 99, 0, 0) := by decide +kernel
theorem jl_183 : jb_ml 183 = 3 := by decide +kernel
theorem jo_184_0 : jb_op 184 0 = some (.iload_n 1, 99, 0, 0) := by decide +kernel
theorem jo_184_1 : jb_op 184 1 = some (.invokestatic 97, 4, 91, 1) := by decide +kernel
theorem jh_91_184 : jb_ht 91 < jb_ht 184 := by decide +kernel
theorem jo_184_4 : jb_op 184 4 = some (.ifCond .ne (5), 99, 0, 0) := by decide +kernel
theorem jo_184_7 : jb_op 184 7 = some (.iconst (-1), 99, 0, 0) := by decide +kernel
theorem jo_184_8 : jb_op 184 8 = some (.ireturn, 99, 0, 0) := by decide +kernel
theorem jr_184 : jb_ret 184 = (some .int) := by decide +kernel
theorem jo_184_9 : jb_op 184 9 = some (.aload_n 0, 99, 0, 0) := by decide +kernel
theorem jo_184_10 : jb_op 184 10 = some (.invokevirtual 104, 2, 93, 0) := by decide +kernel
theorem jh_93_184 : jb_ht 93 < jb_ht 184 := by decide +kernel
theorem jo_184_13 : jb_op 184 13 = some (.aload_n 0, 99, 0, 0) := by decide +kernel
theorem jo_184_14 : jb_op 184 14 = some (.aload_n 0, 99, 0, 0) := by decide +kernel
theorem jo_184_15 : jb_op 184 15 = some (.iload_n 1, 99, 0, 0) := by decide +kernel
theorem jo_184_16 : jb_op 184 16 = some (.invokevirtual 118, 2, 97, 1) := by decide +kernel
theorem jh_97_184 : jb_ht 97 < jb_ht 184 := by decide +kernel
theorem jw_97 : jb_ow 97 = 11 := by decide +kernel
theorem jo_184_19 : jb_op 184 19 = some (.invokevirtual 115, 2, 149, 1) := by decide +kernel
theorem jh_149_184 : jb_ht 149 < jb_ht 184 := by decide +kernel
theorem jo_184_22 : jb_op 184 22 = some (.ireturn, 99, 0, 0) := by decide +kernel
theorem jl_184 : jb_ml 184 = 2 := by decide +kernel
theorem jo_185_0 : jb_op 185 0 = some (.aload_n 0, 99, 0, 0) := by decide +kernel
theorem jo_185_1 : jb_op 185 1 = some (.aload_n 0, 99, 0, 0) := by decide +kernel
theorem jo_185_2 : jb_op 185 2 = some (.getfield 124, 0, 11, 20) := by decide +kernel
theorem jo_185_5 : jb_op 185 5 = some (.iconst 1, 99, 0, 0) := by decide +kernel
theorem jo_185_6 : jb_op 185 6 = some (.iconst 4, 99, 0, 0) := by decide +kernel
theorem jo_185_7 : jb_op 185 7 = some (.invokestatic 85, 4, 31, 3) := by decide +kernel
theorem jh_31_185 : jb_ht 31 < jb_ht 185 := by decide +kernel
theorem jo_185_10 : jb_op 185 10 = some (.ifCond .ne (7), 99, 0, 0) := by decide +kernel
theorem jo_185_13 : jb_op 185 13 = some (.iconst 1, 99, 0, 0) := by decide +kernel
theorem jo_185_14 : jb_op 185 14 = some (.goto 4, 99, 0, 0) := by decide +kernel
theorem jo_185_18 : jb_op 185 18 = some (.iconst 4, 99, 0, 0) := by decide +kernel
theorem jo_185_19 : jb_op 185 19 = some (.aload_n 0, 99, 0, 0) := by decide +kernel
theorem jo_185_20 : jb_op 185 20 = some (.getfield 124, 0, 11, 20) := by decide +kernel
theorem jo_185_23 : jb_op 185 23 = some (.invokevirtual 93, 2, 34, 3) := by decide +kernel
theorem jh_34_185 : jb_ht 34 < jb_ht 185 := by decide +kernel
theorem jo_185_17 : jb_op 185 17 = some (.iconst 0, 99, 0, 0) := by decide +kernel
theorem jo_185_26 : jb_op 185 26 = some (.aload_n 0, 99, 0, 0) := by decide +kernel
theorem jo_185_27 : jb_op 185 27 = some (.getfield 53, 0, 11, 17) := by decide +kernel
theorem jo_185_30 : jb_op 185 30 = some (.ifCond .ne (77), 99, 0, 0) := by decide +kernel
theorem jo_185_33 : jb_op 185 33 = some (.aload_n 0, 99, 0, 0) := by decide +kernel
theorem jo_185_34 : jb_op 185 34 = some (.aload_n 0, 99, 0, 0) := by decide +kernel
theorem jo_185_35 : jb_op 185 35 = some (.getfield 35, 0, 11, 19) := by decide +kernel
theorem jo_185_38 : jb_op 185 38 = some (.iconst 0, 99, 0, 0) := by decide +kernel
theorem jo_185_39 : jb_op 185 39 = some (.iaload, 99, 0, 0) := by decide +kernel
theorem jo_185_40 : jb_op 185 40 = some (.iconst 5, 99, 0, 0) := by decide +kernel
theorem jo_185_41 : jb_op 185 41 = some (.if_icmp .ne (7), 99, 0, 0) := by decide +kernel
theorem jo_185_44 : jb_op 185 44 = some (.iconst 1, 99, 0, 0) := by decide +kernel
theorem jo_185_45 : jb_op 185 45 = some (.goto 4, 99, 0, 0) := by decide +kernel
theorem jo_185_49 : jb_op 185 49 = some (.iconst 5, 99, 0, 0) := by decide +kernel
theorem jo_185_50 : jb_op 185 50 = some (.iconst 0, 99, 0, 0) := by decide +kernel
theorem jo_185_51 : jb_op 185 51 = some (.invokevirtual 93, 2, 34, 3) := by decide +kernel
theorem jo_185_48 : jb_op 185 48 = some (.iconst 0, 99, 0, 0) := by decide +kernel
theorem jo_185_107 : jb_op 185 107 = some (.aload_n 0, 99, 0, 0) := by decide +kernel
theorem jo_185_108 : jb_op 185 108 = some (.aload_n 0, 99, 0, 0) := by decide +kernel
theorem jo_185_109 : jb_op 185 109 = some (.getfield 9, 0, 11, 0) := by decide +kernel
theorem jo_185_112 : jb_op 185 112 = some (.iconst 0, 99, 0, 0) := by decide +kernel
theorem jo_185_113 : jb_op 185 113 = some (.iaload, 99, 0, 0) := by decide +kernel
theorem jo_185_114 : jb_op 185 114 = some (.bipush 8, 99, 0, 0) := by decide +kernel
theorem jo_185_116 : jb_op 185 116 = some (.if_icmp .ne (7), 99, 0, 0) := by decide +kernel
theorem jo_185_119 : jb_op 185 119 = some (.iconst 1, 99, 0, 0) := by decide +kernel
theorem jo_185_120 : jb_op 185 120 = some (.goto 4, 99, 0, 0) := by decide +kernel
theorem jo_185_124 : jb_op 185 124 = some (.iconst 1, 99, 0, 0) := by decide +kernel
theorem jo_185_125 : jb_op 185 125 = some (.bipush 8, 99, 0, 0) := by decide +kernel
theorem jo_185_127 : jb_op 185 127 = some (.invokevirtual 93, 2, 34, 3) := by decide +kernel
theorem jo_185_123 : jb_op 185 123 = some (.iconst 0, 99, 0, 0) := by decide +kernel
theorem jo_185_130 : jb_op 185 130 = some (.aload_n 0, 99, 0, 0) := by decide +kernel
theorem jo_185_131 : jb_op 185 131 = some (.getfield 53, 0, 11, 17) := by decide +kernel
theorem jo_185_134 : jb_op 185 134 = some (.ifCond .eq (5), 99, 0, 0) := by decide +kernel
theorem jo_185_139 : jb_op 185 139 = some (.aload_n 0, 99, 0, 0) := by decide +kernel
theorem jo_185_140 : jb_op 185 140 = some (.getfield 9, 0, 11, 0) := by decide +kernel
theorem jo_185_143 : jb_op 185 143 = some (.iconst 0, 99, 0, 0) := by decide +kernel
theorem jo_185_144 : jb_op 185 144 = some (.iaload, 99, 0, 0) := by decide +kernel
theorem jo_185_145 : jb_op 185 145 = some (.invokestatic 130, 4, 36, 1) := by decide +kernel
theorem jh_36_185 : jb_ht 36 < jb_ht 185 := by decide +kernel
theorem jo_185_137 : jb_op 185 137 = some (.iconst 0, 99, 0, 0) := by decide +kernel
theorem jo_185_138 : jb_op 185 138 = some (.ireturn, 99, 0, 0) := by decide +kernel
theorem jr_185 : jb_ret 185 = (some .int) := by decide +kernel
theorem jo_185_148 : jb_op 185 148 = some (.istore_n 2, 99, 0, 0) := by decide +kernel
theorem jo_185_149 : jb_op 185 149 = some (.aload_n 0, 99, 0, 0) := by decide +kernel
theorem jo_185_150 : jb_op 185 150 = some (.getfield 9, 0, 11, 0) := by decide +kernel
theorem jo_185_153 : jb_op 185 153 = some (.iload_n 2, 99, 0, 0) := by decide +kernel
theorem jo_185_154 : jb_op 185 154 = some (.iconst 0, 99, 0, 0) := by decide +kernel
theorem jo_185_155 : jb_op 185 155 = some (.iadd, 99, 0, 0) := by decide +kernel
theorem jo_185_156 : jb_op 185 156 = some (.iload_n 1, 99, 0, 0) := by decide +kernel
theorem jo_185_157 : jb_op 185 157 = some (.iastore, 99, 0, 0) := by decide +kernel
theorem jo_185_158 : jb_op 185 158 = some (.aload_n 0, 99, 0, 0) := by decide +kernel
theorem jo_185_159 : jb_op 185 159 = some (.getfield 9, 0, 11, 0) := by decide +kernel
theorem jo_185_162 : jb_op 185 162 = some (.iload_n 2, 99, 0, 0) := by decide +kernel
theorem jo_185_163 : jb_op 185 163 = some (.iconst 1, 99, 0, 0) := by decide +kernel
theorem jo_185_164 : jb_op 185 164 = some (.iadd, 99, 0, 0) := by decide +kernel
theorem jo_185_165 : jb_op 185 165 = some (.aload_n 0, 99, 0, 0) := by decide +kernel
theorem jo_185_166 : jb_op 185 166 = some (.getfield 124, 0, 11, 20) := by decide +kernel
theorem jo_185_169 : jb_op 185 169 = some (.iastore, 99, 0, 0) := by decide +kernel
theorem jo_185_170 : jb_op 185 170 = some (.iconst 0, 99, 0, 0) := by decide +kernel
theorem jo_185_171 : jb_op 185 171 = some (.istore_n 3, 99, 0, 0) := by decide +kernel
theorem jo_185_172 : jb_op 185 172 = some (.iload_n 3, 99, 0, 0) := by decide +kernel
theorem jo_185_173 : jb_op 185 173 = some (.iconst 4, 99, 0, 0) := by decide +kernel
theorem jo_185_174 : jb_op 185 174 = some (.if_icmp .ge (37), 99, 0, 0) := by decide +kernel
theorem jo_185_211 : jb_op 185 211 = some (.aload_n 0, 99, 0, 0) := by decide +kernel
theorem jo_185_212 : jb_op 185 212 = some (.getfield 9, 0, 11, 0) := by decide +kernel
theorem jo_185_215 : jb_op 185 215 = some (.iconst 0, 99, 0, 0) := by decide +kernel
theorem jo_185_216 : jb_op 185 216 = some (.dup2, 99, 0, 0) := by decide +kernel
theorem jo_185_217 : jb_op 185 217 = some (.iaload, 99, 0, 0) := by decide +kernel
theorem jo_185_218 : jb_op 185 218 = some (.iconst 1, 99, 0, 0) := by decide +kernel
theorem jo_185_219 : jb_op 185 219 = some (.iadd, 99, 0, 0) := by decide +kernel
theorem jo_185_220 : jb_op 185 220 = some (.iastore, 99, 0, 0) := by decide +kernel
theorem jo_185_221 : jb_op 185 221 = some (.aload_n 0, 99, 0, 0) := by decide +kernel
theorem jo_185_222 : jb_op 185 222 = some (.getfield 9, 0, 11, 0) := by decide +kernel
theorem jo_185_225 : jb_op 185 225 = some (.iconst 0, 99, 0, 0) := by decide +kernel
theorem jo_185_226 : jb_op 185 226 = some (.iaload, 99, 0, 0) := by decide +kernel
theorem jo_185_227 : jb_op 185 227 = some (.iconst 1, 99, 0, 0) := by decide +kernel
theorem jo_185_228 : jb_op 185 228 = some (.isub, 99, 0, 0) := by decide +kernel
theorem jo_185_229 : jb_op 185 229 = some (.ireturn, 99, 0, 0) := by decide +kernel
theorem jo_185_177 : jb_op 185 177 = some (.aload_n 0, 99, 0, 0) := by decide +kernel
theorem jo_185_178 : jb_op 185 178 = some (.getfield 9, 0, 11, 0) := by decide +kernel
theorem jo_185_181 : jb_op 185 181 = some (.iload_n 2, 99, 0, 0) := by decide +kernel
theorem jo_185_182 : jb_op 185 182 = some (.iconst 2, 99, 0, 0) := by decide +kernel
theorem jo_185_183 : jb_op 185 183 = some (.iadd, 99, 0, 0) := by decide +kernel
theorem jo_185_184 : jb_op 185 184 = some (.iload_n 3, 99, 0, 0) := by decide +kernel
theorem jo_185_185 : jb_op 185 185 = some (.iadd, 99, 0, 0) := by decide +kernel
theorem jo_185_186 : jb_op 185 186 = some (.iload_n 3, 99, 0, 0) := by decide +kernel
theorem jo_185_187 : jb_op 185 187 = some (.aload_n 0, 99, 0, 0) := by decide +kernel
theorem jo_185_188 : jb_op 185 188 = some (.getfield 124, 0, 11, 20) := by decide +kernel
theorem jo_185_191 : jb_op 185 191 = some (.if_icmp .ge (12), 99, 0, 0) := by decide +kernel
theorem jo_185_203 : jb_op 185 203 = some (.iconst 0, 99, 0, 0) := by decide +kernel
theorem jo_185_204 : jb_op 185 204 = some (.iastore, 99, 0, 0) := by decide +kernel
theorem jo_185_205 : jb_op 185 205 = some (.iinc 3 1, 99, 0, 0) := by decide +kernel
theorem jo_185_208 : jb_op 185 208 = some (.goto (-36), 99, 0, 0) := by decide +kernel
theorem jo_185_194 : jb_op 185 194 = some (.aload_n 0, 99, 0, 0) := by decide +kernel
theorem jo_185_195 : jb_op 185 195 = some (.getfield 35, 0, 11, 19) := by decide +kernel
theorem jo_185_198 : jb_op 185 198 = some (.iload_n 3, 99, 0, 0) := by decide +kernel
theorem jo_185_199 : jb_op 185 199 = some (.iaload, 99, 0, 0) := by decide +kernel
theorem jo_185_200 : jb_op 185 200 = some (.goto 4, 99, 0, 0) := by decide +kernel
theorem jo_185_54 : jb_op 185 54 = some (.aload_n 0, 99, 0, 0) := by decide +kernel
theorem jo_185_55 : jb_op 185 55 = some (.aload_n 0, 99, 0, 0) := by decide +kernel
theorem jo_185_56 : jb_op 185 56 = some (.getfield 35, 0, 11, 19) := by decide +kernel
theorem jo_185_59 : jb_op 185 59 = some (.aload_n 0, 99, 0, 0) := by decide +kernel
theorem jo_185_60 : jb_op 185 60 = some (.getfield 124, 0, 11, 20) := by decide +kernel
theorem jo_185_63 : jb_op 185 63 = some (.iconst 1, 99, 0, 0) := by decide +kernel
theorem jo_185_64 : jb_op 185 64 = some (.isub, 99, 0, 0) := by decide +kernel
theorem jo_185_65 : jb_op 185 65 = some (.iaload, 99, 0, 0) := by decide +kernel
theorem jo_185_66 : jb_op 185 66 = some (.iconst 5, 99, 0, 0) := by decide +kernel
theorem jo_185_67 : jb_op 185 67 = some (.if_icmp .ne (7), 99, 0, 0) := by decide +kernel
theorem jo_185_70 : jb_op 185 70 = some (.iconst 1, 99, 0, 0) := by decide +kernel
theorem jo_185_71 : jb_op 185 71 = some (.goto 4, 99, 0, 0) := by decide +kernel
theorem jo_185_75 : jb_op 185 75 = some (.iconst 5, 99, 0, 0) := by decide +kernel
theorem jo_185_76 : jb_op 185 76 = some (.aload_n 0, 99, 0, 0) := by decide +kernel
theorem jo_185_77 : jb_op 185 77 = some (.getfield 124, 0, 11, 20) := by decide +kernel
theorem jo_185_80 : jb_op 185 80 = some (.iconst 1, 99, 0, 0) := by decide +kernel
theorem jo_185_81 : jb_op 185 81 = some (.isub, 99, 0, 0) := by decide +kernel
theorem jo_185_82 : jb_op 185 82 = some (.invokevirtual 93, 2, 34, 3) := by decide +kernel
theorem jo_185_74 : jb_op 185 74 = some (.iconst 0, 99, 0, 0) := by decide +kernel
theorem jo_185_85 : jb_op 185 85 = some (.aload_n 0, 99, 0, 0) := by decide +kernel
theorem jo_185_86 : jb_op 185 86 = some (.aload_n 0, 99, 0, 0) := by decide +kernel
theorem jo_185_87 : jb_op 185 87 = some (.invokevirtual 137, 2, 150, 0) := by decide +kernel
theorem jh_150_185 : jb_ht 150 < jb_ht 185 := by decide +kernel
theorem jw_150 : jb_ow 150 = 11 := by decide +kernel
theorem jo_185_90 : jb_op 185 90 = some (.iconst (-1), 99, 0, 0) := by decide +kernel
theorem jo_185_91 : jb_op 185 91 = some (.if_icmp .eq (7), 99, 0, 0) := by decide +kernel
theorem jo_185_98 : jb_op 185 98 = some (.iconst 0, 99, 0, 0) := by decide +kernel
theorem jo_185_99 : jb_op 185 99 = some (.iconst 2, 99, 0, 0) := by decide +kernel
theorem jo_185_100 : jb_op 185 100 = some (.aload_n 0, 99, 0, 0) := by decide +kernel
theorem jo_185_101 : jb_op 185 101 = some (.invokevirtual 137, 2, 150, 0) := by decide +kernel
theorem jo_185_94 : jb_op 185 94 = some (.iconst 1, 99, 0, 0) := by decide +kernel
theorem jo_185_95 : jb_op 185 95 = some (.goto 4, 99, 0, 0) := by decide +kernel
theorem jo_185_104 : jb_op 185 104 = some (.invokevirtual 93, 2, 34, 3) := by decide +kernel
theorem jl_185 : jb_ml 185 = 4 := by decide +kernel
theorem jo_186_0 : jb_op 186 0 = some (.aload_n 0, 99, 0, 0) := by decide +kernel
theorem jo_186_1 : jb_op 186 1 = some (.iload_n 1, 99, 0, 0) := by decide +kernel
theorem jo_186_2 : jb_op 186 2 = some (.invokevirtual 150, 2, 101, 1) := by decide +kernel
theorem jh_101_186 : jb_ht 101 < jb_ht 186 := by decide +kernel
theorem jo_186_5 : jb_op 186 5 = some (.ifCond .ne (5), 99, 0, 0) := by decide +kernel
theorem jo_186_8 : jb_op 186 8 = some (.iconst (-1), 99, 0, 0) := by decide +kernel
theorem jo_186_9 : jb_op 186 9 = some (.ireturn, 99, 0, 0) := by decide +kernel
theorem jr_186 : jb_ret 186 = (some .int) := by decide +kernel
theorem jo_186_10 : jb_op 186 10 = some (.aload_n 0, 99, 0, 0) := by decide +kernel
theorem jo_186_11 : jb_op 186 11 = some (.invokevirtual 104, 2, 93, 0) := by decide +kernel
theorem jh_93_186 : jb_ht 93 < jb_ht 186 := by decide +kernel
theorem jo_186_14 : jb_op 186 14 = some (.aload_n 0, 99, 0, 0) := by decide +kernel
theorem jo_186_15 : jb_op 186 15 = some (.aload_n 0, 99, 0, 0) := by decide +kernel
theorem jo_186_16 : jb_op 186 16 = some (.iload_n 1, 99, 0, 0) := by decide +kernel
theorem jo_186_17 : jb_op 186 17 = some (.invokevirtual 153, 2, 102, 1) := by decide +kernel
theorem jh_102_186 : jb_ht 102 < jb_ht 186 := by decide +kernel
theorem jw_102 : jb_ow 102 = 11 := by decide +kernel
theorem jo_186_20 : jb_op 186 20 = some (.invokevirtual 115, 2, 149, 1) := by decide +kernel
theorem jh_149_186 : jb_ht 149 < jb_ht 186 := by decide +kernel
theorem jo_186_23 : jb_op 186 23 = some (.ireturn, 99, 0, 0) := by decide +kernel
theorem jl_186 : jb_ml 186 = 2 := by decide +kernel
theorem jo_187_0 : jb_op 187 0 = some (.iload_n 1, 99, 0, 0) := by decide +kernel
theorem jo_187_1 : jb_op 187 1 = some (.invokestatic 101, 4, 92, 1) := by decide +kernel
theorem jh_92_187 : jb_ht 92 < jb_ht 187 := by decide +kernel
theorem jo_187_4 : jb_op 187 4 = some (.ifCond .eq (10), 99, 0, 0) := by decide +kernel
theorem jo_187_14 : jb_op 187 14 = some (.bipush (-2), 99, 0, 0) := by decide +kernel
theorem jo_187_16 : jb_op 187 16 = some (.ireturn, 99, 0, 0) := by decide +kernel
theorem jr_187 : jb_ret 187 = (some .int) := by decide +kernel
theorem jo_187_7 : jb_op 187 7 = some (.iload_n 2, 99, 0, 0) := by decide +kernel
theorem jo_187_8 : jb_op 187 8 = some (.invokestatic 159, 4, 103, 1) := by decide +kernel
theorem jh_103_187 : jb_ht 103 < jb_ht 187 := by decide +kernel
theorem jo_187_11 : jb_op 187 11 = some (.ifCond .ne (6), 99, 0, 0) := by decide +kernel
theorem jo_187_17 : jb_op 187 17 = some (.aload_n 0, 99, 0, 0) := by decide +kernel
theorem jo_187_18 : jb_op 187 18 = some (.invokevirtual 104, 2, 93, 0) := by decide +kernel
theorem jh_93_187 : jb_ht 93 < jb_ht 187 := by decide +kernel
theorem jo_187_21 : jb_op 187 21 = some (.aload_n 0, 99, 0, 0) := by decide +kernel
theorem jo_187_22 : jb_op 187 22 = some (.aload_n 0, 99, 0, 0) := by decide +kernel
theorem jo_187_23 : jb_op 187 23 = some (.iload_n 1, 99, 0, 0) := by decide +kernel
theorem jo_187_24 : jb_op 187 24 = some (.iload_n 2, 99, 0, 0) := by decide +kernel
theorem jo_187_25 : jb_op 187 25 = some (.invokevirtual 162, 2, 104, 2) := by decide +kernel
theorem jh_104_187 : jb_ht 104 < jb_ht 187 := by decide +kernel
theorem jw_104 : jb_ow 104 = 11 := by decide +kernel
theorem jo_187_28 : jb_op 187 28 = some (.invokevirtual 115, 2, 149, 1) := by decide +kernel
theorem jh_149_187 : jb_ht 149 < jb_ht 187 := by decide +kernel
theorem jo_187_31 : jb_op 187 31 = some (.ireturn, 99, 0, 0) := by decide +kernel
theorem jl_187 : jb_ml 187 = 3 := by decide +kernel
theorem jo_188_0 : jb_op 188 0 = some (.aload_n 0, 99, 0, 0) := by decide +kernel
theorem jo_188_1 : jb_op 188 1 = some (.iload_n 1, 99, 0, 0) := by decide +kernel
theorem jo_188_2 : jb_op 188 2 = some (.invokevirtual 165, 2, 105, 1) := by decide +kernel
theorem jh_105_188 : jb_ht 105 < jb_ht 188 := by decide +kernel
theorem jo_188_5 : jb_op 188 5 = some (.ifCond .eq (10), 99, 0, 0) := by decide +kernel
theorem jo_188_15 : jb_op 188 15 = some (.aload_n 0, 99, 0, 0) := by decide +kernel
theorem jo_188_16 : jb_op 188 16 = some (.iload_n 1, 99, 0, 0) := by decide +kernel
theorem jo_188_17 : jb_op 188 17 = some (.invokevirtual 165, 2, 105, 1) := by decide +kernel
theorem jo_188_8 : jb_op 188 8 = some (.iload_n 2, 99, 0, 0) := by decide +kernel
theorem jo_188_9 : jb_op 188 9 = some (.invokestatic 101, 4, 92, 1) := by decide +kernel
theorem jh_92_188 : jb_ht 92 < jb_ht 188 := by decide +kernel
theorem jo_188_12 : jb_op 188 12 = some (.ifCond .ne (18), 99, 0, 0) := by decide +kernel
theorem jo_188_30 : jb_op 188 30 = some (.aload_n 0, 99, 0, 0) := by decide +kernel
theorem jo_188_31 : jb_op 188 31 = some (.invokevirtual 104, 2, 93, 0) := by decide +kernel
theorem jh_93_188 : jb_ht 93 < jb_ht 188 := by decide +kernel
theorem jo_188_34 : jb_op 188 34 = some (.aload_n 0, 99, 0, 0) := by decide +kernel
theorem jo_188_35 : jb_op 188 35 = some (.aload_n 0, 99, 0, 0) := by decide +kernel
theorem jo_188_36 : jb_op 188 36 = some (.iload_n 1, 99, 0, 0) := by decide +kernel
theorem jo_188_37 : jb_op 188 37 = some (.invokestatic 156, 4, 37, 1) := by decide +kernel
theorem jh_37_188 : jb_ht 37 < jb_ht 188 := by decide +kernel
theorem jo_188_40 : jb_op 188 40 = some (.iconst 0, 99, 0, 0) := by decide +kernel
theorem jo_188_41 : jb_op 188 41 = some (.iadd, 99, 0, 0) := by decide +kernel
theorem jo_188_42 : jb_op 188 42 = some (.iload_n 2, 99, 0, 0) := by decide +kernel
theorem jo_188_43 : jb_op 188 43 = some (.invokevirtual 111, 2, 94, 2) := by decide +kernel
theorem jh_94_188 : jb_ht 94 < jb_ht 188 := by decide +kernel
theorem jo_188_46 : jb_op 188 46 = some (.invokevirtual 115, 2, 149, 1) := by decide +kernel
theorem jh_149_188 : jb_ht 149 < jb_ht 188 := by decide +kernel
theorem jo_188_49 : jb_op 188 49 = some (.ireturn, 99, 0, 0) := by decide +kernel
theorem jr_188 : jb_ret 188 = (some .int) := by decide +kernel
theorem jo_188_20 : jb_op 188 20 = some (.ifCond .eq (8), 99, 0, 0) := by decide +kernel
theorem jo_188_28 : jb_op 188 28 = some (.iconst (-1), 99, 0, 0) := by decide +kernel
theorem jo_188_29 : jb_op 188 29 = some (.ireturn, 99, 0, 0) := by decide +kernel
theorem jo_188_23 : jb_op 188 23 = some (.bipush (-2), 99, 0, 0) := by decide +kernel
theorem jo_188_25 : jb_op 188 25 = some (.goto 4, 99, 0, 0) := by decide +kernel
theorem jl_188 : jb_ml 188 = 3 := by decide +kernel
theorem jo_189_0 : jb_op 189 0 = some (.aload_n 0, 99, 0, 0) := by decide +kernel
theorem jo_189_1 : jb_op 189 1 = some (.iload_n 1, 99, 0, 0) := by decide +kernel
theorem jo_189_2 : jb_op 189 2 = some (.invokevirtual 165, 2, 105, 1) := by decide +kernel
theorem jh_105_189 : jb_ht 105 < jb_ht 189 := by decide +kernel
theorem jo_189_5 : jb_op 189 5 = some (.ifCond .ne (5), 99, 0, 0) := by decide +kernel
theorem jo_189_8 : jb_op 189 8 = some (.iconst (-1), 99, 0, 0) := by decide +kernel
theorem jo_189_9 : jb_op 189 9 = some (.ireturn, 99, 0, 0) := by decide +kernel
theorem jr_189 : jb_ret 189 = (some .int) := by decide +kernel
theorem jo_189_10 : jb_op 189 10 = some (.aload_n 0, 99, 0, 0) := by decide +kernel
theorem jo_189_11 : jb_op 189 11 = some (.invokevirtual 104, 2, 93, 0) := by decide +kernel
theorem jh_93_189 : jb_ht 93 < jb_ht 189 := by decide +kernel
theorem jo_189_14 : jb_op 189 14 = some (.aload_n 0, 99, 0, 0) := by decide +kernel
theorem jo_189_15 : jb_op 189 15 = some (.aload_n 0, 99, 0, 0) := by decide +kernel
theorem jo_189_16 : jb_op 189 16 = some (.iload_n 1, 99, 0, 0) := by decide +kernel
theorem jo_189_17 : jb_op 189 17 = some (.invokevirtual 168, 2, 106, 1) := by decide +kernel
theorem jh_106_189 : jb_ht 106 < jb_ht 189 := by decide +kernel
theorem jw_106 : jb_ow 106 = 11 := by decide +kernel
theorem jo_189_20 : jb_op 189 20 = some (.invokevirtual 115, 2, 149, 1) := by decide +kernel
theorem jh_149_189 : jb_ht 149 < jb_ht 189 := by decide +kernel
theorem jo_189_23 : jb_op 189 23 = some (.ireturn, 99, 0, 0) := by decide +kernel
theorem jl_189 : jb_ml 189 = 2 := by decide +kernel
theorem jo_190_0 : jb_op 190 0 = some (.aload_n 0, 99, 0, 0) := by decide +kernel
theorem jo_190_1 : jb_op 190 1 = some (.invokevirtual 104, 2, 93, 0) := by decide +kernel
theorem jh_93_190 : jb_ht 93 < jb_ht 190 := by decide +kernel
theorem jo_190_4 : jb_op 190 4 = some (.aload_n 0, 99, 0, 0) := by decide +kernel
theorem jo_190_5 : jb_op 190 5 = some (.invokevirtual 144, 2, 35, 0) := by decide +kernel
theorem jh_35_190 : jb_ht 35 < jb_ht 190 := by decide +kernel
theorem jw_35 : jb_ow 35 = 11 := by decide +kernel
theorem jo_190_8 : jb_op 190 8 = some (.aload_n 0, 99, 0, 0) := by decide +kernel
theorem jo_190_9 : jb_op 190 9 = some (.aload_n 0, 99, 0, 0) := by decide +kernel
theorem jo_190_10 : jb_op 190 10 = some (.invokevirtual 179, 2, 107, 0) := by decide +kernel
theorem jh_107_190 : jb_ht 107 < jb_ht 190 := by decide +kernel
theorem jw_107 : jb_ow 107 = 11 := by decide +kernel
theorem jo_190_13 : jb_op 190 13 = some (.invokevirtual 115, 2, 149, 1) := by decide +kernel
theorem jh_149_190 : jb_ht 149 < jb_ht 190 := by decide +kernel
theorem jo_190_16 : jb_op 190 16 = some (.istore_n 1, 99, 0, 0) := by decide +kernel
theorem jo_190_17 : jb_op 190 17 = some (.aload_n 0, 99, 0, 0) := by decide +kernel
theorem jo_190_18 : jb_op 190 18 = some (.iload_n 1, 99, 0, 0) := by decide +kernel
theorem jo_190_19 : jb_op 190 19 = some (.bipush (-5), 99, 0, 0) := by decide +kernel
theorem jo_190_21 : jb_op 190 21 = some (.if_icmp .ne (10), 99, 0, 0) := by decide +kernel
theorem jo_190_24 : jb_op 190 24 = some (.aload_n 0, 99, 0, 0) := by decide +kernel
theorem jo_190_25 : jb_op 190 25 = some (.getfield 121, 0, 11, 12) := by decide +kernel
theorem jo_190_28 : jb_op 190 28 = some (.goto 4, 99, 0, 0) := by decide +kernel
theorem jo_190_32 : jb_op 190 32 = some (.putfield 121, 0, 11, 12) := by decide +kernel
theorem jo_190_35 : jb_op 190 35 = some (.iload_n 1, 99, 0, 0) := by decide +kernel
theorem jo_190_36 : jb_op 190 36 = some (.ireturn, 99, 0, 0) := by decide +kernel
theorem jr_190 : jb_ret 190 = (some .int) := by decide +kernel
theorem jo_190_31 : jb_op 190 31 = some (.iconst 0, 99, 0, 0) := by decide +kernel
theorem jl_190 : jb_ml 190 = 2 := by decide +kernel
theorem jo_191_0 : jb_op 191 0 = some (.aload_n 0, 99, 0, 0) := by decide +kernel
theorem jo_191_1 : jb_op 191 1 = some (.iload_n 1, 99, 0, 0) := by decide +kernel
theorem jo_191_2 : jb_op 191 2 = some (.invokevirtual 194, 2, 108, 1) := by decide +kernel
theorem jh_108_191 : jb_ht 108 < jb_ht 191 := by decide +kernel
theorem jo_191_5 : jb_op 191 5 = some (.ifCond .ne (5), 99, 0, 0) := by decide +kernel
theorem jo_191_8 : jb_op 191 8 = some (.iconst (-1), 99, 0, 0) := by decide +kernel
theorem jo_191_9 : jb_op 191 9 = some (.ireturn, 99, 0, 0) := by decide +kernel
theorem jr_191 : jb_ret 191 = (some .int) := by decide +kernel
theorem jo_191_10 : jb_op 191 10 = some (.aload_n 0, 99, 0, 0) := by decide +kernel
theorem jo_191_11 : jb_op 191 11 = some (.iload_n 1, 99, 0, 0) := by decide +kernel
theorem jo_191_12 : jb_op 191 12 = some (.invokevirtual 197, 2, 109, 1) := by decide +kernel
theorem jh_109_191 : jb_ht 109 < jb_ht 191 := by decide +kernel
theorem jw_109 : jb_ow 109 = 11 := by decide +kernel
theorem jo_191_15 : jb_op 191 15 = some (.aload_n 0, 99, 0, 0) := by decide +kernel
theorem jo_191_16 : jb_op 191 16 = some (.invokevirtual 191, 2, 151, 0) := by decide +kernel
theorem jh_151_191 : jb_ht 151 < jb_ht 191 := by decide +kernel
theorem jw_151 : jb_ow 151 = 11 := by decide +kernel
theorem jo_191_19 : jb_op 191 19 = some (.ireturn, 99, 0, 0) := by decide +kernel
theorem jl_191 : jb_ml 191 = 2 := by decide +kernel
theorem jo_192_0 : jb_op 192 0 = some (.aload_n 0, 99, 0, 0) := by decide +kernel
theorem jo_192_1 : jb_op 192 1 = some (.iload_n 1, 99, 0, 0) := by decide +kernel
theorem jo_192_2 : jb_op 192 2 = some (.invokevirtual 194, 2, 108, 1) := by decide +kernel
theorem jh_108_192 : jb_ht 108 < jb_ht 192 := by decide +kernel
theorem jo_192_5 : jb_op 192 5 = some (.ifCond .ne (5), 99, 0, 0) := by decide +kernel
theorem jo_192_8 : jb_op 192 8 = some (.iconst (-1), 99, 0, 0) := by decide +kernel
theorem jo_192_9 : jb_op 192 9 = some (.ireturn, 99, 0, 0) := by decide +kernel
theorem jr_192 : jb_ret 192 = (some .int) := by decide +kernel
theorem jo_192_10 : jb_op 192 10 = some (.aload_n 0, 99, 0, 0) := by decide +kernel
theorem jo_192_11 : jb_op 192 11 = some (.iload_n 1, 99, 0, 0) := by decide +kernel
theorem jo_192_12 : jb_op 192 12 = some (.invokevirtual 197, 2, 109, 1) := by decide +kernel
theorem jh_109_192 : jb_ht 109 < jb_ht 192 := by decide +kernel
theorem jo_192_15 : jb_op 192 15 = some (.aload_n 0, 99, 0, 0) := by decide +kernel
theorem jo_192_16 : jb_op 192 16 = some (.invokevirtual 191, 2, 151, 0) := by decide +kernel
theorem jh_151_192 : jb_ht 151 < jb_ht 192 := by decide +kernel
theorem jo_192_19 : jb_op 192 19 = some (.ireturn, 99, 0, 0) := by decide +kernel
theorem jl_192 : jb_ml 192 = 2 := by decide +kernel
theorem jo_193_0 : jb_op 193 0 = some (.aload_n 0, 99, 0, 0) := by decide +kernel
theorem jo_193_1 : jb_op 193 1 = some (.invokevirtual 144, 2, 35, 0) := by decide +kernel
theorem jh_35_193 : jb_ht 35 < jb_ht 193 := by decide +kernel
theorem jo_193_4 : jb_op 193 4 = some (.aload_n 0, 99, 0, 0) := by decide +kernel
theorem jo_193_5 : jb_op 193 5 = some (.getfield 124, 0, 11, 20) := by decide +kernel
theorem jo_193_8 : jb_op 193 8 = some (.ifCond .ne (7), 99, 0, 0) := by decide +kernel
theorem jo_193_11 : jb_op 193 11 = some (.iconst 0, 99, 0, 0) := by decide +kernel
theorem jo_193_12 : jb_op 193 12 = some (.goto 7, 99, 0, 0) := by decide +kernel
theorem jo_193_15 : jb_op 193 15 = some (.aload_n 0, 99, 0, 0) := by decide +kernel
theorem jo_193_16 : jb_op 193 16 = some (.invokevirtual 191, 2, 151, 0) := by decide +kernel
theorem jh_151_193 : jb_ht 151 < jb_ht 193 := by decide +kernel
theorem jo_193_19 : jb_op 193 19 = some (.ireturn, 99, 0, 0) := by decide +kernel
theorem jr_193 : jb_ret 193 = (some .int) := by decide +kernel
theorem jl_193 : jb_ml 193 = 1 := by decide +kernel
theorem jo_194_0 : jb_op 194 0 = some (.aload_n 0, 99, 0, 0) := by decide +kernel
theorem jo_194_1 : jb_op 194 1 = some (.iconst 0, 99, 0, 0) := by decide +kernel
theorem jo_194_2 : jb_op 194 2 = some (.putfield 188, 0, 11, 24) := by decide +kernel
theorem jf_307_24 : jm_f 307 24 = some none := by decide +kernel
theorem jty_11_24 : jb_Ty 11 24 = .int ∧ (jb_T 11 24).2.2.2 = false := by decide +kernel
theorem jo_194_5 : jb_op 194 5 = some (.aload_n 0, 99, 0, 0) := by decide +kernel
theorem jo_194_6 : jb_op 194 6 = some (.invokevirtual 191, 2, 151, 0) := by decide +kernel
theorem jh_151_194 : jb_ht 151 < jb_ht 194 := by decide +kernel
theorem jo_194_9 : jb_op 194 9 = some (.iconst 1, 99, 0, 0) := by decide +kernel
theorem jo_194_10 : jb_op 194 10 = some (.if_icmp .eq (5), 99, 0, 0) := by decide +kernel
theorem jo_194_15 : jb_op 194 15 = some (.iconst 0, 99, 0, 0) := by decide +kernel
theorem jo_194_16 : jb_op 194 16 = some (.istore_n 1, 99, 0, 0) := by decide +kernel
theorem jo_194_17 : jb_op 194 17 = some (.iconst 0, 99, 0, 0) := by decide +kernel
theorem jo_194_18 : jb_op 194 18 = some (.istore_n 2, 99, 0, 0) := by decide +kernel
theorem jo_194_13 : jb_op 194 13 = some (.iconst 0, 99, 0, 0) := by decide +kernel
theorem jo_194_14 : jb_op 194 14 = some (.ireturn, 99, 0, 0) := by decide +kernel
theorem jr_194 : jb_ret 194 = (some .boolean) := by decide +kernel
theorem jo_194_19 : jb_op 194 19 = some (.iload_n 1, 99, 0, 0) := by decide +kernel
theorem jo_194_20 : jb_op 194 20 = some (.aload_n 0, 99, 0, 0) := by decide +kernel
theorem jo_194_21 : jb_op 194 21 = some (.getfield 124, 0, 11, 20) := by decide +kernel
theorem jo_194_24 : jb_op 194 24 = some (.if_icmp .ge (156), 99, 0, 0) := by decide +kernel
theorem jo_194_180 : jb_op 194 180 = some (.iconst 1, 99, 0, 0) := by decide +kernel
theorem jo_194_181 : jb_op 194 181 = some (.ireturn, 99, 0, 0) := by decide +kernel
theorem jo_194_27 : jb_op 194 27 = some (.aload_n 0, 99, 0, 0) := by decide +kernel
theorem jo_194_28 : jb_op 194 28 = some (.getfield 38, 0, 11, 21) := by decide +kernel
theorem jo_194_31 : jb_op 194 31 = some (.iconst 3, 99, 0, 0) := by decide +kernel
theorem jo_194_32 : jb_op 194 32 = some (.iload_n 1, 99, 0, 0) := by decide +kernel
theorem jo_194_33 : jb_op 194 33 = some (.imul, 99, 0, 0) := by decide +kernel
theorem jo_194_34 : jb_op 194 34 = some (.iload_n 2, 99, 0, 0) := by decide +kernel
theorem jo_194_35 : jb_op 194 35 = some (.iadd, 99, 0, 0) := by decide +kernel
theorem jo_194_36 : jb_op 194 36 = some (.iaload, 99, 0, 0) := by decide +kernel
theorem jo_194_37 : jb_op 194 37 = some (.ifCond .ne (9), 99, 0, 0) := by decide +kernel
theorem jo_194_40 : jb_op 194 40 = some (.iinc 1 1, 99, 0, 0) := by decide +kernel
theorem jo_194_43 : jb_op 194 43 = some (.goto (-16), 99, 0, 0) := by decide +kernel
theorem jo_194_46 : jb_op 194 46 = some (.iconst (-1), 99, 0, 0) := by decide +kernel
theorem jo_194_47 : jb_op 194 47 = some (.istore_n 3, 99, 0, 0) := by decide +kernel
theorem jo_194_48 : jb_op 194 48 = some (.iconst 0, 99, 0, 0) := by decide +kernel
theorem jo_194_49 : jb_op 194 49 = some (.istore 4, 99, 0, 0) := by decide +kernel
theorem jo_194_51 : jb_op 194 51 = some (.iload 4, 99, 0, 0) := by decide +kernel
theorem jo_194_53 : jb_op 194 53 = some (.aload_n 0, 99, 0, 0) := by decide +kernel
theorem jo_194_54 : jb_op 194 54 = some (.getfield 9, 0, 11, 0) := by decide +kernel
theorem jo_194_57 : jb_op 194 57 = some (.iconst 0, 99, 0, 0) := by decide +kernel
theorem jo_194_58 : jb_op 194 58 = some (.iaload, 99, 0, 0) := by decide +kernel
theorem jo_194_59 : jb_op 194 59 = some (.if_icmp .ge (79), 99, 0, 0) := by decide +kernel
theorem jo_194_138 : jb_op 194 138 = some (.aload_n 0, 99, 0, 0) := by decide +kernel
theorem jo_194_139 : jb_op 194 139 = some (.getfield 44, 0, 11, 23) := by decide +kernel
theorem jf_307_23 : jm_f 307 23 = some (some 318) := by decide +kernel
theorem jo_194_142 : jb_op 194 142 = some (.aload_n 0, 99, 0, 0) := by decide +kernel
theorem jo_194_143 : jb_op 194 143 = some (.getfield 188, 0, 11, 24) := by decide +kernel
theorem jo_194_146 : jb_op 194 146 = some (.iload_n 3, 99, 0, 0) := by decide +kernel
theorem jo_194_147 : jb_op 194 147 = some (.iastore, 99, 0, 0) := by decide +kernel
theorem jc_318 : jm_c 318 = 12 := by decide +kernel
theorem jn_318 : jm_ln 318 = 20 := by decide +kernel
theorem jo_194_148 : jb_op 194 148 = some (.aload_n 0, 99, 0, 0) := by decide +kernel
theorem jo_194_149 : jb_op 194 149 = some (.dup, 99, 0, 0) := by decide +kernel
theorem jo_194_150 : jb_op 194 150 = some (.getfield 188, 0, 11, 24) := by decide +kernel
theorem jo_194_153 : jb_op 194 153 = some (.iconst 1, 99, 0, 0) := by decide +kernel
theorem jo_194_154 : jb_op 194 154 = some (.iadd, 99, 0, 0) := by decide +kernel
theorem jo_194_155 : jb_op 194 155 = some (.putfield 188, 0, 11, 24) := by decide +kernel
theorem jo_194_158 : jb_op 194 158 = some (.iload_n 1, 99, 0, 0) := by decide +kernel
theorem jo_194_159 : jb_op 194 159 = some (.aload_n 0, 99, 0, 0) := by decide +kernel
theorem jo_194_160 : jb_op 194 160 = some (.getfield 9, 0, 11, 0) := by decide +kernel
theorem jo_194_163 : jb_op 194 163 = some (.iload_n 3, 99, 0, 0) := by decide +kernel
theorem jo_194_164 : jb_op 194 164 = some (.invokestatic 130, 4, 36, 1) := by decide +kernel
theorem jh_36_194 : jb_ht 36 < jb_ht 194 := by decide +kernel
theorem jo_194_62 : jb_op 194 62 = some (.aload_n 0, 99, 0, 0) := by decide +kernel
theorem jo_194_63 : jb_op 194 63 = some (.getfield 9, 0, 11, 0) := by decide +kernel
theorem jo_194_66 : jb_op 194 66 = some (.iload 4, 99, 0, 0) := by decide +kernel
theorem jo_194_68 : jb_op 194 68 = some (.invokestatic 130, 4, 36, 1) := by decide +kernel
theorem jo_194_71 : jb_op 194 71 = some (.iconst 0, 99, 0, 0) := by decide +kernel
theorem jo_194_72 : jb_op 194 72 = some (.iadd, 99, 0, 0) := by decide +kernel
theorem jo_194_73 : jb_op 194 73 = some (.iaload, 99, 0, 0) := by decide +kernel
theorem jo_194_74 : jb_op 194 74 = some (.iload_n 2, 99, 0, 0) := by decide +kernel
theorem jo_194_75 : jb_op 194 75 = some (.if_icmp .ne (17), 99, 0, 0) := by decide +kernel
theorem jo_194_78 : jb_op 194 78 = some (.aload_n 0, 99, 0, 0) := by decide +kernel
theorem jo_194_79 : jb_op 194 79 = some (.iload 4, 99, 0, 0) := by decide +kernel
theorem jo_194_81 : jb_op 194 81 = some (.iload_n 1, 99, 0, 0) := by decide +kernel
theorem jo_194_82 : jb_op 194 82 = some (.invokevirtual 133, 2, 100, 2) := by decide +kernel
theorem jh_100_194 : jb_ht 100 < jb_ht 194 := by decide +kernel
theorem jo_194_92 : jb_op 194 92 = some (.iconst 0, 99, 0, 0) := by decide +kernel
theorem jo_194_93 : jb_op 194 93 = some (.istore 5, 99, 0, 0) := by decide +kernel
theorem jo_194_95 : jb_op 194 95 = some (.iload 5, 99, 0, 0) := by decide +kernel
theorem jo_194_97 : jb_op 194 97 = some (.ifCond .eq (33), 99, 0, 0) := by decide +kernel
theorem jo_194_130 : jb_op 194 130 = some (.iload_n 3, 99, 0, 0) := by decide +kernel
theorem jo_194_131 : jb_op 194 131 = some (.istore_n 3, 99, 0, 0) := by decide +kernel
theorem jo_194_132 : jb_op 194 132 = some (.iinc 4 1, 99, 0, 0) := by decide +kernel
theorem jo_194_135 : jb_op 194 135 = some (.goto (-84), 99, 0, 0) := by decide +kernel
theorem jo_194_85 : jb_op 194 85 = some (.ifCond .eq (7), 99, 0, 0) := by decide +kernel
theorem jo_194_88 : jb_op 194 88 = some (.iconst 1, 99, 0, 0) := by decide +kernel
theorem jo_194_89 : jb_op 194 89 = some (.goto 4, 99, 0, 0) := by decide +kernel
theorem jo_194_100 : jb_op 194 100 = some (.aload_n 0, 99, 0, 0) := by decide +kernel
theorem jo_194_101 : jb_op 194 101 = some (.iload_n 1, 99, 0, 0) := by decide +kernel
theorem jo_194_102 : jb_op 194 102 = some (.aload_n 0, 99, 0, 0) := by decide +kernel
theorem jo_194_103 : jb_op 194 103 = some (.getfield 9, 0, 11, 0) := by decide +kernel
theorem jo_194_106 : jb_op 194 106 = some (.iload 4, 99, 0, 0) := by decide +kernel
theorem jo_194_108 : jb_op 194 108 = some (.invokestatic 130, 4, 36, 1) := by decide +kernel
theorem jo_194_111 : jb_op 194 111 = some (.iconst 1, 99, 0, 0) := by decide +kernel
theorem jo_194_112 : jb_op 194 112 = some (.iadd, 99, 0, 0) := by decide +kernel
theorem jo_194_113 : jb_op 194 113 = some (.iaload, 99, 0, 0) := by decide +kernel
theorem jo_194_114 : jb_op 194 114 = some (.iadd, 99, 0, 0) := by decide +kernel
theorem jo_194_115 : jb_op 194 115 = some (.iload_n 2, 99, 0, 0) := by decide +kernel
theorem jo_194_116 : jb_op 194 116 = some (.invokestatic 182, 4, 40, 1) := by decide +kernel
theorem jh_40_194 : jb_ht 40 < jb_ht 194 := by decide +kernel
theorem jo_194_119 : jb_op 194 119 = some (.invokevirtual 185, 2, 41, 2) := by decide +kernel
theorem jh_41_194 : jb_ht 41 < jb_ht 194 := by decide +kernel
theorem jo_194_122 : jb_op 194 122 = some (.ifCond .le (8), 99, 0, 0) := by decide +kernel
theorem jo_194_125 : jb_op 194 125 = some (.iload 4, 99, 0, 0) := by decide +kernel
theorem jo_194_127 : jb_op 194 127 = some (.goto 4, 99, 0, 0) := by decide +kernel
theorem jo_194_167 : jb_op 194 167 = some (.iconst 1, 99, 0, 0) := by decide +kernel
theorem jo_194_168 : jb_op 194 168 = some (.iadd, 99, 0, 0) := by decide +kernel
theorem jo_194_169 : jb_op 194 169 = some (.iaload, 99, 0, 0) := by decide +kernel
theorem jo_194_170 : jb_op 194 170 = some (.iadd, 99, 0, 0) := by decide +kernel
theorem jo_194_171 : jb_op 194 171 = some (.istore_n 1, 99, 0, 0) := by decide +kernel
theorem jo_194_172 : jb_op 194 172 = some (.iload_n 2, 99, 0, 0) := by decide +kernel
theorem jo_194_173 : jb_op 194 173 = some (.invokestatic 182, 4, 40, 1) := by decide +kernel
theorem jo_194_176 : jb_op 194 176 = some (.istore_n 2, 99, 0, 0) := by decide +kernel
theorem jo_194_177 : jb_op 194 177 = some (.goto (-158), 99, 0, 0) := by decide +kernel
theorem jl_194 : jb_ml 194 = 6 := by decide +kernel
theorem jo_195_0 : jb_op 195 0 = some (.aload_n 0, 99, 0, 0) := by decide +kernel
theorem jo_195_1 : jb_op 195 1 = some (.iload_n 1, 99, 0, 0) := by decide +kernel
theorem jo_195_2 : jb_op 195 2 = some (.invokevirtual 194, 2, 108, 1) := by decide +kernel
theorem jh_108_195 : jb_ht 108 < jb_ht 195 := by decide +kernel
theorem jo_195_5 : jb_op 195 5 = some (.ifCond .eq (13), 99, 0, 0) := by decide +kernel
theorem jo_195_18 : jb_op 195 18 = some (.aload_n 0, 99, 0, 0) := by decide +kernel
theorem jo_195_19 : jb_op 195 19 = some (.iload_n 1, 99, 0, 0) := by decide +kernel
theorem jo_195_20 : jb_op 195 20 = some (.invokevirtual 194, 2, 108, 1) := by decide +kernel
theorem jo_195_8 : jb_op 195 8 = some (.iload_n 2, 99, 0, 0) := by decide +kernel
theorem jo_195_9 : jb_op 195 9 = some (.iconst 1, 99, 0, 0) := by decide +kernel
theorem jo_195_10 : jb_op 195 10 = some (.bipush 12, 99, 0, 0) := by decide +kernel
theorem jo_195_12 : jb_op 195 12 = some (.invokestatic 85, 4, 31, 3) := by decide +kernel
theorem jh_31_195 : jb_ht 31 < jb_ht 195 := by decide +kernel
theorem jo_195_15 : jb_op 195 15 = some (.ifCond .ne (18), 99, 0, 0) := by decide +kernel
theorem jo_195_33 : jb_op 195 33 = some (.aload_n 0, 99, 0, 0) := by decide +kernel
theorem jo_195_34 : jb_op 195 34 = some (.iload_n 1, 99, 0, 0) := by decide +kernel
theorem jo_195_35 : jb_op 195 35 = some (.invokevirtual 197, 2, 109, 1) := by decide +kernel
theorem jh_109_195 : jb_ht 109 < jb_ht 195 := by decide +kernel
theorem jo_195_38 : jb_op 195 38 = some (.aload_n 0, 99, 0, 0) := by decide +kernel
theorem jo_195_39 : jb_op 195 39 = some (.getfield 124, 0, 11, 20) := by decide +kernel
theorem jo_195_42 : jb_op 195 42 = some (.iconst 1, 99, 0, 0) := by decide +kernel
theorem jo_195_43 : jb_op 195 43 = some (.isub, 99, 0, 0) := by decide +kernel
theorem jo_195_44 : jb_op 195 44 = some (.istore_n 3, 99, 0, 0) := by decide +kernel
theorem jo_195_45 : jb_op 195 45 = some (.iload_n 3, 99, 0, 0) := by decide +kernel
theorem jo_195_46 : jb_op 195 46 = some (.iload_n 2, 99, 0, 0) := by decide +kernel
theorem jo_195_47 : jb_op 195 47 = some (.if_icmp .lt (42), 99, 0, 0) := by decide +kernel
theorem jo_195_89 : jb_op 195 89 = some (.aload_n 0, 99, 0, 0) := by decide +kernel
theorem jo_195_90 : jb_op 195 90 = some (.invokevirtual 191, 2, 151, 0) := by decide +kernel
theorem jh_151_195 : jb_ht 151 < jb_ht 195 := by decide +kernel
theorem jo_195_50 : jb_op 195 50 = some (.aload_n 0, 99, 0, 0) := by decide +kernel
theorem jo_195_51 : jb_op 195 51 = some (.getfield 35, 0, 11, 19) := by decide +kernel
theorem jo_195_54 : jb_op 195 54 = some (.iload_n 3, 99, 0, 0) := by decide +kernel
theorem jo_195_55 : jb_op 195 55 = some (.aload_n 0, 99, 0, 0) := by decide +kernel
theorem jo_195_56 : jb_op 195 56 = some (.getfield 35, 0, 11, 19) := by decide +kernel
theorem jo_195_59 : jb_op 195 59 = some (.iload_n 3, 99, 0, 0) := by decide +kernel
theorem jo_195_60 : jb_op 195 60 = some (.iaload, 99, 0, 0) := by decide +kernel
theorem jo_195_61 : jb_op 195 61 = some (.iconst 5, 99, 0, 0) := by decide +kernel
theorem jo_195_62 : jb_op 195 62 = some (.if_icmp .ne (14), 99, 0, 0) := by decide +kernel
theorem jo_195_65 : jb_op 195 65 = some (.aload_n 0, 99, 0, 0) := by decide +kernel
theorem jo_195_66 : jb_op 195 66 = some (.getfield 35, 0, 11, 19) := by decide +kernel
theorem jo_195_69 : jb_op 195 69 = some (.iload_n 3, 99, 0, 0) := by decide +kernel
theorem jo_195_70 : jb_op 195 70 = some (.iload_n 2, 99, 0, 0) := by decide +kernel
theorem jo_195_71 : jb_op 195 71 = some (.isub, 99, 0, 0) := by decide +kernel
theorem jo_195_72 : jb_op 195 72 = some (.iaload, 99, 0, 0) := by decide +kernel
theorem jo_195_73 : jb_op 195 73 = some (.goto 9, 99, 0, 0) := by decide +kernel
theorem jo_195_82 : jb_op 195 82 = some (.iastore, 99, 0, 0) := by decide +kernel
theorem jo_195_83 : jb_op 195 83 = some (.iinc 3 (-1), 99, 0, 0) := by decide +kernel
theorem jo_195_86 : jb_op 195 86 = some (.goto (-41), 99, 0, 0) := by decide +kernel
theorem jo_195_76 : jb_op 195 76 = some (.aload_n 0, 99, 0, 0) := by decide +kernel
theorem jo_195_77 : jb_op 195 77 = some (.getfield 35, 0, 11, 19) := by decide +kernel
theorem jo_195_80 : jb_op 195 80 = some (.iload_n 3, 99, 0, 0) := by decide +kernel
theorem jo_195_81 : jb_op 195 81 = some (.iaload, 99, 0, 0) := by decide +kernel
theorem jo_195_93 : jb_op 195 93 = some (.ireturn, 99, 0, 0) := by decide +kernel
theorem jr_195 : jb_ret 195 = (some .int) := by decide +kernel
theorem jo_195_23 : jb_op 195 23 = some (.ifCond .eq (8), 99, 0, 0) := by decide +kernel
theorem jo_195_31 : jb_op 195 31 = some (.iconst (-1), 99, 0, 0) := by decide +kernel
theorem jo_195_32 : jb_op 195 32 = some (.ireturn, 99, 0, 0) := by decide +kernel
theorem jo_195_26 : jb_op 195 26 = some (.bipush (-2), 99, 0, 0) := by decide +kernel
theorem jo_195_28 : jb_op 195 28 = some (.goto 4, 99, 0, 0) := by decide +kernel
theorem jl_195 : jb_ml 195 = 4 := by decide +kernel
theorem jo_196_0 : jb_op 196 0 = some (.iload_n 1, 99, 0, 0) := by decide +kernel
theorem jo_196_1 : jb_op 196 1 = some (.invokestatic 97, 4, 91, 1) := by decide +kernel
theorem jh_91_196 : jb_ht 91 < jb_ht 196 := by decide +kernel
theorem jo_196_4 : jb_op 196 4 = some (.ifCond .ne (5), 99, 0, 0) := by decide +kernel
theorem jo_196_7 : jb_op 196 7 = some (.iconst (-1), 99, 0, 0) := by decide +kernel
theorem jo_196_8 : jb_op 196 8 = some (.ireturn, 99, 0, 0) := by decide +kernel
theorem jr_196 : jb_ret 196 = (some .int) := by decide +kernel
theorem jo_196_9 : jb_op 196 9 = some (.iload_n 2, 99, 0, 0) := by decide +kernel
theorem jo_196_10 : jb_op 196 10 = some (.tableswitch (58) (0) (4) #[(34), (34), (34), (46), (52)], 99, 0, 0) := by decide +kernel
theorem jo_196_44 : jb_op 196 44 = some (.aload_n 0, 99, 0, 0) := by decide +kernel
theorem jo_196_45 : jb_op 196 45 = some (.getfield 9, 0, 11, 0) := by decide +kernel
theorem jo_196_48 : jb_op 196 48 = some (.iload_n 1, 99, 0, 0) := by decide +kernel
theorem jo_196_49 : jb_op 196 49 = some (.invokestatic 107, 4, 33, 1) := by decide +kernel
theorem jh_33_196 : jb_ht 33 < jb_ht 196 := by decide +kernel
theorem jo_196_56 : jb_op 196 56 = some (.aload_n 0, 99, 0, 0) := by decide +kernel
theorem jo_196_57 : jb_op 196 57 = some (.iload_n 1, 99, 0, 0) := by decide +kernel
theorem jo_196_58 : jb_op 196 58 = some (.invokevirtual 221, 2, 154, 1) := by decide +kernel
theorem jh_154_196 : jb_ht 154 < jb_ht 196 := by decide +kernel
theorem jw_154 : jb_ow 154 = 11 := by decide +kernel
theorem jo_196_62 : jb_op 196 62 = some (.aload_n 0, 99, 0, 0) := by decide +kernel
theorem jo_196_63 : jb_op 196 63 = some (.iload_n 1, 99, 0, 0) := by decide +kernel
theorem jo_196_64 : jb_op 196 64 = some (.invokevirtual 224, 2, 155, 1) := by decide +kernel
theorem jh_155_196 : jb_ht 155 < jb_ht 196 := by decide +kernel
theorem jw_155 : jb_ow 155 = 11 := by decide +kernel
theorem jo_196_68 : jb_op 196 68 = some (.bipush (-2), 99, 0, 0) := by decide +kernel
theorem jo_196_70 : jb_op 196 70 = some (.ireturn, 99, 0, 0) := by decide +kernel
theorem jo_196_67 : jb_op 196 67 = some (.ireturn, 99, 0, 0) := by decide +kernel
theorem jo_196_61 : jb_op 196 61 = some (.ireturn, 99, 0, 0) := by decide +kernel
theorem jo_196_52 : jb_op 196 52 = some (.iload_n 2, 99, 0, 0) := by decide +kernel
theorem jo_196_53 : jb_op 196 53 = some (.iadd, 99, 0, 0) := by decide +kernel
theorem jo_196_54 : jb_op 196 54 = some (.iaload, 99, 0, 0) := by decide +kernel
theorem jo_196_55 : jb_op 196 55 = some (.ireturn, 99, 0, 0) := by decide +kernel
theorem jl_196 : jb_ml 196 = 3 := by decide +kernel
theorem jo_197_0 : jb_op 197 0 = some (.iconst 0, 99, 0, 0) := by decide +kernel
theorem jo_197_1 : jb_op 197 1 = some (.istore_n 1, 99, 0, 0) := by decide +kernel
theorem jo_197_2 : jb_op 197 2 = some (.iconst 0, 99, 0, 0) := by decide +kernel
theorem jo_197_3 : jb_op 197 3 = some (.istore_n 2, 99, 0, 0) := by decide +kernel
theorem jo_197_4 : jb_op 197 4 = some (.iload_n 2, 99, 0, 0) := by decide +kernel
theorem jo_197_5 : jb_op 197 5 = some (.aload_n 0, 99, 0, 0) := by decide +kernel
theorem jo_197_6 : jb_op 197 6 = some (.getfield 9, 0, 11, 0) := by decide +kernel
theorem jo_197_9 : jb_op 197 9 = some (.iconst 2, 99, 0, 0) := by decide +kernel
theorem jo_197_10 : jb_op 197 10 = some (.iaload, 99, 0, 0) := by decide +kernel
theorem jo_197_11 : jb_op 197 11 = some (.if_icmp .ge (30), 99, 0, 0) := by decide +kernel
theorem jo_197_41 : jb_op 197 41 = some (.aload_n 0, 99, 0, 0) := by decide +kernel
theorem jo_197_42 : jb_op 197 42 = some (.getfield 9, 0, 11, 0) := by decide +kernel
theorem jo_197_45 : jb_op 197 45 = some (.iconst 2, 99, 0, 0) := by decide +kernel
theorem jo_197_46 : jb_op 197 46 = some (.iaload, 99, 0, 0) := by decide +kernel
theorem jo_197_47 : jb_op 197 47 = some (.ifCond .ne (7), 99, 0, 0) := by decide +kernel
theorem jo_197_50 : jb_op 197 50 = some (.fconst 0, 99, 0, 0) := by decide +kernel
theorem jo_197_51 : jb_op 197 51 = some (.goto 13, 99, 0, 0) := by decide +kernel
theorem jo_197_64 : jb_op 197 64 = some (.freturn, 99, 0, 0) := by decide +kernel
theorem jr_197 : jb_ret 197 = (some .float) := by decide +kernel
theorem jo_197_54 : jb_op 197 54 = some (.iload_n 1, 99, 0, 0) := by decide +kernel
theorem jo_197_55 : jb_op 197 55 = some (.i2f, 99, 0, 0) := by decide +kernel
theorem jo_197_56 : jb_op 197 56 = some (.aload_n 0, 99, 0, 0) := by decide +kernel
theorem jo_197_57 : jb_op 197 57 = some (.getfield 9, 0, 11, 0) := by decide +kernel
theorem jo_197_60 : jb_op 197 60 = some (.iconst 2, 99, 0, 0) := by decide +kernel
theorem jo_197_61 : jb_op 197 61 = some (.iaload, 99, 0, 0) := by decide +kernel
theorem jo_197_62 : jb_op 197 62 = some (.i2f, 99, 0, 0) := by decide +kernel
theorem jo_197_63 : jb_op 197 63 = some (.fdiv, 99, 0, 0) := by decide +kernel
theorem jo_197_14 : jb_op 197 14 = some (.aload_n 0, 99, 0, 0) := by decide +kernel
theorem jo_197_15 : jb_op 197 15 = some (.iload_n 2, 99, 0, 0) := by decide +kernel
theorem jo_197_16 : jb_op 197 16 = some (.invokevirtual 197, 2, 109, 1) := by decide +kernel
theorem jh_109_197 : jb_ht 109 < jb_ht 197 := by decide +kernel
theorem jo_197_19 : jb_op 197 19 = some (.iload_n 1, 99, 0, 0) := by decide +kernel
theorem jo_197_20 : jb_op 197 20 = some (.aload_n 0, 99, 0, 0) := by decide +kernel
theorem jo_197_21 : jb_op 197 21 = some (.invokevirtual 191, 2, 151, 0) := by decide +kernel
theorem jh_151_197 : jb_ht 151 < jb_ht 197 := by decide +kernel
theorem jo_197_24 : jb_op 197 24 = some (.iconst 1, 99, 0, 0) := by decide +kernel
theorem jo_197_25 : jb_op 197 25 = some (.if_icmp .ne (7), 99, 0, 0) := by decide +kernel
theorem jo_197_28 : jb_op 197 28 = some (.iconst 1, 99, 0, 0) := by decide +kernel
theorem jo_197_29 : jb_op 197 29 = some (.goto 4, 99, 0, 0) := by decide +kernel
theorem jo_197_33 : jb_op 197 33 = some (.iadd, 99, 0, 0) := by decide +kernel
theorem jo_197_34 : jb_op 197 34 = some (.istore_n 1, 99, 0, 0) := by decide +kernel
theorem jo_197_35 : jb_op 197 35 = some (.iinc 2 1, 99, 0, 0) := by decide +kernel
theorem jo_197_38 : jb_op 197 38 = some (.goto (-34), 99, 0, 0) := by decide +kernel
theorem jo_197_32 : jb_op 197 32 = some (.iconst 0, 99, 0, 0) := by decide +kernel
theorem jl_197 : jb_ml 197 = 3 := by decide +kernel
theorem jo_198_0 : jb_op 198 0 = some (.iload_n 2, 99, 0, 0) := by decide +kernel
theorem jo_198_1 : jb_op 198 1 = some (.tableswitch (164) (0) (7) #[(47), (82), (101), (164), (125), (125), (164), (156)], 99, 0, 0) := by decide +kernel
theorem jo_198_48 : jb_op 198 48 = some (.aload_n 0, 99, 0, 0) := by decide +kernel
theorem jo_198_49 : jb_op 198 49 = some (.getfield 50, 0, 11, 30) := by decide +kernel
theorem jo_198_52 : jb_op 198 52 = some (.iload_n 1, 99, 0, 0) := by decide +kernel
theorem jo_198_53 : jb_op 198 53 = some (.iconst 1, 99, 0, 0) := by decide +kernel
theorem jo_198_54 : jb_op 198 54 = some (.iadd, 99, 0, 0) := by decide +kernel
theorem jo_198_55 : jb_op 198 55 = some (.aload_n 0, 99, 0, 0) := by decide +kernel
theorem jo_198_56 : jb_op 198 56 = some (.bipush 97, 99, 0, 0) := by decide +kernel
theorem jo_198_58 : jb_op 198 58 = some (.bipush 101, 99, 0, 0) := by decide +kernel
theorem jo_198_60 : jb_op 198 60 = some (.invokevirtual 268, 2, 119, 2) := by decide +kernel
theorem jh_119_198 : jb_ht 119 < jb_ht 198 := by decide +kernel
theorem jo_198_83 : jb_op 198 83 = some (.aload_n 0, 99, 0, 0) := by decide +kernel
theorem jo_198_84 : jb_op 198 84 = some (.getfield 50, 0, 11, 30) := by decide +kernel
theorem jo_198_87 : jb_op 198 87 = some (.iload_n 1, 99, 0, 0) := by decide +kernel
theorem jo_198_88 : jb_op 198 88 = some (.iconst 1, 99, 0, 0) := by decide +kernel
theorem jo_198_89 : jb_op 198 89 = some (.iadd, 99, 0, 0) := by decide +kernel
theorem jo_198_90 : jb_op 198 90 = some (.aload_n 0, 99, 0, 0) := by decide +kernel
theorem jo_198_91 : jb_op 198 91 = some (.bipush 97, 99, 0, 0) := by decide +kernel
theorem jo_198_93 : jb_op 198 93 = some (.bipush 101, 99, 0, 0) := by decide +kernel
theorem jo_198_95 : jb_op 198 95 = some (.invokevirtual 268, 2, 119, 2) := by decide +kernel
theorem jo_198_102 : jb_op 198 102 = some (.aload_n 0, 99, 0, 0) := by decide +kernel
theorem jo_198_103 : jb_op 198 103 = some (.getfield 50, 0, 11, 30) := by decide +kernel
theorem jo_198_106 : jb_op 198 106 = some (.iload_n 1, 99, 0, 0) := by decide +kernel
theorem jo_198_107 : jb_op 198 107 = some (.iconst 1, 99, 0, 0) := by decide +kernel
theorem jo_198_108 : jb_op 198 108 = some (.iadd, 99, 0, 0) := by decide +kernel
theorem jo_198_109 : jb_op 198 109 = some (.aload_n 0, 99, 0, 0) := by decide +kernel
theorem jo_198_110 : jb_op 198 110 = some (.invokevirtual 294, 2, 164, 0) := by decide +kernel
theorem jh_164_198 : jb_ht 164 < jb_ht 198 := by decide +kernel
theorem jw_164 : jb_ow 164 = 11 := by decide +kernel
theorem jo_198_165 : jb_op 198 165 = some (.aload_n 0, 99, 0, 0) := by decide +kernel
theorem jo_198_166 : jb_op 198 166 = some (.getfield 50, 0, 11, 30) := by decide +kernel
theorem jo_198_169 : jb_op 198 169 = some (.iload_n 1, 99, 0, 0) := by decide +kernel
theorem jo_198_170 : jb_op 198 170 = some (.iconst 1, 99, 0, 0) := by decide +kernel
theorem jo_198_171 : jb_op 198 171 = some (.iadd, 99, 0, 0) := by decide +kernel
theorem jo_198_172 : jb_op 198 172 = some (.aload_n 0, 99, 0, 0) := by decide +kernel
theorem jo_198_173 : jb_op 198 173 = some (.invokevirtual 291, 2, 163, 0) := by decide +kernel
theorem jh_163_198 : jb_ht 163 < jb_ht 198 := by decide +kernel
theorem jw_163 : jb_ow 163 = 11 := by decide +kernel
theorem jo_198_126 : jb_op 198 126 = some (.aload_n 0, 99, 0, 0) := by decide +kernel
theorem jo_198_127 : jb_op 198 127 = some (.getfield 50, 0, 11, 30) := by decide +kernel
theorem jo_198_130 : jb_op 198 130 = some (.iload_n 1, 99, 0, 0) := by decide +kernel
theorem jo_198_131 : jb_op 198 131 = some (.iconst 1, 99, 0, 0) := by decide +kernel
theorem jo_198_132 : jb_op 198 132 = some (.iadd, 99, 0, 0) := by decide +kernel
theorem jo_198_133 : jb_op 198 133 = some (.aload_n 0, 99, 0, 0) := by decide +kernel
theorem jo_198_134 : jb_op 198 134 = some (.invokevirtual 291, 2, 163, 0) := by decide +kernel
theorem jo_198_157 : jb_op 198 157 = some (.aload_n 0, 99, 0, 0) := by decide +kernel
theorem jo_198_158 : jb_op 198 158 = some (.iload_n 1, 99, 0, 0) := by decide +kernel
theorem jo_198_159 : jb_op 198 159 = some (.invokevirtual 297, 2, 165, 1) := by decide +kernel
theorem jh_165_198 : jb_ht 165 < jb_ht 198 := by decide +kernel
theorem jw_165 : jb_ow 165 = 11 := by decide +kernel
theorem jo_198_162 : jb_op 198 162 = some (.goto 15, 99, 0, 0) := by decide +kernel
theorem jo_198_177 : jb_op 198 177 = some (.return_, 99, 0, 0) := by decide +kernel
theorem jr_198 : jb_ret 198 = none := by decide +kernel
theorem jo_198_137 : jb_op 198 137 = some (.iastore, 99, 0, 0) := by decide +kernel
theorem jo_198_138 : jb_op 198 138 = some (.aload_n 0, 99, 0, 0) := by decide +kernel
theorem jo_198_139 : jb_op 198 139 = some (.invokevirtual 288, 2, 162, 0) := by decide +kernel
theorem jh_162_198 : jb_ht 162 < jb_ht 198 := by decide +kernel
theorem jw_162 : jb_ow 162 = 11 := by decide +kernel
theorem jo_198_142 : jb_op 198 142 = some (.aload_n 0, 99, 0, 0) := by decide +kernel
theorem jo_198_143 : jb_op 198 143 = some (.getfield 50, 0, 11, 30) := by decide +kernel
theorem jo_198_146 : jb_op 198 146 = some (.iload_n 1, 99, 0, 0) := by decide +kernel
theorem jo_198_147 : jb_op 198 147 = some (.iconst 2, 99, 0, 0) := by decide +kernel
theorem jo_198_148 : jb_op 198 148 = some (.iadd, 99, 0, 0) := by decide +kernel
theorem jo_198_149 : jb_op 198 149 = some (.aload_n 0, 99, 0, 0) := by decide +kernel
theorem jo_198_150 : jb_op 198 150 = some (.invokevirtual 291, 2, 163, 0) := by decide +kernel
theorem jo_198_153 : jb_op 198 153 = some (.iastore, 99, 0, 0) := by decide +kernel
theorem jo_198_154 : jb_op 198 154 = some (.goto 23, 99, 0, 0) := by decide +kernel
theorem jo_198_176 : jb_op 198 176 = some (.iastore, 99, 0, 0) := by decide +kernel
theorem jo_198_113 : jb_op 198 113 = some (.iastore, 99, 0, 0) := by decide +kernel
theorem jo_198_114 : jb_op 198 114 = some (.aload_n 0, 99, 0, 0) := by decide +kernel
theorem jo_198_115 : jb_op 198 115 = some (.invokevirtual 288, 2, 162, 0) := by decide +kernel
theorem jo_198_118 : jb_op 198 118 = some (.aload_n 0, 99, 0, 0) := by decide +kernel
theorem jo_198_119 : jb_op 198 119 = some (.iload_n 1, 99, 0, 0) := by decide +kernel
theorem jo_198_120 : jb_op 198 120 = some (.invokevirtual 297, 2, 165, 1) := by decide +kernel
theorem jo_198_123 : jb_op 198 123 = some (.goto 54, 99, 0, 0) := by decide +kernel
theorem jo_198_98 : jb_op 198 98 = some (.iastore, 99, 0, 0) := by decide +kernel
theorem jo_198_99 : jb_op 198 99 = some (.goto 78, 99, 0, 0) := by decide +kernel
theorem jo_198_63 : jb_op 198 63 = some (.iastore, 99, 0, 0) := by decide +kernel
theorem jo_198_64 : jb_op 198 64 = some (.aload_n 0, 99, 0, 0) := by decide +kernel
theorem jo_198_65 : jb_op 198 65 = some (.invokevirtual 288, 2, 162, 0) := by decide +kernel
theorem jo_198_68 : jb_op 198 68 = some (.aload_n 0, 99, 0, 0) := by decide +kernel
theorem jo_198_69 : jb_op 198 69 = some (.getfield 50, 0, 11, 30) := by decide +kernel
theorem jo_198_72 : jb_op 198 72 = some (.iload_n 1, 99, 0, 0) := by decide +kernel
theorem jo_198_73 : jb_op 198 73 = some (.iconst 2, 99, 0, 0) := by decide +kernel
theorem jo_198_74 : jb_op 198 74 = some (.iadd, 99, 0, 0) := by decide +kernel
theorem jo_198_75 : jb_op 198 75 = some (.aload_n 0, 99, 0, 0) := by decide +kernel
theorem jo_198_76 : jb_op 198 76 = some (.invokevirtual 291, 2, 163, 0) := by decide +kernel
theorem jo_198_79 : jb_op 198 79 = some (.iastore, 99, 0, 0) := by decide +kernel
theorem jo_198_80 : jb_op 198 80 = some (.goto 97, 99, 0, 0) := by decide +kernel
theorem jl_198 : jb_ml 198 = 3 := by decide +kernel
theorem jo_200_0 : jb_op 200 0 = some (.iload_n 1, 99, 0, 0) := by decide +kernel
theorem jo_200_1 : jb_op 200 1 = some (.ifCond .lt (14), 99, 0, 0) := by decide +kernel
theorem jo_200_4 : jb_op 200 4 = some (.aload_n 0, 99, 0, 0) := by decide +kernel
theorem jo_200_5 : jb_op 200 5 = some (.getfield 25, 0, 10, 3) := by decide +kernel
theorem jo_200_8 : jb_op 200 8 = some (.aload_n 0, 99, 0, 0) := by decide +kernel
theorem jo_200_9 : jb_op 200 9 = some (.getfield 16, 0, 10, 1) := by decide +kernel
theorem jf_0_1 : jm_f 0 1 = some (some 26) := by decide +kernel
theorem jo_200_12 : jb_op 200 12 = some (.invokevirtual 297, 2, 168, 1) := by decide +kernel
theorem jh_168_200 : jb_ht 168 < jb_ht 200 := by decide +kernel
theorem jw_168 : jb_ow 168 = 2 := by decide +kernel
theorem jo_200_15 : jb_op 200 15 = some (.iload_n 1, 99, 0, 0) := by decide +kernel
theorem jo_200_16 : jb_op 200 16 = some (.ireturn, 99, 0, 0) := by decide +kernel
theorem jr_200 : jb_ret 200 = (some .int) := by decide +kernel
theorem jl_200 : jb_ml 200 = 2 := by decide +kernel
theorem jo_201_0 : jb_op 201 0 = some (.aload_n 0, 99, 0, 0) := by decide +kernel
theorem jo_201_1 : jb_op 201 1 = some (.getfield 10, 0, 10, 0) := by decide +kernel
theorem jo_201_4 : jb_op 201 4 = some (.getfield 92, 1, 9, 0) := by decide +kernel
theorem jo_201_7 : jb_op 201 7 = some (.getfield 157, 1, 0, 0) := by decide +kernel
theorem jo_201_10 : jb_op 201 10 = some (.iload_n 1, 99, 0, 0) := by decide +kernel
theorem jo_201_11 : jb_op 201 11 = some (.invokevirtual 160, 2, 4, 1) := by decide +kernel
theorem jh_4_201 : jb_ht 4 < jb_ht 201 := by decide +kernel
theorem jo_201_14 : jb_op 201 14 = some (.ifCond .ne (5), 99, 0, 0) := by decide +kernel
theorem jo_201_17 : jb_op 201 17 = some (.iconst (-1), 99, 0, 0) := by decide +kernel
theorem jo_201_18 : jb_op 201 18 = some (.ireturn, 99, 0, 0) := by decide +kernel
theorem jr_201 : jb_ret 201 = (some .int) := by decide +kernel
theorem jo_201_19 : jb_op 201 19 = some (.iload_n 2, 99, 0, 0) := by decide +kernel
theorem jo_201_20 : jb_op 201 20 = some (.tableswitch (99) (0) (4) #[(36), (51), (66), (81), (87)], 99, 0, 0) := by decide +kernel
theorem jo_201_56 : jb_op 201 56 = some (.aload_n 0, 99, 0, 0) := by decide +kernel
theorem jo_201_57 : jb_op 201 57 = some (.getfield 10, 0, 10, 0) := by decide +kernel
theorem jo_201_60 : jb_op 201 60 = some (.getfield 92, 1, 9, 0) := by decide +kernel
theorem jo_201_63 : jb_op 201 63 = some (.getfield 157, 1, 0, 0) := by decide +kernel
theorem jo_201_66 : jb_op 201 66 = some (.iload_n 1, 99, 0, 0) := by decide +kernel
theorem jo_201_67 : jb_op 201 67 = some (.invokevirtual 164, 2, 6, 1) := by decide +kernel
theorem jh_6_201 : jb_ht 6 < jb_ht 201 := by decide +kernel
theorem jo_201_71 : jb_op 201 71 = some (.aload_n 0, 99, 0, 0) := by decide +kernel
theorem jo_201_72 : jb_op 201 72 = some (.getfield 10, 0, 10, 0) := by decide +kernel
theorem jo_201_75 : jb_op 201 75 = some (.getfield 92, 1, 9, 0) := by decide +kernel
theorem jo_201_78 : jb_op 201 78 = some (.getfield 167, 1, 0, 1) := by decide +kernel
theorem jo_201_81 : jb_op 201 81 = some (.iload_n 1, 99, 0, 0) := by decide +kernel
theorem jo_201_82 : jb_op 201 82 = some (.invokevirtual 164, 2, 6, 1) := by decide +kernel
theorem jo_201_86 : jb_op 201 86 = some (.aload_n 0, 99, 0, 0) := by decide +kernel
theorem jo_201_87 : jb_op 201 87 = some (.getfield 10, 0, 10, 0) := by decide +kernel
theorem jo_201_90 : jb_op 201 90 = some (.getfield 92, 1, 9, 0) := by decide +kernel
theorem jo_201_93 : jb_op 201 93 = some (.getfield 170, 1, 0, 2) := by decide +kernel
theorem jo_201_96 : jb_op 201 96 = some (.iload_n 1, 99, 0, 0) := by decide +kernel
theorem jo_201_97 : jb_op 201 97 = some (.invokevirtual 164, 2, 6, 1) := by decide +kernel
theorem jo_201_101 : jb_op 201 101 = some (.aload_n 0, 99, 0, 0) := by decide +kernel
theorem jo_201_102 : jb_op 201 102 = some (.iload_n 1, 99, 0, 0) := by decide +kernel
theorem jo_201_103 : jb_op 201 103 = some (.invokevirtual 173, 2, 130, 1) := by decide +kernel
theorem jh_130_201 : jb_ht 130 < jb_ht 201 := by decide +kernel
theorem jw_130 : jb_ow 130 = 10 := by decide +kernel
theorem jo_201_107 : jb_op 201 107 = some (.aload_n 0, 99, 0, 0) := by decide +kernel
theorem jo_201_108 : jb_op 201 108 = some (.getfield 10, 0, 10, 0) := by decide +kernel
theorem jo_201_111 : jb_op 201 111 = some (.getfield 124, 1, 9, 1) := by decide +kernel
theorem jo_201_114 : jb_op 201 114 = some (.iload_n 1, 99, 0, 0) := by decide +kernel
