theorem m_63 : mmaxL 63 = 1 := by decide +kernel
theorem m_64 : mmaxL 64 = 2 := by decide +kernel
theorem c_64_0 : mcd 64 0 = some (.aload_n 0, 1) := by decide +kernel
theorem c_64_1 : mcd 64 1 = some (.getfield 19, 3) := by decide +kernel
theorem f_64_19 : mfL (mown 64) 19 = some (6, 0, 0) := by decide +kernel
theorem c_64_4 : mcd 64 4 = some (.iload_n 1, 1) := by decide +kernel
theorem c_64_5 : mcd 64 5 = some (.iadd, 1) := by decide +kernel
theorem c_64_6 : mcd 64 6 = some (.sipush 400, 3) := by decide +kernel
theorem c_64_9 : mcd 64 9 = some (.if_icmp .gt 7, 3) := by decide +kernel
theorem c_64_12 : mcd 64 12 = some (.iconst 1, 1) := by decide +kernel
theorem c_64_13 : mcd 64 13 = some (.goto 4, 3) := by decide +kernel
theorem c_64_16 : mcd 64 16 = some (.iconst 0, 1) := by decide +kernel
theorem r_64 : mret 64 = some .boolean := by decide +kernel
theorem c_64_17 : mcd 64 17 = some (.ireturn, 1) := by decide +kernel
theorem m_65 : mmaxL 65 = 3 := by decide +kernel
theorem c_65_0 : mcd 65 0 = some (.bipush 24, 2) := by decide +kernel
theorem c_65_2 : mcd 65 2 = some (.istore_n 2, 1) := by decide +kernel
theorem c_65_3 : mcd 65 3 = some (.iload_n 2, 1) := by decide +kernel
theorem c_65_4 : mcd 65 4 = some (.ifCond .lt 45, 3) := by decide +kernel
theorem c_65_7 : mcd 65 7 = some (.aload_n 0, 1) := by decide +kernel
theorem c_65_8 : mcd 65 8 = some (.getfield 19, 3) := by decide +kernel
theorem f_65_19 : mfL (mown 65) 19 = some (6, 0, 0) := by decide +kernel
theorem c_65_11 : mcd 65 11 = some (.sipush 400, 3) := by decide +kernel
theorem c_65_14 : mcd 65 14 = some (.if_icmp .ge 35, 3) := by decide +kernel
theorem c_65_17 : mcd 65 17 = some (.aload_n 0, 1) := by decide +kernel
theorem c_65_18 : mcd 65 18 = some (.getfield 15, 3) := by decide +kernel
theorem f_65_15 : mfL (mown 65) 15 = some (6, 2, 6) := by decide +kernel
theorem c_65_21 : mcd 65 21 = some (.aload_n 0, 1) := by decide +kernel
theorem c_65_22 : mcd 65 22 = some (.getfield 19, 3) := by decide +kernel
theorem c_65_25 : mcd 65 25 = some (.iload_n 1, 1) := by decide +kernel
theorem c_65_26 : mcd 65 26 = some (.iload_n 2, 1) := by decide +kernel
theorem c_65_27 : mcd 65 27 = some (.ishr, 1) := by decide +kernel
theorem c_65_28 : mcd 65 28 = some (.sipush 255, 3) := by decide +kernel
theorem c_65_31 : mcd 65 31 = some (.iand, 1) := by decide +kernel
theorem c_65_32 : mcd 65 32 = some (.iastore, 1) := by decide +kernel
theorem c_65_33 : mcd 65 33 = some (.aload_n 0, 1) := by decide +kernel
theorem c_65_34 : mcd 65 34 = some (.dup, 1) := by decide +kernel
theorem c_65_35 : mcd 65 35 = some (.getfield 19, 3) := by decide +kernel
theorem c_65_38 : mcd 65 38 = some (.iconst 1, 1) := by decide +kernel
theorem c_65_39 : mcd 65 39 = some (.iadd, 1) := by decide +kernel
theorem c_65_40 : mcd 65 40 = some (.putfield 19, 3) := by decide +kernel
theorem c_65_43 : mcd 65 43 = some (.iinc 2 (-8), 3) := by decide +kernel
theorem c_65_46 : mcd 65 46 = some (.goto (-43), 3) := by decide +kernel
theorem r_65 : mret 65 = none := by decide +kernel
theorem c_65_49 : mcd 65 49 = some (.return_, 1) := by decide +kernel
theorem m_66 : mmaxL 66 = 2 := by decide +kernel
theorem c_66_0 : mcd 66 0 = some (.iload_n 1, 1) := by decide +kernel
theorem c_66_1 : mcd 66 1 = some (.ifCond .lt 19, 3) := by decide +kernel
theorem c_66_4 : mcd 66 4 = some (.iload_n 1, 1) := by decide +kernel
theorem c_66_5 : mcd 66 5 = some (.sipush 400, 3) := by decide +kernel
theorem c_66_8 : mcd 66 8 = some (.if_icmp .ge 12, 3) := by decide +kernel
theorem c_66_11 : mcd 66 11 = some (.aload_n 0, 1) := by decide +kernel
theorem c_66_12 : mcd 66 12 = some (.getfield 15, 3) := by decide +kernel
theorem f_66_15 : mfL (mown 66) 15 = some (6, 2, 6) := by decide +kernel
theorem c_66_15 : mcd 66 15 = some (.iload_n 1, 1) := by decide +kernel
theorem c_66_16 : mcd 66 16 = some (.iaload, 1) := by decide +kernel
theorem c_66_17 : mcd 66 17 = some (.goto 4, 3) := by decide +kernel
theorem c_66_20 : mcd 66 20 = some (.iconst 0, 1) := by decide +kernel
theorem r_66 : mret 66 = some .int := by decide +kernel
theorem c_66_21 : mcd 66 21 = some (.ireturn, 1) := by decide +kernel
theorem m_67 : mmaxL 67 = 2 := by decide +kernel
theorem c_67_0 : mcd 67 0 = some (.aload_n 0, 1) := by decide +kernel
theorem c_67_1 : mcd 67 1 = some (.iload_n 1, 1) := by decide +kernel
theorem w_66 : mci.getD (mown 66) 99 = 6 := by decide +kernel
theorem c_67_2 : mcd 67 2 = some (.invokevirtual 22, 3) := by decide +kernel
theorem k_67_22 : mcL (mown 67) 22 = some (0, 66, 2) := by decide +kernel
theorem c_67_5 : mcd 67 5 = some (.bipush 8, 2) := by decide +kernel
theorem c_67_7 : mcd 67 7 = some (.ishl, 1) := by decide +kernel
theorem c_67_8 : mcd 67 8 = some (.aload_n 0, 1) := by decide +kernel
theorem c_67_9 : mcd 67 9 = some (.iload_n 1, 1) := by decide +kernel
theorem c_67_10 : mcd 67 10 = some (.iconst 1, 1) := by decide +kernel
theorem c_67_11 : mcd 67 11 = some (.iadd, 1) := by decide +kernel
theorem c_67_12 : mcd 67 12 = some (.invokevirtual 22, 3) := by decide +kernel
theorem c_67_15 : mcd 67 15 = some (.ior, 1) := by decide +kernel
theorem r_67 : mret 67 = some .int := by decide +kernel
theorem c_67_16 : mcd 67 16 = some (.ireturn, 1) := by decide +kernel
theorem m_68 : mmaxL 68 = 1 := by decide +kernel
theorem c_68_0 : mcd 68 0 = some (.aload_n 0, 1) := by decide +kernel
theorem c_68_1 : mcd 68 1 = some (.iconst (-1), 1) := by decide +kernel
theorem c_68_2 : mcd 68 2 = some (.putfield 9, 3) := by decide +kernel
theorem f_68_9 : mfL (mown 68) 9 = some (6, 1, 0) := by decide +kernel
theorem c_68_5 : mcd 68 5 = some (.aload_n 0, 1) := by decide +kernel
theorem c_68_6 : mcd 68 6 = some (.iconst 0, 1) := by decide +kernel
theorem c_68_7 : mcd 68 7 = some (.putfield 26, 3) := by decide +kernel
theorem f_68_26 : mfL (mown 68) 26 = some (6, 3, 0) := by decide +kernel
theorem c_68_10 : mcd 68 10 = some (.aload_n 0, 1) := by decide +kernel
theorem c_68_11 : mcd 68 11 = some (.iconst 0, 1) := by decide +kernel
theorem c_68_12 : mcd 68 12 = some (.putfield 29, 3) := by decide +kernel
theorem f_68_29 : mfL (mown 68) 29 = some (6, 5, 0) := by decide +kernel
theorem c_68_15 : mcd 68 15 = some (.aload_n 0, 1) := by decide +kernel
theorem c_68_16 : mcd 68 16 = some (.invokevirtual 32, 3) := by decide +kernel
theorem k_68_32 : mcL (mown 68) 32 = some (0, 70, 1) := by decide +kernel
theorem c_68_19 : mcd 68 19 = some (.aload_n 0, 1) := by decide +kernel
theorem c_68_20 : mcd 68 20 = some (.getfield 26, 3) := by decide +kernel
theorem c_68_23 : mcd 68 23 = some (.ifCond .eq 7, 3) := by decide +kernel
theorem c_68_26 : mcd 68 26 = some (.iconst 1, 1) := by decide +kernel
theorem c_68_27 : mcd 68 27 = some (.goto 4, 3) := by decide +kernel
theorem c_68_30 : mcd 68 30 = some (.iconst 0, 1) := by decide +kernel
theorem r_68 : mret 68 = some .boolean := by decide +kernel
theorem c_68_31 : mcd 68 31 = some (.ireturn, 1) := by decide +kernel
theorem m_69 : mmaxL 69 = 2 := by decide +kernel
theorem c_69_0 : mcd 69 0 = some (.iload_n 1, 1) := by decide +kernel
theorem c_69_1 : mcd 69 1 = some (.ifCond .ne 10, 3) := by decide +kernel
theorem c_69_4 : mcd 69 4 = some (.aload_n 0, 1) := by decide +kernel
theorem c_69_5 : mcd 69 5 = some (.getfield 26, 3) := by decide +kernel
theorem f_69_26 : mfL (mown 69) 26 = some (6, 3, 0) := by decide +kernel
theorem c_69_8 : mcd 69 8 = some (.ifCond .eq 7, 3) := by decide +kernel
theorem c_69_11 : mcd 69 11 = some (.aload_n 0, 1) := by decide +kernel
theorem c_69_12 : mcd 69 12 = some (.invokevirtual 35, 3) := by decide +kernel
theorem k_69_35 : mcL (mown 69) 35 = some (0, 71, 1) := by decide +kernel
theorem r_69 : mret 69 = none := by decide +kernel
theorem c_69_15 : mcd 69 15 = some (.return_, 1) := by decide +kernel
theorem m_70 : mmaxL 70 = 5 := by decide +kernel
theorem c_70_0 : mcd 70 0 = some (.aload_n 0, 1) := by decide +kernel
theorem c_70_1 : mcd 70 1 = some (.getfield 26, 3) := by decide +kernel
theorem f_70_26 : mfL (mown 70) 26 = some (6, 3, 0) := by decide +kernel
theorem c_70_4 : mcd 70 4 = some (.iconst 4, 1) := by decide +kernel
theorem c_70_5 : mcd 70 5 = some (.if_icmp .ne 4, 3) := by decide +kernel
theorem r_70 : mret 70 = none := by decide +kernel
theorem c_70_8 : mcd 70 8 = some (.return_, 1) := by decide +kernel
theorem c_70_9 : mcd 70 9 = some (.aload_n 0, 1) := by decide +kernel
theorem c_70_10 : mcd 70 10 = some (.aload_n 0, 1) := by decide +kernel
theorem c_70_11 : mcd 70 11 = some (.getfield 29, 3) := by decide +kernel
theorem f_70_29 : mfL (mown 70) 29 = some (6, 5, 0) := by decide +kernel
theorem c_70_14 : mcd 70 14 = some (.putfield 38, 3) := by decide +kernel
theorem f_70_38 : mfL (mown 70) 38 = some (6, 4, 0) := by decide +kernel
theorem c_70_17 : mcd 70 17 = some (.aload_n 0, 1) := by decide +kernel
theorem c_70_18 : mcd 70 18 = some (.getfield 38, 3) := by decide +kernel
theorem c_70_21 : mcd 70 21 = some (.aload_n 0, 1) := by decide +kernel
theorem c_70_22 : mcd 70 22 = some (.getfield 19, 3) := by decide +kernel
theorem f_70_19 : mfL (mown 70) 19 = some (6, 0, 0) := by decide +kernel
theorem c_70_25 : mcd 70 25 = some (.if_icmp .ge 30, 3) := by decide +kernel
theorem c_70_28 : mcd 70 28 = some (.aload_n 0, 1) := by decide +kernel
theorem c_70_29 : mcd 70 29 = some (.getfield 15, 3) := by decide +kernel
theorem f_70_15 : mfL (mown 70) 15 = some (6, 2, 6) := by decide +kernel
theorem c_70_32 : mcd 70 32 = some (.aload_n 0, 1) := by decide +kernel
theorem c_70_33 : mcd 70 33 = some (.getfield 38, 3) := by decide +kernel
theorem c_70_36 : mcd 70 36 = some (.iaload, 1) := by decide +kernel
theorem c_70_37 : mcd 70 37 = some (.bipush 32, 2) := by decide +kernel
theorem c_70_39 : mcd 70 39 = some (.if_icmp .ne 16, 3) := by decide +kernel
theorem c_70_42 : mcd 70 42 = some (.aload_n 0, 1) := by decide +kernel
theorem c_70_43 : mcd 70 43 = some (.dup, 1) := by decide +kernel
theorem c_70_44 : mcd 70 44 = some (.getfield 38, 3) := by decide +kernel
theorem c_70_47 : mcd 70 47 = some (.iconst 1, 1) := by decide +kernel
theorem c_70_48 : mcd 70 48 = some (.iadd, 1) := by decide +kernel
theorem c_70_49 : mcd 70 49 = some (.putfield 38, 3) := by decide +kernel
theorem c_70_52 : mcd 70 52 = some (.goto (-35), 3) := by decide +kernel
theorem c_70_55 : mcd 70 55 = some (.aload_n 0, 1) := by decide +kernel
theorem c_70_56 : mcd 70 56 = some (.aload_n 0, 1) := by decide +kernel
theorem c_70_57 : mcd 70 57 = some (.getfield 38, 3) := by decide +kernel
theorem c_70_60 : mcd 70 60 = some (.putfield 29, 3) := by decide +kernel
theorem c_70_63 : mcd 70 63 = some (.aload_n 0, 1) := by decide +kernel
theorem c_70_64 : mcd 70 64 = some (.getfield 38, 3) := by decide +kernel
theorem c_70_67 : mcd 70 67 = some (.aload_n 0, 1) := by decide +kernel
theorem c_70_68 : mcd 70 68 = some (.getfield 19, 3) := by decide +kernel
theorem c_70_71 : mcd 70 71 = some (.if_icmp .lt 9, 3) := by decide +kernel
theorem c_70_74 : mcd 70 74 = some (.aload_n 0, 1) := by decide +kernel
theorem c_70_75 : mcd 70 75 = some (.iconst 0, 1) := by decide +kernel
theorem c_70_76 : mcd 70 76 = some (.putfield 26, 3) := by decide +kernel
theorem c_70_79 : mcd 70 79 = some (.return_, 1) := by decide +kernel
theorem c_70_80 : mcd 70 80 = some (.aload_n 0, 1) := by decide +kernel
theorem c_70_81 : mcd 70 81 = some (.getfield 15, 3) := by decide +kernel
theorem c_70_84 : mcd 70 84 = some (.aload_n 0, 1) := by decide +kernel
theorem c_70_85 : mcd 70 85 = some (.getfield 38, 3) := by decide +kernel
theorem c_70_88 : mcd 70 88 = some (.iaload, 1) := by decide +kernel
theorem c_70_89 : mcd 70 89 = some (.bipush 97, 2) := by decide +kernel
theorem c_70_91 : mcd 70 91 = some (.if_icmp .lt 21, 3) := by decide +kernel
theorem c_70_94 : mcd 70 94 = some (.aload_n 0, 1) := by decide +kernel
theorem c_70_95 : mcd 70 95 = some (.getfield 15, 3) := by decide +kernel
theorem c_70_98 : mcd 70 98 = some (.aload_n 0, 1) := by decide +kernel
theorem c_70_99 : mcd 70 99 = some (.getfield 38, 3) := by decide +kernel
theorem c_70_102 : mcd 70 102 = some (.iaload, 1) := by decide +kernel
theorem c_70_103 : mcd 70 103 = some (.bipush 122, 2) := by decide +kernel
theorem c_70_105 : mcd 70 105 = some (.if_icmp .gt 7, 3) := by decide +kernel
theorem c_70_108 : mcd 70 108 = some (.iconst 1, 1) := by decide +kernel
theorem c_70_109 : mcd 70 109 = some (.goto 4, 3) := by decide +kernel
theorem c_70_112 : mcd 70 112 = some (.iconst 0, 1) := by decide +kernel
theorem c_70_113 : mcd 70 113 = some (.istore_n 1, 1) := by decide +kernel
theorem c_70_114 : mcd 70 114 = some (.aload_n 0, 1) := by decide +kernel
theorem c_70_115 : mcd 70 115 = some (.getfield 15, 3) := by decide +kernel
theorem c_70_118 : mcd 70 118 = some (.aload_n 0, 1) := by decide +kernel
theorem c_70_119 : mcd 70 119 = some (.getfield 38, 3) := by decide +kernel
theorem c_70_122 : mcd 70 122 = some (.iaload, 1) := by decide +kernel
theorem c_70_123 : mcd 70 123 = some (.bipush 48, 2) := by decide +kernel
theorem c_70_125 : mcd 70 125 = some (.if_icmp .lt 21, 3) := by decide +kernel
theorem c_70_128 : mcd 70 128 = some (.aload_n 0, 1) := by decide +kernel
theorem c_70_129 : mcd 70 129 = some (.getfield 15, 3) := by decide +kernel
theorem c_70_132 : mcd 70 132 = some (.aload_n 0, 1) := by decide +kernel
theorem c_70_133 : mcd 70 133 = some (.getfield 38, 3) := by decide +kernel
theorem c_70_136 : mcd 70 136 = some (.iaload, 1) := by decide +kernel
theorem c_70_137 : mcd 70 137 = some (.bipush 57, 2) := by decide +kernel
theorem c_70_139 : mcd 70 139 = some (.if_icmp .gt 7, 3) := by decide +kernel
theorem c_70_142 : mcd 70 142 = some (.iconst 1, 1) := by decide +kernel
theorem c_70_143 : mcd 70 143 = some (.goto 4, 3) := by decide +kernel
theorem c_70_146 : mcd 70 146 = some (.iconst 0, 1) := by decide +kernel
theorem c_70_147 : mcd 70 147 = some (.istore_n 2, 1) := by decide +kernel
theorem c_70_148 : mcd 70 148 = some (.aload_n 0, 1) := by decide +kernel
theorem c_70_149 : mcd 70 149 = some (.iload_n 1, 1) := by decide +kernel
theorem c_70_150 : mcd 70 150 = some (.ifCond .eq 7, 3) := by decide +kernel
theorem c_70_153 : mcd 70 153 = some (.iconst 1, 1) := by decide +kernel
theorem c_70_154 : mcd 70 154 = some (.goto 12, 3) := by decide +kernel
theorem c_70_157 : mcd 70 157 = some (.iload_n 2, 1) := by decide +kernel
theorem c_70_158 : mcd 70 158 = some (.ifCond .eq 7, 3) := by decide +kernel
theorem c_70_161 : mcd 70 161 = some (.iconst 2, 1) := by decide +kernel
theorem c_70_162 : mcd 70 162 = some (.goto 4, 3) := by decide +kernel
theorem c_70_165 : mcd 70 165 = some (.iconst 3, 1) := by decide +kernel
theorem c_70_166 : mcd 70 166 = some (.putfield 26, 3) := by decide +kernel
theorem c_70_169 : mcd 70 169 = some (.iload_n 1, 1) := by decide +kernel
theorem c_70_170 : mcd 70 170 = some (.ifCond .eq 8, 3) := by decide +kernel
theorem c_70_173 : mcd 70 173 = some (.bipush 97, 2) := by decide +kernel
theorem c_70_175 : mcd 70 175 = some (.goto 5, 3) := by decide +kernel
theorem c_70_178 : mcd 70 178 = some (.bipush 48, 2) := by decide +kernel
theorem c_70_180 : mcd 70 180 = some (.istore_n 3, 1) := by decide +kernel
theorem c_70_181 : mcd 70 181 = some (.iload_n 1, 1) := by decide +kernel
theorem c_70_182 : mcd 70 182 = some (.ifCond .eq 8, 3) := by decide +kernel
theorem c_70_185 : mcd 70 185 = some (.bipush 122, 2) := by decide +kernel
theorem c_70_187 : mcd 70 187 = some (.goto 5, 3) := by decide +kernel
theorem c_70_190 : mcd 70 190 = some (.bipush 57, 2) := by decide +kernel
theorem c_70_192 : mcd 70 192 = some (.istore 4, 2) := by decide +kernel
theorem c_70_194 : mcd 70 194 = some (.aload_n 0, 1) := by decide +kernel
theorem c_70_195 : mcd 70 195 = some (.dup, 1) := by decide +kernel
theorem c_70_196 : mcd 70 196 = some (.getfield 29, 3) := by decide +kernel
theorem c_70_199 : mcd 70 199 = some (.iconst 1, 1) := by decide +kernel
theorem c_70_200 : mcd 70 200 = some (.iadd, 1) := by decide +kernel
theorem c_70_201 : mcd 70 201 = some (.putfield 29, 3) := by decide +kernel
theorem c_70_204 : mcd 70 204 = some (.aload_n 0, 1) := by decide +kernel
theorem c_70_205 : mcd 70 205 = some (.getfield 26, 3) := by decide +kernel
theorem c_70_208 : mcd 70 208 = some (.iconst 3, 1) := by decide +kernel
theorem c_70_209 : mcd 70 209 = some (.if_icmp .eq 54, 3) := by decide +kernel
theorem c_70_212 : mcd 70 212 = some (.aload_n 0, 1) := by decide +kernel
theorem c_70_213 : mcd 70 213 = some (.getfield 29, 3) := by decide +kernel
theorem c_70_216 : mcd 70 216 = some (.aload_n 0, 1) := by decide +kernel
theorem c_70_217 : mcd 70 217 = some (.getfield 19, 3) := by decide +kernel
theorem c_70_220 : mcd 70 220 = some (.if_icmp .ge 43, 3) := by decide +kernel
theorem c_70_223 : mcd 70 223 = some (.aload_n 0, 1) := by decide +kernel
theorem c_70_224 : mcd 70 224 = some (.getfield 15, 3) := by decide +kernel
theorem c_70_227 : mcd 70 227 = some (.aload_n 0, 1) := by decide +kernel
theorem c_70_228 : mcd 70 228 = some (.getfield 29, 3) := by decide +kernel
theorem c_70_231 : mcd 70 231 = some (.iaload, 1) := by decide +kernel
theorem c_70_232 : mcd 70 232 = some (.iload_n 3, 1) := by decide +kernel
theorem c_70_233 : mcd 70 233 = some (.if_icmp .lt 30, 3) := by decide +kernel
theorem c_70_236 : mcd 70 236 = some (.aload_n 0, 1) := by decide +kernel
theorem c_70_237 : mcd 70 237 = some (.getfield 15, 3) := by decide +kernel
theorem c_70_240 : mcd 70 240 = some (.aload_n 0, 1) := by decide +kernel
theorem c_70_241 : mcd 70 241 = some (.getfield 29, 3) := by decide +kernel
theorem c_70_244 : mcd 70 244 = some (.iaload, 1) := by decide +kernel
theorem c_70_245 : mcd 70 245 = some (.iload 4, 2) := by decide +kernel
theorem c_70_247 : mcd 70 247 = some (.if_icmp .gt 16, 3) := by decide +kernel
theorem c_70_250 : mcd 70 250 = some (.aload_n 0, 1) := by decide +kernel
theorem c_70_251 : mcd 70 251 = some (.dup, 1) := by decide +kernel
theorem c_70_252 : mcd 70 252 = some (.getfield 29, 3) := by decide +kernel
theorem c_70_255 : mcd 70 255 = some (.iconst 1, 1) := by decide +kernel
theorem c_70_256 : mcd 70 256 = some (.iadd, 1) := by decide +kernel
theorem c_70_257 : mcd 70 257 = some (.putfield 29, 3) := by decide +kernel
theorem c_70_260 : mcd 70 260 = some (.goto (-56), 3) := by decide +kernel
theorem c_70_263 : mcd 70 263 = some (.return_, 1) := by decide +kernel
theorem m_71 : mmaxL 71 = 1 := by decide +kernel
theorem c_71_0 : mcd 71 0 = some (.aload_n 0, 1) := by decide +kernel
theorem c_71_1 : mcd 71 1 = some (.getfield 26, 3) := by decide +kernel
theorem f_71_26 : mfL (mown 71) 26 = some (6, 3, 0) := by decide +kernel
theorem c_71_4 : mcd 71 4 = some (.iconst 4, 1) := by decide +kernel
theorem c_71_5 : mcd 71 5 = some (.if_icmp .eq 16, 3) := by decide +kernel
theorem c_71_8 : mcd 71 8 = some (.aload_n 0, 1) := by decide +kernel
theorem c_71_9 : mcd 71 9 = some (.aload_n 0, 1) := by decide +kernel
theorem c_71_10 : mcd 71 10 = some (.getfield 38, 3) := by decide +kernel
theorem f_71_38 : mfL (mown 71) 38 = some (6, 4, 0) := by decide +kernel
theorem c_71_13 : mcd 71 13 = some (.putfield 9, 3) := by decide +kernel
theorem f_71_9 : mfL (mown 71) 9 = some (6, 1, 0) := by decide +kernel
theorem c_71_16 : mcd 71 16 = some (.aload_n 0, 1) := by decide +kernel
theorem c_71_17 : mcd 71 17 = some (.iconst 4, 1) := by decide +kernel
theorem c_71_18 : mcd 71 18 = some (.putfield 26, 3) := by decide +kernel
theorem r_71 : mret 71 = none := by decide +kernel
theorem c_71_21 : mcd 71 21 = some (.return_, 1) := by decide +kernel
theorem m_72 : mmaxL 72 = 1 := by decide +kernel
theorem c_72_0 : mcd 72 0 = some (.aload_n 0, 1) := by decide +kernel
theorem c_72_1 : mcd 72 1 = some (.getfield 26, 3) := by decide +kernel
theorem f_72_26 : mfL (mown 72) 26 = some (6, 3, 0) := by decide +kernel
theorem c_72_4 : mcd 72 4 = some (.iconst 2, 1) := by decide +kernel
theorem c_72_5 : mcd 72 5 = some (.if_icmp .ne 7, 3) := by decide +kernel
theorem c_72_8 : mcd 72 8 = some (.iconst 1, 1) := by decide +kernel
theorem c_72_9 : mcd 72 9 = some (.goto 4, 3) := by decide +kernel
theorem c_72_12 : mcd 72 12 = some (.iconst 0, 1) := by decide +kernel
theorem r_72 : mret 72 = some .boolean := by decide +kernel
theorem c_72_13 : mcd 72 13 = some (.ireturn, 1) := by decide +kernel
theorem m_73 : mmaxL 73 = 2 := by decide +kernel
theorem c_73_0 : mcd 73 0 = some (.aload_n 0, 1) := by decide +kernel
theorem c_73_1 : mcd 73 1 = some (.getfield 26, 3) := by decide +kernel
theorem f_73_26 : mfL (mown 73) 26 = some (6, 3, 0) := by decide +kernel
theorem c_73_4 : mcd 73 4 = some (.iconst 3, 1) := by decide +kernel
theorem c_73_5 : mcd 73 5 = some (.if_icmp .ne 20, 3) := by decide +kernel
theorem c_73_8 : mcd 73 8 = some (.aload_n 0, 1) := by decide +kernel
theorem c_73_9 : mcd 73 9 = some (.getfield 15, 3) := by decide +kernel
theorem f_73_15 : mfL (mown 73) 15 = some (6, 2, 6) := by decide +kernel
theorem c_73_12 : mcd 73 12 = some (.aload_n 0, 1) := by decide +kernel
theorem c_73_13 : mcd 73 13 = some (.getfield 38, 3) := by decide +kernel
theorem f_73_38 : mfL (mown 73) 38 = some (6, 4, 0) := by decide +kernel
theorem c_73_16 : mcd 73 16 = some (.iaload, 1) := by decide +kernel
theorem c_73_17 : mcd 73 17 = some (.iload_n 1, 1) := by decide +kernel
theorem c_73_18 : mcd 73 18 = some (.if_icmp .ne 7, 3) := by decide +kernel
theorem c_73_21 : mcd 73 21 = some (.iconst 1, 1) := by decide +kernel
theorem c_73_22 : mcd 73 22 = some (.goto 4, 3) := by decide +kernel
theorem c_73_25 : mcd 73 25 = some (.iconst 0, 1) := by decide +kernel
theorem r_73 : mret 73 = some .boolean := by decide +kernel
theorem c_73_26 : mcd 73 26 = some (.ireturn, 1) := by decide +kernel
theorem m_74 : mmaxL 74 = 3 := by decide +kernel
theorem c_74_0 : mcd 74 0 = some (.aload_n 0, 1) := by decide +kernel
theorem c_74_1 : mcd 74 1 = some (.getfield 26, 3) := by decide +kernel
theorem f_74_26 : mfL (mown 74) 26 = some (6, 3, 0) := by decide +kernel
theorem c_74_4 : mcd 74 4 = some (.iconst 1, 1) := by decide +kernel
theorem c_74_5 : mcd 74 5 = some (.if_icmp .ne 19, 3) := by decide +kernel
theorem c_74_8 : mcd 74 8 = some (.aload_n 0, 1) := by decide +kernel
theorem c_74_9 : mcd 74 9 = some (.getfield 29, 3) := by decide +kernel
theorem f_74_29 : mfL (mown 74) 29 = some (6, 5, 0) := by decide +kernel
theorem c_74_12 : mcd 74 12 = some (.aload_n 0, 1) := by decide +kernel
theorem c_74_13 : mcd 74 13 = some (.getfield 38, 3) := by decide +kernel
theorem f_74_38 : mfL (mown 74) 38 = some (6, 4, 0) := by decide +kernel
theorem c_74_16 : mcd 74 16 = some (.isub, 1) := by decide +kernel
theorem c_74_17 : mcd 74 17 = some (.aload_n 1, 1) := by decide +kernel
theorem c_74_18 : mcd 74 18 = some (.invokevirtual 41, 3) := by decide +kernel
theorem k_74_41 : mcL (mown 74) 41 = some (14, 0, 1) := by decide +kernel
theorem c_74_21 : mcd 74 21 = some (.if_icmp .eq 5, 3) := by decide +kernel
theorem c_74_24 : mcd 74 24 = some (.iconst 0, 1) := by decide +kernel
theorem r_74 : mret 74 = some .boolean := by decide +kernel
theorem c_74_25 : mcd 74 25 = some (.ireturn, 1) := by decide +kernel
theorem c_74_26 : mcd 74 26 = some (.aload_n 0, 1) := by decide +kernel
theorem c_74_27 : mcd 74 27 = some (.getfield 38, 3) := by decide +kernel
theorem c_74_30 : mcd 74 30 = some (.istore_n 2, 1) := by decide +kernel
theorem c_74_31 : mcd 74 31 = some (.iload_n 2, 1) := by decide +kernel
theorem c_74_32 : mcd 74 32 = some (.aload_n 0, 1) := by decide +kernel
theorem c_74_33 : mcd 74 33 = some (.getfield 29, 3) := by decide +kernel
theorem c_74_36 : mcd 74 36 = some (.if_icmp .ge 30, 3) := by decide +kernel
theorem c_74_39 : mcd 74 39 = some (.aload_n 0, 1) := by decide +kernel
theorem c_74_40 : mcd 74 40 = some (.getfield 15, 3) := by decide +kernel
theorem f_74_15 : mfL (mown 74) 15 = some (6, 2, 6) := by decide +kernel
theorem c_74_43 : mcd 74 43 = some (.iload_n 2, 1) := by decide +kernel
theorem c_74_44 : mcd 74 44 = some (.iaload, 1) := by decide +kernel
theorem c_74_45 : mcd 74 45 = some (.aload_n 1, 1) := by decide +kernel
theorem c_74_46 : mcd 74 46 = some (.iload_n 2, 1) := by decide +kernel
theorem c_74_47 : mcd 74 47 = some (.aload_n 0, 1) := by decide +kernel
theorem c_74_48 : mcd 74 48 = some (.getfield 38, 3) := by decide +kernel
theorem c_74_51 : mcd 74 51 = some (.isub, 1) := by decide +kernel
theorem c_74_52 : mcd 74 52 = some (.invokevirtual 47, 3) := by decide +kernel
theorem k_74_47 : mcL (mown 74) 47 = some (15, 0, 2) := by decide +kernel
theorem c_74_55 : mcd 74 55 = some (.if_icmp .eq 5, 3) := by decide +kernel
theorem c_74_58 : mcd 74 58 = some (.iconst 0, 1) := by decide +kernel
theorem c_74_59 : mcd 74 59 = some (.ireturn, 1) := by decide +kernel
theorem c_74_60 : mcd 74 60 = some (.iinc 2 1, 3) := by decide +kernel
theorem c_74_63 : mcd 74 63 = some (.goto (-32), 3) := by decide +kernel
theorem c_74_66 : mcd 74 66 = some (.iconst 1, 1) := by decide +kernel
theorem c_74_67 : mcd 74 67 = some (.ireturn, 1) := by decide +kernel
theorem m_75 : mmaxL 75 = 3 := by decide +kernel
theorem c_75_0 : mcd 75 0 = some (.aload_n 0, 1) := by decide +kernel
theorem c_75_1 : mcd 75 1 = some (.iload_n 1, 1) := by decide +kernel
theorem c_75_2 : mcd 75 2 = some (.invokevirtual 51, 3) := by decide +kernel
theorem k_75_51 : mcL (mown 75) 51 = some (0, 73, 2) := by decide +kernel
theorem c_75_5 : mcd 75 5 = some (.istore_n 2, 1) := by decide +kernel
theorem c_75_6 : mcd 75 6 = some (.iload_n 2, 1) := by decide +kernel
theorem c_75_7 : mcd 75 7 = some (.ifCond .eq 7, 3) := by decide +kernel
theorem c_75_10 : mcd 75 10 = some (.aload_n 0, 1) := by decide +kernel
theorem c_75_11 : mcd 75 11 = some (.invokevirtual 32, 3) := by decide +kernel
theorem k_75_32 : mcL (mown 75) 32 = some (0, 70, 1) := by decide +kernel
theorem c_75_14 : mcd 75 14 = some (.iload_n 2, 1) := by decide +kernel
theorem r_75 : mret 75 = some .boolean := by decide +kernel
theorem c_75_15 : mcd 75 15 = some (.ireturn, 1) := by decide +kernel
theorem m_76 : mmaxL 76 = 3 := by decide +kernel
theorem c_76_0 : mcd 76 0 = some (.aload_n 0, 1) := by decide +kernel
theorem c_76_1 : mcd 76 1 = some (.aload_n 1, 1) := by decide +kernel
theorem c_76_2 : mcd 76 2 = some (.invokevirtual 55, 3) := by decide +kernel
theorem k_76_55 : mcL (mown 76) 55 = some (0, 74, 2) := by decide +kernel
theorem c_76_5 : mcd 76 5 = some (.istore_n 2, 1) := by decide +kernel
theorem c_76_6 : mcd 76 6 = some (.iload_n 2, 1) := by decide +kernel
theorem c_76_7 : mcd 76 7 = some (.ifCond .eq 7, 3) := by decide +kernel
theorem c_76_10 : mcd 76 10 = some (.aload_n 0, 1) := by decide +kernel
theorem c_76_11 : mcd 76 11 = some (.invokevirtual 32, 3) := by decide +kernel
theorem k_76_32 : mcL (mown 76) 32 = some (0, 70, 1) := by decide +kernel
theorem c_76_14 : mcd 76 14 = some (.iload_n 2, 1) := by decide +kernel
theorem r_76 : mret 76 = some .boolean := by decide +kernel
theorem c_76_15 : mcd 76 15 = some (.ireturn, 1) := by decide +kernel
theorem m_77 : mmaxL 77 = 2 := by decide +kernel
theorem c_77_0 : mcd 77 0 = some (.aload_n 0, 1) := by decide +kernel
theorem c_77_1 : mcd 77 1 = some (.iload_n 1, 1) := by decide +kernel
theorem c_77_2 : mcd 77 2 = some (.invokevirtual 59, 3) := by decide +kernel
theorem k_77_59 : mcL (mown 77) 59 = some (0, 75, 2) := by decide +kernel
theorem c_77_5 : mcd 77 5 = some (.ifCond .ne 7, 3) := by decide +kernel
theorem c_77_8 : mcd 77 8 = some (.aload_n 0, 1) := by decide +kernel
theorem c_77_9 : mcd 77 9 = some (.invokevirtual 35, 3) := by decide +kernel
theorem k_77_35 : mcL (mown 77) 35 = some (0, 71, 1) := by decide +kernel
theorem r_77 : mret 77 = none := by decide +kernel
theorem c_77_12 : mcd 77 12 = some (.return_, 1) := by decide +kernel
theorem m_78 : mmaxL 78 = 2 := by decide +kernel
theorem c_78_0 : mcd 78 0 = some (.aload_n 0, 1) := by decide +kernel
theorem c_78_1 : mcd 78 1 = some (.aload_n 1, 1) := by decide +kernel
theorem c_78_2 : mcd 78 2 = some (.invokevirtual 62, 3) := by decide +kernel
theorem k_78_62 : mcL (mown 78) 62 = some (0, 76, 2) := by decide +kernel
theorem c_78_5 : mcd 78 5 = some (.ifCond .ne 7, 3) := by decide +kernel
theorem c_78_8 : mcd 78 8 = some (.aload_n 0, 1) := by decide +kernel
theorem c_78_9 : mcd 78 9 = some (.invokevirtual 35, 3) := by decide +kernel
theorem k_78_35 : mcL (mown 78) 35 = some (0, 71, 1) := by decide +kernel
theorem r_78 : mret 78 = none := by decide +kernel
theorem c_78_12 : mcd 78 12 = some (.return_, 1) := by decide +kernel
theorem m_79 : mmaxL 79 = 4 := by decide +kernel
theorem c_79_0 : mcd 79 0 = some (.aload_n 0, 1) := by decide +kernel
theorem c_79_1 : mcd 79 1 = some (.invokevirtual 65, 3) := by decide +kernel
theorem k_79_65 : mcL (mown 79) 65 = some (0, 80, 1) := by decide +kernel
theorem c_79_4 : mcd 79 4 = some (.istore_n 3, 1) := by decide +kernel
theorem c_79_5 : mcd 79 5 = some (.iload_n 3, 1) := by decide +kernel
theorem c_79_6 : mcd 79 6 = some (.iload_n 1, 1) := by decide +kernel
theorem c_79_7 : mcd 79 7 = some (.if_icmp .lt 8, 3) := by decide +kernel
theorem c_79_10 : mcd 79 10 = some (.iload_n 3, 1) := by decide +kernel
theorem c_79_11 : mcd 79 11 = some (.iload_n 2, 1) := by decide +kernel
theorem c_79_12 : mcd 79 12 = some (.if_icmp .le 9, 3) := by decide +kernel
theorem c_79_15 : mcd 79 15 = some (.aload_n 0, 1) := by decide +kernel
theorem c_79_16 : mcd 79 16 = some (.invokevirtual 35, 3) := by decide +kernel
theorem k_79_35 : mcL (mown 79) 35 = some (0, 71, 1) := by decide +kernel
theorem c_79_19 : mcd 79 19 = some (.iload_n 1, 1) := by decide +kernel
theorem r_79 : mret 79 = some .int := by decide +kernel
theorem c_79_20 : mcd 79 20 = some (.ireturn, 1) := by decide +kernel
theorem c_79_21 : mcd 79 21 = some (.aload_n 0, 1) := by decide +kernel
theorem c_79_22 : mcd 79 22 = some (.invokevirtual 32, 3) := by decide +kernel
theorem k_79_32 : mcL (mown 79) 32 = some (0, 70, 1) := by decide +kernel
theorem c_79_25 : mcd 79 25 = some (.iload_n 3, 1) := by decide +kernel
theorem c_79_26 : mcd 79 26 = some (.ireturn, 1) := by decide +kernel
theorem m_80 : mmaxL 80 = 3 := by decide +kernel
theorem c_80_0 : mcd 80 0 = some (.aload_n 0, 1) := by decide +kernel
theorem c_80_1 : mcd 80 1 = some (.getfield 26, 3) := by decide +kernel
theorem f_80_26 : mfL (mown 80) 26 = some (6, 3, 0) := by decide +kernel
theorem c_80_4 : mcd 80 4 = some (.iconst 2, 1) := by decide +kernel
theorem c_80_5 : mcd 80 5 = some (.if_icmp .ne 16, 3) := by decide +kernel
theorem c_80_8 : mcd 80 8 = some (.aload_n 0, 1) := by decide +kernel
theorem c_80_9 : mcd 80 9 = some (.getfield 29, 3) := by decide +kernel
theorem f_80_29 : mfL (mown 80) 29 = some (6, 5, 0) := by decide +kernel
theorem c_80_12 : mcd 80 12 = some (.aload_n 0, 1) := by decide +kernel
theorem c_80_13 : mcd 80 13 = some (.getfield 38, 3) := by decide +kernel
theorem f_80_38 : mfL (mown 80) 38 = some (6, 4, 0) := by decide +kernel
theorem c_80_16 : mcd 80 16 = some (.isub, 1) := by decide +kernel
theorem c_80_17 : mcd 80 17 = some (.iconst 3, 1) := by decide +kernel
theorem c_80_18 : mcd 80 18 = some (.if_icmp .le 5, 3) := by decide +kernel
theorem c_80_21 : mcd 80 21 = some (.iconst (-1), 1) := by decide +kernel
theorem r_80 : mret 80 = some .int := by decide +kernel
theorem c_80_22 : mcd 80 22 = some (.ireturn, 1) := by decide +kernel
theorem c_80_23 : mcd 80 23 = some (.iconst 0, 1) := by decide +kernel
theorem c_80_24 : mcd 80 24 = some (.istore_n 1, 1) := by decide +kernel
theorem c_80_25 : mcd 80 25 = some (.aload_n 0, 1) := by decide +kernel
theorem c_80_26 : mcd 80 26 = some (.getfield 38, 3) := by decide +kernel
theorem c_80_29 : mcd 80 29 = some (.istore_n 2, 1) := by decide +kernel
theorem c_80_30 : mcd 80 30 = some (.iload_n 2, 1) := by decide +kernel
theorem c_80_31 : mcd 80 31 = some (.aload_n 0, 1) := by decide +kernel
theorem c_80_32 : mcd 80 32 = some (.getfield 29, 3) := by decide +kernel
theorem c_80_35 : mcd 80 35 = some (.if_icmp .ge 24, 3) := by decide +kernel
theorem c_80_38 : mcd 80 38 = some (.iload_n 1, 1) := by decide +kernel
theorem c_80_39 : mcd 80 39 = some (.bipush 10, 2) := by decide +kernel
theorem c_80_41 : mcd 80 41 = some (.imul, 1) := by decide +kernel
theorem c_80_42 : mcd 80 42 = some (.aload_n 0, 1) := by decide +kernel
theorem c_80_43 : mcd 80 43 = some (.getfield 15, 3) := by decide +kernel
theorem f_80_15 : mfL (mown 80) 15 = some (6, 2, 6) := by decide +kernel
theorem c_80_46 : mcd 80 46 = some (.iload_n 2, 1) := by decide +kernel
theorem c_80_47 : mcd 80 47 = some (.iaload, 1) := by decide +kernel
theorem c_80_48 : mcd 80 48 = some (.iadd, 1) := by decide +kernel
theorem c_80_49 : mcd 80 49 = some (.bipush 48, 2) := by decide +kernel
theorem c_80_51 : mcd 80 51 = some (.isub, 1) := by decide +kernel
theorem c_80_52 : mcd 80 52 = some (.istore_n 1, 1) := by decide +kernel
theorem c_80_53 : mcd 80 53 = some (.iinc 2 1, 3) := by decide +kernel
theorem c_80_56 : mcd 80 56 = some (.goto (-26), 3) := by decide +kernel
theorem c_80_59 : mcd 80 59 = some (.iload_n 1, 1) := by decide +kernel
theorem c_80_60 : mcd 80 60 = some (.ireturn, 1) := by decide +kernel
theorem m_81 : mmaxL 81 = 1 := by decide +kernel
theorem m_82 : mmaxL 82 = 6 := by decide +kernel
theorem c_82_0 : mcd 82 0 = some (.iconst 1, 1) := by decide +kernel
theorem c_82_1 : mcd 82 1 = some (.istore 4, 2) := by decide +kernel
theorem c_82_3 : mcd 82 3 = some (.iload 4, 2) := by decide +kernel
theorem c_82_5 : mcd 82 5 = some (.aload_n 2, 1) := by decide +kernel
theorem c_82_6 : mcd 82 6 = some (.getfield 17, 3) := by decide +kernel
theorem f_82_17 : mfL (mown 82) 17 = some (0, 0, 0) := by decide +kernel
theorem c_82_9 : mcd 82 9 = some (.if_icmp .ge 45, 3) := by decide +kernel
theorem c_82_12 : mcd 82 12 = some (.iconst 0, 1) := by decide +kernel
theorem c_82_13 : mcd 82 13 = some (.istore 5, 2) := by decide +kernel
theorem c_82_15 : mcd 82 15 = some (.iload 5, 2) := by decide +kernel
theorem c_82_17 : mcd 82 17 = some (.iconst 4, 1) := by decide +kernel
theorem c_82_18 : mcd 82 18 = some (.if_icmp .ge 30, 3) := by decide +kernel
theorem c_82_21 : mcd 82 21 = some (.aload_n 0, 1) := by decide +kernel
theorem c_82_22 : mcd 82 22 = some (.getfield 13, 3) := by decide +kernel
theorem f_82_13 : mfL (mown 82) 13 = some (7, 0, 6) := by decide +kernel
theorem c_82_25 : mcd 82 25 = some (.iload 4, 2) := by decide +kernel
theorem c_82_27 : mcd 82 27 = some (.iconst 4, 1) := by decide +kernel
theorem c_82_28 : mcd 82 28 = some (.imul, 1) := by decide +kernel
theorem c_82_29 : mcd 82 29 = some (.iload 5, 2) := by decide +kernel
theorem c_82_31 : mcd 82 31 = some (.iadd, 1) := by decide +kernel
theorem c_82_32 : mcd 82 32 = some (.iload 4, 2) := by decide +kernel
theorem c_82_34 : mcd 82 34 = some (.iload 5, 2) := by decide +kernel
theorem c_82_36 : mcd 82 36 = some (.aload_n 2, 1) := by decide +kernel
theorem c_82_37 : mcd 82 37 = some (.iload_n 3, 1) := by decide +kernel
theorem c_82_38 : mcd 82 38 = some (.invokestatic 21, 3) := by decide +kernel
theorem k_82_21 : mcL (mown 82) 21 = some (2, 83, 4) := by decide +kernel
theorem c_82_41 : mcd 82 41 = some (.iastore, 1) := by decide +kernel
theorem c_82_42 : mcd 82 42 = some (.iinc 5 1, 3) := by decide +kernel
theorem c_82_45 : mcd 82 45 = some (.goto (-30), 3) := by decide +kernel
theorem c_82_48 : mcd 82 48 = some (.iinc 4 1, 3) := by decide +kernel
theorem c_82_51 : mcd 82 51 = some (.goto (-48), 3) := by decide +kernel
theorem c_82_54 : mcd 82 54 = some (.aload_n 0, 1) := by decide +kernel
theorem c_82_55 : mcd 82 55 = some (.iconst 0, 1) := by decide +kernel
theorem c_82_56 : mcd 82 56 = some (.iconst 0, 1) := by decide +kernel
theorem c_82_57 : mcd 82 57 = some (.aload_n 2, 1) := by decide +kernel
theorem c_82_58 : mcd 82 58 = some (.getfield 17, 3) := by decide +kernel
theorem w_84 : mci.getD (mown 84) 99 = 7 := by decide +kernel
theorem c_82_61 : mcd 82 61 = some (.invokevirtual 25, 3) := by decide +kernel
theorem k_82_25 : mcL (mown 82) 25 = some (0, 84, 4) := by decide +kernel
theorem c_82_64 : mcd 82 64 = some (.istore 4, 2) := by decide +kernel
theorem c_82_66 : mcd 82 66 = some (.iload 4, 2) := by decide +kernel
theorem c_82_68 : mcd 82 68 = some (.iconst (-1), 1) := by decide +kernel
theorem c_82_69 : mcd 82 69 = some (.if_icmp .ne 7, 3) := by decide +kernel
theorem c_82_72 : mcd 82 72 = some (.iconst (-1), 1) := by decide +kernel
theorem c_82_73 : mcd 82 73 = some (.goto 9, 3) := by decide +kernel
theorem c_82_76 : mcd 82 76 = some (.iload 4, 2) := by decide +kernel
theorem c_82_78 : mcd 82 78 = some (.iload_n 1, 1) := by decide +kernel
theorem c_82_79 : mcd 82 79 = some (.invokestatic 29, 3) := by decide +kernel
theorem k_82_29 : mcL (mown 82) 29 = some (2, 85, 2) := by decide +kernel
theorem r_82 : mret 82 = some .int := by decide +kernel
theorem c_82_82 : mcd 82 82 = some (.ireturn, 1) := by decide +kernel
theorem m_83 : mmaxL 83 = 8 := by decide +kernel
theorem c_83_0 : mcd 83 0 = some (.iconst 0, 1) := by decide +kernel
theorem c_83_1 : mcd 83 1 = some (.istore 4, 2) := by decide +kernel
theorem c_83_3 : mcd 83 3 = some (.iconst 0, 1) := by decide +kernel
theorem c_83_4 : mcd 83 4 = some (.istore 5, 2) := by decide +kernel
theorem c_83_6 : mcd 83 6 = some (.iload 5, 2) := by decide +kernel
theorem c_83_8 : mcd 83 8 = some (.iload_n 0, 1) := by decide +kernel
theorem c_83_9 : mcd 83 9 = some (.iconst 4, 1) := by decide +kernel
theorem c_83_10 : mcd 83 10 = some (.imul, 1) := by decide +kernel
theorem c_83_11 : mcd 83 11 = some (.if_icmp .ge 48, 3) := by decide +kernel
theorem c_83_14 : mcd 83 14 = some (.iload 5, 2) := by decide +kernel
theorem c_83_16 : mcd 83 16 = some (.iconst 4, 1) := by decide +kernel
theorem c_83_17 : mcd 83 17 = some (.idiv, 1) := by decide +kernel
theorem c_83_18 : mcd 83 18 = some (.istore 6, 2) := by decide +kernel
theorem c_83_20 : mcd 83 20 = some (.iload 5, 2) := by decide +kernel
theorem c_83_22 : mcd 83 22 = some (.iconst 4, 1) := by decide +kernel
theorem c_83_23 : mcd 83 23 = some (.irem, 1) := by decide +kernel
theorem c_83_24 : mcd 83 24 = some (.istore 7, 2) := by decide +kernel
theorem c_83_26 : mcd 83 26 = some (.aload_n 2, 1) := by decide +kernel
theorem c_83_27 : mcd 83 27 = some (.iload_n 0, 1) := by decide +kernel
theorem c_83_28 : mcd 83 28 = some (.iload_n 1, 1) := by decide +kernel
theorem c_83_29 : mcd 83 29 = some (.iload_n 3, 1) := by decide +kernel
theorem c_83_30 : mcd 83 30 = some (.imul, 1) := by decide +kernel
theorem c_83_31 : mcd 83 31 = some (.iload 6, 2) := by decide +kernel
theorem c_83_33 : mcd 83 33 = some (.iload 7, 2) := by decide +kernel
theorem c_83_35 : mcd 83 35 = some (.iload_n 3, 1) := by decide +kernel
theorem c_83_36 : mcd 83 36 = some (.imul, 1) := by decide +kernel
theorem w_17 : mci.getD (mown 17) 99 = 0 := by decide +kernel
theorem c_83_37 : mcd 83 37 = some (.invokevirtual 33, 3) := by decide +kernel
theorem k_83_33 : mcL (mown 83) 33 = some (0, 17, 5) := by decide +kernel
theorem c_83_40 : mcd 83 40 = some (.iconst (-1), 1) := by decide +kernel
theorem c_83_41 : mcd 83 41 = some (.if_icmp .eq 12, 3) := by decide +kernel
theorem c_83_44 : mcd 83 44 = some (.iload 4, 2) := by decide +kernel
theorem c_83_46 : mcd 83 46 = some (.iconst 1, 1) := by decide +kernel
theorem c_83_47 : mcd 83 47 = some (.iload 5, 2) := by decide +kernel
theorem c_83_49 : mcd 83 49 = some (.ishl, 1) := by decide +kernel
theorem c_83_50 : mcd 83 50 = some (.ior, 1) := by decide +kernel
theorem c_83_51 : mcd 83 51 = some (.istore 4, 2) := by decide +kernel
theorem c_83_53 : mcd 83 53 = some (.iinc 5 1, 3) := by decide +kernel
theorem c_83_56 : mcd 83 56 = some (.goto (-50), 3) := by decide +kernel
theorem c_83_59 : mcd 83 59 = some (.iload 4, 2) := by decide +kernel
theorem r_83 : mret 83 = some .int := by decide +kernel
theorem c_83_61 : mcd 83 61 = some (.ireturn, 1) := by decide +kernel
theorem m_84 : mmaxL 84 = 7 := by decide +kernel
theorem c_84_0 : mcd 84 0 = some (.iload_n 1, 1) := by decide +kernel
theorem c_84_1 : mcd 84 1 = some (.iload_n 3, 1) := by decide +kernel
theorem c_84_2 : mcd 84 2 = some (.if_icmp .ge 9, 3) := by decide +kernel
theorem c_84_5 : mcd 84 5 = some (.iload_n 1, 1) := by decide +kernel
theorem c_84_6 : mcd 84 6 = some (.bipush 6, 2) := by decide +kernel
theorem c_84_8 : mcd 84 8 = some (.if_icmp .lt 5, 3) := by decide +kernel
theorem c_84_11 : mcd 84 11 = some (.iload_n 2, 1) := by decide +kernel
theorem r_84 : mret 84 = some .int := by decide +kernel
theorem c_84_12 : mcd 84 12 = some (.ireturn, 1) := by decide +kernel
theorem c_84_13 : mcd 84 13 = some (.iconst 0, 1) := by decide +kernel
theorem c_84_14 : mcd 84 14 = some (.istore 4, 2) := by decide +kernel
theorem c_84_16 : mcd 84 16 = some (.iload 4, 2) := by decide +kernel
theorem c_84_18 : mcd 84 18 = some (.iconst 4, 1) := by decide +kernel
theorem c_84_19 : mcd 84 19 = some (.if_icmp .ge 54, 3) := by decide +kernel
theorem c_84_22 : mcd 84 22 = some (.iload_n 1, 1) := by decide +kernel
theorem c_84_23 : mcd 84 23 = some (.iconst 4, 1) := by decide +kernel
theorem c_84_24 : mcd 84 24 = some (.imul, 1) := by decide +kernel
theorem c_84_25 : mcd 84 25 = some (.iload 4, 2) := by decide +kernel
theorem c_84_27 : mcd 84 27 = some (.iadd, 1) := by decide +kernel
theorem c_84_28 : mcd 84 28 = some (.istore 5, 2) := by decide +kernel
theorem c_84_30 : mcd 84 30 = some (.aload_n 0, 1) := by decide +kernel
theorem c_84_31 : mcd 84 31 = some (.getfield 13, 3) := by decide +kernel
theorem f_84_13 : mfL (mown 84) 13 = some (7, 0, 6) := by decide +kernel
theorem c_84_34 : mcd 84 34 = some (.iload 5, 2) := by decide +kernel
theorem c_84_36 : mcd 84 36 = some (.iaload, 1) := by decide +kernel
theorem c_84_37 : mcd 84 37 = some (.iload_n 2, 1) := by decide +kernel
theorem c_84_38 : mcd 84 38 = some (.iand, 1) := by decide +kernel
theorem c_84_39 : mcd 84 39 = some (.ifCond .ne 28, 3) := by decide +kernel
theorem c_84_42 : mcd 84 42 = some (.aload_n 0, 1) := by decide +kernel
theorem c_84_43 : mcd 84 43 = some (.iload_n 1, 1) := by decide +kernel
theorem c_84_44 : mcd 84 44 = some (.iconst 1, 1) := by decide +kernel
theorem c_84_45 : mcd 84 45 = some (.iadd, 1) := by decide +kernel
theorem c_84_46 : mcd 84 46 = some (.iload_n 2, 1) := by decide +kernel
theorem c_84_47 : mcd 84 47 = some (.iconst 1, 1) := by decide +kernel
theorem c_84_48 : mcd 84 48 = some (.iload 5, 2) := by decide +kernel
theorem c_84_50 : mcd 84 50 = some (.ishl, 1) := by decide +kernel
theorem c_84_51 : mcd 84 51 = some (.ior, 1) := by decide +kernel
theorem c_84_52 : mcd 84 52 = some (.iload_n 3, 1) := by decide +kernel
theorem c_84_53 : mcd 84 53 = some (.invokevirtual 25, 3) := by decide +kernel
theorem k_84_25 : mcL (mown 84) 25 = some (0, 84, 4) := by decide +kernel
theorem c_84_56 : mcd 84 56 = some (.istore 6, 2) := by decide +kernel
theorem c_84_58 : mcd 84 58 = some (.iload 6, 2) := by decide +kernel
theorem c_84_60 : mcd 84 60 = some (.iconst (-1), 1) := by decide +kernel
theorem c_84_61 : mcd 84 61 = some (.if_icmp .eq 6, 3) := by decide +kernel
theorem c_84_64 : mcd 84 64 = some (.iload 6, 2) := by decide +kernel
theorem c_84_66 : mcd 84 66 = some (.ireturn, 1) := by decide +kernel
theorem c_84_67 : mcd 84 67 = some (.iinc 4 1, 3) := by decide +kernel
theorem c_84_70 : mcd 84 70 = some (.goto (-54), 3) := by decide +kernel
theorem c_84_73 : mcd 84 73 = some (.iconst (-1), 1) := by decide +kernel
theorem c_84_74 : mcd 84 74 = some (.ireturn, 1) := by decide +kernel
theorem m_85 : mmaxL 85 = 2 := by decide +kernel
theorem c_85_0 : mcd 85 0 = some (.iload_n 0, 1) := by decide +kernel
theorem c_85_1 : mcd 85 1 = some (.iload_n 1, 1) := by decide +kernel
theorem c_85_2 : mcd 85 2 = some (.iconst 4, 1) := by decide +kernel
theorem c_85_3 : mcd 85 3 = some (.imul, 1) := by decide +kernel
theorem c_85_4 : mcd 85 4 = some (.ishr, 1) := by decide +kernel
theorem c_85_5 : mcd 85 5 = some (.invokestatic 37, 3) := by decide +kernel
theorem k_85_37 : mcL (mown 85) 37 = some (2, 62, 1) := by decide +kernel
theorem r_85 : mret 85 = some .int := by decide +kernel
theorem c_85_8 : mcd 85 8 = some (.ireturn, 1) := by decide +kernel
theorem m_86 : mmaxL 86 = 1 := by decide +kernel
theorem m_87 : mmaxL 87 = 2 := by decide +kernel
theorem c_87_0 : mcd 87 0 = some (.aload_n 0, 1) := by decide +kernel
theorem c_87_1 : mcd 87 1 = some (.getfield 12, 3) := by decide +kernel
theorem f_87_12 : mfL (mown 87) 12 = some (8, 0, 6) := by decide +kernel
theorem c_87_4 : mcd 87 4 = some (.aload_n 1, 1) := by decide +kernel
theorem c_87_5 : mcd 87 5 = some (.getfield 12, 3) := by decide +kernel
theorem w_99 : mci.getD (mown 99) 99 = 9 := by decide +kernel
theorem c_87_8 : mcd 87 8 = some (.invokevirtual 43, 3) := by decide +kernel
theorem k_87_43 : mcL (mown 87) 43 = some (0, 99, 2) := by decide +kernel
theorem c_87_11 : mcd 87 11 = some (.aload_n 0, 1) := by decide +kernel
theorem c_87_12 : mcd 87 12 = some (.getfield 21, 3) := by decide +kernel
theorem f_87_21 : mfL (mown 87) 21 = some (8, 1, 6) := by decide +kernel
theorem c_87_15 : mcd 87 15 = some (.aload_n 1, 1) := by decide +kernel
theorem c_87_16 : mcd 87 16 = some (.getfield 21, 3) := by decide +kernel
theorem w_27 : mci.getD (mown 27) 99 = 2 := by decide +kernel
theorem c_87_19 : mcd 87 19 = some (.invokevirtual 47, 3) := by decide +kernel
theorem k_87_47 : mcL (mown 87) 47 = some (0, 27, 2) := by decide +kernel
theorem c_87_22 : mcd 87 22 = some (.aload_n 0, 1) := by decide +kernel
theorem c_87_23 : mcd 87 23 = some (.getfield 28, 3) := by decide +kernel
theorem f_87_28 : mfL (mown 87) 28 = some (8, 2, 6) := by decide +kernel
theorem c_87_26 : mcd 87 26 = some (.aload_n 1, 1) := by decide +kernel
theorem c_87_27 : mcd 87 27 = some (.getfield 28, 3) := by decide +kernel
theorem w_1 : mci.getD (mown 1) 99 = 0 := by decide +kernel
theorem c_87_30 : mcd 87 30 = some (.invokevirtual 50, 3) := by decide +kernel
theorem k_87_50 : mcL (mown 87) 50 = some (0, 1, 2) := by decide +kernel
theorem c_87_33 : mcd 87 33 = some (.aload_n 0, 1) := by decide +kernel
theorem c_87_34 : mcd 87 34 = some (.getfield 35, 3) := by decide +kernel
theorem f_87_35 : mfL (mown 87) 35 = some (8, 3, 6) := by decide +kernel
theorem c_87_37 : mcd 87 37 = some (.aload_n 1, 1) := by decide +kernel
theorem c_87_38 : mcd 87 38 = some (.getfield 35, 3) := by decide +kernel
theorem w_19 : mci.getD (mown 19) 99 = 1 := by decide +kernel
theorem c_87_41 : mcd 87 41 = some (.invokevirtual 53, 3) := by decide +kernel
theorem k_87_53 : mcL (mown 87) 53 = some (0, 19, 2) := by decide +kernel
theorem c_87_44 : mcd 87 44 = some (.aload_n 0, 1) := by decide +kernel
theorem c_87_45 : mcd 87 45 = some (.aload_n 1, 1) := by decide +kernel
theorem c_87_46 : mcd 87 46 = some (.getfield 56, 3) := by decide +kernel
theorem f_87_56 : mfL (mown 87) 56 = some (8, 4, 2) := by decide +kernel
theorem c_87_49 : mcd 87 49 = some (.putfield 56, 3) := by decide +kernel
theorem c_87_52 : mcd 87 52 = some (.aload_n 0, 1) := by decide +kernel
theorem c_87_53 : mcd 87 53 = some (.aload_n 1, 1) := by decide +kernel
theorem c_87_54 : mcd 87 54 = some (.getfield 60, 3) := by decide +kernel
theorem f_87_60 : mfL (mown 87) 60 = some (8, 5, 0) := by decide +kernel
theorem c_87_57 : mcd 87 57 = some (.putfield 60, 3) := by decide +kernel
theorem c_87_60 : mcd 87 60 = some (.aload_n 0, 1) := by decide +kernel
theorem c_87_61 : mcd 87 61 = some (.aload_n 1, 1) := by decide +kernel
theorem c_87_62 : mcd 87 62 = some (.getfield 63, 3) := by decide +kernel
theorem f_87_63 : mfL (mown 87) 63 = some (8, 6, 0) := by decide +kernel
theorem c_87_65 : mcd 87 65 = some (.putfield 63, 3) := by decide +kernel
theorem c_87_68 : mcd 87 68 = some (.aload_n 0, 1) := by decide +kernel
theorem c_87_69 : mcd 87 69 = some (.aload_n 1, 1) := by decide +kernel
theorem c_87_70 : mcd 87 70 = some (.getfield 66, 3) := by decide +kernel
theorem f_87_66 : mfL (mown 87) 66 = some (8, 7, 0) := by decide +kernel
theorem c_87_73 : mcd 87 73 = some (.putfield 66, 3) := by decide +kernel
theorem c_87_76 : mcd 87 76 = some (.aload_n 0, 1) := by decide +kernel
theorem c_87_77 : mcd 87 77 = some (.aload_n 1, 1) := by decide +kernel
theorem c_87_78 : mcd 87 78 = some (.getfield 39, 3) := by decide +kernel
theorem f_87_39 : mfL (mown 87) 39 = some (8, 8, 0) := by decide +kernel
theorem c_87_81 : mcd 87 81 = some (.putfield 39, 3) := by decide +kernel
theorem r_87 : mret 87 = none := by decide +kernel
theorem c_87_84 : mcd 87 84 = some (.return_, 1) := by decide +kernel
theorem m_88 : mmaxL 88 = 4 := by decide +kernel
theorem c_88_0 : mcd 88 0 = some (.aload_n 1, 1) := by decide +kernel
theorem c_88_1 : mcd 88 1 = some (.invokevirtual 69, 3) := by decide +kernel
theorem k_88_69 : mcL (mown 88) 69 = some (0, 68, 1) := by decide +kernel
theorem c_88_4 : mcd 88 4 = some (.istore_n 2, 1) := by decide +kernel
theorem c_88_5 : mcd 88 5 = some (.iconst 0, 1) := by decide +kernel
theorem c_88_6 : mcd 88 6 = some (.istore_n 3, 1) := by decide +kernel
theorem c_88_7 : mcd 88 7 = some (.iload_n 2, 1) := by decide +kernel
theorem c_88_8 : mcd 88 8 = some (.ifCond .eq 27, 3) := by decide +kernel
theorem c_88_11 : mcd 88 11 = some (.iload_n 3, 1) := by decide +kernel
theorem c_88_12 : mcd 88 12 = some (.bipush 14, 2) := by decide +kernel
theorem c_88_14 : mcd 88 14 = some (.if_icmp .ge 21, 3) := by decide +kernel
theorem c_88_17 : mcd 88 17 = some (.aload_n 0, 1) := by decide +kernel
theorem c_88_18 : mcd 88 18 = some (.aload_n 1, 1) := by decide +kernel
theorem w_89 : mci.getD (mown 89) 99 = 8 := by decide +kernel
theorem c_88_19 : mcd 88 19 = some (.invokevirtual 75, 3) := by decide +kernel
theorem k_88_75 : mcL (mown 88) 75 = some (0, 89, 2) := by decide +kernel
theorem c_88_22 : mcd 88 22 = some (.aload_n 1, 1) := by decide +kernel
theorem c_88_23 : mcd 88 23 = some (.bipush 59, 2) := by decide +kernel
theorem c_88_25 : mcd 88 25 = some (.invokevirtual 79, 3) := by decide +kernel
theorem k_88_79 : mcL (mown 88) 79 = some (0, 75, 2) := by decide +kernel
theorem c_88_28 : mcd 88 28 = some (.istore_n 2, 1) := by decide +kernel
theorem c_88_29 : mcd 88 29 = some (.iinc 3 1, 3) := by decide +kernel
theorem c_88_32 : mcd 88 32 = some (.goto (-25), 3) := by decide +kernel
theorem c_88_35 : mcd 88 35 = some (.aload_n 1, 1) := by decide +kernel
theorem c_88_36 : mcd 88 36 = some (.iload_n 2, 1) := by decide +kernel
theorem c_88_37 : mcd 88 37 = some (.invokevirtual 83, 3) := by decide +kernel
theorem k_88_83 : mcL (mown 88) 83 = some (0, 69, 2) := by decide +kernel
theorem r_88 : mret 88 = none := by decide +kernel
theorem c_88_40 : mcd 88 40 = some (.return_, 1) := by decide +kernel
theorem m_89 : mmaxL 89 = 2 := by decide +kernel
theorem c_89_0 : mcd 89 0 = some (.aload_n 1, 1) := by decide +kernel
theorem l_89_87 : mlL (mown 89) 87 = some (0, 0) := by decide +kernel
theorem c_89_1 : mcd 89 1 = some (.ldc 87, 2) := by decide +kernel
theorem c_89_3 : mcd 89 3 = some (.invokevirtual 89, 3) := by decide +kernel
theorem k_89_89 : mcL (mown 89) 89 = some (0, 74, 2) := by decide +kernel
theorem c_89_6 : mcd 89 6 = some (.ifCond .eq 14, 3) := by decide +kernel
theorem c_89_9 : mcd 89 9 = some (.aload_n 0, 1) := by decide +kernel
theorem c_89_10 : mcd 89 10 = some (.getfield 12, 3) := by decide +kernel
theorem f_89_12 : mfL (mown 89) 12 = some (8, 0, 6) := by decide +kernel
theorem c_89_13 : mcd 89 13 = some (.aload_n 1, 1) := by decide +kernel
theorem w_100 : mci.getD (mown 100) 99 = 9 := by decide +kernel
theorem c_89_14 : mcd 89 14 = some (.invokevirtual 93, 3) := by decide +kernel
theorem k_89_93 : mcL (mown 89) 93 = some (0, 100, 2) := by decide +kernel
theorem c_89_17 : mcd 89 17 = some (.goto 201, 3) := by decide +kernel
theorem c_89_20 : mcd 89 20 = some (.aload_n 1, 1) := by decide +kernel
theorem l_89_96 : mlL (mown 89) 96 = some (0, 5) := by decide +kernel
theorem c_89_21 : mcd 89 21 = some (.ldc 96, 2) := by decide +kernel
theorem c_89_23 : mcd 89 23 = some (.invokevirtual 89, 3) := by decide +kernel
theorem c_89_26 : mcd 89 26 = some (.ifCond .eq 21, 3) := by decide +kernel
theorem c_89_29 : mcd 89 29 = some (.aload_n 0, 1) := by decide +kernel
theorem c_89_30 : mcd 89 30 = some (.getfield 21, 3) := by decide +kernel
theorem f_89_21 : mfL (mown 89) 21 = some (8, 1, 6) := by decide +kernel
theorem c_89_33 : mcd 89 33 = some (.aload_n 1, 1) := by decide +kernel
theorem c_89_34 : mcd 89 34 = some (.aload_n 0, 1) := by decide +kernel
theorem c_89_35 : mcd 89 35 = some (.getfield 12, 3) := by decide +kernel
theorem c_89_38 : mcd 89 38 = some (.getfield 98, 3) := by decide +kernel
theorem f_89_98 : mfL (mown 89) 98 = some (9, 0, 0) := by decide +kernel
theorem w_28 : mci.getD (mown 28) 99 = 2 := by decide +kernel
theorem c_89_41 : mcd 89 41 = some (.invokevirtual 101, 3) := by decide +kernel
theorem k_89_101 : mcL (mown 89) 101 = some (0, 28, 3) := by decide +kernel
theorem c_89_44 : mcd 89 44 = some (.goto 174, 3) := by decide +kernel
theorem c_89_47 : mcd 89 47 = some (.aload_n 1, 1) := by decide +kernel
theorem l_89_104 : mlL (mown 89) 104 = some (0, 7) := by decide +kernel
theorem c_89_48 : mcd 89 48 = some (.ldc 104, 2) := by decide +kernel
theorem c_89_50 : mcd 89 50 = some (.invokevirtual 89, 3) := by decide +kernel
theorem c_89_53 : mcd 89 53 = some (.ifCond .eq 25, 3) := by decide +kernel
theorem c_89_56 : mcd 89 56 = some (.aload_n 0, 1) := by decide +kernel
theorem c_89_57 : mcd 89 57 = some (.getfield 28, 3) := by decide +kernel
theorem f_89_28 : mfL (mown 89) 28 = some (8, 2, 6) := by decide +kernel
theorem c_89_60 : mcd 89 60 = some (.aload_n 1, 1) := by decide +kernel
theorem c_89_61 : mcd 89 61 = some (.aload_n 0, 1) := by decide +kernel
theorem c_89_62 : mcd 89 62 = some (.getfield 12, 3) := by decide +kernel
theorem c_89_65 : mcd 89 65 = some (.getfield 98, 3) := by decide +kernel
theorem c_89_68 : mcd 89 68 = some (.aload_n 0, 1) := by decide +kernel
theorem c_89_69 : mcd 89 69 = some (.getfield 21, 3) := by decide +kernel
theorem w_2 : mci.getD (mown 2) 99 = 0 := by decide +kernel
theorem c_89_72 : mcd 89 72 = some (.invokevirtual 106, 3) := by decide +kernel
theorem k_89_106 : mcL (mown 89) 106 = some (0, 2, 4) := by decide +kernel
theorem c_89_75 : mcd 89 75 = some (.goto 143, 3) := by decide +kernel
theorem c_89_78 : mcd 89 78 = some (.aload_n 1, 1) := by decide +kernel
theorem l_89_109 : mlL (mown 89) 109 = some (0, 14) := by decide +kernel
theorem c_89_79 : mcd 89 79 = some (.ldc 109, 2) := by decide +kernel
theorem c_89_81 : mcd 89 81 = some (.invokevirtual 89, 3) := by decide +kernel
theorem c_89_84 : mcd 89 84 = some (.ifCond .eq 14, 3) := by decide +kernel
theorem c_89_87 : mcd 89 87 = some (.aload_n 0, 1) := by decide +kernel
theorem c_89_88 : mcd 89 88 = some (.getfield 35, 3) := by decide +kernel
theorem f_89_35 : mfL (mown 89) 35 = some (8, 3, 6) := by decide +kernel
theorem c_89_91 : mcd 89 91 = some (.aload_n 1, 1) := by decide +kernel
theorem w_20 : mci.getD (mown 20) 99 = 1 := by decide +kernel
theorem c_89_92 : mcd 89 92 = some (.invokevirtual 111, 3) := by decide +kernel
theorem k_89_111 : mcL (mown 89) 111 = some (0, 20, 2) := by decide +kernel
theorem c_89_95 : mcd 89 95 = some (.goto 123, 3) := by decide +kernel
theorem c_89_98 : mcd 89 98 = some (.aload_n 1, 1) := by decide +kernel
theorem l_89_112 : mlL (mown 89) 112 = some (0, 16) := by decide +kernel
theorem c_89_99 : mcd 89 99 = some (.ldc 112, 2) := by decide +kernel
theorem c_89_101 : mcd 89 101 = some (.invokevirtual 113, 3) := by decide +kernel
theorem k_89_113 : mcL (mown 89) 113 = some (0, 76, 2) := by decide +kernel
theorem c_89_104 : mcd 89 104 = some (.ifCond .eq 17, 3) := by decide +kernel
theorem c_89_107 : mcd 89 107 = some (.aload_n 0, 1) := by decide +kernel
theorem c_89_108 : mcd 89 108 = some (.aload_n 1, 1) := by decide +kernel
theorem c_89_109 : mcd 89 109 = some (.iconst 0, 1) := by decide +kernel
theorem c_89_110 : mcd 89 110 = some (.bipush 9, 2) := by decide +kernel
theorem c_89_112 : mcd 89 112 = some (.invokevirtual 116, 3) := by decide +kernel
theorem k_89_116 : mcL (mown 89) 116 = some (0, 79, 3) := by decide +kernel
theorem c_89_115 : mcd 89 115 = some (.putfield 66, 3) := by decide +kernel
theorem f_89_66 : mfL (mown 89) 66 = some (8, 7, 0) := by decide +kernel
theorem c_89_118 : mcd 89 118 = some (.goto 100, 3) := by decide +kernel
theorem c_89_121 : mcd 89 121 = some (.aload_n 1, 1) := by decide +kernel
theorem l_89_120 : mlL (mown 89) 120 = some (0, 17) := by decide +kernel
theorem c_89_122 : mcd 89 122 = some (.ldc 120, 2) := by decide +kernel
theorem c_89_124 : mcd 89 124 = some (.invokevirtual 113, 3) := by decide +kernel
theorem c_89_127 : mcd 89 127 = some (.ifCond .eq 17, 3) := by decide +kernel
theorem c_89_130 : mcd 89 130 = some (.aload_n 0, 1) := by decide +kernel
theorem c_89_131 : mcd 89 131 = some (.aload_n 1, 1) := by decide +kernel
theorem c_89_132 : mcd 89 132 = some (.iconst 0, 1) := by decide +kernel
theorem c_89_133 : mcd 89 133 = some (.bipush 9, 2) := by decide +kernel
theorem c_89_135 : mcd 89 135 = some (.invokevirtual 116, 3) := by decide +kernel
theorem c_89_138 : mcd 89 138 = some (.putfield 39, 3) := by decide +kernel
theorem f_89_39 : mfL (mown 89) 39 = some (8, 8, 0) := by decide +kernel
theorem c_89_141 : mcd 89 141 = some (.goto 77, 3) := by decide +kernel
theorem c_89_144 : mcd 89 144 = some (.aload_n 1, 1) := by decide +kernel
theorem l_89_121 : mlL (mown 89) 121 = some (0, 18) := by decide +kernel
theorem c_89_145 : mcd 89 145 = some (.ldc 121, 2) := by decide +kernel
theorem c_89_147 : mcd 89 147 = some (.invokevirtual 113, 3) := by decide +kernel
theorem c_89_150 : mcd 89 150 = some (.ifCond .eq 29, 3) := by decide +kernel
theorem c_89_153 : mcd 89 153 = some (.aload_n 0, 1) := by decide +kernel
theorem c_89_154 : mcd 89 154 = some (.getfield 21, 3) := by decide +kernel
theorem c_89_157 : mcd 89 157 = some (.aload_n 1, 1) := by decide +kernel
theorem c_89_158 : mcd 89 158 = some (.iconst 0, 1) := by decide +kernel
theorem c_89_159 : mcd 89 159 = some (.aload_n 0, 1) := by decide +kernel
theorem c_89_160 : mcd 89 160 = some (.getfield 21, 3) := by decide +kernel
theorem c_89_163 : mcd 89 163 = some (.getfield 123, 3) := by decide +kernel
theorem f_89_123 : mfL (mown 89) 123 = some (2, 0, 0) := by decide +kernel
theorem c_89_166 : mcd 89 166 = some (.iconst 1, 1) := by decide +kernel
theorem c_89_167 : mcd 89 167 = some (.isub, 1) := by decide +kernel
theorem c_89_168 : mcd 89 168 = some (.invokevirtual 116, 3) := by decide +kernel
theorem c_89_171 : mcd 89 171 = some (.iconst 0, 1) := by decide +kernel
theorem c_89_172 : mcd 89 172 = some (.invokevirtual 124, 3) := by decide +kernel
theorem k_89_124 : mcL (mown 89) 124 = some (0, 30, 3) := by decide +kernel
theorem c_89_175 : mcd 89 175 = some (.pop, 1) := by decide +kernel
theorem c_89_176 : mcd 89 176 = some (.goto 42, 3) := by decide +kernel
theorem c_89_179 : mcd 89 179 = some (.aload_n 1, 1) := by decide +kernel
theorem l_89_128 : mlL (mown 89) 128 = some (0, 19) := by decide +kernel
theorem c_89_180 : mcd 89 180 = some (.ldc 128, 2) := by decide +kernel
theorem c_89_182 : mcd 89 182 = some (.invokevirtual 113, 3) := by decide +kernel
theorem c_89_185 : mcd 89 185 = some (.ifCond .eq 29, 3) := by decide +kernel
theorem c_89_188 : mcd 89 188 = some (.aload_n 0, 1) := by decide +kernel
theorem c_89_189 : mcd 89 189 = some (.getfield 21, 3) := by decide +kernel
theorem c_89_192 : mcd 89 192 = some (.aload_n 1, 1) := by decide +kernel
theorem c_89_193 : mcd 89 193 = some (.iconst 0, 1) := by decide +kernel
theorem c_89_194 : mcd 89 194 = some (.aload_n 0, 1) := by decide +kernel
theorem c_89_195 : mcd 89 195 = some (.getfield 21, 3) := by decide +kernel
theorem c_89_198 : mcd 89 198 = some (.getfield 123, 3) := by decide +kernel
theorem c_89_201 : mcd 89 201 = some (.iconst 1, 1) := by decide +kernel
theorem c_89_202 : mcd 89 202 = some (.isub, 1) := by decide +kernel
theorem c_89_203 : mcd 89 203 = some (.invokevirtual 116, 3) := by decide +kernel
theorem c_89_206 : mcd 89 206 = some (.iconst 1, 1) := by decide +kernel
theorem c_89_207 : mcd 89 207 = some (.invokevirtual 124, 3) := by decide +kernel
theorem c_89_210 : mcd 89 210 = some (.pop, 1) := by decide +kernel
theorem c_89_211 : mcd 89 211 = some (.goto 7, 3) := by decide +kernel
theorem c_89_214 : mcd 89 214 = some (.aload_n 1, 1) := by decide +kernel
theorem c_89_215 : mcd 89 215 = some (.invokevirtual 130, 3) := by decide +kernel
theorem k_89_130 : mcL (mown 89) 130 = some (0, 71, 1) := by decide +kernel
theorem r_89 : mret 89 = none := by decide +kernel
theorem c_89_218 : mcd 89 218 = some (.return_, 1) := by decide +kernel
theorem m_90 : mmaxL 90 = 4 := by decide +kernel
theorem c_90_0 : mcd 90 0 = some (.iconst 0, 1) := by decide +kernel
theorem c_90_1 : mcd 90 1 = some (.istore_n 2, 1) := by decide +kernel
theorem c_90_2 : mcd 90 2 = some (.iconst 0, 1) := by decide +kernel
theorem c_90_3 : mcd 90 3 = some (.istore_n 3, 1) := by decide +kernel
theorem c_90_4 : mcd 90 4 = some (.iload_n 3, 1) := by decide +kernel
theorem c_90_5 : mcd 90 5 = some (.iload_n 1, 1) := by decide +kernel
theorem c_90_6 : mcd 90 6 = some (.if_icmp .ge 16, 3) := by decide +kernel
theorem c_90_9 : mcd 90 9 = some (.iload_n 2, 1) := by decide +kernel
theorem c_90_10 : mcd 90 10 = some (.aload_n 0, 1) := by decide +kernel
theorem w_93 : mci.getD (mown 93) 99 = 8 := by decide +kernel
theorem c_90_11 : mcd 90 11 = some (.invokevirtual 133, 3) := by decide +kernel
theorem k_90_133 : mcL (mown 90) 133 = some (0, 93, 1) := by decide +kernel
theorem c_90_14 : mcd 90 14 = some (.iadd, 1) := by decide +kernel
theorem c_90_15 : mcd 90 15 = some (.istore_n 2, 1) := by decide +kernel
theorem c_90_16 : mcd 90 16 = some (.iinc 3 1, 3) := by decide +kernel
theorem c_90_19 : mcd 90 19 = some (.goto (-15), 3) := by decide +kernel
theorem c_90_22 : mcd 90 22 = some (.iload_n 2, 1) := by decide +kernel
theorem r_90 : mret 90 = some .int := by decide +kernel
theorem c_90_23 : mcd 90 23 = some (.ireturn, 1) := by decide +kernel
theorem m_91 : mmaxL 91 = 4 := by decide +kernel
theorem c_91_0 : mcd 91 0 = some (.aload_n 0, 1) := by decide +kernel
theorem c_91_1 : mcd 91 1 = some (.iload_n 1, 1) := by decide +kernel
theorem w_92 : mci.getD (mown 92) 99 = 8 := by decide +kernel
theorem c_91_2 : mcd 91 2 = some (.invokevirtual 137, 3) := by decide +kernel
theorem k_91_137 : mcL (mown 91) 137 = some (0, 92, 2) := by decide +kernel
theorem c_91_5 : mcd 91 5 = some (.istore_n 2, 1) := by decide +kernel
theorem c_91_6 : mcd 91 6 = some (.iconst 0, 1) := by decide +kernel
theorem c_91_7 : mcd 91 7 = some (.istore_n 3, 1) := by decide +kernel
theorem c_91_8 : mcd 91 8 = some (.iload_n 3, 1) := by decide +kernel
theorem c_91_9 : mcd 91 9 = some (.iload_n 2, 1) := by decide +kernel
theorem c_91_10 : mcd 91 10 = some (.if_icmp .ge 18, 3) := by decide +kernel
theorem c_91_13 : mcd 91 13 = some (.aload_n 0, 1) := by decide +kernel
theorem c_91_14 : mcd 91 14 = some (.invokevirtual 133, 3) := by decide +kernel
theorem k_91_133 : mcL (mown 91) 133 = some (0, 93, 1) := by decide +kernel
theorem c_91_17 : mcd 91 17 = some (.ifCond .le 5, 3) := by decide +kernel
theorem c_91_20 : mcd 91 20 = some (.iconst 0, 1) := by decide +kernel
theorem r_91 : mret 91 = some .boolean := by decide +kernel
theorem c_91_21 : mcd 91 21 = some (.ireturn, 1) := by decide +kernel
theorem c_91_22 : mcd 91 22 = some (.iinc 3 1, 3) := by decide +kernel
theorem c_91_25 : mcd 91 25 = some (.goto (-17), 3) := by decide +kernel
theorem c_91_28 : mcd 91 28 = some (.iconst 1, 1) := by decide +kernel
theorem c_91_29 : mcd 91 29 = some (.ireturn, 1) := by decide +kernel
theorem m_92 : mmaxL 92 = 2 := by decide +kernel
theorem c_92_0 : mcd 92 0 = some (.iconst 0, 1) := by decide +kernel
theorem c_92_1 : mcd 92 1 = some (.iload_n 1, 1) := by decide +kernel
theorem c_92_2 : mcd 92 2 = some (.aload_n 0, 1) := by decide +kernel
theorem c_92_3 : mcd 92 3 = some (.getfield 28, 3) := by decide +kernel
theorem f_92_28 : mfL (mown 92) 28 = some (8, 2, 6) := by decide +kernel
theorem w_8 : mci.getD (mown 8) 99 = 0 := by decide +kernel
theorem c_92_6 : mcd 92 6 = some (.invokevirtual 141, 3) := by decide +kernel
theorem k_92_141 : mcL (mown 92) 141 = some (0, 8, 1) := by decide +kernel
theorem c_92_9 : mcd 92 9 = some (.iconst 1, 1) := by decide +kernel
theorem c_92_10 : mcd 92 10 = some (.iadd, 1) := by decide +kernel
theorem c_92_11 : mcd 92 11 = some (.aload_n 0, 1) := by decide +kernel
theorem c_92_12 : mcd 92 12 = some (.getfield 63, 3) := by decide +kernel
theorem f_92_63 : mfL (mown 92) 63 = some (8, 6, 0) := by decide +kernel
theorem c_92_15 : mcd 92 15 = some (.isub, 1) := by decide +kernel
theorem c_92_16 : mcd 92 16 = some (.invokestatic 144, 3) := by decide +kernel
theorem k_92_144 : mcL (mown 92) 144 = some (11, 0, 2) := by decide +kernel
theorem c_92_19 : mcd 92 19 = some (.invokestatic 149, 3) := by decide +kernel
theorem k_92_149 : mcL (mown 92) 149 = some (12, 0, 2) := by decide +kernel
theorem r_92 : mret 92 = some .int := by decide +kernel
theorem c_92_22 : mcd 92 22 = some (.ireturn, 1) := by decide +kernel
theorem m_93 : mmaxL 93 = 4 := by decide +kernel
theorem c_93_0 : mcd 93 0 = some (.aload_n 0, 1) := by decide +kernel
theorem w_94 : mci.getD (mown 94) 99 = 8 := by decide +kernel
theorem c_93_1 : mcd 93 1 = some (.invokevirtual 152, 3) := by decide +kernel
theorem k_93_152 : mcL (mown 93) 152 = some (0, 94, 1) := by decide +kernel
theorem c_93_4 : mcd 93 4 = some (.istore_n 1, 1) := by decide +kernel
theorem c_93_5 : mcd 93 5 = some (.aload_n 0, 1) := by decide +kernel
theorem c_93_6 : mcd 93 6 = some (.getfield 28, 3) := by decide +kernel
theorem f_93_28 : mfL (mown 93) 28 = some (8, 2, 6) := by decide +kernel
theorem c_93_9 : mcd 93 9 = some (.aload_n 0, 1) := by decide +kernel
theorem c_93_10 : mcd 93 10 = some (.getfield 63, 3) := by decide +kernel
theorem f_93_63 : mfL (mown 93) 63 = some (8, 6, 0) := by decide +kernel
theorem w_11 : mci.getD (mown 11) 99 = 0 := by decide +kernel
theorem c_93_13 : mcd 93 13 = some (.invokevirtual 155, 3) := by decide +kernel
theorem k_93_155 : mcL (mown 93) 155 = some (0, 11, 2) := by decide +kernel
theorem c_93_16 : mcd 93 16 = some (.istore_n 2, 1) := by decide +kernel
theorem c_93_17 : mcd 93 17 = some (.iconst 0, 1) := by decide +kernel
theorem c_93_18 : mcd 93 18 = some (.istore_n 3, 1) := by decide +kernel
theorem c_93_19 : mcd 93 19 = some (.iload_n 3, 1) := by decide +kernel
theorem c_93_20 : mcd 93 20 = some (.aload_n 0, 1) := by decide +kernel
theorem c_93_21 : mcd 93 21 = some (.getfield 12, 3) := by decide +kernel
theorem f_93_12 : mfL (mown 93) 12 = some (8, 0, 6) := by decide +kernel
theorem c_93_24 : mcd 93 24 = some (.getfield 98, 3) := by decide +kernel
theorem f_93_98 : mfL (mown 93) 98 = some (9, 0, 0) := by decide +kernel
theorem c_93_27 : mcd 93 27 = some (.if_icmp .ge 23, 3) := by decide +kernel
theorem c_93_30 : mcd 93 30 = some (.iload_n 2, 1) := by decide +kernel
theorem c_93_31 : mcd 93 31 = some (.iload_n 3, 1) := by decide +kernel
theorem c_93_32 : mcd 93 32 = some (.invokestatic 158, 3) := by decide +kernel
theorem k_93_158 : mcL (mown 93) 158 = some (2, 59, 2) := by decide +kernel
theorem c_93_35 : mcd 93 35 = some (.ifCond .eq 9, 3) := by decide +kernel
theorem c_93_38 : mcd 93 38 = some (.aload_n 0, 1) := by decide +kernel
theorem c_93_39 : mcd 93 39 = some (.iload_n 3, 1) := by decide +kernel
theorem c_93_40 : mcd 93 40 = some (.iload_n 2, 1) := by decide +kernel
theorem w_95 : mci.getD (mown 95) 99 = 8 := by decide +kernel
theorem c_93_41 : mcd 93 41 = some (.invokevirtual 164, 3) := by decide +kernel
theorem k_93_164 : mcL (mown 93) 164 = some (0, 95, 3) := by decide +kernel
theorem c_93_44 : mcd 93 44 = some (.iinc 3 1, 3) := by decide +kernel
theorem c_93_47 : mcd 93 47 = some (.goto (-28), 3) := by decide +kernel
theorem c_93_50 : mcd 93 50 = some (.iconst 0, 1) := by decide +kernel
theorem c_93_51 : mcd 93 51 = some (.istore_n 3, 1) := by decide +kernel
theorem c_93_52 : mcd 93 52 = some (.iload_n 3, 1) := by decide +kernel
theorem c_93_53 : mcd 93 53 = some (.aload_n 0, 1) := by decide +kernel
theorem c_93_54 : mcd 93 54 = some (.getfield 12, 3) := by decide +kernel
theorem c_93_57 : mcd 93 57 = some (.getfield 98, 3) := by decide +kernel
theorem c_93_60 : mcd 93 60 = some (.if_icmp .ge 25, 3) := by decide +kernel
theorem c_93_63 : mcd 93 63 = some (.iload_n 2, 1) := by decide +kernel
theorem c_93_64 : mcd 93 64 = some (.iload_n 3, 1) := by decide +kernel
theorem c_93_65 : mcd 93 65 = some (.invokestatic 158, 3) := by decide +kernel
theorem c_93_68 : mcd 93 68 = some (.ifCond .ne 11, 3) := by decide +kernel
theorem c_93_71 : mcd 93 71 = some (.aload_n 0, 1) := by decide +kernel
theorem c_93_72 : mcd 93 72 = some (.getfield 12, 3) := by decide +kernel
theorem c_93_75 : mcd 93 75 = some (.iload_n 3, 1) := by decide +kernel
theorem w_108 : mci.getD (mown 108) 99 = 9 := by decide +kernel
theorem c_93_76 : mcd 93 76 = some (.invokevirtual 168, 3) := by decide +kernel
theorem k_93_168 : mcL (mown 93) 168 = some (0, 108, 2) := by decide +kernel
theorem c_93_79 : mcd 93 79 = some (.iinc 3 1, 3) := by decide +kernel
theorem c_93_82 : mcd 93 82 = some (.goto (-30), 3) := by decide +kernel
theorem c_93_85 : mcd 93 85 = some (.iconst 0, 1) := by decide +kernel
theorem c_93_86 : mcd 93 86 = some (.istore_n 3, 1) := by decide +kernel
theorem c_93_87 : mcd 93 87 = some (.iload_n 3, 1) := by decide +kernel
theorem c_93_88 : mcd 93 88 = some (.aload_n 0, 1) := by decide +kernel
theorem c_93_89 : mcd 93 89 = some (.getfield 21, 3) := by decide +kernel
theorem f_93_21 : mfL (mown 93) 21 = some (8, 1, 6) := by decide +kernel
theorem c_93_92 : mcd 93 92 = some (.getfield 123, 3) := by decide +kernel
theorem f_93_123 : mfL (mown 93) 123 = some (2, 0, 0) := by decide +kernel
theorem c_93_95 : mcd 93 95 = some (.if_icmp .ge 26, 3) := by decide +kernel
theorem c_93_98 : mcd 93 98 = some (.aload_n 0, 1) := by decide +kernel
theorem c_93_99 : mcd 93 99 = some (.getfield 21, 3) := by decide +kernel
theorem c_93_102 : mcd 93 102 = some (.iload_n 3, 1) := by decide +kernel
theorem c_93_103 : mcd 93 103 = some (.invokevirtual 172, 3) := by decide +kernel
theorem k_93_172 : mcL (mown 93) 172 = some (0, 29, 2) := by decide +kernel
theorem c_93_106 : mcd 93 106 = some (.ifCond .eq 9, 3) := by decide +kernel
theorem c_93_109 : mcd 93 109 = some (.aload_n 0, 1) := by decide +kernel
theorem c_93_110 : mcd 93 110 = some (.iload_n 3, 1) := by decide +kernel
theorem c_93_111 : mcd 93 111 = some (.iload_n 2, 1) := by decide +kernel
theorem w_96 : mci.getD (mown 96) 99 = 8 := by decide +kernel
theorem c_93_112 : mcd 93 112 = some (.invokevirtual 176, 3) := by decide +kernel
theorem k_93_176 : mcL (mown 93) 176 = some (0, 96, 3) := by decide +kernel
theorem c_93_115 : mcd 93 115 = some (.iinc 3 1, 3) := by decide +kernel
theorem c_93_118 : mcd 93 118 = some (.goto (-31), 3) := by decide +kernel
theorem c_93_121 : mcd 93 121 = some (.aload_n 0, 1) := by decide +kernel
theorem c_93_122 : mcd 93 122 = some (.dup, 1) := by decide +kernel
theorem c_93_123 : mcd 93 123 = some (.getfield 63, 3) := by decide +kernel
theorem c_93_126 : mcd 93 126 = some (.iconst 1, 1) := by decide +kernel
theorem c_93_127 : mcd 93 127 = some (.iadd, 1) := by decide +kernel
theorem c_93_128 : mcd 93 128 = some (.putfield 63, 3) := by decide +kernel
theorem c_93_131 : mcd 93 131 = some (.iload_n 1, 1) := by decide +kernel
theorem r_93 : mret 93 = some .int := by decide +kernel
theorem c_93_132 : mcd 93 132 = some (.ireturn, 1) := by decide +kernel
theorem m_94 : mmaxL 94 = 4 := by decide +kernel
theorem c_94_0 : mcd 94 0 = some (.iconst 0, 1) := by decide +kernel
theorem c_94_1 : mcd 94 1 = some (.istore_n 1, 1) := by decide +kernel
theorem c_94_2 : mcd 94 2 = some (.iconst 0, 1) := by decide +kernel
theorem c_94_3 : mcd 94 3 = some (.istore_n 2, 1) := by decide +kernel
theorem c_94_4 : mcd 94 4 = some (.iload_n 2, 1) := by decide +kernel
theorem c_94_5 : mcd 94 5 = some (.aload_n 0, 1) := by decide +kernel
theorem c_94_6 : mcd 94 6 = some (.getfield 28, 3) := by decide +kernel
theorem f_94_28 : mfL (mown 94) 28 = some (8, 2, 6) := by decide +kernel
theorem c_94_9 : mcd 94 9 = some (.getfield 179, 3) := by decide +kernel
theorem f_94_179 : mfL (mown 94) 179 = some (0, 0, 0) := by decide +kernel
theorem c_94_12 : mcd 94 12 = some (.if_icmp .ge 38, 3) := by decide +kernel
theorem c_94_15 : mcd 94 15 = some (.aload_n 0, 1) := by decide +kernel
theorem c_94_16 : mcd 94 16 = some (.getfield 28, 3) := by decide +kernel
theorem c_94_19 : mcd 94 19 = some (.iload_n 2, 1) := by decide +kernel
theorem c_94_20 : mcd 94 20 = some (.aload_n 0, 1) := by decide +kernel
theorem c_94_21 : mcd 94 21 = some (.getfield 63, 3) := by decide +kernel
theorem f_94_63 : mfL (mown 94) 63 = some (8, 6, 0) := by decide +kernel
theorem w_7 : mci.getD (mown 7) 99 = 0 := by decide +kernel
theorem c_94_24 : mcd 94 24 = some (.invokevirtual 180, 3) := by decide +kernel
theorem k_94_180 : mcL (mown 94) 180 = some (0, 7, 3) := by decide +kernel
theorem c_94_27 : mcd 94 27 = some (.istore_n 3, 1) := by decide +kernel
theorem c_94_28 : mcd 94 28 = some (.iload_n 3, 1) := by decide +kernel
theorem c_94_29 : mcd 94 29 = some (.iconst (-1), 1) := by decide +kernel
theorem c_94_30 : mcd 94 30 = some (.if_icmp .eq 14, 3) := by decide +kernel
theorem c_94_33 : mcd 94 33 = some (.iload_n 1, 1) := by decide +kernel
theorem c_94_34 : mcd 94 34 = some (.aload_n 0, 1) := by decide +kernel
theorem c_94_35 : mcd 94 35 = some (.getfield 12, 3) := by decide +kernel
theorem f_94_12 : mfL (mown 94) 12 = some (8, 0, 6) := by decide +kernel
theorem c_94_38 : mcd 94 38 = some (.iload_n 3, 1) := by decide +kernel
theorem w_106 : mci.getD (mown 106) 99 = 9 := by decide +kernel
theorem c_94_39 : mcd 94 39 = some (.invokevirtual 183, 3) := by decide +kernel
theorem k_94_183 : mcL (mown 94) 183 = some (0, 106, 2) := by decide +kernel
theorem c_94_42 : mcd 94 42 = some (.iadd, 1) := by decide +kernel
theorem c_94_43 : mcd 94 43 = some (.istore_n 1, 1) := by decide +kernel
theorem c_94_44 : mcd 94 44 = some (.iinc 2 1, 3) := by decide +kernel
theorem c_94_47 : mcd 94 47 = some (.goto (-43), 3) := by decide +kernel
theorem c_94_50 : mcd 94 50 = some (.iload_n 1, 1) := by decide +kernel
theorem r_94 : mret 94 = some .int := by decide +kernel
theorem c_94_51 : mcd 94 51 = some (.ireturn, 1) := by decide +kernel
theorem m_95 : mmaxL 95 = 8 := by decide +kernel
theorem c_95_0 : mcd 95 0 = some (.aload_n 0, 1) := by decide +kernel
theorem c_95_1 : mcd 95 1 = some (.getfield 28, 3) := by decide +kernel
theorem f_95_28 : mfL (mown 95) 28 = some (8, 2, 6) := by decide +kernel
theorem c_95_4 : mcd 95 4 = some (.iload_n 1, 1) := by decide +kernel
theorem c_95_5 : mcd 95 5 = some (.aload_n 0, 1) := by decide +kernel
theorem c_95_6 : mcd 95 6 = some (.getfield 63, 3) := by decide +kernel
theorem f_95_63 : mfL (mown 95) 63 = some (8, 6, 0) := by decide +kernel
theorem w_13 : mci.getD (mown 13) 99 = 0 := by decide +kernel
theorem c_95_9 : mcd 95 9 = some (.invokevirtual 186, 3) := by decide +kernel
theorem k_95_186 : mcL (mown 95) 186 = some (0, 13, 3) := by decide +kernel
theorem c_95_12 : mcd 95 12 = some (.istore_n 3, 1) := by decide +kernel
theorem c_95_13 : mcd 95 13 = some (.iload_n 3, 1) := by decide +kernel
theorem c_95_14 : mcd 95 14 = some (.iconst (-1), 1) := by decide +kernel
theorem c_95_15 : mcd 95 15 = some (.if_icmp .ne 4, 3) := by decide +kernel
theorem r_95 : mret 95 = none := by decide +kernel
theorem c_95_18 : mcd 95 18 = some (.return_, 1) := by decide +kernel
theorem c_95_19 : mcd 95 19 = some (.aload_n 0, 1) := by decide +kernel
theorem c_95_20 : mcd 95 20 = some (.getfield 56, 3) := by decide +kernel
theorem f_95_56 : mfL (mown 95) 56 = some (8, 4, 2) := by decide +kernel
theorem c_95_23 : mcd 95 23 = some (.ifnonnull 8, 3) := by decide +kernel
theorem c_95_26 : mcd 95 26 = some (.bipush 10, 2) := by decide +kernel
theorem c_95_28 : mcd 95 28 = some (.goto 13, 3) := by decide +kernel
theorem c_95_31 : mcd 95 31 = some (.aload_n 0, 1) := by decide +kernel
theorem c_95_32 : mcd 95 32 = some (.getfield 56, 3) := by decide +kernel
theorem c_95_35 : mcd 95 35 = some (.aload_n 0, 1) := by decide +kernel
theorem c_95_36 : mcd 95 36 = some (.iload_n 1, 1) := by decide +kernel
theorem c_95_37 : mcd 95 37 = some (.iload_n 3, 1) := by decide +kernel
theorem w_47 : mci.getD (mown 47) 99 = 3 := by decide +kernel
theorem c_95_38 : mcd 95 38 = some (.invokevirtual 189, 3) := by decide +kernel
theorem k_95_189 : mcL (mown 95) 189 = some (0, 47, 4) := by decide +kernel
theorem c_95_41 : mcd 95 41 = some (.istore 4, 2) := by decide +kernel
theorem c_95_43 : mcd 95 43 = some (.iload 4, 2) := by decide +kernel
theorem c_95_45 : mcd 95 45 = some (.aload_n 0, 1) := by decide +kernel
theorem c_95_46 : mcd 95 46 = some (.getfield 12, 3) := by decide +kernel
theorem f_95_12 : mfL (mown 95) 12 = some (8, 0, 6) := by decide +kernel
theorem c_95_49 : mcd 95 49 = some (.getfield 195, 3) := by decide +kernel
theorem f_95_195 : mfL (mown 95) 195 = some (9, 3, 6) := by decide +kernel
theorem c_95_52 : mcd 95 52 = some (.iload_n 1, 1) := by decide +kernel
theorem c_95_53 : mcd 95 53 = some (.iaload, 1) := by decide +kernel
theorem c_95_54 : mcd 95 54 = some (.invokestatic 144, 3) := by decide +kernel
theorem k_95_144 : mcL (mown 95) 144 = some (11, 0, 2) := by decide +kernel
theorem c_95_57 : mcd 95 57 = some (.istore 5, 2) := by decide +kernel
theorem c_95_59 : mcd 95 59 = some (.iload 5, 2) := by decide +kernel
theorem c_95_61 : mcd 95 61 = some (.aload_n 0, 1) := by decide +kernel
theorem c_95_62 : mcd 95 62 = some (.getfield 12, 3) := by decide +kernel
theorem c_95_65 : mcd 95 65 = some (.iload_n 1, 1) := by decide +kernel
theorem c_95_66 : mcd 95 66 = some (.iload 5, 2) := by decide +kernel
theorem w_107 : mci.getD (mown 107) 99 = 9 := by decide +kernel
theorem c_95_68 : mcd 95 68 = some (.invokevirtual 199, 3) := by decide +kernel
theorem k_95_199 : mcL (mown 95) 199 = some (0, 107, 3) := by decide +kernel
theorem c_95_71 : mcd 95 71 = some (.isub, 1) := by decide +kernel
theorem c_95_72 : mcd 95 72 = some (.istore 5, 2) := by decide +kernel
theorem c_95_74 : mcd 95 74 = some (.aload_n 0, 1) := by decide +kernel
theorem c_95_75 : mcd 95 75 = some (.getfield 21, 3) := by decide +kernel
theorem f_95_21 : mfL (mown 95) 21 = some (8, 1, 6) := by decide +kernel
theorem c_95_78 : mcd 95 78 = some (.iconst 1, 1) := by decide +kernel
theorem c_95_79 : mcd 95 79 = some (.iload_n 1, 1) := by decide +kernel
theorem c_95_80 : mcd 95 80 = some (.ishl, 1) := by decide +kernel
theorem c_95_81 : mcd 95 81 = some (.iconst 0, 1) := by decide +kernel
theorem c_95_82 : mcd 95 82 = some (.invokevirtual 202, 3) := by decide +kernel
theorem k_95_202 : mcL (mown 95) 202 = some (0, 32, 3) := by decide +kernel
theorem c_95_85 : mcd 95 85 = some (.iload_n 2, 1) := by decide +kernel
theorem c_95_86 : mcd 95 86 = some (.iconst (-1), 1) := by decide +kernel
theorem c_95_87 : mcd 95 87 = some (.ixor, 1) := by decide +kernel
theorem c_95_88 : mcd 95 88 = some (.iand, 1) := by decide +kernel
theorem c_95_89 : mcd 95 89 = some (.istore 6, 2) := by decide +kernel
theorem c_95_91 : mcd 95 91 = some (.iconst 0, 1) := by decide +kernel
theorem c_95_92 : mcd 95 92 = some (.istore 7, 2) := by decide +kernel
theorem c_95_94 : mcd 95 94 = some (.iload 7, 2) := by decide +kernel
theorem c_95_96 : mcd 95 96 = some (.aload_n 0, 1) := by decide +kernel
theorem c_95_97 : mcd 95 97 = some (.getfield 12, 3) := by decide +kernel
theorem c_95_100 : mcd 95 100 = some (.getfield 98, 3) := by decide +kernel
theorem f_95_98 : mfL (mown 95) 98 = some (9, 0, 0) := by decide +kernel
theorem c_95_103 : mcd 95 103 = some (.if_icmp .ge 36, 3) := by decide +kernel
theorem c_95_106 : mcd 95 106 = some (.iload 6, 2) := by decide +kernel
theorem c_95_108 : mcd 95 108 = some (.iload 7, 2) := by decide +kernel
theorem c_95_110 : mcd 95 110 = some (.invokestatic 158, 3) := by decide +kernel
theorem k_95_158 : mcL (mown 95) 158 = some (2, 59, 2) := by decide +kernel
theorem c_95_113 : mcd 95 113 = some (.ifCond .eq 20, 3) := by decide +kernel
theorem c_95_116 : mcd 95 116 = some (.iload 5, 2) := by decide +kernel
theorem c_95_118 : mcd 95 118 = some (.aload_n 0, 1) := by decide +kernel
theorem c_95_119 : mcd 95 119 = some (.getfield 12, 3) := by decide +kernel
theorem c_95_122 : mcd 95 122 = some (.iload_n 1, 1) := by decide +kernel
theorem c_95_123 : mcd 95 123 = some (.iload 7, 2) := by decide +kernel
theorem c_95_125 : mcd 95 125 = some (.iload 5, 2) := by decide +kernel
theorem w_109 : mci.getD (mown 109) 99 = 9 := by decide +kernel
theorem c_95_127 : mcd 95 127 = some (.invokevirtual 206, 3) := by decide +kernel
theorem k_95_206 : mcL (mown 95) 206 = some (0, 109, 4) := by decide +kernel
theorem c_95_130 : mcd 95 130 = some (.isub, 1) := by decide +kernel
theorem c_95_131 : mcd 95 131 = some (.istore 5, 2) := by decide +kernel
theorem c_95_133 : mcd 95 133 = some (.iinc 7 1, 3) := by decide +kernel
theorem c_95_136 : mcd 95 136 = some (.goto (-42), 3) := by decide +kernel
theorem c_95_139 : mcd 95 139 = some (.return_, 1) := by decide +kernel
theorem m_96 : mmaxL 96 = 6 := by decide +kernel
theorem c_96_0 : mcd 96 0 = some (.aload_n 0, 1) := by decide +kernel
theorem c_96_1 : mcd 96 1 = some (.getfield 21, 3) := by decide +kernel
theorem f_96_21 : mfL (mown 96) 21 = some (8, 1, 6) := by decide +kernel
theorem c_96_4 : mcd 96 4 = some (.getfield 210, 3) := by decide +kernel
theorem f_96_210 : mfL (mown 96) 210 = some (2, 2, 6) := by decide +kernel
theorem c_96_7 : mcd 96 7 = some (.iload_n 1, 1) := by decide +kernel
theorem c_96_8 : mcd 96 8 = some (.iaload, 1) := by decide +kernel
theorem c_96_9 : mcd 96 9 = some (.istore_n 3, 1) := by decide +kernel
theorem c_96_10 : mcd 96 10 = some (.aload_n 0, 1) := by decide +kernel
theorem c_96_11 : mcd 96 11 = some (.getfield 21, 3) := by decide +kernel
theorem c_96_14 : mcd 96 14 = some (.getfield 213, 3) := by decide +kernel
theorem f_96_213 : mfL (mown 96) 213 = some (2, 3, 6) := by decide +kernel
theorem c_96_17 : mcd 96 17 = some (.iload_n 1, 1) := by decide +kernel
theorem c_96_18 : mcd 96 18 = some (.iaload, 1) := by decide +kernel
theorem c_96_19 : mcd 96 19 = some (.istore 4, 2) := by decide +kernel
theorem c_96_21 : mcd 96 21 = some (.iload_n 2, 1) := by decide +kernel
theorem c_96_22 : mcd 96 22 = some (.iload_n 3, 1) := by decide +kernel
theorem c_96_23 : mcd 96 23 = some (.invokestatic 158, 3) := by decide +kernel
theorem k_96_158 : mcL (mown 96) 158 = some (2, 59, 2) := by decide +kernel
theorem c_96_26 : mcd 96 26 = some (.ifCond .ne 12, 3) := by decide +kernel
theorem c_96_29 : mcd 96 29 = some (.iload_n 2, 1) := by decide +kernel
theorem c_96_30 : mcd 96 30 = some (.iload 4, 2) := by decide +kernel
theorem c_96_32 : mcd 96 32 = some (.invokestatic 158, 3) := by decide +kernel
theorem c_96_35 : mcd 96 35 = some (.ifCond .eq 4, 3) := by decide +kernel
theorem r_96 : mret 96 = none := by decide +kernel
theorem c_96_38 : mcd 96 38 = some (.return_, 1) := by decide +kernel
theorem c_96_39 : mcd 96 39 = some (.aload_n 0, 1) := by decide +kernel
theorem c_96_40 : mcd 96 40 = some (.getfield 12, 3) := by decide +kernel
theorem f_96_12 : mfL (mown 96) 12 = some (8, 0, 6) := by decide +kernel
theorem c_96_43 : mcd 96 43 = some (.getfield 195, 3) := by decide +kernel
theorem f_96_195 : mfL (mown 96) 195 = some (9, 3, 6) := by decide +kernel
theorem c_96_46 : mcd 96 46 = some (.iload_n 3, 1) := by decide +kernel
theorem c_96_47 : mcd 96 47 = some (.iaload, 1) := by decide +kernel
theorem c_96_48 : mcd 96 48 = some (.aload_n 0, 1) := by decide +kernel
theorem c_96_49 : mcd 96 49 = some (.getfield 12, 3) := by decide +kernel
theorem c_96_52 : mcd 96 52 = some (.getfield 195, 3) := by decide +kernel
theorem c_96_55 : mcd 96 55 = some (.iload 4, 2) := by decide +kernel
theorem c_96_57 : mcd 96 57 = some (.iaload, 1) := by decide +kernel
theorem c_96_58 : mcd 96 58 = some (.isub, 1) := by decide +kernel
theorem c_96_59 : mcd 96 59 = some (.istore 5, 2) := by decide +kernel
theorem c_96_61 : mcd 96 61 = some (.iload 5, 2) := by decide +kernel
theorem c_96_63 : mcd 96 63 = some (.ifCond .le 28, 3) := by decide +kernel
theorem c_96_66 : mcd 96 66 = some (.aload_n 0, 1) := by decide +kernel
theorem c_96_67 : mcd 96 67 = some (.getfield 12, 3) := by decide +kernel
theorem c_96_70 : mcd 96 70 = some (.iload_n 3, 1) := by decide +kernel
theorem c_96_71 : mcd 96 71 = some (.iload 4, 2) := by decide +kernel
theorem c_96_73 : mcd 96 73 = some (.aload_n 0, 1) := by decide +kernel
theorem c_96_74 : mcd 96 74 = some (.getfield 39, 3) := by decide +kernel
theorem f_96_39 : mfL (mown 96) 39 = some (8, 8, 0) := by decide +kernel
theorem c_96_77 : mcd 96 77 = some (.iload 5, 2) := by decide +kernel
theorem c_96_79 : mcd 96 79 = some (.iconst 2, 1) := by decide +kernel
theorem c_96_80 : mcd 96 80 = some (.idiv, 1) := by decide +kernel
theorem c_96_81 : mcd 96 81 = some (.invokestatic 144, 3) := by decide +kernel
theorem k_96_144 : mcL (mown 96) 144 = some (11, 0, 2) := by decide +kernel
theorem c_96_84 : mcd 96 84 = some (.invokevirtual 206, 3) := by decide +kernel
theorem k_96_206 : mcL (mown 96) 206 = some (0, 109, 4) := by decide +kernel
theorem c_96_87 : mcd 96 87 = some (.pop, 1) := by decide +kernel
theorem c_96_88 : mcd 96 88 = some (.goto 26, 3) := by decide +kernel
theorem c_96_91 : mcd 96 91 = some (.aload_n 0, 1) := by decide +kernel
theorem c_96_92 : mcd 96 92 = some (.getfield 12, 3) := by decide +kernel
theorem c_96_95 : mcd 96 95 = some (.iload 4, 2) := by decide +kernel
theorem c_96_97 : mcd 96 97 = some (.iload_n 3, 1) := by decide +kernel
theorem c_96_98 : mcd 96 98 = some (.aload_n 0, 1) := by decide +kernel
theorem c_96_99 : mcd 96 99 = some (.getfield 39, 3) := by decide +kernel
theorem c_96_102 : mcd 96 102 = some (.iload 5, 2) := by decide +kernel
theorem c_96_104 : mcd 96 104 = some (.ineg, 1) := by decide +kernel
theorem c_96_105 : mcd 96 105 = some (.iconst 2, 1) := by decide +kernel
theorem c_96_106 : mcd 96 106 = some (.idiv, 1) := by decide +kernel
theorem c_96_107 : mcd 96 107 = some (.invokestatic 144, 3) := by decide +kernel
theorem c_96_110 : mcd 96 110 = some (.invokevirtual 206, 3) := by decide +kernel
theorem c_96_113 : mcd 96 113 = some (.pop, 1) := by decide +kernel
theorem c_96_114 : mcd 96 114 = some (.return_, 1) := by decide +kernel
theorem m_97 : mmaxL 97 = 3 := by decide +kernel
theorem c_97_0 : mcd 97 0 = some (.iconst 0, 1) := by decide +kernel
theorem c_97_1 : mcd 97 1 = some (.istore_n 1, 1) := by decide +kernel
theorem c_97_2 : mcd 97 2 = some (.iconst 0, 1) := by decide +kernel
theorem c_97_3 : mcd 97 3 = some (.istore_n 2, 1) := by decide +kernel
theorem c_97_4 : mcd 97 4 = some (.iload_n 2, 1) := by decide +kernel
theorem c_97_5 : mcd 97 5 = some (.aload_n 0, 1) := by decide +kernel
theorem c_97_6 : mcd 97 6 = some (.getfield 28, 3) := by decide +kernel
theorem f_97_28 : mfL (mown 97) 28 = some (8, 2, 6) := by decide +kernel
theorem c_97_9 : mcd 97 9 = some (.getfield 179, 3) := by decide +kernel
theorem f_97_179 : mfL (mown 97) 179 = some (0, 0, 0) := by decide +kernel
theorem c_97_12 : mcd 97 12 = some (.if_icmp .ge 39, 3) := by decide +kernel
theorem c_97_15 : mcd 97 15 = some (.aload_n 0, 1) := by decide +kernel
theorem c_97_16 : mcd 97 16 = some (.getfield 66, 3) := by decide +kernel
theorem f_97_66 : mfL (mown 97) 66 = some (8, 7, 0) := by decide +kernel
theorem c_97_19 : mcd 97 19 = some (.aload_n 0, 1) := by decide +kernel
theorem c_97_20 : mcd 97 20 = some (.getfield 28, 3) := by decide +kernel
theorem c_97_23 : mcd 97 23 = some (.getfield 215, 3) := by decide +kernel
theorem f_97_215 : mfL (mown 97) 215 = some (0, 4, 6) := by decide +kernel
theorem c_97_26 : mcd 97 26 = some (.iload_n 2, 1) := by decide +kernel
theorem c_97_27 : mcd 97 27 = some (.iaload, 1) := by decide +kernel
theorem c_97_28 : mcd 97 28 = some (.iadd, 1) := by decide +kernel
theorem c_97_29 : mcd 97 29 = some (.bipush 8, 2) := by decide +kernel
theorem c_97_31 : mcd 97 31 = some (.if_icmp .le 14, 3) := by decide +kernel
theorem c_97_34 : mcd 97 34 = some (.iload_n 1, 1) := by decide +kernel
theorem c_97_35 : mcd 97 35 = some (.aload_n 0, 1) := by decide +kernel
theorem c_97_36 : mcd 97 36 = some (.getfield 28, 3) := by decide +kernel
theorem c_97_39 : mcd 97 39 = some (.iload_n 2, 1) := by decide +kernel
theorem w_14 : mci.getD (mown 14) 99 = 0 := by decide +kernel
theorem c_97_40 : mcd 97 40 = some (.invokevirtual 218, 3) := by decide +kernel
theorem k_97_218 : mcL (mown 97) 218 = some (0, 14, 2) := by decide +kernel
theorem c_97_43 : mcd 97 43 = some (.ior, 1) := by decide +kernel
theorem c_97_44 : mcd 97 44 = some (.istore_n 1, 1) := by decide +kernel
theorem c_97_45 : mcd 97 45 = some (.iinc 2 1, 3) := by decide +kernel
theorem c_97_48 : mcd 97 48 = some (.goto (-44), 3) := by decide +kernel
theorem c_97_51 : mcd 97 51 = some (.aload_n 0, 1) := by decide +kernel
theorem c_97_52 : mcd 97 52 = some (.getfield 21, 3) := by decide +kernel
theorem f_97_21 : mfL (mown 97) 21 = some (8, 1, 6) := by decide +kernel
theorem c_97_55 : mcd 97 55 = some (.iload_n 1, 1) := by decide +kernel
theorem c_97_56 : mcd 97 56 = some (.iconst 1, 1) := by decide +kernel
theorem c_97_57 : mcd 97 57 = some (.invokevirtual 202, 3) := by decide +kernel
theorem k_97_202 : mcL (mown 97) 202 = some (0, 32, 3) := by decide +kernel
theorem c_97_60 : mcd 97 60 = some (.aload_n 0, 1) := by decide +kernel
theorem c_97_61 : mcd 97 61 = some (.getfield 12, 3) := by decide +kernel
theorem f_97_12 : mfL (mown 97) 12 = some (8, 0, 6) := by decide +kernel
theorem c_97_64 : mcd 97 64 = some (.getfield 221, 3) := by decide +kernel
theorem f_97_221 : mfL (mown 97) 221 = some (9, 1, 0) := by decide +kernel
theorem c_97_67 : mcd 97 67 = some (.iand, 1) := by decide +kernel
theorem r_97 : mret 97 = some .int := by decide +kernel
theorem c_97_68 : mcd 97 68 = some (.ireturn, 1) := by decide +kernel
