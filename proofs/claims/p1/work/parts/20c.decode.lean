/-! THE PURE PART, 4: the instructions of every method -/
theorem d_109_0 : decode prog_9_method_1_code 0 = .ok (.aload_n 0, 1) := by decide +kernel
theorem d_109_1 : decode prog_9_method_1_code 1 = .ok (.invokespecial 1, 3) := by decide +kernel
theorem d_109_4 : decode prog_9_method_1_code 4 = .ok (.aload_n 0, 1) := by decide +kernel
theorem d_109_5 : decode prog_9_method_1_code 5 = .ok (.iconst (-1), 1) := by decide +kernel
theorem d_109_6 : decode prog_9_method_1_code 6 = .ok (.putfield 9, 3) := by decide +kernel
theorem d_109_9 : decode prog_9_method_1_code 9 = .ok (.aload_n 0, 1) := by decide +kernel
theorem d_109_10 : decode prog_9_method_1_code 10 = .ok (.sipush 240, 3) := by decide +kernel
theorem d_109_13 : decode prog_9_method_1_code 13 = .ok (.newarray .int, 2) := by decide +kernel
theorem d_109_15 : decode prog_9_method_1_code 15 = .ok (.putfield 13, 3) := by decide +kernel
theorem d_109_18 : decode prog_9_method_1_code 18 = .ok (.aload_n 0, 1) := by decide +kernel
theorem d_109_19 : decode prog_9_method_1_code 19 = .ok (.iconst 2, 1) := by decide +kernel
theorem d_109_20 : decode prog_9_method_1_code 20 = .ok (.newarray .int, 2) := by decide +kernel
theorem d_109_22 : decode prog_9_method_1_code 22 = .ok (.putfield 17, 3) := by decide +kernel
theorem d_109_25 : decode prog_9_method_1_code 25 = .ok (.aload_n 0, 1) := by decide +kernel
theorem d_109_26 : decode prog_9_method_1_code 26 = .ok (.sipush 384, 3) := by decide +kernel
theorem d_109_29 : decode prog_9_method_1_code 29 = .ok (.newarray .int, 2) := by decide +kernel
theorem d_109_31 : decode prog_9_method_1_code 31 = .ok (.putfield 20, 3) := by decide +kernel
theorem d_109_34 : decode prog_9_method_1_code 34 = .ok (.aload_n 0, 1) := by decide +kernel
theorem d_109_35 : decode prog_9_method_1_code 35 = .ok (.sipush 384, 3) := by decide +kernel
theorem d_109_38 : decode prog_9_method_1_code 38 = .ok (.newarray .long, 2) := by decide +kernel
theorem d_109_40 : decode prog_9_method_1_code 40 = .ok (.putfield 23, 3) := by decide +kernel
theorem d_109_43 : decode prog_9_method_1_code 43 = .ok (.aload_n 0, 1) := by decide +kernel
theorem d_109_44 : decode prog_9_method_1_code 44 = .ok (.sipush 384, 3) := by decide +kernel
theorem d_109_47 : decode prog_9_method_1_code 47 = .ok (.newarray .int, 2) := by decide +kernel
theorem d_109_49 : decode prog_9_method_1_code 49 = .ok (.putfield 27, 3) := by decide +kernel
theorem d_109_52 : decode prog_9_method_1_code 52 = .ok (.aload_n 0, 1) := by decide +kernel
theorem d_109_53 : decode prog_9_method_1_code 53 = .ok (.sipush 384, 3) := by decide +kernel
theorem d_109_56 : decode prog_9_method_1_code 56 = .ok (.newarray .int, 2) := by decide +kernel
theorem d_109_58 : decode prog_9_method_1_code 58 = .ok (.putfield 30, 3) := by decide +kernel
theorem d_109_61 : decode prog_9_method_1_code 61 = .ok (.aload_n 0, 1) := by decide +kernel
theorem d_109_62 : decode prog_9_method_1_code 62 = .ok (.sipush 384, 3) := by decide +kernel
theorem d_109_65 : decode prog_9_method_1_code 65 = .ok (.newarray .int, 2) := by decide +kernel
theorem d_109_67 : decode prog_9_method_1_code 67 = .ok (.putfield 33, 3) := by decide +kernel
theorem d_109_70 : decode prog_9_method_1_code 70 = .ok (.aload_n 0, 1) := by decide +kernel
theorem d_109_71 : decode prog_9_method_1_code 71 = .ok (.sipush 384, 3) := by decide +kernel
theorem d_109_74 : decode prog_9_method_1_code 74 = .ok (.newarray .int, 2) := by decide +kernel
theorem d_109_76 : decode prog_9_method_1_code 76 = .ok (.putfield 36, 3) := by decide +kernel
theorem d_109_79 : decode prog_9_method_1_code 79 = .ok (.aload_n 0, 1) := by decide +kernel
theorem d_109_80 : decode prog_9_method_1_code 80 = .ok (.sipush 384, 3) := by decide +kernel
theorem d_109_83 : decode prog_9_method_1_code 83 = .ok (.newarray .int, 2) := by decide +kernel
theorem d_109_85 : decode prog_9_method_1_code 85 = .ok (.putfield 39, 3) := by decide +kernel
theorem d_109_88 : decode prog_9_method_1_code 88 = .ok (.aload_n 0, 1) := by decide +kernel
theorem d_109_89 : decode prog_9_method_1_code 89 = .ok (.sipush 384, 3) := by decide +kernel
theorem d_109_92 : decode prog_9_method_1_code 92 = .ok (.newarray .int, 2) := by decide +kernel
theorem d_109_94 : decode prog_9_method_1_code 94 = .ok (.putfield 42, 3) := by decide +kernel
theorem d_109_97 : decode prog_9_method_1_code 97 = .ok (.aload_n 0, 1) := by decide +kernel
theorem d_109_98 : decode prog_9_method_1_code 98 = .ok (.sipush 720, 3) := by decide +kernel
theorem d_109_101 : decode prog_9_method_1_code 101 = .ok (.newarray .int, 2) := by decide +kernel
theorem d_109_103 : decode prog_9_method_1_code 103 = .ok (.putfield 45, 3) := by decide +kernel
theorem d_109_106 : decode prog_9_method_1_code 106 = .ok (.aload_n 0, 1) := by decide +kernel
theorem d_109_107 : decode prog_9_method_1_code 107 = .ok (.bipush 9, 2) := by decide +kernel
theorem d_109_109 : decode prog_9_method_1_code 109 = .ok (.newarray .int, 2) := by decide +kernel
theorem d_109_111 : decode prog_9_method_1_code 111 = .ok (.putfield 48, 3) := by decide +kernel
theorem d_109_114 : decode prog_9_method_1_code 114 = .ok (.aload_n 0, 1) := by decide +kernel
theorem d_109_115 : decode prog_9_method_1_code 115 = .ok (.bipush 9, 2) := by decide +kernel
theorem d_109_117 : decode prog_9_method_1_code 117 = .ok (.newarray .int, 2) := by decide +kernel
theorem d_109_119 : decode prog_9_method_1_code 119 = .ok (.putfield 51, 3) := by decide +kernel
theorem d_109_122 : decode prog_9_method_1_code 122 = .ok (.aload_n 0, 1) := by decide +kernel
theorem d_109_123 : decode prog_9_method_1_code 123 = .ok (.bipush 9, 2) := by decide +kernel
theorem d_109_125 : decode prog_9_method_1_code 125 = .ok (.newarray .int, 2) := by decide +kernel
theorem d_109_127 : decode prog_9_method_1_code 127 = .ok (.putfield 54, 3) := by decide +kernel
theorem d_109_130 : decode prog_9_method_1_code 130 = .ok (.aload_n 0, 1) := by decide +kernel
theorem d_109_131 : decode prog_9_method_1_code 131 = .ok (.bipush 9, 2) := by decide +kernel
theorem d_109_133 : decode prog_9_method_1_code 133 = .ok (.newarray .int, 2) := by decide +kernel
theorem d_109_135 : decode prog_9_method_1_code 135 = .ok (.putfield 57, 3) := by decide +kernel
theorem d_109_138 : decode prog_9_method_1_code 138 = .ok (.aload_n 0, 1) := by decide +kernel
theorem d_109_139 : decode prog_9_method_1_code 139 = .ok (.bipush 24, 2) := by decide +kernel
theorem d_109_141 : decode prog_9_method_1_code 141 = .ok (.newarray .int, 2) := by decide +kernel
theorem d_109_143 : decode prog_9_method_1_code 143 = .ok (.putfield 60, 3) := by decide +kernel
theorem d_109_146 : decode prog_9_method_1_code 146 = .ok (.aload_n 0, 1) := by decide +kernel
theorem d_109_147 : decode prog_9_method_1_code 147 = .ok (.bipush 24, 2) := by decide +kernel
theorem d_109_149 : decode prog_9_method_1_code 149 = .ok (.newarray .int, 2) := by decide +kernel
theorem d_109_151 : decode prog_9_method_1_code 151 = .ok (.putfield 63, 3) := by decide +kernel
theorem d_109_154 : decode prog_9_method_1_code 154 = .ok (.aload_n 0, 1) := by decide +kernel
theorem d_109_155 : decode prog_9_method_1_code 155 = .ok (.sipush 240, 3) := by decide +kernel
theorem d_109_158 : decode prog_9_method_1_code 158 = .ok (.newarray .int, 2) := by decide +kernel
theorem d_109_160 : decode prog_9_method_1_code 160 = .ok (.putfield 66, 3) := by decide +kernel
theorem d_109_163 : decode prog_9_method_1_code 163 = .ok (.aload_n 0, 1) := by decide +kernel
theorem d_109_164 : decode prog_9_method_1_code 164 = .ok (.bipush 12, 2) := by decide +kernel
theorem d_109_166 : decode prog_9_method_1_code 166 = .ok (.newarray .int, 2) := by decide +kernel
theorem d_109_168 : decode prog_9_method_1_code 168 = .ok (.putfield 69, 3) := by decide +kernel
theorem d_109_171 : decode prog_9_method_1_code 171 = .ok (.aload_n 0, 1) := by decide +kernel
theorem d_109_172 : decode prog_9_method_1_code 172 = .ok (.bipush 12, 2) := by decide +kernel
theorem d_109_174 : decode prog_9_method_1_code 174 = .ok (.newarray .int, 2) := by decide +kernel
theorem d_109_176 : decode prog_9_method_1_code 176 = .ok (.putfield 72, 3) := by decide +kernel
theorem d_109_179 : decode prog_9_method_1_code 179 = .ok (.aload_n 0, 1) := by decide +kernel
theorem d_109_180 : decode prog_9_method_1_code 180 = .ok (.bipush 12, 2) := by decide +kernel
theorem d_109_182 : decode prog_9_method_1_code 182 = .ok (.newarray .boolean, 2) := by decide +kernel
theorem d_109_184 : decode prog_9_method_1_code 184 = .ok (.putfield 75, 3) := by decide +kernel
theorem d_109_187 : decode prog_9_method_1_code 187 = .ok (.aload_n 0, 1) := by decide +kernel
theorem d_109_188 : decode prog_9_method_1_code 188 = .ok (.bipush 12, 2) := by decide +kernel
theorem d_109_190 : decode prog_9_method_1_code 190 = .ok (.newarray .boolean, 2) := by decide +kernel
theorem d_109_192 : decode prog_9_method_1_code 192 = .ok (.putfield 79, 3) := by decide +kernel
theorem d_109_195 : decode prog_9_method_1_code 195 = .ok (.aload_n 0, 1) := by decide +kernel
theorem d_109_196 : decode prog_9_method_1_code 196 = .ok (.bipush 12, 2) := by decide +kernel
theorem d_109_198 : decode prog_9_method_1_code 198 = .ok (.newarray .boolean, 2) := by decide +kernel
theorem d_109_200 : decode prog_9_method_1_code 200 = .ok (.putfield 82, 3) := by decide +kernel
theorem d_109_203 : decode prog_9_method_1_code 203 = .ok (.aload_n 0, 1) := by decide +kernel
theorem d_109_204 : decode prog_9_method_1_code 204 = .ok (.bipush 12, 2) := by decide +kernel
theorem d_109_206 : decode prog_9_method_1_code 206 = .ok (.newarray .int, 2) := by decide +kernel
theorem d_109_208 : decode prog_9_method_1_code 208 = .ok (.putfield 85, 3) := by decide +kernel
theorem d_109_211 : decode prog_9_method_1_code 211 = .ok (.aload_n 0, 1) := by decide +kernel
theorem d_109_212 : decode prog_9_method_1_code 212 = .ok (.sipush 300, 3) := by decide +kernel
theorem d_109_215 : decode prog_9_method_1_code 215 = .ok (.newarray .int, 2) := by decide +kernel
theorem d_109_217 : decode prog_9_method_1_code 217 = .ok (.putfield 88, 3) := by decide +kernel
theorem d_109_220 : decode prog_9_method_1_code 220 = .ok (.aload_n 0, 1) := by decide +kernel
theorem d_109_221 : decode prog_9_method_1_code 221 = .ok (.sipush 600, 3) := by decide +kernel
theorem d_109_224 : decode prog_9_method_1_code 224 = .ok (.newarray .int, 2) := by decide +kernel
theorem d_109_226 : decode prog_9_method_1_code 226 = .ok (.putfield 91, 3) := by decide +kernel
theorem d_109_229 : decode prog_9_method_1_code 229 = .ok (.return_, 1) := by decide +kernel
theorem d_110_0 : decode prog_9_method_2_code 0 = .ok (.aload_n 0, 1) := by decide +kernel
theorem d_110_1 : decode prog_9_method_2_code 1 = .ok (.getfield 94, 3) := by decide +kernel
theorem d_110_4 : decode prog_9_method_2_code 4 = .ok (.ireturn, 1) := by decide +kernel
theorem d_111_0 : decode prog_9_method_3_code 0 = .ok (.aload_n 0, 1) := by decide +kernel
theorem d_111_1 : decode prog_9_method_3_code 1 = .ok (.iconst 0, 1) := by decide +kernel
theorem d_111_2 : decode prog_9_method_3_code 2 = .ok (.putfield 94, 3) := by decide +kernel
theorem d_111_5 : decode prog_9_method_3_code 5 = .ok (.iconst 0, 1) := by decide +kernel
theorem d_111_6 : decode prog_9_method_3_code 6 = .ok (.istore_n 2, 1) := by decide +kernel
theorem d_111_7 : decode prog_9_method_3_code 7 = .ok (.bipush 24, 2) := by decide +kernel
theorem d_111_9 : decode prog_9_method_3_code 9 = .ok (.istore_n 3, 1) := by decide +kernel
theorem d_111_10 : decode prog_9_method_3_code 10 = .ok (.iload_n 3, 1) := by decide +kernel
theorem d_111_11 : decode prog_9_method_3_code 11 = .ok (.ifCond .lt 52, 3) := by decide +kernel
theorem d_111_14 : decode prog_9_method_3_code 14 = .ok (.iload_n 1, 1) := by decide +kernel
theorem d_111_15 : decode prog_9_method_3_code 15 = .ok (.iload_n 3, 1) := by decide +kernel
theorem d_111_16 : decode prog_9_method_3_code 16 = .ok (.ishr, 1) := by decide +kernel
theorem d_111_17 : decode prog_9_method_3_code 17 = .ok (.sipush 255, 3) := by decide +kernel
theorem d_111_20 : decode prog_9_method_3_code 20 = .ok (.iand, 1) := by decide +kernel
theorem d_111_21 : decode prog_9_method_3_code 21 = .ok (.istore 4, 2) := by decide +kernel
theorem d_111_23 : decode prog_9_method_3_code 23 = .ok (.iload 4, 2) := by decide +kernel
theorem d_111_25 : decode prog_9_method_3_code 25 = .ok (.ifCond .eq 19, 3) := by decide +kernel
theorem d_111_28 : decode prog_9_method_3_code 28 = .ok (.iload 4, 2) := by decide +kernel
theorem d_111_30 : decode prog_9_method_3_code 30 = .ok (.bipush 32, 2) := by decide +kernel
theorem d_111_32 : decode prog_9_method_3_code 32 = .ok (.if_icmp .lt 10, 3) := by decide +kernel
theorem d_111_35 : decode prog_9_method_3_code 35 = .ok (.iload 4, 2) := by decide +kernel
theorem d_111_37 : decode prog_9_method_3_code 37 = .ok (.bipush 126, 2) := by decide +kernel
theorem d_111_39 : decode prog_9_method_3_code 39 = .ok (.if_icmp .le 5, 3) := by decide +kernel
theorem d_111_42 : decode prog_9_method_3_code 42 = .ok (.iconst 0, 1) := by decide +kernel
theorem d_111_43 : decode prog_9_method_3_code 43 = .ok (.ireturn, 1) := by decide +kernel
theorem d_111_44 : decode prog_9_method_3_code 44 = .ok (.iload_n 2, 1) := by decide +kernel
theorem d_111_45 : decode prog_9_method_3_code 45 = .ok (.iload 4, 2) := by decide +kernel
theorem d_111_47 : decode prog_9_method_3_code 47 = .ok (.ifCond .eq 7, 3) := by decide +kernel
theorem d_111_50 : decode prog_9_method_3_code 50 = .ok (.iconst 1, 1) := by decide +kernel
theorem d_111_51 : decode prog_9_method_3_code 51 = .ok (.goto 4, 3) := by decide +kernel
theorem d_111_54 : decode prog_9_method_3_code 54 = .ok (.iconst 0, 1) := by decide +kernel
theorem d_111_55 : decode prog_9_method_3_code 55 = .ok (.iadd, 1) := by decide +kernel
theorem d_111_56 : decode prog_9_method_3_code 56 = .ok (.istore_n 2, 1) := by decide +kernel
theorem d_111_57 : decode prog_9_method_3_code 57 = .ok (.iinc 3 (-8), 3) := by decide +kernel
theorem d_111_60 : decode prog_9_method_3_code 60 = .ok (.goto (-50), 3) := by decide +kernel
theorem d_111_63 : decode prog_9_method_3_code 63 = .ok (.aload_n 0, 1) := by decide +kernel
theorem d_111_64 : decode prog_9_method_3_code 64 = .ok (.getfield 97, 3) := by decide +kernel
theorem d_111_67 : decode prog_9_method_3_code 67 = .ok (.iload_n 2, 1) := by decide +kernel
theorem d_111_68 : decode prog_9_method_3_code 68 = .ok (.iadd, 1) := by decide +kernel
theorem d_111_69 : decode prog_9_method_3_code 69 = .ok (.sipush 240, 3) := by decide +kernel
theorem d_111_72 : decode prog_9_method_3_code 72 = .ok (.if_icmp .le 5, 3) := by decide +kernel
theorem d_111_75 : decode prog_9_method_3_code 75 = .ok (.iconst 0, 1) := by decide +kernel
theorem d_111_76 : decode prog_9_method_3_code 76 = .ok (.ireturn, 1) := by decide +kernel
theorem d_111_77 : decode prog_9_method_3_code 77 = .ok (.bipush 24, 2) := by decide +kernel
theorem d_111_79 : decode prog_9_method_3_code 79 = .ok (.istore_n 3, 1) := by decide +kernel
theorem d_111_80 : decode prog_9_method_3_code 80 = .ok (.iload_n 3, 1) := by decide +kernel
theorem d_111_81 : decode prog_9_method_3_code 81 = .ok (.ifCond .lt 44, 3) := by decide +kernel
theorem d_111_84 : decode prog_9_method_3_code 84 = .ok (.iload_n 1, 1) := by decide +kernel
theorem d_111_85 : decode prog_9_method_3_code 85 = .ok (.iload_n 3, 1) := by decide +kernel
theorem d_111_86 : decode prog_9_method_3_code 86 = .ok (.ishr, 1) := by decide +kernel
theorem d_111_87 : decode prog_9_method_3_code 87 = .ok (.sipush 255, 3) := by decide +kernel
theorem d_111_90 : decode prog_9_method_3_code 90 = .ok (.iand, 1) := by decide +kernel
theorem d_111_91 : decode prog_9_method_3_code 91 = .ok (.istore 4, 2) := by decide +kernel
theorem d_111_93 : decode prog_9_method_3_code 93 = .ok (.iload 4, 2) := by decide +kernel
theorem d_111_95 : decode prog_9_method_3_code 95 = .ok (.ifCond .eq 24, 3) := by decide +kernel
theorem d_111_98 : decode prog_9_method_3_code 98 = .ok (.aload_n 0, 1) := by decide +kernel
theorem d_111_99 : decode prog_9_method_3_code 99 = .ok (.getfield 13, 3) := by decide +kernel
theorem d_111_102 : decode prog_9_method_3_code 102 = .ok (.aload_n 0, 1) := by decide +kernel
theorem d_111_103 : decode prog_9_method_3_code 103 = .ok (.getfield 97, 3) := by decide +kernel
theorem d_111_106 : decode prog_9_method_3_code 106 = .ok (.iload 4, 2) := by decide +kernel
theorem d_111_108 : decode prog_9_method_3_code 108 = .ok (.iastore, 1) := by decide +kernel
theorem d_111_109 : decode prog_9_method_3_code 109 = .ok (.aload_n 0, 1) := by decide +kernel
theorem d_111_110 : decode prog_9_method_3_code 110 = .ok (.dup, 1) := by decide +kernel
theorem d_111_111 : decode prog_9_method_3_code 111 = .ok (.getfield 97, 3) := by decide +kernel
theorem d_111_114 : decode prog_9_method_3_code 114 = .ok (.iconst 1, 1) := by decide +kernel
theorem d_111_115 : decode prog_9_method_3_code 115 = .ok (.iadd, 1) := by decide +kernel
theorem d_111_116 : decode prog_9_method_3_code 116 = .ok (.putfield 97, 3) := by decide +kernel
theorem d_111_119 : decode prog_9_method_3_code 119 = .ok (.iinc 3 (-8), 3) := by decide +kernel
theorem d_111_122 : decode prog_9_method_3_code 122 = .ok (.goto (-42), 3) := by decide +kernel
theorem d_111_125 : decode prog_9_method_3_code 125 = .ok (.iconst 1, 1) := by decide +kernel
theorem d_111_126 : decode prog_9_method_3_code 126 = .ok (.ireturn, 1) := by decide +kernel
theorem d_112_0 : decode prog_9_method_4_code 0 = .ok (.aload_n 0, 1) := by decide +kernel
theorem d_112_1 : decode prog_9_method_4_code 1 = .ok (.iconst 0, 1) := by decide +kernel
theorem d_112_2 : decode prog_9_method_4_code 2 = .ok (.putfield 94, 3) := by decide +kernel
theorem d_112_5 : decode prog_9_method_4_code 5 = .ok (.aload_n 0, 1) := by decide +kernel
theorem d_112_6 : decode prog_9_method_4_code 6 = .ok (.iconst 0, 1) := by decide +kernel
theorem d_112_7 : decode prog_9_method_4_code 7 = .ok (.putfield 97, 3) := by decide +kernel
theorem d_112_10 : decode prog_9_method_4_code 10 = .ok (.return_, 1) := by decide +kernel
theorem d_113_0 : decode prog_9_method_5_code 0 = .ok (.aload_n 0, 1) := by decide +kernel
theorem d_113_1 : decode prog_9_method_5_code 1 = .ok (.iconst 0, 1) := by decide +kernel
theorem d_113_2 : decode prog_9_method_5_code 2 = .ok (.putfield 94, 3) := by decide +kernel
theorem d_113_5 : decode prog_9_method_5_code 5 = .ok (.aload_n 0, 1) := by decide +kernel
theorem d_113_6 : decode prog_9_method_5_code 6 = .ok (.getfield 97, 3) := by decide +kernel
theorem d_113_9 : decode prog_9_method_5_code 9 = .ok (.ireturn, 1) := by decide +kernel
theorem d_114_0 : decode prog_9_method_6_code 0 = .ok (.aload_n 0, 1) := by decide +kernel
theorem d_114_1 : decode prog_9_method_6_code 1 = .ok (.iconst 0, 1) := by decide +kernel
theorem d_114_2 : decode prog_9_method_6_code 2 = .ok (.putfield 94, 3) := by decide +kernel
theorem d_114_5 : decode prog_9_method_6_code 5 = .ok (.iload_n 1, 1) := by decide +kernel
theorem d_114_6 : decode prog_9_method_6_code 6 = .ok (.ifCond .lt 11, 3) := by decide +kernel
theorem d_114_9 : decode prog_9_method_6_code 9 = .ok (.iload_n 1, 1) := by decide +kernel
theorem d_114_10 : decode prog_9_method_6_code 10 = .ok (.aload_n 0, 1) := by decide +kernel
theorem d_114_11 : decode prog_9_method_6_code 11 = .ok (.getfield 97, 3) := by decide +kernel
theorem d_114_14 : decode prog_9_method_6_code 14 = .ok (.if_icmp .lt 7, 3) := by decide +kernel
theorem d_114_17 : decode prog_9_method_6_code 17 = .ok (.iconst (-1), 1) := by decide +kernel
theorem d_114_18 : decode prog_9_method_6_code 18 = .ok (.goto 9, 3) := by decide +kernel
theorem d_114_21 : decode prog_9_method_6_code 21 = .ok (.aload_n 0, 1) := by decide +kernel
theorem d_114_22 : decode prog_9_method_6_code 22 = .ok (.getfield 13, 3) := by decide +kernel
theorem d_114_25 : decode prog_9_method_6_code 25 = .ok (.iload_n 1, 1) := by decide +kernel
theorem d_114_26 : decode prog_9_method_6_code 26 = .ok (.iaload, 1) := by decide +kernel
theorem d_114_27 : decode prog_9_method_6_code 27 = .ok (.ireturn, 1) := by decide +kernel
theorem d_115_0 : decode prog_9_method_43_code 0 = .ok (.iload_n 1, 1) := by decide +kernel
theorem d_115_1 : decode prog_9_method_43_code 1 = .ok (.invokestatic 243, 3) := by decide +kernel
theorem d_115_4 : decode prog_9_method_43_code 4 = .ok (.ifCond .eq 10, 3) := by decide +kernel
theorem d_115_7 : decode prog_9_method_43_code 7 = .ok (.aload_n 0, 1) := by decide +kernel
theorem d_115_8 : decode prog_9_method_43_code 8 = .ok (.iconst 1, 1) := by decide +kernel
theorem d_115_9 : decode prog_9_method_43_code 9 = .ok (.putfield 94, 3) := by decide +kernel
theorem d_115_12 : decode prog_9_method_43_code 12 = .ok (.iconst 0, 1) := by decide +kernel
theorem d_115_13 : decode prog_9_method_43_code 13 = .ok (.ireturn, 1) := by decide +kernel
theorem d_115_14 : decode prog_9_method_43_code 14 = .ok (.aload_n 0, 1) := by decide +kernel
theorem d_115_15 : decode prog_9_method_43_code 15 = .ok (.invokevirtual 246, 3) := by decide +kernel
theorem d_115_18 : decode prog_9_method_43_code 18 = .ok (.aload_n 0, 1) := by decide +kernel
theorem d_115_19 : decode prog_9_method_43_code 19 = .ok (.aload_n 0, 1) := by decide +kernel
theorem d_115_20 : decode prog_9_method_43_code 20 = .ok (.getfield 100, 3) := by decide +kernel
theorem d_115_23 : decode prog_9_method_43_code 23 = .ok (.putfield 9, 3) := by decide +kernel
theorem d_115_26 : decode prog_9_method_43_code 26 = .ok (.aload_n 0, 1) := by decide +kernel
theorem d_115_27 : decode prog_9_method_43_code 27 = .ok (.aload_n 0, 1) := by decide +kernel
theorem d_115_28 : decode prog_9_method_43_code 28 = .ok (.getfield 100, 3) := by decide +kernel
theorem d_115_31 : decode prog_9_method_43_code 31 = .ok (.ifCond .lt 7, 3) := by decide +kernel
theorem d_115_34 : decode prog_9_method_43_code 34 = .ok (.iconst 2, 1) := by decide +kernel
theorem d_115_35 : decode prog_9_method_43_code 35 = .ok (.goto 4, 3) := by decide +kernel
theorem d_115_38 : decode prog_9_method_43_code 38 = .ok (.iconst 0, 1) := by decide +kernel
theorem d_115_39 : decode prog_9_method_43_code 39 = .ok (.putfield 94, 3) := by decide +kernel
theorem d_115_42 : decode prog_9_method_43_code 42 = .ok (.aload_n 0, 1) := by decide +kernel
theorem d_115_43 : decode prog_9_method_43_code 43 = .ok (.getfield 94, 3) := by decide +kernel
theorem d_115_46 : decode prog_9_method_43_code 46 = .ok (.ifCond .le 5, 3) := by decide +kernel
theorem d_115_49 : decode prog_9_method_43_code 49 = .ok (.iconst 0, 1) := by decide +kernel
theorem d_115_50 : decode prog_9_method_43_code 50 = .ok (.ireturn, 1) := by decide +kernel
theorem d_115_51 : decode prog_9_method_43_code 51 = .ok (.aload_n 0, 1) := by decide +kernel
theorem d_115_52 : decode prog_9_method_43_code 52 = .ok (.iload_n 1, 1) := by decide +kernel
theorem d_115_53 : decode prog_9_method_43_code 53 = .ok (.invokevirtual 249, 3) := by decide +kernel
theorem d_115_56 : decode prog_9_method_43_code 56 = .ok (.istore_n 2, 1) := by decide +kernel
theorem d_115_57 : decode prog_9_method_43_code 57 = .ok (.aload_n 0, 1) := by decide +kernel
theorem d_115_58 : decode prog_9_method_43_code 58 = .ok (.iload_n 2, 1) := by decide +kernel
theorem d_115_59 : decode prog_9_method_43_code 59 = .ok (.sipush 256, 3) := by decide +kernel
theorem d_115_62 : decode prog_9_method_43_code 62 = .ok (.aload_n 0, 1) := by decide +kernel
theorem d_115_63 : decode prog_9_method_43_code 63 = .ok (.getfield 121, 3) := by decide +kernel
theorem d_115_66 : decode prog_9_method_43_code 66 = .ok (.sipush 240, 3) := by decide +kernel
theorem d_115_69 : decode prog_9_method_43_code 69 = .ok (.iload_n 2, 1) := by decide +kernel
theorem d_115_70 : decode prog_9_method_43_code 70 = .ok (.imul, 1) := by decide +kernel
theorem d_115_71 : decode prog_9_method_43_code 71 = .ok (.sipush 480, 3) := by decide +kernel
theorem d_115_74 : decode prog_9_method_43_code 74 = .ok (.isub, 1) := by decide +kernel
theorem d_115_75 : decode prog_9_method_43_code 75 = .ok (.invokevirtual 252, 3) := by decide +kernel
theorem d_115_78 : decode prog_9_method_43_code 78 = .ok (.iconst 0, 1) := by decide +kernel
theorem d_115_79 : decode prog_9_method_43_code 79 = .ok (.istore_n 3, 1) := by decide +kernel
theorem d_115_80 : decode prog_9_method_43_code 80 = .ok (.iload_n 3, 1) := by decide +kernel
theorem d_115_81 : decode prog_9_method_43_code 81 = .ok (.aload_n 0, 1) := by decide +kernel
theorem d_115_82 : decode prog_9_method_43_code 82 = .ok (.getfield 150, 3) := by decide +kernel
theorem d_115_85 : decode prog_9_method_43_code 85 = .ok (.if_icmp .ge 31, 3) := by decide +kernel
theorem d_115_88 : decode prog_9_method_43_code 88 = .ok (.aload_n 0, 1) := by decide +kernel
theorem d_115_89 : decode prog_9_method_43_code 89 = .ok (.getfield 45, 3) := by decide +kernel
theorem d_115_92 : decode prog_9_method_43_code 92 = .ok (.sipush 240, 3) := by decide +kernel
theorem d_115_95 : decode prog_9_method_43_code 95 = .ok (.iload_n 2, 1) := by decide +kernel
theorem d_115_96 : decode prog_9_method_43_code 96 = .ok (.imul, 1) := by decide +kernel
theorem d_115_97 : decode prog_9_method_43_code 97 = .ok (.iload_n 3, 1) := by decide +kernel
theorem d_115_98 : decode prog_9_method_43_code 98 = .ok (.iadd, 1) := by decide +kernel
theorem d_115_99 : decode prog_9_method_43_code 99 = .ok (.aload_n 0, 1) := by decide +kernel
theorem d_115_100 : decode prog_9_method_43_code 100 = .ok (.getfield 45, 3) := by decide +kernel
theorem d_115_103 : decode prog_9_method_43_code 103 = .ok (.sipush 480, 3) := by decide +kernel
theorem d_115_106 : decode prog_9_method_43_code 106 = .ok (.iload_n 3, 1) := by decide +kernel
theorem d_115_107 : decode prog_9_method_43_code 107 = .ok (.iadd, 1) := by decide +kernel
theorem d_115_108 : decode prog_9_method_43_code 108 = .ok (.iaload, 1) := by decide +kernel
theorem d_115_109 : decode prog_9_method_43_code 109 = .ok (.iastore, 1) := by decide +kernel
theorem d_115_110 : decode prog_9_method_43_code 110 = .ok (.iinc 3 1, 3) := by decide +kernel
theorem d_115_113 : decode prog_9_method_43_code 113 = .ok (.goto (-33), 3) := by decide +kernel
theorem d_115_116 : decode prog_9_method_43_code 116 = .ok (.aload_n 0, 1) := by decide +kernel
theorem d_115_117 : decode prog_9_method_43_code 117 = .ok (.getfield 121, 3) := by decide +kernel
theorem d_115_120 : decode prog_9_method_43_code 120 = .ok (.ireturn, 1) := by decide +kernel
theorem d_116_0 : decode prog_9_method_41_code 0 = .ok (.iload_n 0, 1) := by decide +kernel
theorem d_116_1 : decode prog_9_method_41_code 1 = .ok (.ifCond .lt 8, 3) := by decide +kernel
theorem d_116_4 : decode prog_9_method_41_code 4 = .ok (.iload_n 0, 1) := by decide +kernel
theorem d_116_5 : decode prog_9_method_41_code 5 = .ok (.iconst 1, 1) := by decide +kernel
theorem d_116_6 : decode prog_9_method_41_code 6 = .ok (.if_icmp .le 7, 3) := by decide +kernel
theorem d_116_9 : decode prog_9_method_41_code 9 = .ok (.iconst 1, 1) := by decide +kernel
theorem d_116_10 : decode prog_9_method_41_code 10 = .ok (.goto 4, 3) := by decide +kernel
theorem d_116_13 : decode prog_9_method_41_code 13 = .ok (.iconst 0, 1) := by decide +kernel
theorem d_116_14 : decode prog_9_method_41_code 14 = .ok (.ireturn, 1) := by decide +kernel
theorem d_117_0 : decode prog_9_method_39_code 0 = .ok (.aload_n 0, 1) := by decide +kernel
theorem d_117_1 : decode prog_9_method_39_code 1 = .ok (.iconst 0, 1) := by decide +kernel
theorem d_117_2 : decode prog_9_method_39_code 2 = .ok (.putfield 103, 3) := by decide +kernel
theorem d_117_5 : decode prog_9_method_39_code 5 = .ok (.aload_n 0, 1) := by decide +kernel
theorem d_117_6 : decode prog_9_method_39_code 6 = .ok (.iconst (-1), 1) := by decide +kernel
theorem d_117_7 : decode prog_9_method_39_code 7 = .ok (.putfield 100, 3) := by decide +kernel
theorem d_117_10 : decode prog_9_method_39_code 10 = .ok (.aload_n 0, 1) := by decide +kernel
theorem d_117_11 : decode prog_9_method_39_code 11 = .ok (.iconst 0, 1) := by decide +kernel
theorem d_117_12 : decode prog_9_method_39_code 12 = .ok (.putfield 121, 3) := by decide +kernel
theorem d_117_15 : decode prog_9_method_39_code 15 = .ok (.aload_n 0, 1) := by decide +kernel
theorem d_117_16 : decode prog_9_method_39_code 16 = .ok (.iconst 0, 1) := by decide +kernel
theorem d_117_17 : decode prog_9_method_39_code 17 = .ok (.putfield 150, 3) := by decide +kernel
theorem d_117_20 : decode prog_9_method_39_code 20 = .ok (.aload_n 0, 1) := by decide +kernel
theorem d_117_21 : decode prog_9_method_39_code 21 = .ok (.iconst 0, 1) := by decide +kernel
theorem d_117_22 : decode prog_9_method_39_code 22 = .ok (.putfield 162, 3) := by decide +kernel
theorem d_117_25 : decode prog_9_method_39_code 25 = .ok (.aload_n 0, 1) := by decide +kernel
theorem d_117_26 : decode prog_9_method_39_code 26 = .ok (.iconst 0, 1) := by decide +kernel
theorem d_117_27 : decode prog_9_method_39_code 27 = .ok (.putfield 159, 3) := by decide +kernel
theorem d_117_30 : decode prog_9_method_39_code 30 = .ok (.iconst 1, 1) := by decide +kernel
theorem d_117_31 : decode prog_9_method_39_code 31 = .ok (.istore_n 1, 1) := by decide +kernel
theorem d_117_32 : decode prog_9_method_39_code 32 = .ok (.iconst 0, 1) := by decide +kernel
theorem d_117_33 : decode prog_9_method_39_code 33 = .ok (.istore_n 2, 1) := by decide +kernel
theorem d_117_34 : decode prog_9_method_39_code 34 = .ok (.aload_n 0, 1) := by decide +kernel
theorem d_117_35 : decode prog_9_method_39_code 35 = .ok (.getfield 100, 3) := by decide +kernel
theorem d_117_38 : decode prog_9_method_39_code 38 = .ok (.ifCond .ge 147, 3) := by decide +kernel
theorem d_117_41 : decode prog_9_method_39_code 41 = .ok (.iload_n 1, 1) := by decide +kernel
theorem d_117_42 : decode prog_9_method_39_code 42 = .ok (.ifCond .ne 10, 3) := by decide +kernel
theorem d_117_45 : decode prog_9_method_39_code 45 = .ok (.aload_n 0, 1) := by decide +kernel
theorem d_117_46 : decode prog_9_method_39_code 46 = .ok (.getfield 162, 3) := by decide +kernel
theorem d_117_49 : decode prog_9_method_39_code 49 = .ok (.ifCond .le 136, 3) := by decide +kernel
theorem d_117_52 : decode prog_9_method_39_code 52 = .ok (.aload_n 0, 1) := by decide +kernel
theorem d_117_53 : decode prog_9_method_39_code 53 = .ok (.invokevirtual 224, 3) := by decide +kernel
theorem d_117_56 : decode prog_9_method_39_code 56 = .ok (.aload_n 0, 1) := by decide +kernel
theorem d_117_57 : decode prog_9_method_39_code 57 = .ok (.aload_n 0, 1) := by decide +kernel
theorem d_117_58 : decode prog_9_method_39_code 58 = .ok (.getfield 103, 3) := by decide +kernel
theorem d_117_61 : decode prog_9_method_39_code 61 = .ok (.invokevirtual 106, 3) := by decide +kernel
theorem d_117_64 : decode prog_9_method_39_code 64 = .ok (.istore_n 3, 1) := by decide +kernel
theorem d_117_65 : decode prog_9_method_39_code 65 = .ok (.iload_n 1, 1) := by decide +kernel
theorem d_117_66 : decode prog_9_method_39_code 66 = .ok (.ifCond .eq 18, 3) := by decide +kernel
theorem d_117_69 : decode prog_9_method_39_code 69 = .ok (.iload_n 3, 1) := by decide +kernel
theorem d_117_70 : decode prog_9_method_39_code 70 = .ok (.bipush 91, 2) := by decide +kernel
theorem d_117_72 : decode prog_9_method_39_code 72 = .ok (.if_icmp .ne 12, 3) := by decide +kernel
theorem d_117_75 : decode prog_9_method_39_code 75 = .ok (.aload_n 0, 1) := by decide +kernel
theorem d_117_76 : decode prog_9_method_39_code 76 = .ok (.invokevirtual 227, 3) := by decide +kernel
theorem d_117_79 : decode prog_9_method_39_code 79 = .ok (.iconst 1, 1) := by decide +kernel
theorem d_117_80 : decode prog_9_method_39_code 80 = .ok (.istore_n 2, 1) := by decide +kernel
theorem d_117_81 : decode prog_9_method_39_code 81 = .ok (.goto 101, 3) := by decide +kernel
theorem d_117_84 : decode prog_9_method_39_code 84 = .ok (.iload_n 1, 1) := by decide +kernel
theorem d_117_85 : decode prog_9_method_39_code 85 = .ok (.ifCond .eq 31, 3) := by decide +kernel
theorem d_117_88 : decode prog_9_method_39_code 88 = .ok (.iload_n 2, 1) := by decide +kernel
theorem d_117_89 : decode prog_9_method_39_code 89 = .ok (.ifCond .eq 9, 3) := by decide +kernel
theorem d_117_92 : decode prog_9_method_39_code 92 = .ok (.iload_n 3, 1) := by decide +kernel
theorem d_117_93 : decode prog_9_method_39_code 93 = .ok (.bipush 93, 2) := by decide +kernel
theorem d_117_95 : decode prog_9_method_39_code 95 = .ok (.if_icmp .eq 21, 3) := by decide +kernel
theorem d_117_98 : decode prog_9_method_39_code 98 = .ok (.aload_n 0, 1) := by decide +kernel
theorem d_117_99 : decode prog_9_method_39_code 99 = .ok (.invokevirtual 230, 3) := by decide +kernel
theorem d_117_102 : decode prog_9_method_39_code 102 = .ok (.ifCond .eq 7, 3) := by decide +kernel
theorem d_117_105 : decode prog_9_method_39_code 105 = .ok (.aload_n 0, 1) := by decide +kernel
theorem d_117_106 : decode prog_9_method_39_code 106 = .ok (.invokevirtual 221, 3) := by decide +kernel
theorem d_117_109 : decode prog_9_method_39_code 109 = .ok (.iconst 0, 1) := by decide +kernel
theorem d_117_110 : decode prog_9_method_39_code 110 = .ok (.istore_n 1, 1) := by decide +kernel
theorem d_117_111 : decode prog_9_method_39_code 111 = .ok (.iconst 0, 1) := by decide +kernel
theorem d_117_112 : decode prog_9_method_39_code 112 = .ok (.istore_n 2, 1) := by decide +kernel
theorem d_117_113 : decode prog_9_method_39_code 113 = .ok (.goto 69, 3) := by decide +kernel
theorem d_117_116 : decode prog_9_method_39_code 116 = .ok (.iload_n 1, 1) := by decide +kernel
theorem d_117_117 : decode prog_9_method_39_code 117 = .ok (.ifCond .ne 32, 3) := by decide +kernel
theorem d_117_120 : decode prog_9_method_39_code 120 = .ok (.iload_n 3, 1) := by decide +kernel
theorem d_117_121 : decode prog_9_method_39_code 121 = .ok (.bipush 44, 2) := by decide +kernel
theorem d_117_123 : decode prog_9_method_39_code 123 = .ok (.if_icmp .ne 26, 3) := by decide +kernel
theorem d_117_126 : decode prog_9_method_39_code 126 = .ok (.aload_n 0, 1) := by decide +kernel
theorem d_117_127 : decode prog_9_method_39_code 127 = .ok (.iconst 0, 1) := by decide +kernel
theorem d_117_128 : decode prog_9_method_39_code 128 = .ok (.invokevirtual 233, 3) := by decide +kernel
theorem d_117_131 : decode prog_9_method_39_code 131 = .ok (.ifCond .eq 18, 3) := by decide +kernel
theorem d_117_134 : decode prog_9_method_39_code 134 = .ok (.aload_n 0, 1) := by decide +kernel
theorem d_117_135 : decode prog_9_method_39_code 135 = .ok (.dup, 1) := by decide +kernel
theorem d_117_136 : decode prog_9_method_39_code 136 = .ok (.getfield 103, 3) := by decide +kernel
theorem d_117_139 : decode prog_9_method_39_code 139 = .ok (.iconst 1, 1) := by decide +kernel
theorem d_117_140 : decode prog_9_method_39_code 140 = .ok (.iadd, 1) := by decide +kernel
theorem d_117_141 : decode prog_9_method_39_code 141 = .ok (.putfield 103, 3) := by decide +kernel
theorem d_117_144 : decode prog_9_method_39_code 144 = .ok (.iconst 1, 1) := by decide +kernel
theorem d_117_145 : decode prog_9_method_39_code 145 = .ok (.istore_n 1, 1) := by decide +kernel
theorem d_117_146 : decode prog_9_method_39_code 146 = .ok (.goto 36, 3) := by decide +kernel
theorem d_117_149 : decode prog_9_method_39_code 149 = .ok (.iload_n 3, 1) := by decide +kernel
theorem d_117_150 : decode prog_9_method_39_code 150 = .ok (.bipush 93, 2) := by decide +kernel
theorem d_117_152 : decode prog_9_method_39_code 152 = .ok (.if_icmp .ne 22, 3) := by decide +kernel
theorem d_117_155 : decode prog_9_method_39_code 155 = .ok (.aload_n 0, 1) := by decide +kernel
theorem d_117_156 : decode prog_9_method_39_code 156 = .ok (.iconst 1, 1) := by decide +kernel
theorem d_117_157 : decode prog_9_method_39_code 157 = .ok (.invokevirtual 233, 3) := by decide +kernel
theorem d_117_160 : decode prog_9_method_39_code 160 = .ok (.ifCond .eq 14, 3) := by decide +kernel
theorem d_117_163 : decode prog_9_method_39_code 163 = .ok (.aload_n 0, 1) := by decide +kernel
theorem d_117_164 : decode prog_9_method_39_code 164 = .ok (.invokevirtual 236, 3) := by decide +kernel
theorem d_117_167 : decode prog_9_method_39_code 167 = .ok (.iconst 0, 1) := by decide +kernel
theorem d_117_168 : decode prog_9_method_39_code 168 = .ok (.istore_n 1, 1) := by decide +kernel
theorem d_117_169 : decode prog_9_method_39_code 169 = .ok (.iconst 0, 1) := by decide +kernel
theorem d_117_170 : decode prog_9_method_39_code 170 = .ok (.istore_n 2, 1) := by decide +kernel
theorem d_117_171 : decode prog_9_method_39_code 171 = .ok (.goto 11, 3) := by decide +kernel
theorem d_117_174 : decode prog_9_method_39_code 174 = .ok (.aload_n 0, 1) := by decide +kernel
theorem d_117_175 : decode prog_9_method_39_code 175 = .ok (.aload_n 0, 1) := by decide +kernel
theorem d_117_176 : decode prog_9_method_39_code 176 = .ok (.getfield 103, 3) := by decide +kernel
theorem d_117_179 : decode prog_9_method_39_code 179 = .ok (.invokevirtual 134, 3) := by decide +kernel
theorem d_117_182 : decode prog_9_method_39_code 182 = .ok (.goto (-148), 3) := by decide +kernel
theorem d_117_185 : decode prog_9_method_39_code 185 = .ok (.aload_n 0, 1) := by decide +kernel
theorem d_117_186 : decode prog_9_method_39_code 186 = .ok (.invokevirtual 224, 3) := by decide +kernel
theorem d_117_189 : decode prog_9_method_39_code 189 = .ok (.aload_n 0, 1) := by decide +kernel
theorem d_117_190 : decode prog_9_method_39_code 190 = .ok (.getfield 103, 3) := by decide +kernel
theorem d_117_193 : decode prog_9_method_39_code 193 = .ok (.aload_n 0, 1) := by decide +kernel
theorem d_117_194 : decode prog_9_method_39_code 194 = .ok (.getfield 97, 3) := by decide +kernel
theorem d_117_197 : decode prog_9_method_39_code 197 = .ok (.if_icmp .ge 11, 3) := by decide +kernel
theorem d_117_200 : decode prog_9_method_39_code 200 = .ok (.aload_n 0, 1) := by decide +kernel
theorem d_117_201 : decode prog_9_method_39_code 201 = .ok (.aload_n 0, 1) := by decide +kernel
theorem d_117_202 : decode prog_9_method_39_code 202 = .ok (.getfield 103, 3) := by decide +kernel
theorem d_117_205 : decode prog_9_method_39_code 205 = .ok (.invokevirtual 134, 3) := by decide +kernel
theorem d_117_208 : decode prog_9_method_39_code 208 = .ok (.return_, 1) := by decide +kernel
theorem d_118_0 : decode prog_9_method_9_code 0 = .ok (.aload_n 0, 1) := by decide +kernel
theorem d_118_1 : decode prog_9_method_9_code 1 = .ok (.aload_n 0, 1) := by decide +kernel
theorem d_118_2 : decode prog_9_method_9_code 2 = .ok (.getfield 103, 3) := by decide +kernel
theorem d_118_5 : decode prog_9_method_9_code 5 = .ok (.invokevirtual 106, 3) := by decide +kernel
theorem d_118_8 : decode prog_9_method_9_code 8 = .ok (.bipush 32, 2) := by decide +kernel
theorem d_118_10 : decode prog_9_method_9_code 10 = .ok (.if_icmp .ne 16, 3) := by decide +kernel
theorem d_118_13 : decode prog_9_method_9_code 13 = .ok (.aload_n 0, 1) := by decide +kernel
theorem d_118_14 : decode prog_9_method_9_code 14 = .ok (.dup, 1) := by decide +kernel
theorem d_118_15 : decode prog_9_method_9_code 15 = .ok (.getfield 103, 3) := by decide +kernel
theorem d_118_18 : decode prog_9_method_9_code 18 = .ok (.iconst 1, 1) := by decide +kernel
theorem d_118_19 : decode prog_9_method_9_code 19 = .ok (.iadd, 1) := by decide +kernel
theorem d_118_20 : decode prog_9_method_9_code 20 = .ok (.putfield 103, 3) := by decide +kernel
theorem d_118_23 : decode prog_9_method_9_code 23 = .ok (.goto (-23), 3) := by decide +kernel
theorem d_118_26 : decode prog_9_method_9_code 26 = .ok (.return_, 1) := by decide +kernel
theorem d_119_0 : decode prog_9_method_7_code 0 = .ok (.iload_n 1, 1) := by decide +kernel
theorem d_119_1 : decode prog_9_method_7_code 1 = .ok (.aload_n 0, 1) := by decide +kernel
theorem d_119_2 : decode prog_9_method_7_code 2 = .ok (.getfield 97, 3) := by decide +kernel
theorem d_119_5 : decode prog_9_method_7_code 5 = .ok (.if_icmp .ge 12, 3) := by decide +kernel
theorem d_119_8 : decode prog_9_method_7_code 8 = .ok (.aload_n 0, 1) := by decide +kernel
theorem d_119_9 : decode prog_9_method_7_code 9 = .ok (.getfield 13, 3) := by decide +kernel
theorem d_119_12 : decode prog_9_method_7_code 12 = .ok (.iload_n 1, 1) := by decide +kernel
theorem d_119_13 : decode prog_9_method_7_code 13 = .ok (.iaload, 1) := by decide +kernel
theorem d_119_14 : decode prog_9_method_7_code 14 = .ok (.goto 4, 3) := by decide +kernel
theorem d_119_17 : decode prog_9_method_7_code 17 = .ok (.iconst 0, 1) := by decide +kernel
theorem d_119_18 : decode prog_9_method_7_code 18 = .ok (.ireturn, 1) := by decide +kernel
theorem d_120_0 : decode prog_9_method_34_code 0 = .ok (.aload_n 0, 1) := by decide +kernel
theorem d_120_1 : decode prog_9_method_34_code 1 = .ok (.getfield 162, 3) := by decide +kernel
theorem d_120_4 : decode prog_9_method_34_code 4 = .ok (.bipush 8, 2) := by decide +kernel
theorem d_120_6 : decode prog_9_method_34_code 6 = .ok (.if_icmp .ne 12, 3) := by decide +kernel
theorem d_120_9 : decode prog_9_method_34_code 9 = .ok (.aload_n 0, 1) := by decide +kernel
theorem d_120_10 : decode prog_9_method_34_code 10 = .ok (.aload_n 0, 1) := by decide +kernel
theorem d_120_11 : decode prog_9_method_34_code 11 = .ok (.getfield 103, 3) := by decide +kernel
theorem d_120_14 : decode prog_9_method_34_code 14 = .ok (.invokevirtual 134, 3) := by decide +kernel
theorem d_120_17 : decode prog_9_method_34_code 17 = .ok (.return_, 1) := by decide +kernel
theorem d_120_18 : decode prog_9_method_34_code 18 = .ok (.aload_n 0, 1) := by decide +kernel
theorem d_120_19 : decode prog_9_method_34_code 19 = .ok (.dup, 1) := by decide +kernel
theorem d_120_20 : decode prog_9_method_34_code 20 = .ok (.getfield 162, 3) := by decide +kernel
theorem d_120_23 : decode prog_9_method_34_code 23 = .ok (.iconst 1, 1) := by decide +kernel
theorem d_120_24 : decode prog_9_method_34_code 24 = .ok (.iadd, 1) := by decide +kernel
theorem d_120_25 : decode prog_9_method_34_code 25 = .ok (.putfield 162, 3) := by decide +kernel
theorem d_120_28 : decode prog_9_method_34_code 28 = .ok (.aload_n 0, 1) := by decide +kernel
theorem d_120_29 : decode prog_9_method_34_code 29 = .ok (.getfield 48, 3) := by decide +kernel
theorem d_120_32 : decode prog_9_method_34_code 32 = .ok (.aload_n 0, 1) := by decide +kernel
theorem d_120_33 : decode prog_9_method_34_code 33 = .ok (.getfield 162, 3) := by decide +kernel
theorem d_120_36 : decode prog_9_method_34_code 36 = .ok (.aload_n 0, 1) := by decide +kernel
theorem d_120_37 : decode prog_9_method_34_code 37 = .ok (.bipush 8, 2) := by decide +kernel
theorem d_120_39 : decode prog_9_method_34_code 39 = .ok (.aload_n 0, 1) := by decide +kernel
theorem d_120_40 : decode prog_9_method_34_code 40 = .ok (.getfield 103, 3) := by decide +kernel
theorem d_120_43 : decode prog_9_method_34_code 43 = .ok (.invokevirtual 172, 3) := by decide +kernel
theorem d_120_46 : decode prog_9_method_34_code 46 = .ok (.iastore, 1) := by decide +kernel
theorem d_120_47 : decode prog_9_method_34_code 47 = .ok (.aload_n 0, 1) := by decide +kernel
theorem d_120_48 : decode prog_9_method_34_code 48 = .ok (.getfield 51, 3) := by decide +kernel
theorem d_120_51 : decode prog_9_method_34_code 51 = .ok (.aload_n 0, 1) := by decide +kernel
theorem d_120_52 : decode prog_9_method_34_code 52 = .ok (.getfield 162, 3) := by decide +kernel
theorem d_120_55 : decode prog_9_method_34_code 55 = .ok (.iconst 0, 1) := by decide +kernel
theorem d_120_56 : decode prog_9_method_34_code 56 = .ok (.iastore, 1) := by decide +kernel
theorem d_120_57 : decode prog_9_method_34_code 57 = .ok (.aload_n 0, 1) := by decide +kernel
theorem d_120_58 : decode prog_9_method_34_code 58 = .ok (.getfield 54, 3) := by decide +kernel
theorem d_120_61 : decode prog_9_method_34_code 61 = .ok (.aload_n 0, 1) := by decide +kernel
theorem d_120_62 : decode prog_9_method_34_code 62 = .ok (.getfield 162, 3) := by decide +kernel
theorem d_120_65 : decode prog_9_method_34_code 65 = .ok (.iconst 0, 1) := by decide +kernel
theorem d_120_66 : decode prog_9_method_34_code 66 = .ok (.iastore, 1) := by decide +kernel
theorem d_120_67 : decode prog_9_method_34_code 67 = .ok (.aload_n 0, 1) := by decide +kernel
theorem d_120_68 : decode prog_9_method_34_code 68 = .ok (.getfield 57, 3) := by decide +kernel
theorem d_120_71 : decode prog_9_method_34_code 71 = .ok (.aload_n 0, 1) := by decide +kernel
theorem d_120_72 : decode prog_9_method_34_code 72 = .ok (.getfield 162, 3) := by decide +kernel
theorem d_120_75 : decode prog_9_method_34_code 75 = .ok (.aload_n 0, 1) := by decide +kernel
theorem d_120_76 : decode prog_9_method_34_code 76 = .ok (.getfield 103, 3) := by decide +kernel
theorem d_120_79 : decode prog_9_method_34_code 79 = .ok (.iastore, 1) := by decide +kernel
theorem d_120_80 : decode prog_9_method_34_code 80 = .ok (.aload_n 0, 1) := by decide +kernel
theorem d_120_81 : decode prog_9_method_34_code 81 = .ok (.dup, 1) := by decide +kernel
theorem d_120_82 : decode prog_9_method_34_code 82 = .ok (.getfield 103, 3) := by decide +kernel
theorem d_120_85 : decode prog_9_method_34_code 85 = .ok (.iconst 1, 1) := by decide +kernel
theorem d_120_86 : decode prog_9_method_34_code 86 = .ok (.iadd, 1) := by decide +kernel
theorem d_120_87 : decode prog_9_method_34_code 87 = .ok (.putfield 103, 3) := by decide +kernel
theorem d_120_90 : decode prog_9_method_34_code 90 = .ok (.return_, 1) := by decide +kernel
theorem d_121_0 : decode prog_9_method_8_code 0 = .ok (.aload_n 0, 1) := by decide +kernel
theorem d_121_1 : decode prog_9_method_8_code 1 = .ok (.aload_n 0, 1) := by decide +kernel
theorem d_121_2 : decode prog_9_method_8_code 2 = .ok (.getfield 100, 3) := by decide +kernel
theorem d_121_5 : decode prog_9_method_8_code 5 = .ok (.ifCond .ge 7, 3) := by decide +kernel
theorem d_121_8 : decode prog_9_method_8_code 8 = .ok (.iload_n 1, 1) := by decide +kernel
theorem d_121_9 : decode prog_9_method_8_code 9 = .ok (.goto 7, 3) := by decide +kernel
theorem d_121_12 : decode prog_9_method_8_code 12 = .ok (.aload_n 0, 1) := by decide +kernel
theorem d_121_13 : decode prog_9_method_8_code 13 = .ok (.getfield 100, 3) := by decide +kernel
theorem d_121_16 : decode prog_9_method_8_code 16 = .ok (.putfield 100, 3) := by decide +kernel
theorem d_121_19 : decode prog_9_method_8_code 19 = .ok (.return_, 1) := by decide +kernel
theorem d_122_0 : decode prog_9_method_14_code 0 = .ok (.sipush 256, 3) := by decide +kernel
theorem d_122_3 : decode prog_9_method_14_code 3 = .ok (.aload_n 0, 1) := by decide +kernel
theorem d_122_4 : decode prog_9_method_14_code 4 = .ok (.getfield 121, 3) := by decide +kernel
theorem d_122_7 : decode prog_9_method_14_code 7 = .ok (.iadd, 1) := by decide +kernel
theorem d_122_8 : decode prog_9_method_14_code 8 = .ok (.istore_n 3, 1) := by decide +kernel
theorem d_122_9 : decode prog_9_method_14_code 9 = .ok (.aload_n 0, 1) := by decide +kernel
theorem d_122_10 : decode prog_9_method_14_code 10 = .ok (.dup, 1) := by decide +kernel
theorem d_122_11 : decode prog_9_method_14_code 11 = .ok (.getfield 121, 3) := by decide +kernel
theorem d_122_14 : decode prog_9_method_14_code 14 = .ok (.iconst 1, 1) := by decide +kernel
theorem d_122_15 : decode prog_9_method_14_code 15 = .ok (.iadd, 1) := by decide +kernel
theorem d_122_16 : decode prog_9_method_14_code 16 = .ok (.putfield 121, 3) := by decide +kernel
theorem d_122_19 : decode prog_9_method_14_code 19 = .ok (.aload_n 0, 1) := by decide +kernel
theorem d_122_20 : decode prog_9_method_14_code 20 = .ok (.getfield 20, 3) := by decide +kernel
theorem d_122_23 : decode prog_9_method_14_code 23 = .ok (.iload_n 3, 1) := by decide +kernel
theorem d_122_24 : decode prog_9_method_14_code 24 = .ok (.iload_n 1, 1) := by decide +kernel
theorem d_122_25 : decode prog_9_method_14_code 25 = .ok (.iastore, 1) := by decide +kernel
theorem d_122_26 : decode prog_9_method_14_code 26 = .ok (.aload_n 0, 1) := by decide +kernel
theorem d_122_27 : decode prog_9_method_14_code 27 = .ok (.getfield 23, 3) := by decide +kernel
theorem d_122_30 : decode prog_9_method_14_code 30 = .ok (.iload_n 3, 1) := by decide +kernel
theorem d_122_31 : decode prog_9_method_14_code 31 = .ok (.lconst 0, 1) := by decide +kernel
theorem d_122_32 : decode prog_9_method_14_code 32 = .ok (.lastore, 1) := by decide +kernel
theorem d_122_33 : decode prog_9_method_14_code 33 = .ok (.aload_n 0, 1) := by decide +kernel
theorem d_122_34 : decode prog_9_method_14_code 34 = .ok (.getfield 27, 3) := by decide +kernel
theorem d_122_37 : decode prog_9_method_14_code 37 = .ok (.iload_n 3, 1) := by decide +kernel
theorem d_122_38 : decode prog_9_method_14_code 38 = .ok (.iconst 0, 1) := by decide +kernel
theorem d_122_39 : decode prog_9_method_14_code 39 = .ok (.iastore, 1) := by decide +kernel
theorem d_122_40 : decode prog_9_method_14_code 40 = .ok (.aload_n 0, 1) := by decide +kernel
theorem d_122_41 : decode prog_9_method_14_code 41 = .ok (.getfield 30, 3) := by decide +kernel
theorem d_122_44 : decode prog_9_method_14_code 44 = .ok (.iload_n 3, 1) := by decide +kernel
theorem d_122_45 : decode prog_9_method_14_code 45 = .ok (.iconst 0, 1) := by decide +kernel
theorem d_122_46 : decode prog_9_method_14_code 46 = .ok (.iastore, 1) := by decide +kernel
theorem d_122_47 : decode prog_9_method_14_code 47 = .ok (.aload_n 0, 1) := by decide +kernel
theorem d_122_48 : decode prog_9_method_14_code 48 = .ok (.getfield 33, 3) := by decide +kernel
theorem d_122_51 : decode prog_9_method_14_code 51 = .ok (.iload_n 3, 1) := by decide +kernel
theorem d_122_52 : decode prog_9_method_14_code 52 = .ok (.iconst 0, 1) := by decide +kernel
theorem d_122_53 : decode prog_9_method_14_code 53 = .ok (.iastore, 1) := by decide +kernel
theorem d_122_54 : decode prog_9_method_14_code 54 = .ok (.aload_n 0, 1) := by decide +kernel
theorem d_122_55 : decode prog_9_method_14_code 55 = .ok (.getfield 36, 3) := by decide +kernel
theorem d_122_58 : decode prog_9_method_14_code 58 = .ok (.iload_n 3, 1) := by decide +kernel
theorem d_122_59 : decode prog_9_method_14_code 59 = .ok (.iconst 1, 1) := by decide +kernel
theorem d_122_60 : decode prog_9_method_14_code 60 = .ok (.iastore, 1) := by decide +kernel
theorem d_122_61 : decode prog_9_method_14_code 61 = .ok (.aload_n 0, 1) := by decide +kernel
theorem d_122_62 : decode prog_9_method_14_code 62 = .ok (.getfield 39, 3) := by decide +kernel
theorem d_122_65 : decode prog_9_method_14_code 65 = .ok (.iload_n 3, 1) := by decide +kernel
theorem d_122_66 : decode prog_9_method_14_code 66 = .ok (.iload_n 2, 1) := by decide +kernel
theorem d_122_67 : decode prog_9_method_14_code 67 = .ok (.iastore, 1) := by decide +kernel
theorem d_122_68 : decode prog_9_method_14_code 68 = .ok (.aload_n 0, 1) := by decide +kernel
theorem d_122_69 : decode prog_9_method_14_code 69 = .ok (.getfield 42, 3) := by decide +kernel
theorem d_122_72 : decode prog_9_method_14_code 72 = .ok (.iload_n 3, 1) := by decide +kernel
theorem d_122_73 : decode prog_9_method_14_code 73 = .ok (.iconst (-1), 1) := by decide +kernel
theorem d_122_74 : decode prog_9_method_14_code 74 = .ok (.iastore, 1) := by decide +kernel
theorem d_122_75 : decode prog_9_method_14_code 75 = .ok (.iload_n 3, 1) := by decide +kernel
theorem d_122_76 : decode prog_9_method_14_code 76 = .ok (.ireturn, 1) := by decide +kernel
theorem d_123_0 : decode prog_9_method_33_code 0 = .ok (.aload_n 0, 1) := by decide +kernel
theorem d_123_1 : decode prog_9_method_33_code 1 = .ok (.getfield 103, 3) := by decide +kernel
theorem d_123_4 : decode prog_9_method_33_code 4 = .ok (.istore_n 1, 1) := by decide +kernel
theorem d_123_5 : decode prog_9_method_33_code 5 = .ok (.aload_n 0, 1) := by decide +kernel
theorem d_123_6 : decode prog_9_method_33_code 6 = .ok (.aload_n 0, 1) := by decide +kernel
theorem d_123_7 : decode prog_9_method_33_code 7 = .ok (.getfield 103, 3) := by decide +kernel
theorem d_123_10 : decode prog_9_method_33_code 10 = .ok (.invokevirtual 106, 3) := by decide +kernel
theorem d_123_13 : decode prog_9_method_33_code 13 = .ok (.istore_n 2, 1) := by decide +kernel
theorem d_123_14 : decode prog_9_method_33_code 14 = .ok (.iload_n 2, 1) := by decide +kernel
theorem d_123_15 : decode prog_9_method_33_code 15 = .ok (.bipush 34, 2) := by decide +kernel
theorem d_123_17 : decode prog_9_method_33_code 17 = .ok (.if_icmp .ne 8, 3) := by decide +kernel
theorem d_123_20 : decode prog_9_method_33_code 20 = .ok (.aload_n 0, 1) := by decide +kernel
theorem d_123_21 : decode prog_9_method_33_code 21 = .ok (.invokevirtual 206, 3) := by decide +kernel
theorem d_123_24 : decode prog_9_method_33_code 24 = .ok (.ireturn, 1) := by decide +kernel
theorem d_123_25 : decode prog_9_method_33_code 25 = .ok (.iload_n 2, 1) := by decide +kernel
theorem d_123_26 : decode prog_9_method_33_code 26 = .ok (.bipush 110, 2) := by decide +kernel
theorem d_123_28 : decode prog_9_method_33_code 28 = .ok (.if_icmp .ne 19, 3) := by decide +kernel
theorem d_123_31 : decode prog_9_method_33_code 31 = .ok (.aload_n 0, 1) := by decide +kernel
theorem d_123_32 : decode prog_9_method_33_code 32 = .ok (.bipush 110, 2) := by decide +kernel
theorem d_123_34 : decode prog_9_method_33_code 34 = .ok (.bipush 117, 2) := by decide +kernel
theorem d_123_36 : decode prog_9_method_33_code 36 = .ok (.bipush 108, 2) := by decide +kernel
theorem d_123_38 : decode prog_9_method_33_code 38 = .ok (.bipush 108, 2) := by decide +kernel
theorem d_123_40 : decode prog_9_method_33_code 40 = .ok (.iconst 0, 1) := by decide +kernel
theorem d_123_41 : decode prog_9_method_33_code 41 = .ok (.invokevirtual 209, 3) := by decide +kernel
theorem d_123_44 : decode prog_9_method_33_code 44 = .ok (.goto 45, 3) := by decide +kernel
theorem d_123_47 : decode prog_9_method_33_code 47 = .ok (.iload_n 2, 1) := by decide +kernel
theorem d_123_48 : decode prog_9_method_33_code 48 = .ok (.bipush 116, 2) := by decide +kernel
theorem d_123_50 : decode prog_9_method_33_code 50 = .ok (.if_icmp .ne 19, 3) := by decide +kernel
theorem d_123_53 : decode prog_9_method_33_code 53 = .ok (.aload_n 0, 1) := by decide +kernel
theorem d_123_54 : decode prog_9_method_33_code 54 = .ok (.bipush 116, 2) := by decide +kernel
theorem d_123_56 : decode prog_9_method_33_code 56 = .ok (.bipush 114, 2) := by decide +kernel
theorem d_123_58 : decode prog_9_method_33_code 58 = .ok (.bipush 117, 2) := by decide +kernel
theorem d_123_60 : decode prog_9_method_33_code 60 = .ok (.bipush 101, 2) := by decide +kernel
theorem d_123_62 : decode prog_9_method_33_code 62 = .ok (.iconst 0, 1) := by decide +kernel
theorem d_123_63 : decode prog_9_method_33_code 63 = .ok (.invokevirtual 209, 3) := by decide +kernel
theorem d_123_66 : decode prog_9_method_33_code 66 = .ok (.goto 23, 3) := by decide +kernel
theorem d_123_69 : decode prog_9_method_33_code 69 = .ok (.iload_n 2, 1) := by decide +kernel
theorem d_123_70 : decode prog_9_method_33_code 70 = .ok (.bipush 102, 2) := by decide +kernel
theorem d_123_72 : decode prog_9_method_33_code 72 = .ok (.if_icmp .ne 17, 3) := by decide +kernel
theorem d_123_75 : decode prog_9_method_33_code 75 = .ok (.aload_n 0, 1) := by decide +kernel
theorem d_123_76 : decode prog_9_method_33_code 76 = .ok (.bipush 102, 2) := by decide +kernel
theorem d_123_78 : decode prog_9_method_33_code 78 = .ok (.bipush 97, 2) := by decide +kernel
theorem d_123_80 : decode prog_9_method_33_code 80 = .ok (.bipush 108, 2) := by decide +kernel
theorem d_123_82 : decode prog_9_method_33_code 82 = .ok (.bipush 115, 2) := by decide +kernel
theorem d_123_84 : decode prog_9_method_33_code 84 = .ok (.bipush 101, 2) := by decide +kernel
theorem d_123_86 : decode prog_9_method_33_code 86 = .ok (.invokevirtual 209, 3) := by decide +kernel
theorem d_123_89 : decode prog_9_method_33_code 89 = .ok (.iload_n 2, 1) := by decide +kernel
theorem d_123_90 : decode prog_9_method_33_code 90 = .ok (.bipush 110, 2) := by decide +kernel
theorem d_123_92 : decode prog_9_method_33_code 92 = .ok (.if_icmp .eq 15, 3) := by decide +kernel
theorem d_123_95 : decode prog_9_method_33_code 95 = .ok (.iload_n 2, 1) := by decide +kernel
theorem d_123_96 : decode prog_9_method_33_code 96 = .ok (.bipush 116, 2) := by decide +kernel
theorem d_123_98 : decode prog_9_method_33_code 98 = .ok (.if_icmp .eq 9, 3) := by decide +kernel
theorem d_123_101 : decode prog_9_method_33_code 101 = .ok (.iload_n 2, 1) := by decide +kernel
theorem d_123_102 : decode prog_9_method_33_code 102 = .ok (.bipush 102, 2) := by decide +kernel
theorem d_123_104 : decode prog_9_method_33_code 104 = .ok (.if_icmp .ne 7, 3) := by decide +kernel
theorem d_123_107 : decode prog_9_method_33_code 107 = .ok (.iconst 1, 1) := by decide +kernel
theorem d_123_108 : decode prog_9_method_33_code 108 = .ok (.goto 4, 3) := by decide +kernel
theorem d_123_111 : decode prog_9_method_33_code 111 = .ok (.iconst 0, 1) := by decide +kernel
theorem d_123_112 : decode prog_9_method_33_code 112 = .ok (.istore_n 3, 1) := by decide +kernel
theorem d_123_113 : decode prog_9_method_33_code 113 = .ok (.aload_n 0, 1) := by decide +kernel
theorem d_123_114 : decode prog_9_method_33_code 114 = .ok (.iload_n 2, 1) := by decide +kernel
theorem d_123_115 : decode prog_9_method_33_code 115 = .ok (.bipush 110, 2) := by decide +kernel
theorem d_123_117 : decode prog_9_method_33_code 117 = .ok (.if_icmp .ne 7, 3) := by decide +kernel
theorem d_123_120 : decode prog_9_method_33_code 120 = .ok (.iconst 0, 1) := by decide +kernel
theorem d_123_121 : decode prog_9_method_33_code 121 = .ok (.goto 12, 3) := by decide +kernel
theorem d_123_124 : decode prog_9_method_33_code 124 = .ok (.iload_n 3, 1) := by decide +kernel
theorem d_123_125 : decode prog_9_method_33_code 125 = .ok (.ifCond .eq 7, 3) := by decide +kernel
theorem d_123_128 : decode prog_9_method_33_code 128 = .ok (.iconst 1, 1) := by decide +kernel
theorem d_123_129 : decode prog_9_method_33_code 129 = .ok (.goto 4, 3) := by decide +kernel
theorem d_123_132 : decode prog_9_method_33_code 132 = .ok (.iconst 2, 1) := by decide +kernel
theorem d_123_133 : decode prog_9_method_33_code 133 = .ok (.iload_n 1, 1) := by decide +kernel
theorem d_123_134 : decode prog_9_method_33_code 134 = .ok (.invokevirtual 172, 3) := by decide +kernel
theorem d_123_137 : decode prog_9_method_33_code 137 = .ok (.istore 4, 2) := by decide +kernel
theorem d_123_139 : decode prog_9_method_33_code 139 = .ok (.aload_n 0, 1) := by decide +kernel
theorem d_123_140 : decode prog_9_method_33_code 140 = .ok (.getfield 23, 3) := by decide +kernel
theorem d_123_143 : decode prog_9_method_33_code 143 = .ok (.iload 4, 2) := by decide +kernel
theorem d_123_145 : decode prog_9_method_33_code 145 = .ok (.iload_n 3, 1) := by decide +kernel
theorem d_123_146 : decode prog_9_method_33_code 146 = .ok (.ifCond .eq 17, 3) := by decide +kernel
theorem d_123_149 : decode prog_9_method_33_code 149 = .ok (.iload_n 2, 1) := by decide +kernel
theorem d_123_150 : decode prog_9_method_33_code 150 = .ok (.bipush 116, 2) := by decide +kernel
theorem d_123_152 : decode prog_9_method_33_code 152 = .ok (.if_icmp .ne 7, 3) := by decide +kernel
theorem d_123_155 : decode prog_9_method_33_code 155 = .ok (.lconst 1, 1) := by decide +kernel
theorem d_123_156 : decode prog_9_method_33_code 156 = .ok (.goto 11, 3) := by decide +kernel
theorem d_123_159 : decode prog_9_method_33_code 159 = .ok (.lconst 0, 1) := by decide +kernel
theorem d_123_160 : decode prog_9_method_33_code 160 = .ok (.goto 7, 3) := by decide +kernel
theorem d_123_163 : decode prog_9_method_33_code 163 = .ok (.aload_n 0, 1) := by decide +kernel
theorem d_123_164 : decode prog_9_method_33_code 164 = .ok (.invokevirtual 213, 3) := by decide +kernel
theorem d_123_167 : decode prog_9_method_33_code 167 = .ok (.lastore, 1) := by decide +kernel
theorem d_123_168 : decode prog_9_method_33_code 168 = .ok (.aload_n 0, 1) := by decide +kernel
theorem d_123_169 : decode prog_9_method_33_code 169 = .ok (.iload 4, 2) := by decide +kernel
theorem d_123_171 : decode prog_9_method_33_code 171 = .ok (.invokevirtual 176, 3) := by decide +kernel
theorem d_123_174 : decode prog_9_method_33_code 174 = .ok (.iconst 1, 1) := by decide +kernel
theorem d_123_175 : decode prog_9_method_33_code 175 = .ok (.ireturn, 1) := by decide +kernel
theorem d_124_0 : decode prog_9_method_31_code 0 = .ok (.aload_n 0, 1) := by decide +kernel
theorem d_124_1 : decode prog_9_method_31_code 1 = .ok (.getfield 103, 3) := by decide +kernel
theorem d_124_4 : decode prog_9_method_31_code 4 = .ok (.istore_n 1, 1) := by decide +kernel
theorem d_124_5 : decode prog_9_method_31_code 5 = .ok (.aload_n 0, 1) := by decide +kernel
theorem d_124_6 : decode prog_9_method_31_code 6 = .ok (.invokevirtual 185, 3) := by decide +kernel
theorem d_124_9 : decode prog_9_method_31_code 9 = .ok (.aload_n 0, 1) := by decide +kernel
theorem d_124_10 : decode prog_9_method_31_code 10 = .ok (.getfield 100, 3) := by decide +kernel
theorem d_124_13 : decode prog_9_method_31_code 13 = .ok (.ifCond .lt 5, 3) := by decide +kernel
theorem d_124_16 : decode prog_9_method_31_code 16 = .ok (.iconst 1, 1) := by decide +kernel
theorem d_124_17 : decode prog_9_method_31_code 17 = .ok (.ireturn, 1) := by decide +kernel
theorem d_124_18 : decode prog_9_method_31_code 18 = .ok (.aload_n 0, 1) := by decide +kernel
theorem d_124_19 : decode prog_9_method_31_code 19 = .ok (.getfield 162, 3) := by decide +kernel
theorem d_124_22 : decode prog_9_method_31_code 22 = .ok (.ifCond .le 34, 3) := by decide +kernel
theorem d_124_25 : decode prog_9_method_31_code 25 = .ok (.aload_n 0, 1) := by decide +kernel
theorem d_124_26 : decode prog_9_method_31_code 26 = .ok (.getfield 51, 3) := by decide +kernel
theorem d_124_29 : decode prog_9_method_31_code 29 = .ok (.aload_n 0, 1) := by decide +kernel
theorem d_124_30 : decode prog_9_method_31_code 30 = .ok (.getfield 162, 3) := by decide +kernel
theorem d_124_33 : decode prog_9_method_31_code 33 = .ok (.iaload, 1) := by decide +kernel
theorem d_124_34 : decode prog_9_method_31_code 34 = .ok (.iconst 2, 1) := by decide +kernel
theorem d_124_35 : decode prog_9_method_31_code 35 = .ok (.if_icmp .ne 21, 3) := by decide +kernel
theorem d_124_38 : decode prog_9_method_31_code 38 = .ok (.aload_n 0, 1) := by decide +kernel
theorem d_124_39 : decode prog_9_method_31_code 39 = .ok (.getfield 54, 3) := by decide +kernel
theorem d_124_42 : decode prog_9_method_31_code 42 = .ok (.aload_n 0, 1) := by decide +kernel
theorem d_124_43 : decode prog_9_method_31_code 43 = .ok (.getfield 162, 3) := by decide +kernel
theorem d_124_46 : decode prog_9_method_31_code 46 = .ok (.iaload, 1) := by decide +kernel
theorem d_124_47 : decode prog_9_method_31_code 47 = .ok (.iconst 2, 1) := by decide +kernel
theorem d_124_48 : decode prog_9_method_31_code 48 = .ok (.irem, 1) := by decide +kernel
theorem d_124_49 : decode prog_9_method_31_code 49 = .ok (.ifCond .ne 7, 3) := by decide +kernel
theorem d_124_52 : decode prog_9_method_31_code 52 = .ok (.iconst 1, 1) := by decide +kernel
theorem d_124_53 : decode prog_9_method_31_code 53 = .ok (.goto 4, 3) := by decide +kernel
theorem d_124_56 : decode prog_9_method_31_code 56 = .ok (.iconst 0, 1) := by decide +kernel
theorem d_124_57 : decode prog_9_method_31_code 57 = .ok (.istore_n 2, 1) := by decide +kernel
theorem d_124_58 : decode prog_9_method_31_code 58 = .ok (.aload_n 0, 1) := by decide +kernel
theorem d_124_59 : decode prog_9_method_31_code 59 = .ok (.invokevirtual 188, 3) := by decide +kernel
theorem d_124_62 : decode prog_9_method_31_code 62 = .ok (.istore_n 3, 1) := by decide +kernel
theorem d_124_63 : decode prog_9_method_31_code 63 = .ok (.iload_n 3, 1) := by decide +kernel
theorem d_124_64 : decode prog_9_method_31_code 64 = .ok (.aload_n 0, 1) := by decide +kernel
theorem d_124_65 : decode prog_9_method_31_code 65 = .ok (.getfield 159, 3) := by decide +kernel
theorem d_124_68 : decode prog_9_method_31_code 68 = .ok (.if_icmp .lt 10, 3) := by decide +kernel
theorem d_124_71 : decode prog_9_method_31_code 71 = .ok (.aload_n 0, 1) := by decide +kernel
theorem d_124_72 : decode prog_9_method_31_code 72 = .ok (.iload_n 1, 1) := by decide +kernel
theorem d_124_73 : decode prog_9_method_31_code 73 = .ok (.invokevirtual 134, 3) := by decide +kernel
theorem d_124_76 : decode prog_9_method_31_code 76 = .ok (.iconst 1, 1) := by decide +kernel
theorem d_124_77 : decode prog_9_method_31_code 77 = .ok (.ireturn, 1) := by decide +kernel
theorem d_124_78 : decode prog_9_method_31_code 78 = .ok (.iload_n 3, 1) := by decide +kernel
theorem d_124_79 : decode prog_9_method_31_code 79 = .ok (.ifCond .lt 26, 3) := by decide +kernel
theorem d_124_82 : decode prog_9_method_31_code 82 = .ok (.aload_n 0, 1) := by decide +kernel
theorem d_124_83 : decode prog_9_method_31_code 83 = .ok (.aload_n 0, 1) := by decide +kernel
theorem d_124_84 : decode prog_9_method_31_code 84 = .ok (.getfield 60, 3) := by decide +kernel
theorem d_124_87 : decode prog_9_method_31_code 87 = .ok (.iload_n 3, 1) := by decide +kernel
theorem d_124_88 : decode prog_9_method_31_code 88 = .ok (.iaload, 1) := by decide +kernel
theorem d_124_89 : decode prog_9_method_31_code 89 = .ok (.putfield 147, 3) := by decide +kernel
theorem d_124_92 : decode prog_9_method_31_code 92 = .ok (.aload_n 0, 1) := by decide +kernel
theorem d_124_93 : decode prog_9_method_31_code 93 = .ok (.aload_n 0, 1) := by decide +kernel
theorem d_124_94 : decode prog_9_method_31_code 94 = .ok (.getfield 63, 3) := by decide +kernel
theorem d_124_97 : decode prog_9_method_31_code 97 = .ok (.iload_n 3, 1) := by decide +kernel
theorem d_124_98 : decode prog_9_method_31_code 98 = .ok (.iaload, 1) := by decide +kernel
theorem d_124_99 : decode prog_9_method_31_code 99 = .ok (.putfield 144, 3) := by decide +kernel
theorem d_124_102 : decode prog_9_method_31_code 102 = .ok (.goto 15, 3) := by decide +kernel
theorem d_124_105 : decode prog_9_method_31_code 105 = .ok (.aload_n 0, 1) := by decide +kernel
theorem d_124_106 : decode prog_9_method_31_code 106 = .ok (.iload_n 2, 1) := by decide +kernel
theorem d_124_107 : decode prog_9_method_31_code 107 = .ok (.invokevirtual 192, 3) := by decide +kernel
theorem d_124_110 : decode prog_9_method_31_code 110 = .ok (.ifCond .eq 7, 3) := by decide +kernel
theorem d_124_113 : decode prog_9_method_31_code 113 = .ok (.aload_n 0, 1) := by decide +kernel
theorem d_124_114 : decode prog_9_method_31_code 114 = .ok (.invokevirtual 196, 3) := by decide +kernel
theorem d_124_117 : decode prog_9_method_31_code 117 = .ok (.aload_n 0, 1) := by decide +kernel
theorem d_124_118 : decode prog_9_method_31_code 118 = .ok (.getfield 162, 3) := by decide +kernel
theorem d_124_121 : decode prog_9_method_31_code 121 = .ok (.ifCond .le 24, 3) := by decide +kernel
theorem d_124_124 : decode prog_9_method_31_code 124 = .ok (.aload_n 0, 1) := by decide +kernel
theorem d_124_125 : decode prog_9_method_31_code 125 = .ok (.getfield 51, 3) := by decide +kernel
theorem d_124_128 : decode prog_9_method_31_code 128 = .ok (.aload_n 0, 1) := by decide +kernel
theorem d_124_129 : decode prog_9_method_31_code 129 = .ok (.getfield 162, 3) := by decide +kernel
theorem d_124_132 : decode prog_9_method_31_code 132 = .ok (.iaload, 1) := by decide +kernel
theorem d_124_133 : decode prog_9_method_31_code 133 = .ok (.ifCond .ne 12, 3) := by decide +kernel
theorem d_124_136 : decode prog_9_method_31_code 136 = .ok (.aload_n 0, 1) := by decide +kernel
theorem d_124_137 : decode prog_9_method_31_code 137 = .ok (.invokevirtual 199, 3) := by decide +kernel
theorem d_124_140 : decode prog_9_method_31_code 140 = .ok (.ifCond .eq 5, 3) := by decide +kernel
theorem d_124_143 : decode prog_9_method_31_code 143 = .ok (.iconst 0, 1) := by decide +kernel
theorem d_124_144 : decode prog_9_method_31_code 144 = .ok (.ireturn, 1) := by decide +kernel
theorem d_124_145 : decode prog_9_method_31_code 145 = .ok (.aload_n 0, 1) := by decide +kernel
theorem d_124_146 : decode prog_9_method_31_code 146 = .ok (.iload_n 1, 1) := by decide +kernel
theorem d_124_147 : decode prog_9_method_31_code 147 = .ok (.invokevirtual 203, 3) := by decide +kernel
theorem d_124_150 : decode prog_9_method_31_code 150 = .ok (.iconst 1, 1) := by decide +kernel
theorem d_124_151 : decode prog_9_method_31_code 151 = .ok (.ireturn, 1) := by decide +kernel
theorem d_125_0 : decode prog_9_method_23_code 0 = .ok (.aload_n 0, 1) := by decide +kernel
theorem d_125_1 : decode prog_9_method_23_code 1 = .ok (.sipush 480, 3) := by decide +kernel
theorem d_125_4 : decode prog_9_method_23_code 4 = .ok (.aload_n 0, 1) := by decide +kernel
theorem d_125_5 : decode prog_9_method_23_code 5 = .ok (.getfield 150, 3) := by decide +kernel
theorem d_125_8 : decode prog_9_method_23_code 8 = .ok (.iadd, 1) := by decide +kernel
theorem d_125_9 : decode prog_9_method_23_code 9 = .ok (.putfield 147, 3) := by decide +kernel
theorem d_125_12 : decode prog_9_method_23_code 12 = .ok (.aload_n 0, 1) := by decide +kernel
theorem d_125_13 : decode prog_9_method_23_code 13 = .ok (.dup, 1) := by decide +kernel
theorem d_125_14 : decode prog_9_method_23_code 14 = .ok (.getfield 103, 3) := by decide +kernel
theorem d_125_17 : decode prog_9_method_23_code 17 = .ok (.iconst 1, 1) := by decide +kernel
theorem d_125_18 : decode prog_9_method_23_code 18 = .ok (.iadd, 1) := by decide +kernel
theorem d_125_19 : decode prog_9_method_23_code 19 = .ok (.putfield 103, 3) := by decide +kernel
theorem d_125_22 : decode prog_9_method_23_code 22 = .ok (.aload_n 0, 1) := by decide +kernel
theorem d_125_23 : decode prog_9_method_23_code 23 = .ok (.getfield 100, 3) := by decide +kernel
theorem d_125_26 : decode prog_9_method_23_code 26 = .ok (.ifCond .ge 139, 3) := by decide +kernel
theorem d_125_29 : decode prog_9_method_23_code 29 = .ok (.aload_n 0, 1) := by decide +kernel
theorem d_125_30 : decode prog_9_method_23_code 30 = .ok (.aload_n 0, 1) := by decide +kernel
theorem d_125_31 : decode prog_9_method_23_code 31 = .ok (.getfield 103, 3) := by decide +kernel
theorem d_125_34 : decode prog_9_method_23_code 34 = .ok (.invokevirtual 106, 3) := by decide +kernel
theorem d_125_37 : decode prog_9_method_23_code 37 = .ok (.bipush 34, 2) := by decide +kernel
theorem d_125_39 : decode prog_9_method_23_code 39 = .ok (.if_icmp .eq 126, 3) := by decide +kernel
theorem d_125_42 : decode prog_9_method_23_code 42 = .ok (.aload_n 0, 1) := by decide +kernel
theorem d_125_43 : decode prog_9_method_23_code 43 = .ok (.aload_n 0, 1) := by decide +kernel
theorem d_125_44 : decode prog_9_method_23_code 44 = .ok (.getfield 103, 3) := by decide +kernel
theorem d_125_47 : decode prog_9_method_23_code 47 = .ok (.invokevirtual 106, 3) := by decide +kernel
theorem d_125_50 : decode prog_9_method_23_code 50 = .ok (.istore_n 1, 1) := by decide +kernel
theorem d_125_51 : decode prog_9_method_23_code 51 = .ok (.iload_n 1, 1) := by decide +kernel
theorem d_125_52 : decode prog_9_method_23_code 52 = .ok (.bipush 92, 2) := by decide +kernel
theorem d_125_54 : decode prog_9_method_23_code 54 = .ok (.if_icmp .ne 48, 3) := by decide +kernel
theorem d_125_57 : decode prog_9_method_23_code 57 = .ok (.aload_n 0, 1) := by decide +kernel
theorem d_125_58 : decode prog_9_method_23_code 58 = .ok (.dup, 1) := by decide +kernel
theorem d_125_59 : decode prog_9_method_23_code 59 = .ok (.getfield 103, 3) := by decide +kernel
theorem d_125_62 : decode prog_9_method_23_code 62 = .ok (.iconst 1, 1) := by decide +kernel
theorem d_125_63 : decode prog_9_method_23_code 63 = .ok (.iadd, 1) := by decide +kernel
theorem d_125_64 : decode prog_9_method_23_code 64 = .ok (.putfield 103, 3) := by decide +kernel
theorem d_125_67 : decode prog_9_method_23_code 67 = .ok (.aload_n 0, 1) := by decide +kernel
theorem d_125_68 : decode prog_9_method_23_code 68 = .ok (.aload_n 0, 1) := by decide +kernel
theorem d_125_69 : decode prog_9_method_23_code 69 = .ok (.getfield 103, 3) := by decide +kernel
theorem d_125_72 : decode prog_9_method_23_code 72 = .ok (.invokevirtual 106, 3) := by decide +kernel
theorem d_125_75 : decode prog_9_method_23_code 75 = .ok (.istore_n 1, 1) := by decide +kernel
theorem d_125_76 : decode prog_9_method_23_code 76 = .ok (.iload_n 1, 1) := by decide +kernel
theorem d_125_77 : decode prog_9_method_23_code 77 = .ok (.bipush 34, 2) := by decide +kernel
theorem d_125_79 : decode prog_9_method_23_code 79 = .ok (.if_icmp .eq 23, 3) := by decide +kernel
theorem d_125_82 : decode prog_9_method_23_code 82 = .ok (.iload_n 1, 1) := by decide +kernel
theorem d_125_83 : decode prog_9_method_23_code 83 = .ok (.bipush 92, 2) := by decide +kernel
theorem d_125_85 : decode prog_9_method_23_code 85 = .ok (.if_icmp .eq 17, 3) := by decide +kernel
theorem d_125_88 : decode prog_9_method_23_code 88 = .ok (.iload_n 1, 1) := by decide +kernel
theorem d_125_89 : decode prog_9_method_23_code 89 = .ok (.bipush 47, 2) := by decide +kernel
theorem d_125_91 : decode prog_9_method_23_code 91 = .ok (.if_icmp .eq 11, 3) := by decide +kernel
theorem d_125_94 : decode prog_9_method_23_code 94 = .ok (.aload_n 0, 1) := by decide +kernel
theorem d_125_95 : decode prog_9_method_23_code 95 = .ok (.aload_n 0, 1) := by decide +kernel
theorem d_125_96 : decode prog_9_method_23_code 96 = .ok (.getfield 103, 3) := by decide +kernel
theorem d_125_99 : decode prog_9_method_23_code 99 = .ok (.invokevirtual 134, 3) := by decide +kernel
theorem d_125_102 : decode prog_9_method_23_code 102 = .ok (.iload_n 1, 1) := by decide +kernel
theorem d_125_103 : decode prog_9_method_23_code 103 = .ok (.ifCond .ne 11, 3) := by decide +kernel
theorem d_125_106 : decode prog_9_method_23_code 106 = .ok (.aload_n 0, 1) := by decide +kernel
theorem d_125_107 : decode prog_9_method_23_code 107 = .ok (.aload_n 0, 1) := by decide +kernel
theorem d_125_108 : decode prog_9_method_23_code 108 = .ok (.getfield 97, 3) := by decide +kernel
theorem d_125_111 : decode prog_9_method_23_code 111 = .ok (.invokevirtual 134, 3) := by decide +kernel
theorem d_125_114 : decode prog_9_method_23_code 114 = .ok (.aload_n 0, 1) := by decide +kernel
theorem d_125_115 : decode prog_9_method_23_code 115 = .ok (.getfield 45, 3) := by decide +kernel
theorem d_125_118 : decode prog_9_method_23_code 118 = .ok (.sipush 480, 3) := by decide +kernel
theorem d_125_121 : decode prog_9_method_23_code 121 = .ok (.aload_n 0, 1) := by decide +kernel
theorem d_125_122 : decode prog_9_method_23_code 122 = .ok (.getfield 150, 3) := by decide +kernel
theorem d_125_125 : decode prog_9_method_23_code 125 = .ok (.iadd, 1) := by decide +kernel
theorem d_125_126 : decode prog_9_method_23_code 126 = .ok (.iload_n 1, 1) := by decide +kernel
theorem d_125_127 : decode prog_9_method_23_code 127 = .ok (.iastore, 1) := by decide +kernel
theorem d_125_128 : decode prog_9_method_23_code 128 = .ok (.aload_n 0, 1) := by decide +kernel
theorem d_125_129 : decode prog_9_method_23_code 129 = .ok (.aload_n 0, 1) := by decide +kernel
theorem d_125_130 : decode prog_9_method_23_code 130 = .ok (.getfield 100, 3) := by decide +kernel
theorem d_125_133 : decode prog_9_method_23_code 133 = .ok (.ifCond .ge 12, 3) := by decide +kernel
theorem d_125_136 : decode prog_9_method_23_code 136 = .ok (.aload_n 0, 1) := by decide +kernel
theorem d_125_137 : decode prog_9_method_23_code 137 = .ok (.getfield 150, 3) := by decide +kernel
theorem d_125_140 : decode prog_9_method_23_code 140 = .ok (.iconst 1, 1) := by decide +kernel
theorem d_125_141 : decode prog_9_method_23_code 141 = .ok (.iadd, 1) := by decide +kernel
theorem d_125_142 : decode prog_9_method_23_code 142 = .ok (.goto 7, 3) := by decide +kernel
theorem d_125_145 : decode prog_9_method_23_code 145 = .ok (.aload_n 0, 1) := by decide +kernel
theorem d_125_146 : decode prog_9_method_23_code 146 = .ok (.getfield 150, 3) := by decide +kernel
theorem d_125_149 : decode prog_9_method_23_code 149 = .ok (.putfield 150, 3) := by decide +kernel
theorem d_125_152 : decode prog_9_method_23_code 152 = .ok (.aload_n 0, 1) := by decide +kernel
theorem d_125_153 : decode prog_9_method_23_code 153 = .ok (.dup, 1) := by decide +kernel
theorem d_125_154 : decode prog_9_method_23_code 154 = .ok (.getfield 103, 3) := by decide +kernel
theorem d_125_157 : decode prog_9_method_23_code 157 = .ok (.iconst 1, 1) := by decide +kernel
theorem d_125_158 : decode prog_9_method_23_code 158 = .ok (.iadd, 1) := by decide +kernel
theorem d_125_159 : decode prog_9_method_23_code 159 = .ok (.putfield 103, 3) := by decide +kernel
theorem d_125_162 : decode prog_9_method_23_code 162 = .ok (.goto (-140), 3) := by decide +kernel
theorem d_125_165 : decode prog_9_method_23_code 165 = .ok (.aload_n 0, 1) := by decide +kernel
theorem d_125_166 : decode prog_9_method_23_code 166 = .ok (.sipush 480, 3) := by decide +kernel
theorem d_125_169 : decode prog_9_method_23_code 169 = .ok (.aload_n 0, 1) := by decide +kernel
theorem d_125_170 : decode prog_9_method_23_code 170 = .ok (.getfield 150, 3) := by decide +kernel
theorem d_125_173 : decode prog_9_method_23_code 173 = .ok (.iadd, 1) := by decide +kernel
theorem d_125_174 : decode prog_9_method_23_code 174 = .ok (.aload_n 0, 1) := by decide +kernel
theorem d_125_175 : decode prog_9_method_23_code 175 = .ok (.getfield 147, 3) := by decide +kernel
theorem d_125_178 : decode prog_9_method_23_code 178 = .ok (.isub, 1) := by decide +kernel
theorem d_125_179 : decode prog_9_method_23_code 179 = .ok (.putfield 144, 3) := by decide +kernel
theorem d_125_182 : decode prog_9_method_23_code 182 = .ok (.aload_n 0, 1) := by decide +kernel
theorem d_125_183 : decode prog_9_method_23_code 183 = .ok (.dup, 1) := by decide +kernel
theorem d_125_184 : decode prog_9_method_23_code 184 = .ok (.getfield 103, 3) := by decide +kernel
theorem d_125_187 : decode prog_9_method_23_code 187 = .ok (.iconst 1, 1) := by decide +kernel
theorem d_125_188 : decode prog_9_method_23_code 188 = .ok (.iadd, 1) := by decide +kernel
theorem d_125_189 : decode prog_9_method_23_code 189 = .ok (.putfield 103, 3) := by decide +kernel
theorem d_125_192 : decode prog_9_method_23_code 192 = .ok (.return_, 1) := by decide +kernel
theorem d_126_0 : decode prog_9_method_25_code 0 = .ok (.aload_n 0, 1) := by decide +kernel
theorem d_126_1 : decode prog_9_method_25_code 1 = .ok (.iconst 0, 1) := by decide +kernel
theorem d_126_2 : decode prog_9_method_25_code 2 = .ok (.invokevirtual 153, 3) := by decide +kernel
theorem d_126_5 : decode prog_9_method_25_code 5 = .ok (.bipush 94, 2) := by decide +kernel
theorem d_126_7 : decode prog_9_method_25_code 7 = .ok (.if_icmp .ne 41, 3) := by decide +kernel
theorem d_126_10 : decode prog_9_method_25_code 10 = .ok (.aload_n 0, 1) := by decide +kernel
theorem d_126_11 : decode prog_9_method_25_code 11 = .ok (.iconst 1, 1) := by decide +kernel
theorem d_126_12 : decode prog_9_method_25_code 12 = .ok (.invokevirtual 153, 3) := by decide +kernel
theorem d_126_15 : decode prog_9_method_25_code 15 = .ok (.invokestatic 156, 3) := by decide +kernel
theorem d_126_18 : decode prog_9_method_25_code 18 = .ok (.ifCond .eq 30, 3) := by decide +kernel
theorem d_126_21 : decode prog_9_method_25_code 21 = .ok (.aload_n 0, 1) := by decide +kernel
theorem d_126_22 : decode prog_9_method_25_code 22 = .ok (.getfield 144, 3) := by decide +kernel
theorem d_126_25 : decode prog_9_method_25_code 25 = .ok (.iconst 3, 1) := by decide +kernel
theorem d_126_26 : decode prog_9_method_25_code 26 = .ok (.if_icmp .gt 22, 3) := by decide +kernel
theorem d_126_29 : decode prog_9_method_25_code 29 = .ok (.aload_n 0, 1) := by decide +kernel
theorem d_126_30 : decode prog_9_method_25_code 30 = .ok (.getfield 144, 3) := by decide +kernel
theorem d_126_33 : decode prog_9_method_25_code 33 = .ok (.iconst 3, 1) := by decide +kernel
theorem d_126_34 : decode prog_9_method_25_code 34 = .ok (.if_icmp .ne 16, 3) := by decide +kernel
theorem d_126_37 : decode prog_9_method_25_code 37 = .ok (.aload_n 0, 1) := by decide +kernel
theorem d_126_38 : decode prog_9_method_25_code 38 = .ok (.iconst 2, 1) := by decide +kernel
theorem d_126_39 : decode prog_9_method_25_code 39 = .ok (.invokevirtual 153, 3) := by decide +kernel
theorem d_126_42 : decode prog_9_method_25_code 42 = .ok (.invokestatic 156, 3) := by decide +kernel
theorem d_126_45 : decode prog_9_method_25_code 45 = .ok (.ifCond .ne 5, 3) := by decide +kernel
theorem d_126_48 : decode prog_9_method_25_code 48 = .ok (.iconst (-1), 1) := by decide +kernel
theorem d_126_49 : decode prog_9_method_25_code 49 = .ok (.ireturn, 1) := by decide +kernel
theorem d_126_50 : decode prog_9_method_25_code 50 = .ok (.aload_n 0, 1) := by decide +kernel
theorem d_126_51 : decode prog_9_method_25_code 51 = .ok (.iconst 1, 1) := by decide +kernel
theorem d_126_52 : decode prog_9_method_25_code 52 = .ok (.invokevirtual 153, 3) := by decide +kernel
theorem d_126_55 : decode prog_9_method_25_code 55 = .ok (.bipush 48, 2) := by decide +kernel
theorem d_126_57 : decode prog_9_method_25_code 57 = .ok (.isub, 1) := by decide +kernel
theorem d_126_58 : decode prog_9_method_25_code 58 = .ok (.istore_n 1, 1) := by decide +kernel
theorem d_126_59 : decode prog_9_method_25_code 59 = .ok (.aload_n 0, 1) := by decide +kernel
theorem d_126_60 : decode prog_9_method_25_code 60 = .ok (.getfield 144, 3) := by decide +kernel
theorem d_126_63 : decode prog_9_method_25_code 63 = .ok (.iconst 2, 1) := by decide +kernel
theorem d_126_64 : decode prog_9_method_25_code 64 = .ok (.if_icmp .ne 7, 3) := by decide +kernel
theorem d_126_67 : decode prog_9_method_25_code 67 = .ok (.iload_n 1, 1) := by decide +kernel
theorem d_126_68 : decode prog_9_method_25_code 68 = .ok (.goto 16, 3) := by decide +kernel
theorem d_126_71 : decode prog_9_method_25_code 71 = .ok (.bipush 6, 2) := by decide +kernel
theorem d_126_73 : decode prog_9_method_25_code 73 = .ok (.iload_n 1, 1) := by decide +kernel
theorem d_126_74 : decode prog_9_method_25_code 74 = .ok (.imul, 1) := by decide +kernel
theorem d_126_75 : decode prog_9_method_25_code 75 = .ok (.aload_n 0, 1) := by decide +kernel
theorem d_126_76 : decode prog_9_method_25_code 76 = .ok (.iconst 2, 1) := by decide +kernel
theorem d_126_77 : decode prog_9_method_25_code 77 = .ok (.invokevirtual 153, 3) := by decide +kernel
theorem d_126_80 : decode prog_9_method_25_code 80 = .ok (.iadd, 1) := by decide +kernel
theorem d_126_81 : decode prog_9_method_25_code 81 = .ok (.bipush 48, 2) := by decide +kernel
theorem d_126_83 : decode prog_9_method_25_code 83 = .ok (.isub, 1) := by decide +kernel
theorem d_126_84 : decode prog_9_method_25_code 84 = .ok (.ireturn, 1) := by decide +kernel
theorem d_127_0 : decode prog_9_method_22_code 0 = .ok (.iload_n 1, 1) := by decide +kernel
theorem d_127_1 : decode prog_9_method_22_code 1 = .ok (.aload_n 0, 1) := by decide +kernel
theorem d_127_2 : decode prog_9_method_22_code 2 = .ok (.getfield 144, 3) := by decide +kernel
theorem d_127_5 : decode prog_9_method_22_code 5 = .ok (.if_icmp .ge 17, 3) := by decide +kernel
theorem d_127_8 : decode prog_9_method_22_code 8 = .ok (.aload_n 0, 1) := by decide +kernel
theorem d_127_9 : decode prog_9_method_22_code 9 = .ok (.getfield 45, 3) := by decide +kernel
theorem d_127_12 : decode prog_9_method_22_code 12 = .ok (.aload_n 0, 1) := by decide +kernel
theorem d_127_13 : decode prog_9_method_22_code 13 = .ok (.getfield 147, 3) := by decide +kernel
theorem d_127_16 : decode prog_9_method_22_code 16 = .ok (.iload_n 1, 1) := by decide +kernel
theorem d_127_17 : decode prog_9_method_22_code 17 = .ok (.iadd, 1) := by decide +kernel
theorem d_127_18 : decode prog_9_method_22_code 18 = .ok (.iaload, 1) := by decide +kernel
theorem d_127_19 : decode prog_9_method_22_code 19 = .ok (.goto 4, 3) := by decide +kernel
theorem d_127_22 : decode prog_9_method_22_code 22 = .ok (.iconst 0, 1) := by decide +kernel
theorem d_127_23 : decode prog_9_method_22_code 23 = .ok (.ireturn, 1) := by decide +kernel
theorem d_128_0 : decode prog_9_method_24_code 0 = .ok (.iload_n 0, 1) := by decide +kernel
theorem d_128_1 : decode prog_9_method_24_code 1 = .ok (.bipush 48, 2) := by decide +kernel
theorem d_128_3 : decode prog_9_method_24_code 3 = .ok (.if_icmp .lt 13, 3) := by decide +kernel
theorem d_128_6 : decode prog_9_method_24_code 6 = .ok (.iload_n 0, 1) := by decide +kernel
theorem d_128_7 : decode prog_9_method_24_code 7 = .ok (.bipush 53, 2) := by decide +kernel
theorem d_128_9 : decode prog_9_method_24_code 9 = .ok (.if_icmp .gt 7, 3) := by decide +kernel
theorem d_128_12 : decode prog_9_method_24_code 12 = .ok (.iconst 1, 1) := by decide +kernel
theorem d_128_13 : decode prog_9_method_24_code 13 = .ok (.goto 4, 3) := by decide +kernel
theorem d_128_16 : decode prog_9_method_24_code 16 = .ok (.iconst 0, 1) := by decide +kernel
theorem d_128_17 : decode prog_9_method_24_code 17 = .ok (.ireturn, 1) := by decide +kernel
theorem d_129_0 : decode prog_9_method_26_code 0 = .ok (.aload_n 0, 1) := by decide +kernel
theorem d_129_1 : decode prog_9_method_26_code 1 = .ok (.iconst 1, 1) := by decide +kernel
theorem d_129_2 : decode prog_9_method_26_code 2 = .ok (.invokevirtual 153, 3) := by decide +kernel
theorem d_129_5 : decode prog_9_method_26_code 5 = .ok (.istore_n 2, 1) := by decide +kernel
theorem d_129_6 : decode prog_9_method_26_code 6 = .ok (.aload_n 0, 1) := by decide +kernel
theorem d_129_7 : decode prog_9_method_26_code 7 = .ok (.getfield 144, 3) := by decide +kernel
theorem d_129_10 : decode prog_9_method_26_code 10 = .ok (.iconst 3, 1) := by decide +kernel
theorem d_129_11 : decode prog_9_method_26_code 11 = .ok (.if_icmp .le 39, 3) := by decide +kernel
theorem d_129_14 : decode prog_9_method_26_code 14 = .ok (.iload_n 1, 1) := by decide +kernel
theorem d_129_15 : decode prog_9_method_26_code 15 = .ok (.ifCond .ne 31, 3) := by decide +kernel
theorem d_129_18 : decode prog_9_method_26_code 18 = .ok (.aload_n 0, 1) := by decide +kernel
theorem d_129_19 : decode prog_9_method_26_code 19 = .ok (.iconst 0, 1) := by decide +kernel
theorem d_129_20 : decode prog_9_method_26_code 20 = .ok (.invokevirtual 153, 3) := by decide +kernel
theorem d_129_23 : decode prog_9_method_26_code 23 = .ok (.bipush 126, 2) := by decide +kernel
theorem d_129_25 : decode prog_9_method_26_code 25 = .ok (.if_icmp .ne 25, 3) := by decide +kernel
theorem d_129_28 : decode prog_9_method_26_code 28 = .ok (.iload_n 2, 1) := by decide +kernel
theorem d_129_29 : decode prog_9_method_26_code 29 = .ok (.bipush 58, 2) := by decide +kernel
theorem d_129_31 : decode prog_9_method_26_code 31 = .ok (.if_icmp .eq 15, 3) := by decide +kernel
theorem d_129_34 : decode prog_9_method_26_code 34 = .ok (.iload_n 2, 1) := by decide +kernel
theorem d_129_35 : decode prog_9_method_26_code 35 = .ok (.bipush 36, 2) := by decide +kernel
theorem d_129_37 : decode prog_9_method_26_code 37 = .ok (.if_icmp .eq 9, 3) := by decide +kernel
theorem d_129_40 : decode prog_9_method_26_code 40 = .ok (.iload_n 2, 1) := by decide +kernel
theorem d_129_41 : decode prog_9_method_26_code 41 = .ok (.bipush 35, 2) := by decide +kernel
theorem d_129_43 : decode prog_9_method_26_code 43 = .ok (.if_icmp .ne 7, 3) := by decide +kernel
theorem d_129_46 : decode prog_9_method_26_code 46 = .ok (.iconst 1, 1) := by decide +kernel
theorem d_129_47 : decode prog_9_method_26_code 47 = .ok (.goto 4, 3) := by decide +kernel
theorem d_129_50 : decode prog_9_method_26_code 50 = .ok (.iconst 0, 1) := by decide +kernel
theorem d_129_51 : decode prog_9_method_26_code 51 = .ok (.ireturn, 1) := by decide +kernel
theorem d_130_0 : decode prog_9_method_27_code 0 = .ok (.aload_n 0, 1) := by decide +kernel
theorem d_130_1 : decode prog_9_method_27_code 1 = .ok (.aload_n 0, 1) := by decide +kernel
theorem d_130_2 : decode prog_9_method_27_code 2 = .ok (.getfield 159, 3) := by decide +kernel
theorem d_130_5 : decode prog_9_method_27_code 5 = .ok (.bipush 24, 2) := by decide +kernel
theorem d_130_7 : decode prog_9_method_27_code 7 = .ok (.if_icmp .ne 7, 3) := by decide +kernel
theorem d_130_10 : decode prog_9_method_27_code 10 = .ok (.iconst 0, 1) := by decide +kernel
theorem d_130_11 : decode prog_9_method_27_code 11 = .ok (.goto 7, 3) := by decide +kernel
theorem d_130_14 : decode prog_9_method_27_code 14 = .ok (.aload_n 0, 1) := by decide +kernel
theorem d_130_15 : decode prog_9_method_27_code 15 = .ok (.getfield 159, 3) := by decide +kernel
theorem d_130_18 : decode prog_9_method_27_code 18 = .ok (.putfield 159, 3) := by decide +kernel
theorem d_130_21 : decode prog_9_method_27_code 21 = .ok (.aload_n 0, 1) := by decide +kernel
theorem d_130_22 : decode prog_9_method_27_code 22 = .ok (.getfield 60, 3) := by decide +kernel
theorem d_130_25 : decode prog_9_method_27_code 25 = .ok (.aload_n 0, 1) := by decide +kernel
theorem d_130_26 : decode prog_9_method_27_code 26 = .ok (.getfield 159, 3) := by decide +kernel
theorem d_130_29 : decode prog_9_method_27_code 29 = .ok (.aload_n 0, 1) := by decide +kernel
theorem d_130_30 : decode prog_9_method_27_code 30 = .ok (.getfield 147, 3) := by decide +kernel
theorem d_130_33 : decode prog_9_method_27_code 33 = .ok (.iastore, 1) := by decide +kernel
theorem d_130_34 : decode prog_9_method_27_code 34 = .ok (.aload_n 0, 1) := by decide +kernel
theorem d_130_35 : decode prog_9_method_27_code 35 = .ok (.getfield 63, 3) := by decide +kernel
theorem d_130_38 : decode prog_9_method_27_code 38 = .ok (.aload_n 0, 1) := by decide +kernel
theorem d_130_39 : decode prog_9_method_27_code 39 = .ok (.getfield 159, 3) := by decide +kernel
theorem d_130_42 : decode prog_9_method_27_code 42 = .ok (.aload_n 0, 1) := by decide +kernel
theorem d_130_43 : decode prog_9_method_27_code 43 = .ok (.getfield 144, 3) := by decide +kernel
theorem d_130_46 : decode prog_9_method_27_code 46 = .ok (.iastore, 1) := by decide +kernel
theorem d_130_47 : decode prog_9_method_27_code 47 = .ok (.aload_n 0, 1) := by decide +kernel
theorem d_130_48 : decode prog_9_method_27_code 48 = .ok (.dup, 1) := by decide +kernel
theorem d_130_49 : decode prog_9_method_27_code 49 = .ok (.getfield 159, 3) := by decide +kernel
theorem d_130_52 : decode prog_9_method_27_code 52 = .ok (.iconst 1, 1) := by decide +kernel
theorem d_130_53 : decode prog_9_method_27_code 53 = .ok (.iadd, 1) := by decide +kernel
theorem d_130_54 : decode prog_9_method_27_code 54 = .ok (.putfield 159, 3) := by decide +kernel
theorem d_130_57 : decode prog_9_method_27_code 57 = .ok (.return_, 1) := by decide +kernel
theorem d_131_0 : decode prog_9_method_29_code 0 = .ok (.aload_n 0, 1) := by decide +kernel
theorem d_131_1 : decode prog_9_method_29_code 1 = .ok (.getfield 144, 3) := by decide +kernel
theorem d_131_4 : decode prog_9_method_29_code 4 = .ok (.iconst 2, 1) := by decide +kernel
theorem d_131_5 : decode prog_9_method_29_code 5 = .ok (.if_icmp .ne 51, 3) := by decide +kernel
theorem d_131_8 : decode prog_9_method_29_code 8 = .ok (.aload_n 0, 1) := by decide +kernel
theorem d_131_9 : decode prog_9_method_29_code 9 = .ok (.iconst 0, 1) := by decide +kernel
theorem d_131_10 : decode prog_9_method_29_code 10 = .ok (.invokevirtual 153, 3) := by decide +kernel
theorem d_131_13 : decode prog_9_method_29_code 13 = .ok (.bipush 94, 2) := by decide +kernel
theorem d_131_15 : decode prog_9_method_29_code 15 = .ok (.if_icmp .ne 41, 3) := by decide +kernel
theorem d_131_18 : decode prog_9_method_29_code 18 = .ok (.aload_n 0, 1) := by decide +kernel
theorem d_131_19 : decode prog_9_method_29_code 19 = .ok (.iconst 1, 1) := by decide +kernel
theorem d_131_20 : decode prog_9_method_29_code 20 = .ok (.invokevirtual 153, 3) := by decide +kernel
theorem d_131_23 : decode prog_9_method_29_code 23 = .ok (.bipush 32, 2) := by decide +kernel
theorem d_131_25 : decode prog_9_method_29_code 25 = .ok (.if_icmp .ne 31, 3) := by decide +kernel
theorem d_131_28 : decode prog_9_method_29_code 28 = .ok (.aload_n 0, 1) := by decide +kernel
theorem d_131_29 : decode prog_9_method_29_code 29 = .ok (.getfield 51, 3) := by decide +kernel
theorem d_131_32 : decode prog_9_method_29_code 32 = .ok (.aload_n 0, 1) := by decide +kernel
theorem d_131_33 : decode prog_9_method_29_code 33 = .ok (.getfield 162, 3) := by decide +kernel
theorem d_131_36 : decode prog_9_method_29_code 36 = .ok (.iconst 2, 1) := by decide +kernel
theorem d_131_37 : decode prog_9_method_29_code 37 = .ok (.iastore, 1) := by decide +kernel
theorem d_131_38 : decode prog_9_method_29_code 38 = .ok (.aload_n 0, 1) := by decide +kernel
theorem d_131_39 : decode prog_9_method_29_code 39 = .ok (.getfield 20, 3) := by decide +kernel
theorem d_131_42 : decode prog_9_method_29_code 42 = .ok (.aload_n 0, 1) := by decide +kernel
theorem d_131_43 : decode prog_9_method_29_code 43 = .ok (.getfield 48, 3) := by decide +kernel
theorem d_131_46 : decode prog_9_method_29_code 46 = .ok (.aload_n 0, 1) := by decide +kernel
theorem d_131_47 : decode prog_9_method_29_code 47 = .ok (.getfield 162, 3) := by decide +kernel
theorem d_131_50 : decode prog_9_method_29_code 50 = .ok (.iaload, 1) := by decide +kernel
theorem d_131_51 : decode prog_9_method_29_code 51 = .ok (.bipush 11, 2) := by decide +kernel
theorem d_131_53 : decode prog_9_method_29_code 53 = .ok (.iastore, 1) := by decide +kernel
theorem d_131_54 : decode prog_9_method_29_code 54 = .ok (.iconst 1, 1) := by decide +kernel
theorem d_131_55 : decode prog_9_method_29_code 55 = .ok (.ireturn, 1) := by decide +kernel
theorem d_131_56 : decode prog_9_method_29_code 56 = .ok (.aload_n 0, 1) := by decide +kernel
theorem d_131_57 : decode prog_9_method_29_code 57 = .ok (.iconst 0, 1) := by decide +kernel
theorem d_131_58 : decode prog_9_method_29_code 58 = .ok (.invokevirtual 153, 3) := by decide +kernel
theorem d_131_61 : decode prog_9_method_29_code 61 = .ok (.bipush 126, 2) := by decide +kernel
theorem d_131_63 : decode prog_9_method_29_code 63 = .ok (.if_icmp .ne 21, 3) := by decide +kernel
theorem d_131_66 : decode prog_9_method_29_code 66 = .ok (.aload_n 0, 1) := by decide +kernel
theorem d_131_67 : decode prog_9_method_29_code 67 = .ok (.iconst 1, 1) := by decide +kernel
theorem d_131_68 : decode prog_9_method_29_code 68 = .ok (.invokevirtual 153, 3) := by decide +kernel
theorem d_131_71 : decode prog_9_method_29_code 71 = .ok (.bipush 35, 2) := by decide +kernel
theorem d_131_73 : decode prog_9_method_29_code 73 = .ok (.if_icmp .ne 11, 3) := by decide +kernel
theorem d_131_76 : decode prog_9_method_29_code 76 = .ok (.aload_n 0, 1) := by decide +kernel
theorem d_131_77 : decode prog_9_method_29_code 77 = .ok (.getfield 144, 3) := by decide +kernel
theorem d_131_80 : decode prog_9_method_29_code 80 = .ok (.iconst 3, 1) := by decide +kernel
theorem d_131_81 : decode prog_9_method_29_code 81 = .ok (.if_icmp .ge 5, 3) := by decide +kernel
theorem d_131_84 : decode prog_9_method_29_code 84 = .ok (.iconst 0, 1) := by decide +kernel
theorem d_131_85 : decode prog_9_method_29_code 85 = .ok (.ireturn, 1) := by decide +kernel
theorem d_131_86 : decode prog_9_method_29_code 86 = .ok (.aload_n 0, 1) := by decide +kernel
theorem d_131_87 : decode prog_9_method_29_code 87 = .ok (.bipush 39, 2) := by decide +kernel
theorem d_131_89 : decode prog_9_method_29_code 89 = .ok (.iconst 0, 1) := by decide +kernel
theorem d_131_90 : decode prog_9_method_29_code 90 = .ok (.iconst 0, 1) := by decide +kernel
theorem d_131_91 : decode prog_9_method_29_code 91 = .ok (.iconst 0, 1) := by decide +kernel
theorem d_131_92 : decode prog_9_method_29_code 92 = .ok (.invokevirtual 165, 3) := by decide +kernel
theorem d_131_95 : decode prog_9_method_29_code 95 = .ok (.ifCond .eq 7, 3) := by decide +kernel
theorem d_131_98 : decode prog_9_method_29_code 98 = .ok (.iconst 3, 1) := by decide +kernel
theorem d_131_99 : decode prog_9_method_29_code 99 = .ok (.goto 62, 3) := by decide +kernel
theorem d_131_102 : decode prog_9_method_29_code 102 = .ok (.aload_n 0, 1) := by decide +kernel
theorem d_131_103 : decode prog_9_method_29_code 103 = .ok (.bipush 115, 2) := by decide +kernel
theorem d_131_105 : decode prog_9_method_29_code 105 = .ok (.bipush 101, 2) := by decide +kernel
theorem d_131_107 : decode prog_9_method_29_code 107 = .ok (.bipush 116, 2) := by decide +kernel
theorem d_131_109 : decode prog_9_method_29_code 109 = .ok (.iconst 0, 1) := by decide +kernel
theorem d_131_110 : decode prog_9_method_29_code 110 = .ok (.invokevirtual 165, 3) := by decide +kernel
theorem d_131_113 : decode prog_9_method_29_code 113 = .ok (.ifCond .eq 7, 3) := by decide +kernel
theorem d_131_116 : decode prog_9_method_29_code 116 = .ok (.iconst 4, 1) := by decide +kernel
theorem d_131_117 : decode prog_9_method_29_code 117 = .ok (.goto 44, 3) := by decide +kernel
theorem d_131_120 : decode prog_9_method_29_code 120 = .ok (.aload_n 0, 1) := by decide +kernel
theorem d_131_121 : decode prog_9_method_29_code 121 = .ok (.bipush 108, 2) := by decide +kernel
theorem d_131_123 : decode prog_9_method_29_code 123 = .ok (.bipush 105, 2) := by decide +kernel
theorem d_131_125 : decode prog_9_method_29_code 125 = .ok (.bipush 115, 2) := by decide +kernel
theorem d_131_127 : decode prog_9_method_29_code 127 = .ok (.bipush 116, 2) := by decide +kernel
theorem d_131_129 : decode prog_9_method_29_code 129 = .ok (.invokevirtual 165, 3) := by decide +kernel
theorem d_131_132 : decode prog_9_method_29_code 132 = .ok (.ifCond .eq 7, 3) := by decide +kernel
theorem d_131_135 : decode prog_9_method_29_code 135 = .ok (.iconst 5, 1) := by decide +kernel
theorem d_131_136 : decode prog_9_method_29_code 136 = .ok (.goto 25, 3) := by decide +kernel
theorem d_131_139 : decode prog_9_method_29_code 139 = .ok (.aload_n 0, 1) := by decide +kernel
theorem d_131_140 : decode prog_9_method_29_code 140 = .ok (.bipush 99, 2) := by decide +kernel
theorem d_131_142 : decode prog_9_method_29_code 142 = .ok (.bipush 109, 2) := by decide +kernel
theorem d_131_144 : decode prog_9_method_29_code 144 = .ok (.bipush 97, 2) := by decide +kernel
theorem d_131_146 : decode prog_9_method_29_code 146 = .ok (.bipush 112, 2) := by decide +kernel
theorem d_131_148 : decode prog_9_method_29_code 148 = .ok (.invokevirtual 165, 3) := by decide +kernel
theorem d_131_151 : decode prog_9_method_29_code 151 = .ok (.ifCond .eq 8, 3) := by decide +kernel
theorem d_131_154 : decode prog_9_method_29_code 154 = .ok (.bipush 6, 2) := by decide +kernel
theorem d_131_156 : decode prog_9_method_29_code 156 = .ok (.goto 5, 3) := by decide +kernel
theorem d_131_159 : decode prog_9_method_29_code 159 = .ok (.bipush 7, 2) := by decide +kernel
theorem d_131_161 : decode prog_9_method_29_code 161 = .ok (.istore_n 1, 1) := by decide +kernel
theorem d_131_162 : decode prog_9_method_29_code 162 = .ok (.aload_n 0, 1) := by decide +kernel
theorem d_131_163 : decode prog_9_method_29_code 163 = .ok (.getfield 51, 3) := by decide +kernel
theorem d_131_166 : decode prog_9_method_29_code 166 = .ok (.aload_n 0, 1) := by decide +kernel
theorem d_131_167 : decode prog_9_method_29_code 167 = .ok (.getfield 162, 3) := by decide +kernel
theorem d_131_170 : decode prog_9_method_29_code 170 = .ok (.iload_n 1, 1) := by decide +kernel
theorem d_131_171 : decode prog_9_method_29_code 171 = .ok (.iastore, 1) := by decide +kernel
theorem d_131_172 : decode prog_9_method_29_code 172 = .ok (.iload_n 1, 1) := by decide +kernel
theorem d_131_173 : decode prog_9_method_29_code 173 = .ok (.bipush 7, 2) := by decide +kernel
theorem d_131_175 : decode prog_9_method_29_code 175 = .ok (.if_icmp .ne 47, 3) := by decide +kernel
theorem d_131_178 : decode prog_9_method_29_code 178 = .ok (.aload_n 0, 1) := by decide +kernel
theorem d_131_179 : decode prog_9_method_29_code 179 = .ok (.getfield 20, 3) := by decide +kernel
theorem d_131_182 : decode prog_9_method_29_code 182 = .ok (.aload_n 0, 1) := by decide +kernel
theorem d_131_183 : decode prog_9_method_29_code 183 = .ok (.getfield 48, 3) := by decide +kernel
theorem d_131_186 : decode prog_9_method_29_code 186 = .ok (.aload_n 0, 1) := by decide +kernel
theorem d_131_187 : decode prog_9_method_29_code 187 = .ok (.getfield 162, 3) := by decide +kernel
theorem d_131_190 : decode prog_9_method_29_code 190 = .ok (.iaload, 1) := by decide +kernel
theorem d_131_191 : decode prog_9_method_29_code 191 = .ok (.bipush 12, 2) := by decide +kernel
theorem d_131_193 : decode prog_9_method_29_code 193 = .ok (.iastore, 1) := by decide +kernel
theorem d_131_194 : decode prog_9_method_29_code 194 = .ok (.aload_n 0, 1) := by decide +kernel
theorem d_131_195 : decode prog_9_method_29_code 195 = .ok (.aload_n 0, 1) := by decide +kernel
theorem d_131_196 : decode prog_9_method_29_code 196 = .ok (.getfield 48, 3) := by decide +kernel
theorem d_131_199 : decode prog_9_method_29_code 199 = .ok (.aload_n 0, 1) := by decide +kernel
theorem d_131_200 : decode prog_9_method_29_code 200 = .ok (.getfield 162, 3) := by decide +kernel
theorem d_131_203 : decode prog_9_method_29_code 203 = .ok (.iaload, 1) := by decide +kernel
theorem d_131_204 : decode prog_9_method_29_code 204 = .ok (.aload_n 0, 1) := by decide +kernel
theorem d_131_205 : decode prog_9_method_29_code 205 = .ok (.getfield 147, 3) := by decide +kernel
theorem d_131_208 : decode prog_9_method_29_code 208 = .ok (.iconst 2, 1) := by decide +kernel
theorem d_131_209 : decode prog_9_method_29_code 209 = .ok (.iadd, 1) := by decide +kernel
theorem d_131_210 : decode prog_9_method_29_code 210 = .ok (.aload_n 0, 1) := by decide +kernel
theorem d_131_211 : decode prog_9_method_29_code 211 = .ok (.getfield 144, 3) := by decide +kernel
theorem d_131_214 : decode prog_9_method_29_code 214 = .ok (.iconst 2, 1) := by decide +kernel
theorem d_131_215 : decode prog_9_method_29_code 215 = .ok (.isub, 1) := by decide +kernel
theorem d_131_216 : decode prog_9_method_29_code 216 = .ok (.invokevirtual 169, 3) := by decide +kernel
theorem d_131_219 : decode prog_9_method_29_code 219 = .ok (.goto 13, 3) := by decide +kernel
theorem d_131_222 : decode prog_9_method_29_code 222 = .ok (.aload_n 0, 1) := by decide +kernel
theorem d_131_223 : decode prog_9_method_29_code 223 = .ok (.dup, 1) := by decide +kernel
theorem d_131_224 : decode prog_9_method_29_code 224 = .ok (.getfield 121, 3) := by decide +kernel
theorem d_131_227 : decode prog_9_method_29_code 227 = .ok (.iconst 1, 1) := by decide +kernel
theorem d_131_228 : decode prog_9_method_29_code 228 = .ok (.isub, 1) := by decide +kernel
theorem d_131_229 : decode prog_9_method_29_code 229 = .ok (.putfield 121, 3) := by decide +kernel
theorem d_131_232 : decode prog_9_method_29_code 232 = .ok (.iconst 1, 1) := by decide +kernel
theorem d_131_233 : decode prog_9_method_29_code 233 = .ok (.ireturn, 1) := by decide +kernel
theorem d_132_0 : decode prog_9_method_28_code 0 = .ok (.iload 4, 2) := by decide +kernel
theorem d_132_2 : decode prog_9_method_28_code 2 = .ok (.ifCond .le 7, 3) := by decide +kernel
theorem d_132_5 : decode prog_9_method_28_code 5 = .ok (.iconst 4, 1) := by decide +kernel
theorem d_132_6 : decode prog_9_method_28_code 6 = .ok (.goto 12, 3) := by decide +kernel
theorem d_132_9 : decode prog_9_method_28_code 9 = .ok (.iload_n 3, 1) := by decide +kernel
theorem d_132_10 : decode prog_9_method_28_code 10 = .ok (.ifCond .le 7, 3) := by decide +kernel
theorem d_132_13 : decode prog_9_method_28_code 13 = .ok (.iconst 3, 1) := by decide +kernel
theorem d_132_14 : decode prog_9_method_28_code 14 = .ok (.goto 4, 3) := by decide +kernel
theorem d_132_17 : decode prog_9_method_28_code 17 = .ok (.iconst 1, 1) := by decide +kernel
theorem d_132_18 : decode prog_9_method_28_code 18 = .ok (.istore 5, 2) := by decide +kernel
theorem d_132_20 : decode prog_9_method_28_code 20 = .ok (.aload_n 0, 1) := by decide +kernel
theorem d_132_21 : decode prog_9_method_28_code 21 = .ok (.getfield 144, 3) := by decide +kernel
theorem d_132_24 : decode prog_9_method_28_code 24 = .ok (.iload 5, 2) := by decide +kernel
theorem d_132_26 : decode prog_9_method_28_code 26 = .ok (.iconst 2, 1) := by decide +kernel
theorem d_132_27 : decode prog_9_method_28_code 27 = .ok (.iadd, 1) := by decide +kernel
theorem d_132_28 : decode prog_9_method_28_code 28 = .ok (.if_icmp .ne 56, 3) := by decide +kernel
theorem d_132_31 : decode prog_9_method_28_code 31 = .ok (.aload_n 0, 1) := by decide +kernel
theorem d_132_32 : decode prog_9_method_28_code 32 = .ok (.iconst 2, 1) := by decide +kernel
theorem d_132_33 : decode prog_9_method_28_code 33 = .ok (.invokevirtual 153, 3) := by decide +kernel
theorem d_132_36 : decode prog_9_method_28_code 36 = .ok (.iload_n 1, 1) := by decide +kernel
theorem d_132_37 : decode prog_9_method_28_code 37 = .ok (.if_icmp .ne 47, 3) := by decide +kernel
theorem d_132_40 : decode prog_9_method_28_code 40 = .ok (.iload 5, 2) := by decide +kernel
theorem d_132_42 : decode prog_9_method_28_code 42 = .ok (.iconst 2, 1) := by decide +kernel
theorem d_132_43 : decode prog_9_method_28_code 43 = .ok (.if_icmp .lt 21, 3) := by decide +kernel
theorem d_132_46 : decode prog_9_method_28_code 46 = .ok (.aload_n 0, 1) := by decide +kernel
theorem d_132_47 : decode prog_9_method_28_code 47 = .ok (.iconst 3, 1) := by decide +kernel
theorem d_132_48 : decode prog_9_method_28_code 48 = .ok (.invokevirtual 153, 3) := by decide +kernel
theorem d_132_51 : decode prog_9_method_28_code 51 = .ok (.iload_n 2, 1) := by decide +kernel
theorem d_132_52 : decode prog_9_method_28_code 52 = .ok (.if_icmp .ne 32, 3) := by decide +kernel
theorem d_132_55 : decode prog_9_method_28_code 55 = .ok (.aload_n 0, 1) := by decide +kernel
theorem d_132_56 : decode prog_9_method_28_code 56 = .ok (.iconst 4, 1) := by decide +kernel
theorem d_132_57 : decode prog_9_method_28_code 57 = .ok (.invokevirtual 153, 3) := by decide +kernel
theorem d_132_60 : decode prog_9_method_28_code 60 = .ok (.iload_n 3, 1) := by decide +kernel
theorem d_132_61 : decode prog_9_method_28_code 61 = .ok (.if_icmp .ne 23, 3) := by decide +kernel
theorem d_132_64 : decode prog_9_method_28_code 64 = .ok (.iload 5, 2) := by decide +kernel
theorem d_132_66 : decode prog_9_method_28_code 66 = .ok (.iconst 4, 1) := by decide +kernel
theorem d_132_67 : decode prog_9_method_28_code 67 = .ok (.if_icmp .lt 13, 3) := by decide +kernel
theorem d_132_70 : decode prog_9_method_28_code 70 = .ok (.aload_n 0, 1) := by decide +kernel
theorem d_132_71 : decode prog_9_method_28_code 71 = .ok (.iconst 5, 1) := by decide +kernel
theorem d_132_72 : decode prog_9_method_28_code 72 = .ok (.invokevirtual 153, 3) := by decide +kernel
theorem d_132_75 : decode prog_9_method_28_code 75 = .ok (.iload 4, 2) := by decide +kernel
theorem d_132_77 : decode prog_9_method_28_code 77 = .ok (.if_icmp .ne 7, 3) := by decide +kernel
theorem d_132_80 : decode prog_9_method_28_code 80 = .ok (.iconst 1, 1) := by decide +kernel
theorem d_132_81 : decode prog_9_method_28_code 81 = .ok (.goto 4, 3) := by decide +kernel
theorem d_132_84 : decode prog_9_method_28_code 84 = .ok (.iconst 0, 1) := by decide +kernel
theorem d_132_85 : decode prog_9_method_28_code 85 = .ok (.ireturn, 1) := by decide +kernel
theorem d_133_0 : decode prog_9_method_16_code 0 = .ok (.aload_n 0, 1) := by decide +kernel
theorem d_133_1 : decode prog_9_method_16_code 1 = .ok (.getfield 27, 3) := by decide +kernel
theorem d_133_4 : decode prog_9_method_16_code 4 = .ok (.iload_n 1, 1) := by decide +kernel
theorem d_133_5 : decode prog_9_method_16_code 5 = .ok (.iload_n 2, 1) := by decide +kernel
theorem d_133_6 : decode prog_9_method_16_code 6 = .ok (.iastore, 1) := by decide +kernel
theorem d_133_7 : decode prog_9_method_16_code 7 = .ok (.aload_n 0, 1) := by decide +kernel
theorem d_133_8 : decode prog_9_method_16_code 8 = .ok (.getfield 30, 3) := by decide +kernel
theorem d_133_11 : decode prog_9_method_16_code 11 = .ok (.iload_n 1, 1) := by decide +kernel
theorem d_133_12 : decode prog_9_method_16_code 12 = .ok (.iload_n 3, 1) := by decide +kernel
theorem d_133_13 : decode prog_9_method_16_code 13 = .ok (.iastore, 1) := by decide +kernel
theorem d_133_14 : decode prog_9_method_16_code 14 = .ok (.return_, 1) := by decide +kernel
theorem d_134_0 : decode prog_9_method_30_code 0 = .ok (.aload_n 0, 1) := by decide +kernel
theorem d_134_1 : decode prog_9_method_30_code 1 = .ok (.iconst 0, 1) := by decide +kernel
theorem d_134_2 : decode prog_9_method_30_code 2 = .ok (.invokevirtual 153, 3) := by decide +kernel
theorem d_134_5 : decode prog_9_method_30_code 5 = .ok (.istore_n 2, 1) := by decide +kernel
theorem d_134_6 : decode prog_9_method_30_code 6 = .ok (.aload_n 0, 1) := by decide +kernel
theorem d_134_7 : decode prog_9_method_30_code 7 = .ok (.iconst 1, 1) := by decide +kernel
theorem d_134_8 : decode prog_9_method_30_code 8 = .ok (.invokevirtual 153, 3) := by decide +kernel
theorem d_134_11 : decode prog_9_method_30_code 11 = .ok (.istore_n 3, 1) := by decide +kernel
theorem d_134_12 : decode prog_9_method_30_code 12 = .ok (.aload_n 0, 1) := by decide +kernel
theorem d_134_13 : decode prog_9_method_30_code 13 = .ok (.getfield 144, 3) := by decide +kernel
theorem d_134_16 : decode prog_9_method_30_code 16 = .ok (.iconst 2, 1) := by decide +kernel
theorem d_134_17 : decode prog_9_method_30_code 17 = .ok (.if_icmp .ne 7, 3) := by decide +kernel
theorem d_134_20 : decode prog_9_method_30_code 20 = .ok (.iconst 1, 1) := by decide +kernel
theorem d_134_21 : decode prog_9_method_30_code 21 = .ok (.goto 4, 3) := by decide +kernel
theorem d_134_24 : decode prog_9_method_30_code 24 = .ok (.iconst 0, 1) := by decide +kernel
theorem d_134_25 : decode prog_9_method_30_code 25 = .ok (.istore 4, 2) := by decide +kernel
theorem d_134_27 : decode prog_9_method_30_code 27 = .ok (.iload_n 2, 1) := by decide +kernel
theorem d_134_28 : decode prog_9_method_30_code 28 = .ok (.bipush 126, 2) := by decide +kernel
theorem d_134_30 : decode prog_9_method_30_code 30 = .ok (.if_icmp .eq 49, 3) := by decide +kernel
theorem d_134_33 : decode prog_9_method_30_code 33 = .ok (.aload_n 0, 1) := by decide +kernel
theorem d_134_34 : decode prog_9_method_30_code 34 = .ok (.iconst 4, 1) := by decide +kernel
theorem d_134_35 : decode prog_9_method_30_code 35 = .ok (.iload_n 1, 1) := by decide +kernel
theorem d_134_36 : decode prog_9_method_30_code 36 = .ok (.invokevirtual 172, 3) := by decide +kernel
theorem d_134_39 : decode prog_9_method_30_code 39 = .ok (.istore 5, 2) := by decide +kernel
theorem d_134_41 : decode prog_9_method_30_code 41 = .ok (.aload_n 0, 1) := by decide +kernel
theorem d_134_42 : decode prog_9_method_30_code 42 = .ok (.iload 5, 2) := by decide +kernel
theorem d_134_44 : decode prog_9_method_30_code 44 = .ok (.aload_n 0, 1) := by decide +kernel
theorem d_134_45 : decode prog_9_method_30_code 45 = .ok (.getfield 147, 3) := by decide +kernel
theorem d_134_48 : decode prog_9_method_30_code 48 = .ok (.aload_n 0, 1) := by decide +kernel
theorem d_134_49 : decode prog_9_method_30_code 49 = .ok (.getfield 144, 3) := by decide +kernel
theorem d_134_52 : decode prog_9_method_30_code 52 = .ok (.invokevirtual 169, 3) := by decide +kernel
theorem d_134_55 : decode prog_9_method_30_code 55 = .ok (.iload_n 2, 1) := by decide +kernel
theorem d_134_56 : decode prog_9_method_30_code 56 = .ok (.bipush 94, 2) := by decide +kernel
theorem d_134_58 : decode prog_9_method_30_code 58 = .ok (.if_icmp .eq 9, 3) := by decide +kernel
theorem d_134_61 : decode prog_9_method_30_code 61 = .ok (.iload_n 2, 1) := by decide +kernel
theorem d_134_62 : decode prog_9_method_30_code 62 = .ok (.bipush 96, 2) := by decide +kernel
theorem d_134_64 : decode prog_9_method_30_code 64 = .ok (.if_icmp .ne 8, 3) := by decide +kernel
theorem d_134_67 : decode prog_9_method_30_code 67 = .ok (.aload_n 0, 1) := by decide +kernel
theorem d_134_68 : decode prog_9_method_30_code 68 = .ok (.iload_n 1, 1) := by decide +kernel
theorem d_134_69 : decode prog_9_method_30_code 69 = .ok (.invokevirtual 134, 3) := by decide +kernel
theorem d_134_72 : decode prog_9_method_30_code 72 = .ok (.aload_n 0, 1) := by decide +kernel
theorem d_134_73 : decode prog_9_method_30_code 73 = .ok (.iload 5, 2) := by decide +kernel
theorem d_134_75 : decode prog_9_method_30_code 75 = .ok (.invokevirtual 176, 3) := by decide +kernel
theorem d_134_78 : decode prog_9_method_30_code 78 = .ok (.return_, 1) := by decide +kernel
theorem d_134_79 : decode prog_9_method_30_code 79 = .ok (.iload_n 3, 1) := by decide +kernel
theorem d_134_80 : decode prog_9_method_30_code 80 = .ok (.bipush 95, 2) := by decide +kernel
theorem d_134_82 : decode prog_9_method_30_code 82 = .ok (.if_icmp .eq 57, 3) := by decide +kernel
theorem d_134_85 : decode prog_9_method_30_code 85 = .ok (.iload_n 3, 1) := by decide +kernel
theorem d_134_86 : decode prog_9_method_30_code 86 = .ok (.bipush 63, 2) := by decide +kernel
theorem d_134_88 : decode prog_9_method_30_code 88 = .ok (.if_icmp .eq 51, 3) := by decide +kernel
theorem d_134_91 : decode prog_9_method_30_code 91 = .ok (.iload_n 3, 1) := by decide +kernel
theorem d_134_92 : decode prog_9_method_30_code 92 = .ok (.bipush 105, 2) := by decide +kernel
theorem d_134_94 : decode prog_9_method_30_code 94 = .ok (.if_icmp .eq 45, 3) := by decide +kernel
theorem d_134_97 : decode prog_9_method_30_code 97 = .ok (.iload_n 3, 1) := by decide +kernel
theorem d_134_98 : decode prog_9_method_30_code 98 = .ok (.bipush 109, 2) := by decide +kernel
theorem d_134_100 : decode prog_9_method_30_code 100 = .ok (.if_icmp .eq 39, 3) := by decide +kernel
theorem d_134_103 : decode prog_9_method_30_code 103 = .ok (.iload_n 3, 1) := by decide +kernel
theorem d_134_104 : decode prog_9_method_30_code 104 = .ok (.bipush 58, 2) := by decide +kernel
theorem d_134_106 : decode prog_9_method_30_code 106 = .ok (.if_icmp .eq 33, 3) := by decide +kernel
theorem d_134_109 : decode prog_9_method_30_code 109 = .ok (.iload_n 3, 1) := by decide +kernel
theorem d_134_110 : decode prog_9_method_30_code 110 = .ok (.bipush 36, 2) := by decide +kernel
theorem d_134_112 : decode prog_9_method_30_code 112 = .ok (.if_icmp .eq 27, 3) := by decide +kernel
theorem d_134_115 : decode prog_9_method_30_code 115 = .ok (.iload_n 3, 1) := by decide +kernel
theorem d_134_116 : decode prog_9_method_30_code 116 = .ok (.bipush 99, 2) := by decide +kernel
theorem d_134_118 : decode prog_9_method_30_code 118 = .ok (.if_icmp .eq 21, 3) := by decide +kernel
theorem d_134_121 : decode prog_9_method_30_code 121 = .ok (.iload_n 3, 1) := by decide +kernel
theorem d_134_122 : decode prog_9_method_30_code 122 = .ok (.bipush 126, 2) := by decide +kernel
theorem d_134_124 : decode prog_9_method_30_code 124 = .ok (.if_icmp .eq 15, 3) := by decide +kernel
theorem d_134_127 : decode prog_9_method_30_code 127 = .ok (.iload_n 3, 1) := by decide +kernel
theorem d_134_128 : decode prog_9_method_30_code 128 = .ok (.bipush 94, 2) := by decide +kernel
theorem d_134_130 : decode prog_9_method_30_code 130 = .ok (.if_icmp .eq 9, 3) := by decide +kernel
theorem d_134_133 : decode prog_9_method_30_code 133 = .ok (.iload_n 3, 1) := by decide +kernel
theorem d_134_134 : decode prog_9_method_30_code 134 = .ok (.bipush 96, 2) := by decide +kernel
theorem d_134_136 : decode prog_9_method_30_code 136 = .ok (.if_icmp .ne 7, 3) := by decide +kernel
theorem d_134_139 : decode prog_9_method_30_code 139 = .ok (.iconst 1, 1) := by decide +kernel
theorem d_134_140 : decode prog_9_method_30_code 140 = .ok (.goto 4, 3) := by decide +kernel
theorem d_134_143 : decode prog_9_method_30_code 143 = .ok (.iconst 0, 1) := by decide +kernel
theorem d_134_144 : decode prog_9_method_30_code 144 = .ok (.istore 5, 2) := by decide +kernel
theorem d_134_146 : decode prog_9_method_30_code 146 = .ok (.aload_n 0, 1) := by decide +kernel
theorem d_134_147 : decode prog_9_method_30_code 147 = .ok (.iload_n 3, 1) := by decide +kernel
theorem d_134_148 : decode prog_9_method_30_code 148 = .ok (.bipush 95, 2) := by decide +kernel
theorem d_134_150 : decode prog_9_method_30_code 150 = .ok (.if_icmp .ne 7, 3) := by decide +kernel
theorem d_134_153 : decode prog_9_method_30_code 153 = .ok (.iconst 0, 1) := by decide +kernel
theorem d_134_154 : decode prog_9_method_30_code 154 = .ok (.goto 76, 3) := by decide +kernel
theorem d_134_157 : decode prog_9_method_30_code 157 = .ok (.iload_n 3, 1) := by decide +kernel
theorem d_134_158 : decode prog_9_method_30_code 158 = .ok (.bipush 63, 2) := by decide +kernel
theorem d_134_160 : decode prog_9_method_30_code 160 = .ok (.if_icmp .ne 7, 3) := by decide +kernel
theorem d_134_163 : decode prog_9_method_30_code 163 = .ok (.iconst 1, 1) := by decide +kernel
theorem d_134_164 : decode prog_9_method_30_code 164 = .ok (.goto 66, 3) := by decide +kernel
theorem d_134_167 : decode prog_9_method_30_code 167 = .ok (.iload_n 3, 1) := by decide +kernel
theorem d_134_168 : decode prog_9_method_30_code 168 = .ok (.bipush 105, 2) := by decide +kernel
theorem d_134_170 : decode prog_9_method_30_code 170 = .ok (.if_icmp .ne 7, 3) := by decide +kernel
theorem d_134_173 : decode prog_9_method_30_code 173 = .ok (.iconst 2, 1) := by decide +kernel
theorem d_134_174 : decode prog_9_method_30_code 174 = .ok (.goto 56, 3) := by decide +kernel
theorem d_134_177 : decode prog_9_method_30_code 177 = .ok (.iload_n 3, 1) := by decide +kernel
theorem d_134_178 : decode prog_9_method_30_code 178 = .ok (.bipush 109, 2) := by decide +kernel
theorem d_134_180 : decode prog_9_method_30_code 180 = .ok (.if_icmp .ne 7, 3) := by decide +kernel
theorem d_134_183 : decode prog_9_method_30_code 183 = .ok (.iconst 3, 1) := by decide +kernel
theorem d_134_184 : decode prog_9_method_30_code 184 = .ok (.goto 46, 3) := by decide +kernel
theorem d_134_187 : decode prog_9_method_30_code 187 = .ok (.iload_n 3, 1) := by decide +kernel
theorem d_134_188 : decode prog_9_method_30_code 188 = .ok (.bipush 58, 2) := by decide +kernel
theorem d_134_190 : decode prog_9_method_30_code 190 = .ok (.if_icmp .ne 7, 3) := by decide +kernel
theorem d_134_193 : decode prog_9_method_30_code 193 = .ok (.iconst 5, 1) := by decide +kernel
theorem d_134_194 : decode prog_9_method_30_code 194 = .ok (.goto 36, 3) := by decide +kernel
theorem d_134_197 : decode prog_9_method_30_code 197 = .ok (.iload_n 3, 1) := by decide +kernel
theorem d_134_198 : decode prog_9_method_30_code 198 = .ok (.bipush 36, 2) := by decide +kernel
theorem d_134_200 : decode prog_9_method_30_code 200 = .ok (.if_icmp .ne 8, 3) := by decide +kernel
theorem d_134_203 : decode prog_9_method_30_code 203 = .ok (.bipush 6, 2) := by decide +kernel
theorem d_134_205 : decode prog_9_method_30_code 205 = .ok (.goto 25, 3) := by decide +kernel
theorem d_134_208 : decode prog_9_method_30_code 208 = .ok (.iload_n 3, 1) := by decide +kernel
theorem d_134_209 : decode prog_9_method_30_code 209 = .ok (.bipush 99, 2) := by decide +kernel
theorem d_134_211 : decode prog_9_method_30_code 211 = .ok (.if_icmp .ne 8, 3) := by decide +kernel
theorem d_134_214 : decode prog_9_method_30_code 214 = .ok (.bipush 7, 2) := by decide +kernel
theorem d_134_216 : decode prog_9_method_30_code 216 = .ok (.goto 14, 3) := by decide +kernel
theorem d_134_219 : decode prog_9_method_30_code 219 = .ok (.iload 5, 2) := by decide +kernel
theorem d_134_221 : decode prog_9_method_30_code 221 = .ok (.ifCond .eq 7, 3) := by decide +kernel
theorem d_134_224 : decode prog_9_method_30_code 224 = .ok (.iconst 4, 1) := by decide +kernel
theorem d_134_225 : decode prog_9_method_30_code 225 = .ok (.goto 5, 3) := by decide +kernel
theorem d_134_228 : decode prog_9_method_30_code 228 = .ok (.bipush 12, 2) := by decide +kernel
theorem d_134_230 : decode prog_9_method_30_code 230 = .ok (.iload_n 1, 1) := by decide +kernel
theorem d_134_231 : decode prog_9_method_30_code 231 = .ok (.invokevirtual 172, 3) := by decide +kernel
theorem d_134_234 : decode prog_9_method_30_code 234 = .ok (.istore 6, 2) := by decide +kernel
theorem d_134_236 : decode prog_9_method_30_code 236 = .ok (.iconst 1, 1) := by decide +kernel
theorem d_134_237 : decode prog_9_method_30_code 237 = .ok (.istore 7, 2) := by decide +kernel
theorem d_134_239 : decode prog_9_method_30_code 239 = .ok (.iload_n 3, 1) := by decide +kernel
theorem d_134_240 : decode prog_9_method_30_code 240 = .ok (.bipush 95, 2) := by decide +kernel
theorem d_134_242 : decode prog_9_method_30_code 242 = .ok (.if_icmp .ne 10, 3) := by decide +kernel
theorem d_134_245 : decode prog_9_method_30_code 245 = .ok (.iload 4, 2) := by decide +kernel
theorem d_134_247 : decode prog_9_method_30_code 247 = .ok (.istore 7, 2) := by decide +kernel
theorem d_134_249 : decode prog_9_method_30_code 249 = .ok (.goto 276, 3) := by decide +kernel
theorem d_134_252 : decode prog_9_method_30_code 252 = .ok (.iload_n 3, 1) := by decide +kernel
theorem d_134_253 : decode prog_9_method_30_code 253 = .ok (.bipush 63, 2) := by decide +kernel
theorem d_134_255 : decode prog_9_method_30_code 255 = .ok (.if_icmp .ne 63, 3) := by decide +kernel
theorem d_134_258 : decode prog_9_method_30_code 258 = .ok (.aload_n 0, 1) := by decide +kernel
theorem d_134_259 : decode prog_9_method_30_code 259 = .ok (.getfield 144, 3) := by decide +kernel
theorem d_134_262 : decode prog_9_method_30_code 262 = .ok (.iconst 3, 1) := by decide +kernel
theorem d_134_263 : decode prog_9_method_30_code 263 = .ok (.if_icmp .ne 27, 3) := by decide +kernel
theorem d_134_266 : decode prog_9_method_30_code 266 = .ok (.aload_n 0, 1) := by decide +kernel
theorem d_134_267 : decode prog_9_method_30_code 267 = .ok (.iconst 2, 1) := by decide +kernel
theorem d_134_268 : decode prog_9_method_30_code 268 = .ok (.invokevirtual 153, 3) := by decide +kernel
theorem d_134_271 : decode prog_9_method_30_code 271 = .ok (.bipush 116, 2) := by decide +kernel
theorem d_134_273 : decode prog_9_method_30_code 273 = .ok (.if_icmp .eq 13, 3) := by decide +kernel
theorem d_134_276 : decode prog_9_method_30_code 276 = .ok (.aload_n 0, 1) := by decide +kernel
theorem d_134_277 : decode prog_9_method_30_code 277 = .ok (.iconst 2, 1) := by decide +kernel
theorem d_134_278 : decode prog_9_method_30_code 278 = .ok (.invokevirtual 153, 3) := by decide +kernel
theorem d_134_281 : decode prog_9_method_30_code 281 = .ok (.bipush 102, 2) := by decide +kernel
theorem d_134_283 : decode prog_9_method_30_code 283 = .ok (.if_icmp .ne 7, 3) := by decide +kernel
theorem d_134_286 : decode prog_9_method_30_code 286 = .ok (.iconst 1, 1) := by decide +kernel
theorem d_134_287 : decode prog_9_method_30_code 287 = .ok (.goto 4, 3) := by decide +kernel
theorem d_134_290 : decode prog_9_method_30_code 290 = .ok (.iconst 0, 1) := by decide +kernel
theorem d_134_291 : decode prog_9_method_30_code 291 = .ok (.istore 7, 2) := by decide +kernel
theorem d_134_293 : decode prog_9_method_30_code 293 = .ok (.aload_n 0, 1) := by decide +kernel
theorem d_134_294 : decode prog_9_method_30_code 294 = .ok (.getfield 23, 3) := by decide +kernel
theorem d_134_297 : decode prog_9_method_30_code 297 = .ok (.iload 6, 2) := by decide +kernel
theorem d_134_299 : decode prog_9_method_30_code 299 = .ok (.aload_n 0, 1) := by decide +kernel
theorem d_134_300 : decode prog_9_method_30_code 300 = .ok (.iconst 2, 1) := by decide +kernel
theorem d_134_301 : decode prog_9_method_30_code 301 = .ok (.invokevirtual 153, 3) := by decide +kernel
theorem d_134_304 : decode prog_9_method_30_code 304 = .ok (.bipush 116, 2) := by decide +kernel
theorem d_134_306 : decode prog_9_method_30_code 306 = .ok (.if_icmp .ne 7, 3) := by decide +kernel
theorem d_134_309 : decode prog_9_method_30_code 309 = .ok (.lconst 1, 1) := by decide +kernel
theorem d_134_310 : decode prog_9_method_30_code 310 = .ok (.goto 4, 3) := by decide +kernel
theorem d_134_313 : decode prog_9_method_30_code 313 = .ok (.lconst 0, 1) := by decide +kernel
theorem d_134_314 : decode prog_9_method_30_code 314 = .ok (.lastore, 1) := by decide +kernel
theorem d_134_315 : decode prog_9_method_30_code 315 = .ok (.goto 210, 3) := by decide +kernel
theorem d_134_318 : decode prog_9_method_30_code 318 = .ok (.iload_n 3, 1) := by decide +kernel
theorem d_134_319 : decode prog_9_method_30_code 319 = .ok (.bipush 105, 2) := by decide +kernel
theorem d_134_321 : decode prog_9_method_30_code 321 = .ok (.if_icmp .eq 9, 3) := by decide +kernel
theorem d_134_324 : decode prog_9_method_30_code 324 = .ok (.iload_n 3, 1) := by decide +kernel
theorem d_134_325 : decode prog_9_method_30_code 325 = .ok (.bipush 109, 2) := by decide +kernel
theorem d_134_327 : decode prog_9_method_30_code 327 = .ok (.if_icmp .ne 14, 3) := by decide +kernel
theorem d_134_330 : decode prog_9_method_30_code 330 = .ok (.aload_n 0, 1) := by decide +kernel
theorem d_134_331 : decode prog_9_method_30_code 331 = .ok (.iload 6, 2) := by decide +kernel
theorem d_134_333 : decode prog_9_method_30_code 333 = .ok (.invokevirtual 179, 3) := by decide +kernel
theorem d_134_336 : decode prog_9_method_30_code 336 = .ok (.istore 7, 2) := by decide +kernel
theorem d_134_338 : decode prog_9_method_30_code 338 = .ok (.goto 187, 3) := by decide +kernel
theorem d_134_341 : decode prog_9_method_30_code 341 = .ok (.iload_n 3, 1) := by decide +kernel
theorem d_134_342 : decode prog_9_method_30_code 342 = .ok (.bipush 58, 2) := by decide +kernel
theorem d_134_344 : decode prog_9_method_30_code 344 = .ok (.if_icmp .eq 9, 3) := by decide +kernel
theorem d_134_347 : decode prog_9_method_30_code 347 = .ok (.iload_n 3, 1) := by decide +kernel
theorem d_134_348 : decode prog_9_method_30_code 348 = .ok (.bipush 36, 2) := by decide +kernel
theorem d_134_350 : decode prog_9_method_30_code 350 = .ok (.if_icmp .ne 36, 3) := by decide +kernel
theorem d_134_353 : decode prog_9_method_30_code 353 = .ok (.iload 4, 2) := by decide +kernel
theorem d_134_355 : decode prog_9_method_30_code 355 = .ok (.ifCond .ne 7, 3) := by decide +kernel
theorem d_134_358 : decode prog_9_method_30_code 358 = .ok (.iconst 1, 1) := by decide +kernel
theorem d_134_359 : decode prog_9_method_30_code 359 = .ok (.goto 4, 3) := by decide +kernel
theorem d_134_362 : decode prog_9_method_30_code 362 = .ok (.iconst 0, 1) := by decide +kernel
theorem d_134_363 : decode prog_9_method_30_code 363 = .ok (.istore 7, 2) := by decide +kernel
theorem d_134_365 : decode prog_9_method_30_code 365 = .ok (.aload_n 0, 1) := by decide +kernel
theorem d_134_366 : decode prog_9_method_30_code 366 = .ok (.iload 6, 2) := by decide +kernel
theorem d_134_368 : decode prog_9_method_30_code 368 = .ok (.aload_n 0, 1) := by decide +kernel
theorem d_134_369 : decode prog_9_method_30_code 369 = .ok (.getfield 147, 3) := by decide +kernel
theorem d_134_372 : decode prog_9_method_30_code 372 = .ok (.iconst 2, 1) := by decide +kernel
theorem d_134_373 : decode prog_9_method_30_code 373 = .ok (.iadd, 1) := by decide +kernel
theorem d_134_374 : decode prog_9_method_30_code 374 = .ok (.aload_n 0, 1) := by decide +kernel
theorem d_134_375 : decode prog_9_method_30_code 375 = .ok (.getfield 144, 3) := by decide +kernel
theorem d_134_378 : decode prog_9_method_30_code 378 = .ok (.iconst 2, 1) := by decide +kernel
theorem d_134_379 : decode prog_9_method_30_code 379 = .ok (.isub, 1) := by decide +kernel
theorem d_134_380 : decode prog_9_method_30_code 380 = .ok (.invokevirtual 169, 3) := by decide +kernel
theorem d_134_383 : decode prog_9_method_30_code 383 = .ok (.goto 142, 3) := by decide +kernel
theorem d_134_386 : decode prog_9_method_30_code 386 = .ok (.iload_n 3, 1) := by decide +kernel
theorem d_134_387 : decode prog_9_method_30_code 387 = .ok (.bipush 99, 2) := by decide +kernel
theorem d_134_389 : decode prog_9_method_30_code 389 = .ok (.if_icmp .ne 34, 3) := by decide +kernel
theorem d_134_392 : decode prog_9_method_30_code 392 = .ok (.aload_n 0, 1) := by decide +kernel
theorem d_134_393 : decode prog_9_method_30_code 393 = .ok (.getfield 144, 3) := by decide +kernel
theorem d_134_396 : decode prog_9_method_30_code 396 = .ok (.iconst 3, 1) := by decide +kernel
theorem d_134_397 : decode prog_9_method_30_code 397 = .ok (.if_icmp .ne 7, 3) := by decide +kernel
theorem d_134_400 : decode prog_9_method_30_code 400 = .ok (.iconst 1, 1) := by decide +kernel
theorem d_134_401 : decode prog_9_method_30_code 401 = .ok (.goto 4, 3) := by decide +kernel
theorem d_134_404 : decode prog_9_method_30_code 404 = .ok (.iconst 0, 1) := by decide +kernel
theorem d_134_405 : decode prog_9_method_30_code 405 = .ok (.istore 7, 2) := by decide +kernel
theorem d_134_407 : decode prog_9_method_30_code 407 = .ok (.aload_n 0, 1) := by decide +kernel
theorem d_134_408 : decode prog_9_method_30_code 408 = .ok (.getfield 23, 3) := by decide +kernel
theorem d_134_411 : decode prog_9_method_30_code 411 = .ok (.iload 6, 2) := by decide +kernel
theorem d_134_413 : decode prog_9_method_30_code 413 = .ok (.aload_n 0, 1) := by decide +kernel
theorem d_134_414 : decode prog_9_method_30_code 414 = .ok (.iconst 2, 1) := by decide +kernel
theorem d_134_415 : decode prog_9_method_30_code 415 = .ok (.invokevirtual 153, 3) := by decide +kernel
theorem d_134_418 : decode prog_9_method_30_code 418 = .ok (.i2l, 1) := by decide +kernel
theorem d_134_419 : decode prog_9_method_30_code 419 = .ok (.lastore, 1) := by decide +kernel
theorem d_134_420 : decode prog_9_method_30_code 420 = .ok (.goto 105, 3) := by decide +kernel
theorem d_134_423 : decode prog_9_method_30_code 423 = .ok (.iload 5, 2) := by decide +kernel
theorem d_134_425 : decode prog_9_method_30_code 425 = .ok (.ifCond .eq 24, 3) := by decide +kernel
theorem d_134_428 : decode prog_9_method_30_code 428 = .ok (.aload_n 0, 1) := by decide +kernel
theorem d_134_429 : decode prog_9_method_30_code 429 = .ok (.iload 6, 2) := by decide +kernel
theorem d_134_431 : decode prog_9_method_30_code 431 = .ok (.aload_n 0, 1) := by decide +kernel
theorem d_134_432 : decode prog_9_method_30_code 432 = .ok (.getfield 147, 3) := by decide +kernel
theorem d_134_435 : decode prog_9_method_30_code 435 = .ok (.iconst 1, 1) := by decide +kernel
theorem d_134_436 : decode prog_9_method_30_code 436 = .ok (.iadd, 1) := by decide +kernel
theorem d_134_437 : decode prog_9_method_30_code 437 = .ok (.aload_n 0, 1) := by decide +kernel
theorem d_134_438 : decode prog_9_method_30_code 438 = .ok (.getfield 144, 3) := by decide +kernel
theorem d_134_441 : decode prog_9_method_30_code 441 = .ok (.iconst 1, 1) := by decide +kernel
theorem d_134_442 : decode prog_9_method_30_code 442 = .ok (.isub, 1) := by decide +kernel
theorem d_134_443 : decode prog_9_method_30_code 443 = .ok (.invokevirtual 169, 3) := by decide +kernel
theorem d_134_446 : decode prog_9_method_30_code 446 = .ok (.goto 79, 3) := by decide +kernel
theorem d_134_449 : decode prog_9_method_30_code 449 = .ok (.iload_n 3, 1) := by decide +kernel
theorem d_134_450 : decode prog_9_method_30_code 450 = .ok (.invokestatic 182, 3) := by decide +kernel
theorem d_134_453 : decode prog_9_method_30_code 453 = .ok (.istore 7, 2) := by decide +kernel
theorem d_134_455 : decode prog_9_method_30_code 455 = .ok (.aload_n 0, 1) := by decide +kernel
theorem d_134_456 : decode prog_9_method_30_code 456 = .ok (.iload 6, 2) := by decide +kernel
theorem d_134_458 : decode prog_9_method_30_code 458 = .ok (.aload_n 0, 1) := by decide +kernel
theorem d_134_459 : decode prog_9_method_30_code 459 = .ok (.getfield 147, 3) := by decide +kernel
theorem d_134_462 : decode prog_9_method_30_code 462 = .ok (.iconst 1, 1) := by decide +kernel
theorem d_134_463 : decode prog_9_method_30_code 463 = .ok (.iadd, 1) := by decide +kernel
theorem d_134_464 : decode prog_9_method_30_code 464 = .ok (.iconst 1, 1) := by decide +kernel
theorem d_134_465 : decode prog_9_method_30_code 465 = .ok (.invokevirtual 169, 3) := by decide +kernel
theorem d_134_468 : decode prog_9_method_30_code 468 = .ok (.aload_n 0, 1) := by decide +kernel
theorem d_134_469 : decode prog_9_method_30_code 469 = .ok (.getfield 33, 3) := by decide +kernel
theorem d_134_472 : decode prog_9_method_30_code 472 = .ok (.iload 6, 2) := by decide +kernel
theorem d_134_474 : decode prog_9_method_30_code 474 = .ok (.iconst 1, 1) := by decide +kernel
theorem d_134_475 : decode prog_9_method_30_code 475 = .ok (.iastore, 1) := by decide +kernel
theorem d_134_476 : decode prog_9_method_30_code 476 = .ok (.aload_n 0, 1) := by decide +kernel
theorem d_134_477 : decode prog_9_method_30_code 477 = .ok (.iconst 4, 1) := by decide +kernel
theorem d_134_478 : decode prog_9_method_30_code 478 = .ok (.iload_n 1, 1) := by decide +kernel
theorem d_134_479 : decode prog_9_method_30_code 479 = .ok (.invokevirtual 172, 3) := by decide +kernel
theorem d_134_482 : decode prog_9_method_30_code 482 = .ok (.istore 8, 2) := by decide +kernel
theorem d_134_484 : decode prog_9_method_30_code 484 = .ok (.aload_n 0, 1) := by decide +kernel
theorem d_134_485 : decode prog_9_method_30_code 485 = .ok (.iload 8, 2) := by decide +kernel
theorem d_134_487 : decode prog_9_method_30_code 487 = .ok (.aload_n 0, 1) := by decide +kernel
theorem d_134_488 : decode prog_9_method_30_code 488 = .ok (.getfield 147, 3) := by decide +kernel
theorem d_134_491 : decode prog_9_method_30_code 491 = .ok (.iconst 2, 1) := by decide +kernel
theorem d_134_492 : decode prog_9_method_30_code 492 = .ok (.iadd, 1) := by decide +kernel
theorem d_134_493 : decode prog_9_method_30_code 493 = .ok (.iload 4, 2) := by decide +kernel
theorem d_134_495 : decode prog_9_method_30_code 495 = .ok (.ifCond .ne 11, 3) := by decide +kernel
theorem d_134_498 : decode prog_9_method_30_code 498 = .ok (.aload_n 0, 1) := by decide +kernel
theorem d_134_499 : decode prog_9_method_30_code 499 = .ok (.getfield 144, 3) := by decide +kernel
theorem d_134_502 : decode prog_9_method_30_code 502 = .ok (.iconst 2, 1) := by decide +kernel
theorem d_134_503 : decode prog_9_method_30_code 503 = .ok (.if_icmp .ge 7, 3) := by decide +kernel
theorem d_134_506 : decode prog_9_method_30_code 506 = .ok (.iconst 0, 1) := by decide +kernel
theorem d_134_507 : decode prog_9_method_30_code 507 = .ok (.goto 9, 3) := by decide +kernel
theorem d_134_510 : decode prog_9_method_30_code 510 = .ok (.aload_n 0, 1) := by decide +kernel
theorem d_134_511 : decode prog_9_method_30_code 511 = .ok (.getfield 144, 3) := by decide +kernel
theorem d_134_514 : decode prog_9_method_30_code 514 = .ok (.iconst 2, 1) := by decide +kernel
theorem d_134_515 : decode prog_9_method_30_code 515 = .ok (.isub, 1) := by decide +kernel
theorem d_134_516 : decode prog_9_method_30_code 516 = .ok (.invokevirtual 169, 3) := by decide +kernel
theorem d_134_519 : decode prog_9_method_30_code 519 = .ok (.aload_n 0, 1) := by decide +kernel
theorem d_134_520 : decode prog_9_method_30_code 520 = .ok (.iload 8, 2) := by decide +kernel
theorem d_134_522 : decode prog_9_method_30_code 522 = .ok (.invokevirtual 176, 3) := by decide +kernel
theorem d_134_525 : decode prog_9_method_30_code 525 = .ok (.iload 7, 2) := by decide +kernel
theorem d_134_527 : decode prog_9_method_30_code 527 = .ok (.ifCond .ne 8, 3) := by decide +kernel
theorem d_134_530 : decode prog_9_method_30_code 530 = .ok (.aload_n 0, 1) := by decide +kernel
theorem d_134_531 : decode prog_9_method_30_code 531 = .ok (.iload_n 1, 1) := by decide +kernel
theorem d_134_532 : decode prog_9_method_30_code 532 = .ok (.invokevirtual 134, 3) := by decide +kernel
theorem d_134_535 : decode prog_9_method_30_code 535 = .ok (.aload_n 0, 1) := by decide +kernel
theorem d_134_536 : decode prog_9_method_30_code 536 = .ok (.iload 6, 2) := by decide +kernel
theorem d_134_538 : decode prog_9_method_30_code 538 = .ok (.invokevirtual 176, 3) := by decide +kernel
theorem d_134_541 : decode prog_9_method_30_code 541 = .ok (.return_, 1) := by decide +kernel
theorem d_135_0 : decode prog_9_method_15_code 0 = .ok (.aload_n 0, 1) := by decide +kernel
theorem d_135_1 : decode prog_9_method_15_code 1 = .ok (.getfield 36, 3) := by decide +kernel
theorem d_135_4 : decode prog_9_method_15_code 4 = .ok (.iload_n 1, 1) := by decide +kernel
theorem d_135_5 : decode prog_9_method_15_code 5 = .ok (.sipush 256, 3) := by decide +kernel
theorem d_135_8 : decode prog_9_method_15_code 8 = .ok (.aload_n 0, 1) := by decide +kernel
theorem d_135_9 : decode prog_9_method_15_code 9 = .ok (.getfield 121, 3) := by decide +kernel
theorem d_135_12 : decode prog_9_method_15_code 12 = .ok (.iadd, 1) := by decide +kernel
theorem d_135_13 : decode prog_9_method_15_code 13 = .ok (.iload_n 1, 1) := by decide +kernel
theorem d_135_14 : decode prog_9_method_15_code 14 = .ok (.isub, 1) := by decide +kernel
theorem d_135_15 : decode prog_9_method_15_code 15 = .ok (.iastore, 1) := by decide +kernel
theorem d_135_16 : decode prog_9_method_15_code 16 = .ok (.aload_n 0, 1) := by decide +kernel
theorem d_135_17 : decode prog_9_method_15_code 17 = .ok (.iload_n 1, 1) := by decide +kernel
theorem d_135_18 : decode prog_9_method_15_code 18 = .ok (.sipush 256, 3) := by decide +kernel
theorem d_135_21 : decode prog_9_method_15_code 21 = .ok (.sipush 256, 3) := by decide +kernel
theorem d_135_24 : decode prog_9_method_15_code 24 = .ok (.aload_n 0, 1) := by decide +kernel
theorem d_135_25 : decode prog_9_method_15_code 25 = .ok (.getfield 121, 3) := by decide +kernel
theorem d_135_28 : decode prog_9_method_15_code 28 = .ok (.iadd, 1) := by decide +kernel
theorem d_135_29 : decode prog_9_method_15_code 29 = .ok (.invokevirtual 124, 3) := by decide +kernel
theorem d_135_32 : decode prog_9_method_15_code 32 = .ok (.return_, 1) := by decide +kernel
theorem d_136_0 : decode prog_9_method_13_code 0 = .ok (.aload_n 0, 1) := by decide +kernel
theorem d_136_1 : decode prog_9_method_13_code 1 = .ok (.getfield 42, 3) := by decide +kernel
theorem d_136_4 : decode prog_9_method_13_code 4 = .ok (.iload_n 1, 1) := by decide +kernel
theorem d_136_5 : decode prog_9_method_13_code 5 = .ok (.iload_n 1, 1) := by decide +kernel
theorem d_136_6 : decode prog_9_method_13_code 6 = .ok (.iastore, 1) := by decide +kernel
theorem d_136_7 : decode prog_9_method_13_code 7 = .ok (.iload_n 2, 1) := by decide +kernel
theorem d_136_8 : decode prog_9_method_13_code 8 = .ok (.istore 4, 2) := by decide +kernel
theorem d_136_10 : decode prog_9_method_13_code 10 = .ok (.iload 4, 2) := by decide +kernel
theorem d_136_12 : decode prog_9_method_13_code 12 = .ok (.iload_n 3, 1) := by decide +kernel
theorem d_136_13 : decode prog_9_method_13_code 13 = .ok (.if_icmp .ge 120, 3) := by decide +kernel
theorem d_136_16 : decode prog_9_method_13_code 16 = .ok (.iload 4, 2) := by decide +kernel
theorem d_136_18 : decode prog_9_method_13_code 18 = .ok (.iload_n 1, 1) := by decide +kernel
theorem d_136_19 : decode prog_9_method_13_code 19 = .ok (.if_icmp .eq 76, 3) := by decide +kernel
theorem d_136_22 : decode prog_9_method_13_code 22 = .ok (.aload_n 0, 1) := by decide +kernel
theorem d_136_23 : decode prog_9_method_13_code 23 = .ok (.getfield 42, 3) := by decide +kernel
theorem d_136_26 : decode prog_9_method_13_code 26 = .ok (.iload 4, 2) := by decide +kernel
theorem d_136_28 : decode prog_9_method_13_code 28 = .ok (.iaload, 1) := by decide +kernel
theorem d_136_29 : decode prog_9_method_13_code 29 = .ok (.ifCond .lt 66, 3) := by decide +kernel
theorem d_136_32 : decode prog_9_method_13_code 32 = .ok (.aload_n 0, 1) := by decide +kernel
theorem d_136_33 : decode prog_9_method_13_code 33 = .ok (.getfield 20, 3) := by decide +kernel
theorem d_136_36 : decode prog_9_method_13_code 36 = .ok (.iload_n 1, 1) := by decide +kernel
theorem d_136_37 : decode prog_9_method_13_code 37 = .ok (.iaload, 1) := by decide +kernel
theorem d_136_38 : decode prog_9_method_13_code 38 = .ok (.aload_n 0, 1) := by decide +kernel
theorem d_136_39 : decode prog_9_method_13_code 39 = .ok (.getfield 20, 3) := by decide +kernel
theorem d_136_42 : decode prog_9_method_13_code 42 = .ok (.iload 4, 2) := by decide +kernel
theorem d_136_44 : decode prog_9_method_13_code 44 = .ok (.iaload, 1) := by decide +kernel
theorem d_136_45 : decode prog_9_method_13_code 45 = .ok (.if_icmp .ne 50, 3) := by decide +kernel
theorem d_136_48 : decode prog_9_method_13_code 48 = .ok (.aload_n 0, 1) := by decide +kernel
theorem d_136_49 : decode prog_9_method_13_code 49 = .ok (.getfield 23, 3) := by decide +kernel
theorem d_136_52 : decode prog_9_method_13_code 52 = .ok (.iload_n 1, 1) := by decide +kernel
theorem d_136_53 : decode prog_9_method_13_code 53 = .ok (.laload, 1) := by decide +kernel
theorem d_136_54 : decode prog_9_method_13_code 54 = .ok (.aload_n 0, 1) := by decide +kernel
theorem d_136_55 : decode prog_9_method_13_code 55 = .ok (.getfield 23, 3) := by decide +kernel
theorem d_136_58 : decode prog_9_method_13_code 58 = .ok (.iload 4, 2) := by decide +kernel
theorem d_136_60 : decode prog_9_method_13_code 60 = .ok (.laload, 1) := by decide +kernel
theorem d_136_61 : decode prog_9_method_13_code 61 = .ok (.lcmp, 1) := by decide +kernel
theorem d_136_62 : decode prog_9_method_13_code 62 = .ok (.ifCond .ne 33, 3) := by decide +kernel
theorem d_136_65 : decode prog_9_method_13_code 65 = .ok (.aload_n 0, 1) := by decide +kernel
theorem d_136_66 : decode prog_9_method_13_code 66 = .ok (.getfield 33, 3) := by decide +kernel
theorem d_136_69 : decode prog_9_method_13_code 69 = .ok (.iload_n 1, 1) := by decide +kernel
theorem d_136_70 : decode prog_9_method_13_code 70 = .ok (.iaload, 1) := by decide +kernel
theorem d_136_71 : decode prog_9_method_13_code 71 = .ok (.aload_n 0, 1) := by decide +kernel
theorem d_136_72 : decode prog_9_method_13_code 72 = .ok (.getfield 33, 3) := by decide +kernel
theorem d_136_75 : decode prog_9_method_13_code 75 = .ok (.iload 4, 2) := by decide +kernel
theorem d_136_77 : decode prog_9_method_13_code 77 = .ok (.iaload, 1) := by decide +kernel
theorem d_136_78 : decode prog_9_method_13_code 78 = .ok (.if_icmp .ne 17, 3) := by decide +kernel
theorem d_136_81 : decode prog_9_method_13_code 81 = .ok (.aload_n 0, 1) := by decide +kernel
theorem d_136_82 : decode prog_9_method_13_code 82 = .ok (.iload_n 1, 1) := by decide +kernel
theorem d_136_83 : decode prog_9_method_13_code 83 = .ok (.iload 4, 2) := by decide +kernel
theorem d_136_85 : decode prog_9_method_13_code 85 = .ok (.invokevirtual 114, 3) := by decide +kernel
theorem d_136_88 : decode prog_9_method_13_code 88 = .ok (.ifCond .eq 7, 3) := by decide +kernel
theorem d_136_91 : decode prog_9_method_13_code 91 = .ok (.iconst 1, 1) := by decide +kernel
theorem d_136_92 : decode prog_9_method_13_code 92 = .ok (.goto 4, 3) := by decide +kernel
theorem d_136_95 : decode prog_9_method_13_code 95 = .ok (.iconst 0, 1) := by decide +kernel
theorem d_136_96 : decode prog_9_method_13_code 96 = .ok (.istore 5, 2) := by decide +kernel
theorem d_136_98 : decode prog_9_method_13_code 98 = .ok (.iload 5, 2) := by decide +kernel
theorem d_136_100 : decode prog_9_method_13_code 100 = .ok (.ifCond .eq 27, 3) := by decide +kernel
theorem d_136_103 : decode prog_9_method_13_code 103 = .ok (.aload_n 0, 1) := by decide +kernel
theorem d_136_104 : decode prog_9_method_13_code 104 = .ok (.iload_n 1, 1) := by decide +kernel
theorem d_136_105 : decode prog_9_method_13_code 105 = .ok (.iload 4, 2) := by decide +kernel
theorem d_136_107 : decode prog_9_method_13_code 107 = .ok (.invokevirtual 118, 3) := by decide +kernel
theorem d_136_110 : decode prog_9_method_13_code 110 = .ok (.ifCond .eq 17, 3) := by decide +kernel
theorem d_136_113 : decode prog_9_method_13_code 113 = .ok (.aload_n 0, 1) := by decide +kernel
theorem d_136_114 : decode prog_9_method_13_code 114 = .ok (.getfield 42, 3) := by decide +kernel
theorem d_136_117 : decode prog_9_method_13_code 117 = .ok (.iload_n 1, 1) := by decide +kernel
theorem d_136_118 : decode prog_9_method_13_code 118 = .ok (.aload_n 0, 1) := by decide +kernel
theorem d_136_119 : decode prog_9_method_13_code 119 = .ok (.getfield 42, 3) := by decide +kernel
theorem d_136_122 : decode prog_9_method_13_code 122 = .ok (.iload 4, 2) := by decide +kernel
theorem d_136_124 : decode prog_9_method_13_code 124 = .ok (.iaload, 1) := by decide +kernel
theorem d_136_125 : decode prog_9_method_13_code 125 = .ok (.iastore, 1) := by decide +kernel
theorem d_136_126 : decode prog_9_method_13_code 126 = .ok (.return_, 1) := by decide +kernel
theorem d_136_127 : decode prog_9_method_13_code 127 = .ok (.iinc 4 1, 3) := by decide +kernel
theorem d_136_130 : decode prog_9_method_13_code 130 = .ok (.goto (-120), 3) := by decide +kernel
theorem d_136_133 : decode prog_9_method_13_code 133 = .ok (.return_, 1) := by decide +kernel
theorem d_137_0 : decode prog_9_method_10_code 0 = .ok (.aload_n 0, 1) := by decide +kernel
theorem d_137_1 : decode prog_9_method_10_code 1 = .ok (.getfield 30, 3) := by decide +kernel
theorem d_137_4 : decode prog_9_method_10_code 4 = .ok (.iload_n 1, 1) := by decide +kernel
theorem d_137_5 : decode prog_9_method_10_code 5 = .ok (.iaload, 1) := by decide +kernel
theorem d_137_6 : decode prog_9_method_10_code 6 = .ok (.aload_n 0, 1) := by decide +kernel
theorem d_137_7 : decode prog_9_method_10_code 7 = .ok (.getfield 30, 3) := by decide +kernel
theorem d_137_10 : decode prog_9_method_10_code 10 = .ok (.iload_n 2, 1) := by decide +kernel
theorem d_137_11 : decode prog_9_method_10_code 11 = .ok (.iaload, 1) := by decide +kernel
theorem d_137_12 : decode prog_9_method_10_code 12 = .ok (.if_icmp .ne 7, 3) := by decide +kernel
theorem d_137_15 : decode prog_9_method_10_code 15 = .ok (.iconst 1, 1) := by decide +kernel
theorem d_137_16 : decode prog_9_method_10_code 16 = .ok (.goto 4, 3) := by decide +kernel
theorem d_137_19 : decode prog_9_method_10_code 19 = .ok (.iconst 0, 1) := by decide +kernel
theorem d_137_20 : decode prog_9_method_10_code 20 = .ok (.istore_n 3, 1) := by decide +kernel
theorem d_137_21 : decode prog_9_method_10_code 21 = .ok (.iconst 0, 1) := by decide +kernel
theorem d_137_22 : decode prog_9_method_10_code 22 = .ok (.istore 4, 2) := by decide +kernel
theorem d_137_24 : decode prog_9_method_10_code 24 = .ok (.iload 4, 2) := by decide +kernel
theorem d_137_26 : decode prog_9_method_10_code 26 = .ok (.aload_n 0, 1) := by decide +kernel
theorem d_137_27 : decode prog_9_method_10_code 27 = .ok (.getfield 30, 3) := by decide +kernel
theorem d_137_30 : decode prog_9_method_10_code 30 = .ok (.iload_n 1, 1) := by decide +kernel
theorem d_137_31 : decode prog_9_method_10_code 31 = .ok (.iaload, 1) := by decide +kernel
theorem d_137_32 : decode prog_9_method_10_code 32 = .ok (.if_icmp .ge 50, 3) := by decide +kernel
theorem d_137_35 : decode prog_9_method_10_code 35 = .ok (.iload_n 3, 1) := by decide +kernel
theorem d_137_36 : decode prog_9_method_10_code 36 = .ok (.ifCond .eq 46, 3) := by decide +kernel
theorem d_137_39 : decode prog_9_method_10_code 39 = .ok (.aload_n 0, 1) := by decide +kernel
theorem d_137_40 : decode prog_9_method_10_code 40 = .ok (.getfield 45, 3) := by decide +kernel
theorem d_137_43 : decode prog_9_method_10_code 43 = .ok (.aload_n 0, 1) := by decide +kernel
theorem d_137_44 : decode prog_9_method_10_code 44 = .ok (.getfield 27, 3) := by decide +kernel
theorem d_137_47 : decode prog_9_method_10_code 47 = .ok (.iload_n 1, 1) := by decide +kernel
theorem d_137_48 : decode prog_9_method_10_code 48 = .ok (.iaload, 1) := by decide +kernel
theorem d_137_49 : decode prog_9_method_10_code 49 = .ok (.iload 4, 2) := by decide +kernel
theorem d_137_51 : decode prog_9_method_10_code 51 = .ok (.iadd, 1) := by decide +kernel
theorem d_137_52 : decode prog_9_method_10_code 52 = .ok (.iaload, 1) := by decide +kernel
theorem d_137_53 : decode prog_9_method_10_code 53 = .ok (.aload_n 0, 1) := by decide +kernel
theorem d_137_54 : decode prog_9_method_10_code 54 = .ok (.getfield 45, 3) := by decide +kernel
theorem d_137_57 : decode prog_9_method_10_code 57 = .ok (.aload_n 0, 1) := by decide +kernel
theorem d_137_58 : decode prog_9_method_10_code 58 = .ok (.getfield 27, 3) := by decide +kernel
theorem d_137_61 : decode prog_9_method_10_code 61 = .ok (.iload_n 2, 1) := by decide +kernel
theorem d_137_62 : decode prog_9_method_10_code 62 = .ok (.iaload, 1) := by decide +kernel
theorem d_137_63 : decode prog_9_method_10_code 63 = .ok (.iload 4, 2) := by decide +kernel
theorem d_137_65 : decode prog_9_method_10_code 65 = .ok (.iadd, 1) := by decide +kernel
theorem d_137_66 : decode prog_9_method_10_code 66 = .ok (.iaload, 1) := by decide +kernel
theorem d_137_67 : decode prog_9_method_10_code 67 = .ok (.if_icmp .ne 7, 3) := by decide +kernel
theorem d_137_70 : decode prog_9_method_10_code 70 = .ok (.iconst 1, 1) := by decide +kernel
theorem d_137_71 : decode prog_9_method_10_code 71 = .ok (.goto 4, 3) := by decide +kernel
theorem d_137_74 : decode prog_9_method_10_code 74 = .ok (.iconst 0, 1) := by decide +kernel
theorem d_137_75 : decode prog_9_method_10_code 75 = .ok (.istore_n 3, 1) := by decide +kernel
theorem d_137_76 : decode prog_9_method_10_code 76 = .ok (.iinc 4 1, 3) := by decide +kernel
theorem d_137_79 : decode prog_9_method_10_code 79 = .ok (.goto (-55), 3) := by decide +kernel
theorem d_137_82 : decode prog_9_method_10_code 82 = .ok (.iload_n 3, 1) := by decide +kernel
theorem d_137_83 : decode prog_9_method_10_code 83 = .ok (.ireturn, 1) := by decide +kernel
theorem d_138_0 : decode prog_9_method_12_code 0 = .ok (.iload_n 1, 1) := by decide +kernel
theorem d_138_1 : decode prog_9_method_12_code 1 = .ok (.iconst 1, 1) := by decide +kernel
theorem d_138_2 : decode prog_9_method_12_code 2 = .ok (.iadd, 1) := by decide +kernel
theorem d_138_3 : decode prog_9_method_12_code 3 = .ok (.istore_n 3, 1) := by decide +kernel
theorem d_138_4 : decode prog_9_method_12_code 4 = .ok (.iload_n 2, 1) := by decide +kernel
theorem d_138_5 : decode prog_9_method_12_code 5 = .ok (.iconst 1, 1) := by decide +kernel
theorem d_138_6 : decode prog_9_method_12_code 6 = .ok (.iadd, 1) := by decide +kernel
theorem d_138_7 : decode prog_9_method_12_code 7 = .ok (.istore 4, 2) := by decide +kernel
theorem d_138_9 : decode prog_9_method_12_code 9 = .ok (.iconst 0, 1) := by decide +kernel
theorem d_138_10 : decode prog_9_method_12_code 10 = .ok (.istore 5, 2) := by decide +kernel
theorem d_138_12 : decode prog_9_method_12_code 12 = .ok (.iload 5, 2) := by decide +kernel
theorem d_138_14 : decode prog_9_method_12_code 14 = .ok (.aload_n 0, 1) := by decide +kernel
theorem d_138_15 : decode prog_9_method_12_code 15 = .ok (.getfield 33, 3) := by decide +kernel
theorem d_138_18 : decode prog_9_method_12_code 18 = .ok (.iload_n 1, 1) := by decide +kernel
theorem d_138_19 : decode prog_9_method_12_code 19 = .ok (.iaload, 1) := by decide +kernel
theorem d_138_20 : decode prog_9_method_12_code 20 = .ok (.if_icmp .ge 110, 3) := by decide +kernel
theorem d_138_23 : decode prog_9_method_12_code 23 = .ok (.aload_n 0, 1) := by decide +kernel
theorem d_138_24 : decode prog_9_method_12_code 24 = .ok (.getfield 20, 3) := by decide +kernel
theorem d_138_27 : decode prog_9_method_12_code 27 = .ok (.iload_n 1, 1) := by decide +kernel
theorem d_138_28 : decode prog_9_method_12_code 28 = .ok (.iaload, 1) := by decide +kernel
theorem d_138_29 : decode prog_9_method_12_code 29 = .ok (.bipush 10, 2) := by decide +kernel
theorem d_138_31 : decode prog_9_method_12_code 31 = .ok (.if_icmp .ne 17, 3) := by decide +kernel
theorem d_138_34 : decode prog_9_method_12_code 34 = .ok (.aload_n 0, 1) := by decide +kernel
theorem d_138_35 : decode prog_9_method_12_code 35 = .ok (.iload_n 2, 1) := by decide +kernel
theorem d_138_36 : decode prog_9_method_12_code 36 = .ok (.aload_n 0, 1) := by decide +kernel
theorem d_138_37 : decode prog_9_method_12_code 37 = .ok (.getfield 42, 3) := by decide +kernel
theorem d_138_40 : decode prog_9_method_12_code 40 = .ok (.iload_n 3, 1) := by decide +kernel
theorem d_138_41 : decode prog_9_method_12_code 41 = .ok (.iaload, 1) := by decide +kernel
theorem d_138_42 : decode prog_9_method_12_code 42 = .ok (.iconst 1, 1) := by decide +kernel
theorem d_138_43 : decode prog_9_method_12_code 43 = .ok (.invokevirtual 110, 3) := by decide +kernel
theorem d_138_46 : decode prog_9_method_12_code 46 = .ok (.istore 4, 2) := by decide +kernel
theorem d_138_48 : decode prog_9_method_12_code 48 = .ok (.aload_n 0, 1) := by decide +kernel
theorem d_138_49 : decode prog_9_method_12_code 49 = .ok (.getfield 20, 3) := by decide +kernel
theorem d_138_52 : decode prog_9_method_12_code 52 = .ok (.iload_n 1, 1) := by decide +kernel
theorem d_138_53 : decode prog_9_method_12_code 53 = .ok (.iaload, 1) := by decide +kernel
theorem d_138_54 : decode prog_9_method_12_code 54 = .ok (.bipush 11, 2) := by decide +kernel
theorem d_138_56 : decode prog_9_method_12_code 56 = .ok (.if_icmp .ne 24, 3) := by decide +kernel
theorem d_138_59 : decode prog_9_method_12_code 59 = .ok (.iload 5, 2) := by decide +kernel
theorem d_138_61 : decode prog_9_method_12_code 61 = .ok (.iconst 2, 1) := by decide +kernel
theorem d_138_62 : decode prog_9_method_12_code 62 = .ok (.irem, 1) := by decide +kernel
theorem d_138_63 : decode prog_9_method_12_code 63 = .ok (.ifCond .ne 17, 3) := by decide +kernel
theorem d_138_66 : decode prog_9_method_12_code 66 = .ok (.aload_n 0, 1) := by decide +kernel
theorem d_138_67 : decode prog_9_method_12_code 67 = .ok (.iload_n 2, 1) := by decide +kernel
theorem d_138_68 : decode prog_9_method_12_code 68 = .ok (.aload_n 0, 1) := by decide +kernel
theorem d_138_69 : decode prog_9_method_12_code 69 = .ok (.getfield 42, 3) := by decide +kernel
theorem d_138_72 : decode prog_9_method_12_code 72 = .ok (.iload_n 3, 1) := by decide +kernel
theorem d_138_73 : decode prog_9_method_12_code 73 = .ok (.iaload, 1) := by decide +kernel
theorem d_138_74 : decode prog_9_method_12_code 74 = .ok (.iconst 2, 1) := by decide +kernel
theorem d_138_75 : decode prog_9_method_12_code 75 = .ok (.invokevirtual 110, 3) := by decide +kernel
theorem d_138_78 : decode prog_9_method_12_code 78 = .ok (.istore 4, 2) := by decide +kernel
theorem d_138_80 : decode prog_9_method_12_code 80 = .ok (.iload 4, 2) := by decide +kernel
theorem d_138_82 : decode prog_9_method_12_code 82 = .ok (.ifCond .lt 19, 3) := by decide +kernel
theorem d_138_85 : decode prog_9_method_12_code 85 = .ok (.aload_n 0, 1) := by decide +kernel
theorem d_138_86 : decode prog_9_method_12_code 86 = .ok (.getfield 42, 3) := by decide +kernel
theorem d_138_89 : decode prog_9_method_12_code 89 = .ok (.iload_n 3, 1) := by decide +kernel
theorem d_138_90 : decode prog_9_method_12_code 90 = .ok (.iaload, 1) := by decide +kernel
theorem d_138_91 : decode prog_9_method_12_code 91 = .ok (.aload_n 0, 1) := by decide +kernel
theorem d_138_92 : decode prog_9_method_12_code 92 = .ok (.getfield 42, 3) := by decide +kernel
theorem d_138_95 : decode prog_9_method_12_code 95 = .ok (.iload 4, 2) := by decide +kernel
theorem d_138_97 : decode prog_9_method_12_code 97 = .ok (.iaload, 1) := by decide +kernel
theorem d_138_98 : decode prog_9_method_12_code 98 = .ok (.if_icmp .eq 5, 3) := by decide +kernel
theorem d_138_101 : decode prog_9_method_12_code 101 = .ok (.iconst 0, 1) := by decide +kernel
theorem d_138_102 : decode prog_9_method_12_code 102 = .ok (.ireturn, 1) := by decide +kernel
theorem d_138_103 : decode prog_9_method_12_code 103 = .ok (.iload_n 3, 1) := by decide +kernel
theorem d_138_104 : decode prog_9_method_12_code 104 = .ok (.aload_n 0, 1) := by decide +kernel
theorem d_138_105 : decode prog_9_method_12_code 105 = .ok (.getfield 36, 3) := by decide +kernel
theorem d_138_108 : decode prog_9_method_12_code 108 = .ok (.iload_n 3, 1) := by decide +kernel
theorem d_138_109 : decode prog_9_method_12_code 109 = .ok (.iaload, 1) := by decide +kernel
theorem d_138_110 : decode prog_9_method_12_code 110 = .ok (.iadd, 1) := by decide +kernel
theorem d_138_111 : decode prog_9_method_12_code 111 = .ok (.istore_n 3, 1) := by decide +kernel
theorem d_138_112 : decode prog_9_method_12_code 112 = .ok (.iload 4, 2) := by decide +kernel
theorem d_138_114 : decode prog_9_method_12_code 114 = .ok (.aload_n 0, 1) := by decide +kernel
theorem d_138_115 : decode prog_9_method_12_code 115 = .ok (.getfield 36, 3) := by decide +kernel
theorem d_138_118 : decode prog_9_method_12_code 118 = .ok (.iload 4, 2) := by decide +kernel
theorem d_138_120 : decode prog_9_method_12_code 120 = .ok (.iaload, 1) := by decide +kernel
theorem d_138_121 : decode prog_9_method_12_code 121 = .ok (.iadd, 1) := by decide +kernel
theorem d_138_122 : decode prog_9_method_12_code 122 = .ok (.istore 4, 2) := by decide +kernel
theorem d_138_124 : decode prog_9_method_12_code 124 = .ok (.iinc 5 1, 3) := by decide +kernel
theorem d_138_127 : decode prog_9_method_12_code 127 = .ok (.goto (-115), 3) := by decide +kernel
theorem d_138_130 : decode prog_9_method_12_code 130 = .ok (.iconst 1, 1) := by decide +kernel
theorem d_138_131 : decode prog_9_method_12_code 131 = .ok (.ireturn, 1) := by decide +kernel
theorem d_139_0 : decode prog_9_method_11_code 0 = .ok (.iload_n 1, 1) := by decide +kernel
theorem d_139_1 : decode prog_9_method_11_code 1 = .ok (.iconst 1, 1) := by decide +kernel
theorem d_139_2 : decode prog_9_method_11_code 2 = .ok (.iadd, 1) := by decide +kernel
theorem d_139_3 : decode prog_9_method_11_code 3 = .ok (.istore 4, 2) := by decide +kernel
theorem d_139_5 : decode prog_9_method_11_code 5 = .ok (.iconst 0, 1) := by decide +kernel
theorem d_139_6 : decode prog_9_method_11_code 6 = .ok (.istore 5, 2) := by decide +kernel
theorem d_139_8 : decode prog_9_method_11_code 8 = .ok (.iload 5, 2) := by decide +kernel
theorem d_139_10 : decode prog_9_method_11_code 10 = .ok (.aload_n 0, 1) := by decide +kernel
theorem d_139_11 : decode prog_9_method_11_code 11 = .ok (.getfield 33, 3) := by decide +kernel
theorem d_139_14 : decode prog_9_method_11_code 14 = .ok (.iload_n 1, 1) := by decide +kernel
theorem d_139_15 : decode prog_9_method_11_code 15 = .ok (.iaload, 1) := by decide +kernel
theorem d_139_16 : decode prog_9_method_11_code 16 = .ok (.if_icmp .ge 42, 3) := by decide +kernel
theorem d_139_19 : decode prog_9_method_11_code 19 = .ok (.iload 5, 2) := by decide +kernel
theorem d_139_21 : decode prog_9_method_11_code 21 = .ok (.iload_n 3, 1) := by decide +kernel
theorem d_139_22 : decode prog_9_method_11_code 22 = .ok (.irem, 1) := by decide +kernel
theorem d_139_23 : decode prog_9_method_11_code 23 = .ok (.ifCond .ne 17, 3) := by decide +kernel
theorem d_139_26 : decode prog_9_method_11_code 26 = .ok (.aload_n 0, 1) := by decide +kernel
theorem d_139_27 : decode prog_9_method_11_code 27 = .ok (.getfield 42, 3) := by decide +kernel
theorem d_139_30 : decode prog_9_method_11_code 30 = .ok (.iload 4, 2) := by decide +kernel
theorem d_139_32 : decode prog_9_method_11_code 32 = .ok (.iaload, 1) := by decide +kernel
theorem d_139_33 : decode prog_9_method_11_code 33 = .ok (.iload_n 2, 1) := by decide +kernel
theorem d_139_34 : decode prog_9_method_11_code 34 = .ok (.if_icmp .ne 6, 3) := by decide +kernel
theorem d_139_37 : decode prog_9_method_11_code 37 = .ok (.iload 4, 2) := by decide +kernel
theorem d_139_39 : decode prog_9_method_11_code 39 = .ok (.ireturn, 1) := by decide +kernel
theorem d_139_40 : decode prog_9_method_11_code 40 = .ok (.iload 4, 2) := by decide +kernel
theorem d_139_42 : decode prog_9_method_11_code 42 = .ok (.aload_n 0, 1) := by decide +kernel
theorem d_139_43 : decode prog_9_method_11_code 43 = .ok (.getfield 36, 3) := by decide +kernel
theorem d_139_46 : decode prog_9_method_11_code 46 = .ok (.iload 4, 2) := by decide +kernel
theorem d_139_48 : decode prog_9_method_11_code 48 = .ok (.iaload, 1) := by decide +kernel
theorem d_139_49 : decode prog_9_method_11_code 49 = .ok (.iadd, 1) := by decide +kernel
theorem d_139_50 : decode prog_9_method_11_code 50 = .ok (.istore 4, 2) := by decide +kernel
theorem d_139_52 : decode prog_9_method_11_code 52 = .ok (.iinc 5 1, 3) := by decide +kernel
theorem d_139_55 : decode prog_9_method_11_code 55 = .ok (.goto (-47), 3) := by decide +kernel
theorem d_139_58 : decode prog_9_method_11_code 58 = .ok (.iconst (-1), 1) := by decide +kernel
theorem d_139_59 : decode prog_9_method_11_code 59 = .ok (.ireturn, 1) := by decide +kernel
theorem d_140_0 : decode prog_9_method_21_code 0 = .ok (.iconst 2, 1) := by decide +kernel
theorem d_140_1 : decode prog_9_method_21_code 1 = .ok (.istore_n 2, 1) := by decide +kernel
theorem d_140_2 : decode prog_9_method_21_code 2 = .ok (.aload_n 0, 1) := by decide +kernel
theorem d_140_3 : decode prog_9_method_21_code 3 = .ok (.getfield 144, 3) := by decide +kernel
theorem d_140_6 : decode prog_9_method_21_code 6 = .ok (.iconst 2, 1) := by decide +kernel
theorem d_140_7 : decode prog_9_method_21_code 7 = .ok (.if_icmp .le 23, 3) := by decide +kernel
theorem d_140_10 : decode prog_9_method_21_code 10 = .ok (.aload_n 0, 1) := by decide +kernel
theorem d_140_11 : decode prog_9_method_21_code 11 = .ok (.getfield 45, 3) := by decide +kernel
theorem d_140_14 : decode prog_9_method_21_code 14 = .ok (.aload_n 0, 1) := by decide +kernel
theorem d_140_15 : decode prog_9_method_21_code 15 = .ok (.getfield 147, 3) := by decide +kernel
theorem d_140_18 : decode prog_9_method_21_code 18 = .ok (.iconst 2, 1) := by decide +kernel
theorem d_140_19 : decode prog_9_method_21_code 19 = .ok (.iadd, 1) := by decide +kernel
theorem d_140_20 : decode prog_9_method_21_code 20 = .ok (.iaload, 1) := by decide +kernel
theorem d_140_21 : decode prog_9_method_21_code 21 = .ok (.bipush 45, 2) := by decide +kernel
theorem d_140_23 : decode prog_9_method_21_code 23 = .ok (.if_icmp .ne 7, 3) := by decide +kernel
theorem d_140_26 : decode prog_9_method_21_code 26 = .ok (.iconst 1, 1) := by decide +kernel
theorem d_140_27 : decode prog_9_method_21_code 27 = .ok (.goto 4, 3) := by decide +kernel
theorem d_140_30 : decode prog_9_method_21_code 30 = .ok (.iconst 0, 1) := by decide +kernel
theorem d_140_31 : decode prog_9_method_21_code 31 = .ok (.istore_n 3, 1) := by decide +kernel
theorem d_140_32 : decode prog_9_method_21_code 32 = .ok (.iload_n 3, 1) := by decide +kernel
theorem d_140_33 : decode prog_9_method_21_code 33 = .ok (.ifCond .eq 7, 3) := by decide +kernel
theorem d_140_36 : decode prog_9_method_21_code 36 = .ok (.iconst 3, 1) := by decide +kernel
theorem d_140_37 : decode prog_9_method_21_code 37 = .ok (.goto 4, 3) := by decide +kernel
theorem d_140_40 : decode prog_9_method_21_code 40 = .ok (.iconst 2, 1) := by decide +kernel
theorem d_140_41 : decode prog_9_method_21_code 41 = .ok (.istore_n 2, 1) := by decide +kernel
theorem d_140_42 : decode prog_9_method_21_code 42 = .ok (.iload_n 2, 1) := by decide +kernel
theorem d_140_43 : decode prog_9_method_21_code 43 = .ok (.aload_n 0, 1) := by decide +kernel
theorem d_140_44 : decode prog_9_method_21_code 44 = .ok (.getfield 144, 3) := by decide +kernel
theorem d_140_47 : decode prog_9_method_21_code 47 = .ok (.if_icmp .lt 5, 3) := by decide +kernel
theorem d_140_50 : decode prog_9_method_21_code 50 = .ok (.iconst 0, 1) := by decide +kernel
theorem d_140_51 : decode prog_9_method_21_code 51 = .ok (.ireturn, 1) := by decide +kernel
theorem d_140_52 : decode prog_9_method_21_code 52 = .ok (.aload_n 0, 1) := by decide +kernel
theorem d_140_53 : decode prog_9_method_21_code 53 = .ok (.getfield 45, 3) := by decide +kernel
theorem d_140_56 : decode prog_9_method_21_code 56 = .ok (.aload_n 0, 1) := by decide +kernel
theorem d_140_57 : decode prog_9_method_21_code 57 = .ok (.getfield 147, 3) := by decide +kernel
theorem d_140_60 : decode prog_9_method_21_code 60 = .ok (.iload_n 2, 1) := by decide +kernel
theorem d_140_61 : decode prog_9_method_21_code 61 = .ok (.iadd, 1) := by decide +kernel
theorem d_140_62 : decode prog_9_method_21_code 62 = .ok (.iaload, 1) := by decide +kernel
theorem d_140_63 : decode prog_9_method_21_code 63 = .ok (.bipush 48, 2) := by decide +kernel
theorem d_140_65 : decode prog_9_method_21_code 65 = .ok (.if_icmp .ne 7, 3) := by decide +kernel
theorem d_140_68 : decode prog_9_method_21_code 68 = .ok (.iconst 1, 1) := by decide +kernel
theorem d_140_69 : decode prog_9_method_21_code 69 = .ok (.goto 4, 3) := by decide +kernel
theorem d_140_72 : decode prog_9_method_21_code 72 = .ok (.iconst 0, 1) := by decide +kernel
theorem d_140_73 : decode prog_9_method_21_code 73 = .ok (.istore 4, 2) := by decide +kernel
theorem d_140_75 : decode prog_9_method_21_code 75 = .ok (.iload 4, 2) := by decide +kernel
theorem d_140_77 : decode prog_9_method_21_code 77 = .ok (.ifCond .eq 21, 3) := by decide +kernel
theorem d_140_80 : decode prog_9_method_21_code 80 = .ok (.iload_n 3, 1) := by decide +kernel
theorem d_140_81 : decode prog_9_method_21_code 81 = .ok (.ifCond .ne 15, 3) := by decide +kernel
theorem d_140_84 : decode prog_9_method_21_code 84 = .ok (.aload_n 0, 1) := by decide +kernel
theorem d_140_85 : decode prog_9_method_21_code 85 = .ok (.getfield 144, 3) := by decide +kernel
theorem d_140_88 : decode prog_9_method_21_code 88 = .ok (.iconst 3, 1) := by decide +kernel
theorem d_140_89 : decode prog_9_method_21_code 89 = .ok (.if_icmp .ne 7, 3) := by decide +kernel
theorem d_140_92 : decode prog_9_method_21_code 92 = .ok (.iconst 1, 1) := by decide +kernel
theorem d_140_93 : decode prog_9_method_21_code 93 = .ok (.goto 4, 3) := by decide +kernel
theorem d_140_96 : decode prog_9_method_21_code 96 = .ok (.iconst 0, 1) := by decide +kernel
theorem d_140_97 : decode prog_9_method_21_code 97 = .ok (.ireturn, 1) := by decide +kernel
theorem d_140_98 : decode prog_9_method_21_code 98 = .ok (.aload_n 0, 1) := by decide +kernel
theorem d_140_99 : decode prog_9_method_21_code 99 = .ok (.getfield 144, 3) := by decide +kernel
theorem d_140_102 : decode prog_9_method_21_code 102 = .ok (.iload_n 2, 1) := by decide +kernel
theorem d_140_103 : decode prog_9_method_21_code 103 = .ok (.isub, 1) := by decide +kernel
theorem d_140_104 : decode prog_9_method_21_code 104 = .ok (.bipush 19, 2) := by decide +kernel
theorem d_140_106 : decode prog_9_method_21_code 106 = .ok (.if_icmp .le 5, 3) := by decide +kernel
theorem d_140_109 : decode prog_9_method_21_code 109 = .ok (.iconst 0, 1) := by decide +kernel
theorem d_140_110 : decode prog_9_method_21_code 110 = .ok (.ireturn, 1) := by decide +kernel
theorem d_140_111 : decode prog_9_method_21_code 111 = .ok (.lconst 0, 1) := by decide +kernel
theorem d_140_112 : decode prog_9_method_21_code 112 = .ok (.lstore 5, 2) := by decide +kernel
theorem d_140_114 : decode prog_9_method_21_code 114 = .ok (.iload_n 2, 1) := by decide +kernel
theorem d_140_115 : decode prog_9_method_21_code 115 = .ok (.aload_n 0, 1) := by decide +kernel
theorem d_140_116 : decode prog_9_method_21_code 116 = .ok (.getfield 144, 3) := by decide +kernel
theorem d_140_119 : decode prog_9_method_21_code 119 = .ok (.if_icmp .ge 61, 3) := by decide +kernel
theorem d_140_122 : decode prog_9_method_21_code 122 = .ok (.aload_n 0, 1) := by decide +kernel
theorem d_140_123 : decode prog_9_method_21_code 123 = .ok (.getfield 45, 3) := by decide +kernel
theorem d_140_126 : decode prog_9_method_21_code 126 = .ok (.aload_n 0, 1) := by decide +kernel
theorem d_140_127 : decode prog_9_method_21_code 127 = .ok (.getfield 147, 3) := by decide +kernel
theorem d_140_130 : decode prog_9_method_21_code 130 = .ok (.iload_n 2, 1) := by decide +kernel
theorem d_140_131 : decode prog_9_method_21_code 131 = .ok (.iadd, 1) := by decide +kernel
theorem d_140_132 : decode prog_9_method_21_code 132 = .ok (.iaload, 1) := by decide +kernel
theorem d_140_133 : decode prog_9_method_21_code 133 = .ok (.istore 7, 2) := by decide +kernel
theorem d_140_135 : decode prog_9_method_21_code 135 = .ok (.iload 7, 2) := by decide +kernel
theorem d_140_137 : decode prog_9_method_21_code 137 = .ok (.invokestatic 130, 3) := by decide +kernel
theorem d_140_140 : decode prog_9_method_21_code 140 = .ok (.ifCond .eq 17, 3) := by decide +kernel
theorem d_140_143 : decode prog_9_method_21_code 143 = .ok (.lload 5, 2) := by decide +kernel
theorem d_140_145 : decode prog_9_method_21_code 145 = .ok (.iload 7, 2) := by decide +kernel
theorem d_140_147 : decode prog_9_method_21_code 147 = .ok (.bipush 48, 2) := by decide +kernel
theorem d_140_149 : decode prog_9_method_21_code 149 = .ok (.isub, 1) := by decide +kernel
theorem d_140_150 : decode prog_9_method_21_code 150 = .ok (.iload_n 3, 1) := by decide +kernel
theorem d_140_151 : decode prog_9_method_21_code 151 = .ok (.invokestatic 138, 3) := by decide +kernel
theorem d_140_154 : decode prog_9_method_21_code 154 = .ok (.ifCond .ne 5, 3) := by decide +kernel
theorem d_140_157 : decode prog_9_method_21_code 157 = .ok (.iconst 0, 1) := by decide +kernel
theorem d_140_158 : decode prog_9_method_21_code 158 = .ok (.ireturn, 1) := by decide +kernel
theorem d_140_159 : decode prog_9_method_21_code 159 = .ok (.ldc2_w 142, 3) := by decide +kernel
theorem d_140_162 : decode prog_9_method_21_code 162 = .ok (.lload 5, 2) := by decide +kernel
theorem d_140_164 : decode prog_9_method_21_code 164 = .ok (.lmul, 1) := by decide +kernel
theorem d_140_165 : decode prog_9_method_21_code 165 = .ok (.iload 7, 2) := by decide +kernel
theorem d_140_167 : decode prog_9_method_21_code 167 = .ok (.bipush 48, 2) := by decide +kernel
theorem d_140_169 : decode prog_9_method_21_code 169 = .ok (.isub, 1) := by decide +kernel
theorem d_140_170 : decode prog_9_method_21_code 170 = .ok (.i2l, 1) := by decide +kernel
theorem d_140_171 : decode prog_9_method_21_code 171 = .ok (.lsub, 1) := by decide +kernel
theorem d_140_172 : decode prog_9_method_21_code 172 = .ok (.lstore 5, 2) := by decide +kernel
theorem d_140_174 : decode prog_9_method_21_code 174 = .ok (.iinc 2 1, 3) := by decide +kernel
theorem d_140_177 : decode prog_9_method_21_code 177 = .ok (.goto (-63), 3) := by decide +kernel
theorem d_140_180 : decode prog_9_method_21_code 180 = .ok (.aload_n 0, 1) := by decide +kernel
theorem d_140_181 : decode prog_9_method_21_code 181 = .ok (.getfield 23, 3) := by decide +kernel
theorem d_140_184 : decode prog_9_method_21_code 184 = .ok (.iload_n 1, 1) := by decide +kernel
theorem d_140_185 : decode prog_9_method_21_code 185 = .ok (.iload_n 3, 1) := by decide +kernel
theorem d_140_186 : decode prog_9_method_21_code 186 = .ok (.ifCond .eq 8, 3) := by decide +kernel
theorem d_140_189 : decode prog_9_method_21_code 189 = .ok (.lload 5, 2) := by decide +kernel
theorem d_140_191 : decode prog_9_method_21_code 191 = .ok (.goto 6, 3) := by decide +kernel
theorem d_140_194 : decode prog_9_method_21_code 194 = .ok (.lload 5, 2) := by decide +kernel
theorem d_140_196 : decode prog_9_method_21_code 196 = .ok (.lneg, 1) := by decide +kernel
theorem d_140_197 : decode prog_9_method_21_code 197 = .ok (.lastore, 1) := by decide +kernel
theorem d_140_198 : decode prog_9_method_21_code 198 = .ok (.iconst 1, 1) := by decide +kernel
theorem d_140_199 : decode prog_9_method_21_code 199 = .ok (.ireturn, 1) := by decide +kernel
theorem d_141_0 : decode prog_9_method_17_code 0 = .ok (.iload_n 0, 1) := by decide +kernel
theorem d_141_1 : decode prog_9_method_17_code 1 = .ok (.bipush 48, 2) := by decide +kernel
theorem d_141_3 : decode prog_9_method_17_code 3 = .ok (.if_icmp .lt 13, 3) := by decide +kernel
theorem d_141_6 : decode prog_9_method_17_code 6 = .ok (.iload_n 0, 1) := by decide +kernel
theorem d_141_7 : decode prog_9_method_17_code 7 = .ok (.bipush 57, 2) := by decide +kernel
theorem d_141_9 : decode prog_9_method_17_code 9 = .ok (.if_icmp .gt 7, 3) := by decide +kernel
theorem d_141_12 : decode prog_9_method_17_code 12 = .ok (.iconst 1, 1) := by decide +kernel
theorem d_141_13 : decode prog_9_method_17_code 13 = .ok (.goto 4, 3) := by decide +kernel
theorem d_141_16 : decode prog_9_method_17_code 16 = .ok (.iconst 0, 1) := by decide +kernel
theorem d_141_17 : decode prog_9_method_17_code 17 = .ok (.ireturn, 1) := by decide +kernel
theorem d_142_0 : decode prog_9_method_19_code 0 = .ok (.ldc2_w 128, 3) := by decide +kernel
theorem d_142_3 : decode prog_9_method_19_code 3 = .ok (.lstore 4, 2) := by decide +kernel
theorem d_142_5 : decode prog_9_method_19_code 5 = .ok (.lload_n 0, 1) := by decide +kernel
theorem d_142_6 : decode prog_9_method_19_code 6 = .ok (.lload 4, 2) := by decide +kernel
theorem d_142_8 : decode prog_9_method_19_code 8 = .ok (.lcmp, 1) := by decide +kernel
theorem d_142_9 : decode prog_9_method_19_code 9 = .ok (.ifCond .gt 25, 3) := by decide +kernel
theorem d_142_12 : decode prog_9_method_19_code 12 = .ok (.lload_n 0, 1) := by decide +kernel
theorem d_142_13 : decode prog_9_method_19_code 13 = .ok (.lload 4, 2) := by decide +kernel
theorem d_142_15 : decode prog_9_method_19_code 15 = .ok (.lcmp, 1) := by decide +kernel
theorem d_142_16 : decode prog_9_method_19_code 16 = .ok (.ifCond .ne 22, 3) := by decide +kernel
theorem d_142_19 : decode prog_9_method_19_code 19 = .ok (.iload_n 2, 1) := by decide +kernel
theorem d_142_20 : decode prog_9_method_19_code 20 = .ok (.iload_n 3, 1) := by decide +kernel
theorem d_142_21 : decode prog_9_method_19_code 21 = .ok (.ifCond .eq 8, 3) := by decide +kernel
theorem d_142_24 : decode prog_9_method_19_code 24 = .ok (.bipush 8, 2) := by decide +kernel
theorem d_142_26 : decode prog_9_method_19_code 26 = .ok (.goto 5, 3) := by decide +kernel
theorem d_142_29 : decode prog_9_method_19_code 29 = .ok (.bipush 7, 2) := by decide +kernel
theorem d_142_31 : decode prog_9_method_19_code 31 = .ok (.if_icmp .gt 7, 3) := by decide +kernel
theorem d_142_34 : decode prog_9_method_19_code 34 = .ok (.iconst 1, 1) := by decide +kernel
theorem d_142_35 : decode prog_9_method_19_code 35 = .ok (.goto 4, 3) := by decide +kernel
theorem d_142_38 : decode prog_9_method_19_code 38 = .ok (.iconst 0, 1) := by decide +kernel
theorem d_142_39 : decode prog_9_method_19_code 39 = .ok (.ireturn, 1) := by decide +kernel
theorem d_143_0 : decode prog_9_method_18_code 0 = .ok (.iload_n 0, 1) := by decide +kernel
theorem d_143_1 : decode prog_9_method_18_code 1 = .ok (.bipush 97, 2) := by decide +kernel
theorem d_143_3 : decode prog_9_method_18_code 3 = .ok (.if_icmp .lt 9, 3) := by decide +kernel
theorem d_143_6 : decode prog_9_method_18_code 6 = .ok (.iload_n 0, 1) := by decide +kernel
theorem d_143_7 : decode prog_9_method_18_code 7 = .ok (.bipush 122, 2) := by decide +kernel
theorem d_143_9 : decode prog_9_method_18_code 9 = .ok (.if_icmp .le 15, 3) := by decide +kernel
theorem d_143_12 : decode prog_9_method_18_code 12 = .ok (.iload_n 0, 1) := by decide +kernel
theorem d_143_13 : decode prog_9_method_18_code 13 = .ok (.bipush 65, 2) := by decide +kernel
theorem d_143_15 : decode prog_9_method_18_code 15 = .ok (.if_icmp .lt 13, 3) := by decide +kernel
theorem d_143_18 : decode prog_9_method_18_code 18 = .ok (.iload_n 0, 1) := by decide +kernel
theorem d_143_19 : decode prog_9_method_18_code 19 = .ok (.bipush 90, 2) := by decide +kernel
theorem d_143_21 : decode prog_9_method_18_code 21 = .ok (.if_icmp .gt 7, 3) := by decide +kernel
theorem d_143_24 : decode prog_9_method_18_code 24 = .ok (.iconst 1, 1) := by decide +kernel
theorem d_143_25 : decode prog_9_method_18_code 25 = .ok (.goto 4, 3) := by decide +kernel
theorem d_143_28 : decode prog_9_method_18_code 28 = .ok (.iconst 0, 1) := by decide +kernel
theorem d_143_29 : decode prog_9_method_18_code 29 = .ok (.ireturn, 1) := by decide +kernel
theorem d_144_0 : decode prog_9_method_32_code 0 = .ok (.iconst 0, 1) := by decide +kernel
theorem d_144_1 : decode prog_9_method_32_code 1 = .ok (.istore 6, 2) := by decide +kernel
theorem d_144_3 : decode prog_9_method_32_code 3 = .ok (.iload 6, 2) := by decide +kernel
theorem d_144_5 : decode prog_9_method_32_code 5 = .ok (.iconst 5, 1) := by decide +kernel
theorem d_144_6 : decode prog_9_method_32_code 6 = .ok (.if_icmp .ge 96, 3) := by decide +kernel
theorem d_144_9 : decode prog_9_method_32_code 9 = .ok (.iload 6, 2) := by decide +kernel
theorem d_144_11 : decode prog_9_method_32_code 11 = .ok (.ifCond .ne 7, 3) := by decide +kernel
theorem d_144_14 : decode prog_9_method_32_code 14 = .ok (.iload_n 1, 1) := by decide +kernel
theorem d_144_15 : decode prog_9_method_32_code 15 = .ok (.goto 36, 3) := by decide +kernel
theorem d_144_18 : decode prog_9_method_32_code 18 = .ok (.iload 6, 2) := by decide +kernel
theorem d_144_20 : decode prog_9_method_32_code 20 = .ok (.iconst 1, 1) := by decide +kernel
theorem d_144_21 : decode prog_9_method_32_code 21 = .ok (.if_icmp .ne 7, 3) := by decide +kernel
theorem d_144_24 : decode prog_9_method_32_code 24 = .ok (.iload_n 2, 1) := by decide +kernel
theorem d_144_25 : decode prog_9_method_32_code 25 = .ok (.goto 26, 3) := by decide +kernel
theorem d_144_28 : decode prog_9_method_32_code 28 = .ok (.iload 6, 2) := by decide +kernel
theorem d_144_30 : decode prog_9_method_32_code 30 = .ok (.iconst 2, 1) := by decide +kernel
theorem d_144_31 : decode prog_9_method_32_code 31 = .ok (.if_icmp .ne 7, 3) := by decide +kernel
theorem d_144_34 : decode prog_9_method_32_code 34 = .ok (.iload_n 3, 1) := by decide +kernel
theorem d_144_35 : decode prog_9_method_32_code 35 = .ok (.goto 16, 3) := by decide +kernel
theorem d_144_38 : decode prog_9_method_32_code 38 = .ok (.iload 6, 2) := by decide +kernel
theorem d_144_40 : decode prog_9_method_32_code 40 = .ok (.iconst 3, 1) := by decide +kernel
theorem d_144_41 : decode prog_9_method_32_code 41 = .ok (.if_icmp .ne 8, 3) := by decide +kernel
theorem d_144_44 : decode prog_9_method_32_code 44 = .ok (.iload 4, 2) := by decide +kernel
theorem d_144_46 : decode prog_9_method_32_code 46 = .ok (.goto 5, 3) := by decide +kernel
theorem d_144_49 : decode prog_9_method_32_code 49 = .ok (.iload 5, 2) := by decide +kernel
theorem d_144_51 : decode prog_9_method_32_code 51 = .ok (.istore 7, 2) := by decide +kernel
theorem d_144_53 : decode prog_9_method_32_code 53 = .ok (.iload 7, 2) := by decide +kernel
theorem d_144_55 : decode prog_9_method_32_code 55 = .ok (.ifCond .le 41, 3) := by decide +kernel
theorem d_144_58 : decode prog_9_method_32_code 58 = .ok (.aload_n 0, 1) := by decide +kernel
theorem d_144_59 : decode prog_9_method_32_code 59 = .ok (.getfield 100, 3) := by decide +kernel
theorem d_144_62 : decode prog_9_method_32_code 62 = .ok (.ifCond .ge 34, 3) := by decide +kernel
theorem d_144_65 : decode prog_9_method_32_code 65 = .ok (.aload_n 0, 1) := by decide +kernel
theorem d_144_66 : decode prog_9_method_32_code 66 = .ok (.aload_n 0, 1) := by decide +kernel
theorem d_144_67 : decode prog_9_method_32_code 67 = .ok (.getfield 103, 3) := by decide +kernel
theorem d_144_70 : decode prog_9_method_32_code 70 = .ok (.invokevirtual 106, 3) := by decide +kernel
theorem d_144_73 : decode prog_9_method_32_code 73 = .ok (.iload 7, 2) := by decide +kernel
theorem d_144_75 : decode prog_9_method_32_code 75 = .ok (.if_icmp .eq 11, 3) := by decide +kernel
theorem d_144_78 : decode prog_9_method_32_code 78 = .ok (.aload_n 0, 1) := by decide +kernel
theorem d_144_79 : decode prog_9_method_32_code 79 = .ok (.aload_n 0, 1) := by decide +kernel
theorem d_144_80 : decode prog_9_method_32_code 80 = .ok (.getfield 103, 3) := by decide +kernel
theorem d_144_83 : decode prog_9_method_32_code 83 = .ok (.invokevirtual 134, 3) := by decide +kernel
theorem d_144_86 : decode prog_9_method_32_code 86 = .ok (.aload_n 0, 1) := by decide +kernel
theorem d_144_87 : decode prog_9_method_32_code 87 = .ok (.dup, 1) := by decide +kernel
theorem d_144_88 : decode prog_9_method_32_code 88 = .ok (.getfield 103, 3) := by decide +kernel
theorem d_144_91 : decode prog_9_method_32_code 91 = .ok (.iconst 1, 1) := by decide +kernel
theorem d_144_92 : decode prog_9_method_32_code 92 = .ok (.iadd, 1) := by decide +kernel
theorem d_144_93 : decode prog_9_method_32_code 93 = .ok (.putfield 103, 3) := by decide +kernel
theorem d_144_96 : decode prog_9_method_32_code 96 = .ok (.iinc 6 1, 3) := by decide +kernel
theorem d_144_99 : decode prog_9_method_32_code 99 = .ok (.goto (-96), 3) := by decide +kernel
theorem d_144_102 : decode prog_9_method_32_code 102 = .ok (.return_, 1) := by decide +kernel
theorem d_145_0 : decode prog_9_method_20_code 0 = .ok (.aload_n 0, 1) := by decide +kernel
theorem d_145_1 : decode prog_9_method_20_code 1 = .ok (.getfield 103, 3) := by decide +kernel
theorem d_145_4 : decode prog_9_method_20_code 4 = .ok (.istore_n 1, 1) := by decide +kernel
theorem d_145_5 : decode prog_9_method_20_code 5 = .ok (.aload_n 0, 1) := by decide +kernel
theorem d_145_6 : decode prog_9_method_20_code 6 = .ok (.aload_n 0, 1) := by decide +kernel
theorem d_145_7 : decode prog_9_method_20_code 7 = .ok (.getfield 103, 3) := by decide +kernel
theorem d_145_10 : decode prog_9_method_20_code 10 = .ok (.invokevirtual 106, 3) := by decide +kernel
theorem d_145_13 : decode prog_9_method_20_code 13 = .ok (.bipush 45, 2) := by decide +kernel
theorem d_145_15 : decode prog_9_method_20_code 15 = .ok (.if_icmp .ne 7, 3) := by decide +kernel
theorem d_145_18 : decode prog_9_method_20_code 18 = .ok (.iconst 1, 1) := by decide +kernel
theorem d_145_19 : decode prog_9_method_20_code 19 = .ok (.goto 4, 3) := by decide +kernel
theorem d_145_22 : decode prog_9_method_20_code 22 = .ok (.iconst 0, 1) := by decide +kernel
theorem d_145_23 : decode prog_9_method_20_code 23 = .ok (.istore_n 2, 1) := by decide +kernel
theorem d_145_24 : decode prog_9_method_20_code 24 = .ok (.aload_n 0, 1) := by decide +kernel
theorem d_145_25 : decode prog_9_method_20_code 25 = .ok (.iload_n 2, 1) := by decide +kernel
theorem d_145_26 : decode prog_9_method_20_code 26 = .ok (.ifCond .eq 12, 3) := by decide +kernel
theorem d_145_29 : decode prog_9_method_20_code 29 = .ok (.aload_n 0, 1) := by decide +kernel
theorem d_145_30 : decode prog_9_method_20_code 30 = .ok (.getfield 103, 3) := by decide +kernel
theorem d_145_33 : decode prog_9_method_20_code 33 = .ok (.iconst 1, 1) := by decide +kernel
theorem d_145_34 : decode prog_9_method_20_code 34 = .ok (.iadd, 1) := by decide +kernel
theorem d_145_35 : decode prog_9_method_20_code 35 = .ok (.goto 7, 3) := by decide +kernel
theorem d_145_38 : decode prog_9_method_20_code 38 = .ok (.aload_n 0, 1) := by decide +kernel
theorem d_145_39 : decode prog_9_method_20_code 39 = .ok (.getfield 103, 3) := by decide +kernel
theorem d_145_42 : decode prog_9_method_20_code 42 = .ok (.putfield 103, 3) := by decide +kernel
theorem d_145_45 : decode prog_9_method_20_code 45 = .ok (.iload_n 2, 1) := by decide +kernel
theorem d_145_46 : decode prog_9_method_20_code 46 = .ok (.ifCond .ne 28, 3) := by decide +kernel
theorem d_145_49 : decode prog_9_method_20_code 49 = .ok (.aload_n 0, 1) := by decide +kernel
theorem d_145_50 : decode prog_9_method_20_code 50 = .ok (.aload_n 0, 1) := by decide +kernel
theorem d_145_51 : decode prog_9_method_20_code 51 = .ok (.getfield 103, 3) := by decide +kernel
theorem d_145_54 : decode prog_9_method_20_code 54 = .ok (.invokevirtual 106, 3) := by decide +kernel
theorem d_145_57 : decode prog_9_method_20_code 57 = .ok (.bipush 48, 2) := by decide +kernel
theorem d_145_59 : decode prog_9_method_20_code 59 = .ok (.if_icmp .ne 15, 3) := by decide +kernel
theorem d_145_62 : decode prog_9_method_20_code 62 = .ok (.aload_n 0, 1) := by decide +kernel
theorem d_145_63 : decode prog_9_method_20_code 63 = .ok (.dup, 1) := by decide +kernel
theorem d_145_64 : decode prog_9_method_20_code 64 = .ok (.getfield 103, 3) := by decide +kernel
theorem d_145_67 : decode prog_9_method_20_code 67 = .ok (.iconst 1, 1) := by decide +kernel
theorem d_145_68 : decode prog_9_method_20_code 68 = .ok (.iadd, 1) := by decide +kernel
theorem d_145_69 : decode prog_9_method_20_code 69 = .ok (.putfield 103, 3) := by decide +kernel
theorem d_145_72 : decode prog_9_method_20_code 72 = .ok (.lconst 0, 1) := by decide +kernel
theorem d_145_73 : decode prog_9_method_20_code 73 = .ok (.lreturn, 1) := by decide +kernel
theorem d_145_74 : decode prog_9_method_20_code 74 = .ok (.aload_n 0, 1) := by decide +kernel
theorem d_145_75 : decode prog_9_method_20_code 75 = .ok (.aload_n 0, 1) := by decide +kernel
theorem d_145_76 : decode prog_9_method_20_code 76 = .ok (.getfield 103, 3) := by decide +kernel
theorem d_145_79 : decode prog_9_method_20_code 79 = .ok (.invokevirtual 106, 3) := by decide +kernel
theorem d_145_82 : decode prog_9_method_20_code 82 = .ok (.invokestatic 130, 3) := by decide +kernel
theorem d_145_85 : decode prog_9_method_20_code 85 = .ok (.ifCond .eq 16, 3) := by decide +kernel
theorem d_145_88 : decode prog_9_method_20_code 88 = .ok (.aload_n 0, 1) := by decide +kernel
theorem d_145_89 : decode prog_9_method_20_code 89 = .ok (.aload_n 0, 1) := by decide +kernel
theorem d_145_90 : decode prog_9_method_20_code 90 = .ok (.getfield 103, 3) := by decide +kernel
theorem d_145_93 : decode prog_9_method_20_code 93 = .ok (.invokevirtual 106, 3) := by decide +kernel
theorem d_145_96 : decode prog_9_method_20_code 96 = .ok (.bipush 48, 2) := by decide +kernel
theorem d_145_98 : decode prog_9_method_20_code 98 = .ok (.if_icmp .ne 13, 3) := by decide +kernel
theorem d_145_101 : decode prog_9_method_20_code 101 = .ok (.aload_n 0, 1) := by decide +kernel
theorem d_145_102 : decode prog_9_method_20_code 102 = .ok (.aload_n 0, 1) := by decide +kernel
theorem d_145_103 : decode prog_9_method_20_code 103 = .ok (.getfield 103, 3) := by decide +kernel
theorem d_145_106 : decode prog_9_method_20_code 106 = .ok (.invokevirtual 134, 3) := by decide +kernel
theorem d_145_109 : decode prog_9_method_20_code 109 = .ok (.lconst 0, 1) := by decide +kernel
theorem d_145_110 : decode prog_9_method_20_code 110 = .ok (.lreturn, 1) := by decide +kernel
theorem d_145_111 : decode prog_9_method_20_code 111 = .ok (.lconst 0, 1) := by decide +kernel
theorem d_145_112 : decode prog_9_method_20_code 112 = .ok (.lstore_n 3, 1) := by decide +kernel
theorem d_145_113 : decode prog_9_method_20_code 113 = .ok (.iconst 1, 1) := by decide +kernel
theorem d_145_114 : decode prog_9_method_20_code 114 = .ok (.istore 5, 2) := by decide +kernel
theorem d_145_116 : decode prog_9_method_20_code 116 = .ok (.iconst 0, 1) := by decide +kernel
theorem d_145_117 : decode prog_9_method_20_code 117 = .ok (.istore 6, 2) := by decide +kernel
theorem d_145_119 : decode prog_9_method_20_code 119 = .ok (.aload_n 0, 1) := by decide +kernel
theorem d_145_120 : decode prog_9_method_20_code 120 = .ok (.aload_n 0, 1) := by decide +kernel
theorem d_145_121 : decode prog_9_method_20_code 121 = .ok (.getfield 103, 3) := by decide +kernel
theorem d_145_124 : decode prog_9_method_20_code 124 = .ok (.invokevirtual 106, 3) := by decide +kernel
theorem d_145_127 : decode prog_9_method_20_code 127 = .ok (.invokestatic 130, 3) := by decide +kernel
theorem d_145_130 : decode prog_9_method_20_code 130 = .ok (.ifCond .eq 80, 3) := by decide +kernel
theorem d_145_133 : decode prog_9_method_20_code 133 = .ok (.aload_n 0, 1) := by decide +kernel
theorem d_145_134 : decode prog_9_method_20_code 134 = .ok (.aload_n 0, 1) := by decide +kernel
theorem d_145_135 : decode prog_9_method_20_code 135 = .ok (.getfield 103, 3) := by decide +kernel
theorem d_145_138 : decode prog_9_method_20_code 138 = .ok (.invokevirtual 106, 3) := by decide +kernel
theorem d_145_141 : decode prog_9_method_20_code 141 = .ok (.bipush 48, 2) := by decide +kernel
theorem d_145_143 : decode prog_9_method_20_code 143 = .ok (.isub, 1) := by decide +kernel
theorem d_145_144 : decode prog_9_method_20_code 144 = .ok (.istore 7, 2) := by decide +kernel
theorem d_145_146 : decode prog_9_method_20_code 146 = .ok (.iload 5, 2) := by decide +kernel
theorem d_145_148 : decode prog_9_method_20_code 148 = .ok (.ifCond .eq 24, 3) := by decide +kernel
theorem d_145_151 : decode prog_9_method_20_code 151 = .ok (.iload 6, 2) := by decide +kernel
theorem d_145_153 : decode prog_9_method_20_code 153 = .ok (.bipush 19, 2) := by decide +kernel
theorem d_145_155 : decode prog_9_method_20_code 155 = .ok (.if_icmp .ge 17, 3) := by decide +kernel
theorem d_145_158 : decode prog_9_method_20_code 158 = .ok (.lload_n 3, 1) := by decide +kernel
theorem d_145_159 : decode prog_9_method_20_code 159 = .ok (.iload 7, 2) := by decide +kernel
theorem d_145_161 : decode prog_9_method_20_code 161 = .ok (.iload_n 2, 1) := by decide +kernel
theorem d_145_162 : decode prog_9_method_20_code 162 = .ok (.invokestatic 138, 3) := by decide +kernel
theorem d_145_165 : decode prog_9_method_20_code 165 = .ok (.ifCond .eq 7, 3) := by decide +kernel
theorem d_145_168 : decode prog_9_method_20_code 168 = .ok (.iconst 1, 1) := by decide +kernel
theorem d_145_169 : decode prog_9_method_20_code 169 = .ok (.goto 4, 3) := by decide +kernel
theorem d_145_172 : decode prog_9_method_20_code 172 = .ok (.iconst 0, 1) := by decide +kernel
theorem d_145_173 : decode prog_9_method_20_code 173 = .ok (.istore 5, 2) := by decide +kernel
theorem d_145_175 : decode prog_9_method_20_code 175 = .ok (.iload 5, 2) := by decide +kernel
theorem d_145_177 : decode prog_9_method_20_code 177 = .ok (.ifCond .eq 15, 3) := by decide +kernel
theorem d_145_180 : decode prog_9_method_20_code 180 = .ok (.ldc2_w 142, 3) := by decide +kernel
theorem d_145_183 : decode prog_9_method_20_code 183 = .ok (.lload_n 3, 1) := by decide +kernel
theorem d_145_184 : decode prog_9_method_20_code 184 = .ok (.lmul, 1) := by decide +kernel
theorem d_145_185 : decode prog_9_method_20_code 185 = .ok (.iload 7, 2) := by decide +kernel
theorem d_145_187 : decode prog_9_method_20_code 187 = .ok (.i2l, 1) := by decide +kernel
theorem d_145_188 : decode prog_9_method_20_code 188 = .ok (.lsub, 1) := by decide +kernel
theorem d_145_189 : decode prog_9_method_20_code 189 = .ok (.goto 4, 3) := by decide +kernel
theorem d_145_192 : decode prog_9_method_20_code 192 = .ok (.lload_n 3, 1) := by decide +kernel
theorem d_145_193 : decode prog_9_method_20_code 193 = .ok (.lstore_n 3, 1) := by decide +kernel
theorem d_145_194 : decode prog_9_method_20_code 194 = .ok (.iinc 6 1, 3) := by decide +kernel
theorem d_145_197 : decode prog_9_method_20_code 197 = .ok (.aload_n 0, 1) := by decide +kernel
theorem d_145_198 : decode prog_9_method_20_code 198 = .ok (.dup, 1) := by decide +kernel
theorem d_145_199 : decode prog_9_method_20_code 199 = .ok (.getfield 103, 3) := by decide +kernel
theorem d_145_202 : decode prog_9_method_20_code 202 = .ok (.iconst 1, 1) := by decide +kernel
theorem d_145_203 : decode prog_9_method_20_code 203 = .ok (.iadd, 1) := by decide +kernel
theorem d_145_204 : decode prog_9_method_20_code 204 = .ok (.putfield 103, 3) := by decide +kernel
theorem d_145_207 : decode prog_9_method_20_code 207 = .ok (.goto (-88), 3) := by decide +kernel
theorem d_145_210 : decode prog_9_method_20_code 210 = .ok (.iload 5, 2) := by decide +kernel
theorem d_145_212 : decode prog_9_method_20_code 212 = .ok (.ifCond .ne 8, 3) := by decide +kernel
theorem d_145_215 : decode prog_9_method_20_code 215 = .ok (.aload_n 0, 1) := by decide +kernel
theorem d_145_216 : decode prog_9_method_20_code 216 = .ok (.iload_n 1, 1) := by decide +kernel
theorem d_145_217 : decode prog_9_method_20_code 217 = .ok (.invokevirtual 134, 3) := by decide +kernel
theorem d_145_220 : decode prog_9_method_20_code 220 = .ok (.iload_n 2, 1) := by decide +kernel
theorem d_145_221 : decode prog_9_method_20_code 221 = .ok (.ifCond .eq 7, 3) := by decide +kernel
theorem d_145_224 : decode prog_9_method_20_code 224 = .ok (.lload_n 3, 1) := by decide +kernel
theorem d_145_225 : decode prog_9_method_20_code 225 = .ok (.goto 5, 3) := by decide +kernel
theorem d_145_228 : decode prog_9_method_20_code 228 = .ok (.lload_n 3, 1) := by decide +kernel
theorem d_145_229 : decode prog_9_method_20_code 229 = .ok (.lneg, 1) := by decide +kernel
theorem d_145_230 : decode prog_9_method_20_code 230 = .ok (.lreturn, 1) := by decide +kernel
theorem d_146_0 : decode prog_9_method_35_code 0 = .ok (.aload_n 0, 1) := by decide +kernel
theorem d_146_1 : decode prog_9_method_35_code 1 = .ok (.getfield 162, 3) := by decide +kernel
theorem d_146_4 : decode prog_9_method_35_code 4 = .ok (.ifCond .le 50, 3) := by decide +kernel
theorem d_146_7 : decode prog_9_method_35_code 7 = .ok (.aload_n 0, 1) := by decide +kernel
theorem d_146_8 : decode prog_9_method_35_code 8 = .ok (.getfield 51, 3) := by decide +kernel
theorem d_146_11 : decode prog_9_method_35_code 11 = .ok (.aload_n 0, 1) := by decide +kernel
theorem d_146_12 : decode prog_9_method_35_code 12 = .ok (.getfield 162, 3) := by decide +kernel
theorem d_146_15 : decode prog_9_method_35_code 15 = .ok (.aload_n 0, 1) := by decide +kernel
theorem d_146_16 : decode prog_9_method_35_code 16 = .ok (.getfield 51, 3) := by decide +kernel
theorem d_146_19 : decode prog_9_method_35_code 19 = .ok (.aload_n 0, 1) := by decide +kernel
theorem d_146_20 : decode prog_9_method_35_code 20 = .ok (.getfield 162, 3) := by decide +kernel
theorem d_146_23 : decode prog_9_method_35_code 23 = .ok (.iaload, 1) := by decide +kernel
theorem d_146_24 : decode prog_9_method_35_code 24 = .ok (.ifCond .ne 7, 3) := by decide +kernel
theorem d_146_27 : decode prog_9_method_35_code 27 = .ok (.iconst 1, 1) := by decide +kernel
theorem d_146_28 : decode prog_9_method_35_code 28 = .ok (.goto 12, 3) := by decide +kernel
theorem d_146_31 : decode prog_9_method_35_code 31 = .ok (.aload_n 0, 1) := by decide +kernel
theorem d_146_32 : decode prog_9_method_35_code 32 = .ok (.getfield 51, 3) := by decide +kernel
theorem d_146_35 : decode prog_9_method_35_code 35 = .ok (.aload_n 0, 1) := by decide +kernel
theorem d_146_36 : decode prog_9_method_35_code 36 = .ok (.getfield 162, 3) := by decide +kernel
theorem d_146_39 : decode prog_9_method_35_code 39 = .ok (.iaload, 1) := by decide +kernel
theorem d_146_40 : decode prog_9_method_35_code 40 = .ok (.iastore, 1) := by decide +kernel
theorem d_146_41 : decode prog_9_method_35_code 41 = .ok (.aload_n 0, 1) := by decide +kernel
theorem d_146_42 : decode prog_9_method_35_code 42 = .ok (.getfield 54, 3) := by decide +kernel
theorem d_146_45 : decode prog_9_method_35_code 45 = .ok (.aload_n 0, 1) := by decide +kernel
theorem d_146_46 : decode prog_9_method_35_code 46 = .ok (.getfield 162, 3) := by decide +kernel
theorem d_146_49 : decode prog_9_method_35_code 49 = .ok (.dup2, 1) := by decide +kernel
theorem d_146_50 : decode prog_9_method_35_code 50 = .ok (.iaload, 1) := by decide +kernel
theorem d_146_51 : decode prog_9_method_35_code 51 = .ok (.iconst 1, 1) := by decide +kernel
theorem d_146_52 : decode prog_9_method_35_code 52 = .ok (.iadd, 1) := by decide +kernel
theorem d_146_53 : decode prog_9_method_35_code 53 = .ok (.iastore, 1) := by decide +kernel
theorem d_146_54 : decode prog_9_method_35_code 54 = .ok (.return_, 1) := by decide +kernel
theorem d_147_0 : decode prog_9_method_38_code 0 = .ok (.aload_n 0, 1) := by decide +kernel
theorem d_147_1 : decode prog_9_method_38_code 1 = .ok (.getfield 54, 3) := by decide +kernel
theorem d_147_4 : decode prog_9_method_38_code 4 = .ok (.aload_n 0, 1) := by decide +kernel
theorem d_147_5 : decode prog_9_method_38_code 5 = .ok (.getfield 162, 3) := by decide +kernel
theorem d_147_8 : decode prog_9_method_38_code 8 = .ok (.iaload, 1) := by decide +kernel
theorem d_147_9 : decode prog_9_method_38_code 9 = .ok (.istore_n 2, 1) := by decide +kernel
theorem d_147_10 : decode prog_9_method_38_code 10 = .ok (.aload_n 0, 1) := by decide +kernel
theorem d_147_11 : decode prog_9_method_38_code 11 = .ok (.getfield 51, 3) := by decide +kernel
theorem d_147_14 : decode prog_9_method_38_code 14 = .ok (.aload_n 0, 1) := by decide +kernel
theorem d_147_15 : decode prog_9_method_38_code 15 = .ok (.getfield 162, 3) := by decide +kernel
theorem d_147_18 : decode prog_9_method_38_code 18 = .ok (.iaload, 1) := by decide +kernel
theorem d_147_19 : decode prog_9_method_38_code 19 = .ok (.istore_n 3, 1) := by decide +kernel
theorem d_147_20 : decode prog_9_method_38_code 20 = .ok (.iload_n 3, 1) := by decide +kernel
theorem d_147_21 : decode prog_9_method_38_code 21 = .ok (.iconst 3, 1) := by decide +kernel
theorem d_147_22 : decode prog_9_method_38_code 22 = .ok (.if_icmp .lt 30, 3) := by decide +kernel
theorem d_147_25 : decode prog_9_method_38_code 25 = .ok (.iload_n 1, 1) := by decide +kernel
theorem d_147_26 : decode prog_9_method_38_code 26 = .ok (.ifCond .eq 16, 3) := by decide +kernel
theorem d_147_29 : decode prog_9_method_38_code 29 = .ok (.iload_n 2, 1) := by decide +kernel
theorem d_147_30 : decode prog_9_method_38_code 30 = .ok (.iconst 1, 1) := by decide +kernel
theorem d_147_31 : decode prog_9_method_38_code 31 = .ok (.if_icmp .ne 7, 3) := by decide +kernel
theorem d_147_34 : decode prog_9_method_38_code 34 = .ok (.iconst 1, 1) := by decide +kernel
theorem d_147_35 : decode prog_9_method_38_code 35 = .ok (.goto 16, 3) := by decide +kernel
theorem d_147_38 : decode prog_9_method_38_code 38 = .ok (.iconst 0, 1) := by decide +kernel
theorem d_147_39 : decode prog_9_method_38_code 39 = .ok (.goto 12, 3) := by decide +kernel
theorem d_147_42 : decode prog_9_method_38_code 42 = .ok (.iload_n 2, 1) := by decide +kernel
theorem d_147_43 : decode prog_9_method_38_code 43 = .ok (.ifCond .ne 7, 3) := by decide +kernel
theorem d_147_46 : decode prog_9_method_38_code 46 = .ok (.iconst 1, 1) := by decide +kernel
theorem d_147_47 : decode prog_9_method_38_code 47 = .ok (.goto 4, 3) := by decide +kernel
theorem d_147_50 : decode prog_9_method_38_code 50 = .ok (.iconst 0, 1) := by decide +kernel
theorem d_147_51 : decode prog_9_method_38_code 51 = .ok (.ireturn, 1) := by decide +kernel
theorem d_147_52 : decode prog_9_method_38_code 52 = .ok (.iload_n 1, 1) := by decide +kernel
theorem d_147_53 : decode prog_9_method_38_code 53 = .ok (.ifCond .eq 14, 3) := by decide +kernel
theorem d_147_56 : decode prog_9_method_38_code 56 = .ok (.iload_n 3, 1) := by decide +kernel
theorem d_147_57 : decode prog_9_method_38_code 57 = .ok (.iconst 2, 1) := by decide +kernel
theorem d_147_58 : decode prog_9_method_38_code 58 = .ok (.if_icmp .ne 9, 3) := by decide +kernel
theorem d_147_61 : decode prog_9_method_38_code 61 = .ok (.iload_n 2, 1) := by decide +kernel
theorem d_147_62 : decode prog_9_method_38_code 62 = .ok (.iconst 2, 1) := by decide +kernel
theorem d_147_63 : decode prog_9_method_38_code 63 = .ok (.irem, 1) := by decide +kernel
theorem d_147_64 : decode prog_9_method_38_code 64 = .ok (.ifCond .ne 7, 3) := by decide +kernel
theorem d_147_67 : decode prog_9_method_38_code 67 = .ok (.iconst 1, 1) := by decide +kernel
theorem d_147_68 : decode prog_9_method_38_code 68 = .ok (.goto 4, 3) := by decide +kernel
theorem d_147_71 : decode prog_9_method_38_code 71 = .ok (.iconst 0, 1) := by decide +kernel
theorem d_147_72 : decode prog_9_method_38_code 72 = .ok (.ireturn, 1) := by decide +kernel
theorem d_148_0 : decode prog_9_method_37_code 0 = .ok (.aload_n 0, 1) := by decide +kernel
theorem d_148_1 : decode prog_9_method_37_code 1 = .ok (.getfield 48, 3) := by decide +kernel
theorem d_148_4 : decode prog_9_method_37_code 4 = .ok (.aload_n 0, 1) := by decide +kernel
theorem d_148_5 : decode prog_9_method_37_code 5 = .ok (.getfield 162, 3) := by decide +kernel
theorem d_148_8 : decode prog_9_method_37_code 8 = .ok (.iaload, 1) := by decide +kernel
theorem d_148_9 : decode prog_9_method_37_code 9 = .ok (.istore_n 1, 1) := by decide +kernel
theorem d_148_10 : decode prog_9_method_37_code 10 = .ok (.aload_n 0, 1) := by decide +kernel
theorem d_148_11 : decode prog_9_method_37_code 11 = .ok (.getfield 51, 3) := by decide +kernel
theorem d_148_14 : decode prog_9_method_37_code 14 = .ok (.aload_n 0, 1) := by decide +kernel
theorem d_148_15 : decode prog_9_method_37_code 15 = .ok (.getfield 162, 3) := by decide +kernel
theorem d_148_18 : decode prog_9_method_37_code 18 = .ok (.iaload, 1) := by decide +kernel
theorem d_148_19 : decode prog_9_method_37_code 19 = .ok (.istore_n 2, 1) := by decide +kernel
theorem d_148_20 : decode prog_9_method_37_code 20 = .ok (.aload_n 0, 1) := by decide +kernel
theorem d_148_21 : decode prog_9_method_37_code 21 = .ok (.dup, 1) := by decide +kernel
theorem d_148_22 : decode prog_9_method_37_code 22 = .ok (.getfield 103, 3) := by decide +kernel
theorem d_148_25 : decode prog_9_method_37_code 25 = .ok (.iconst 1, 1) := by decide +kernel
theorem d_148_26 : decode prog_9_method_37_code 26 = .ok (.iadd, 1) := by decide +kernel
theorem d_148_27 : decode prog_9_method_37_code 27 = .ok (.putfield 103, 3) := by decide +kernel
theorem d_148_30 : decode prog_9_method_37_code 30 = .ok (.iload_n 2, 1) := by decide +kernel
theorem d_148_31 : decode prog_9_method_37_code 31 = .ok (.iconst 3, 1) := by decide +kernel
theorem d_148_32 : decode prog_9_method_37_code 32 = .ok (.if_icmp .lt 9, 3) := by decide +kernel
theorem d_148_35 : decode prog_9_method_37_code 35 = .ok (.iload_n 2, 1) := by decide +kernel
theorem d_148_36 : decode prog_9_method_37_code 36 = .ok (.bipush 7, 2) := by decide +kernel
theorem d_148_38 : decode prog_9_method_37_code 38 = .ok (.if_icmp .ne 34, 3) := by decide +kernel
theorem d_148_41 : decode prog_9_method_37_code 41 = .ok (.aload_n 0, 1) := by decide +kernel
theorem d_148_42 : decode prog_9_method_37_code 42 = .ok (.getfield 33, 3) := by decide +kernel
theorem d_148_45 : decode prog_9_method_37_code 45 = .ok (.iload_n 1, 1) := by decide +kernel
theorem d_148_46 : decode prog_9_method_37_code 46 = .ok (.aload_n 0, 1) := by decide +kernel
theorem d_148_47 : decode prog_9_method_37_code 47 = .ok (.getfield 54, 3) := by decide +kernel
theorem d_148_50 : decode prog_9_method_37_code 50 = .ok (.aload_n 0, 1) := by decide +kernel
theorem d_148_51 : decode prog_9_method_37_code 51 = .ok (.getfield 162, 3) := by decide +kernel
theorem d_148_54 : decode prog_9_method_37_code 54 = .ok (.iaload, 1) := by decide +kernel
theorem d_148_55 : decode prog_9_method_37_code 55 = .ok (.iastore, 1) := by decide +kernel
theorem d_148_56 : decode prog_9_method_37_code 56 = .ok (.aload_n 0, 1) := by decide +kernel
theorem d_148_57 : decode prog_9_method_37_code 57 = .ok (.getfield 36, 3) := by decide +kernel
theorem d_148_60 : decode prog_9_method_37_code 60 = .ok (.iload_n 1, 1) := by decide +kernel
theorem d_148_61 : decode prog_9_method_37_code 61 = .ok (.sipush 256, 3) := by decide +kernel
theorem d_148_64 : decode prog_9_method_37_code 64 = .ok (.aload_n 0, 1) := by decide +kernel
theorem d_148_65 : decode prog_9_method_37_code 65 = .ok (.getfield 121, 3) := by decide +kernel
theorem d_148_68 : decode prog_9_method_37_code 68 = .ok (.iadd, 1) := by decide +kernel
theorem d_148_69 : decode prog_9_method_37_code 69 = .ok (.iload_n 1, 1) := by decide +kernel
theorem d_148_70 : decode prog_9_method_37_code 70 = .ok (.isub, 1) := by decide +kernel
theorem d_148_71 : decode prog_9_method_37_code 71 = .ok (.iastore, 1) := by decide +kernel
theorem d_148_72 : decode prog_9_method_37_code 72 = .ok (.iload_n 2, 1) := by decide +kernel
theorem d_148_73 : decode prog_9_method_37_code 73 = .ok (.iconst 4, 1) := by decide +kernel
theorem d_148_74 : decode prog_9_method_37_code 74 = .ok (.if_icmp .eq 14, 3) := by decide +kernel
theorem d_148_77 : decode prog_9_method_37_code 77 = .ok (.iload_n 2, 1) := by decide +kernel
theorem d_148_78 : decode prog_9_method_37_code 78 = .ok (.iconst 5, 1) := by decide +kernel
theorem d_148_79 : decode prog_9_method_37_code 79 = .ok (.if_icmp .eq 9, 3) := by decide +kernel
theorem d_148_82 : decode prog_9_method_37_code 82 = .ok (.iload_n 2, 1) := by decide +kernel
theorem d_148_83 : decode prog_9_method_37_code 83 = .ok (.bipush 6, 2) := by decide +kernel
theorem d_148_85 : decode prog_9_method_37_code 85 = .ok (.if_icmp .ne 7, 3) := by decide +kernel
theorem d_148_88 : decode prog_9_method_37_code 88 = .ok (.iconst 1, 1) := by decide +kernel
theorem d_148_89 : decode prog_9_method_37_code 89 = .ok (.goto 4, 3) := by decide +kernel
theorem d_148_92 : decode prog_9_method_37_code 92 = .ok (.iconst 0, 1) := by decide +kernel
theorem d_148_93 : decode prog_9_method_37_code 93 = .ok (.istore_n 3, 1) := by decide +kernel
theorem d_148_94 : decode prog_9_method_37_code 94 = .ok (.iload_n 3, 1) := by decide +kernel
theorem d_148_95 : decode prog_9_method_37_code 95 = .ok (.ifCond .eq 42, 3) := by decide +kernel
theorem d_148_98 : decode prog_9_method_37_code 98 = .ok (.aload_n 0, 1) := by decide +kernel
theorem d_148_99 : decode prog_9_method_37_code 99 = .ok (.getfield 20, 3) := by decide +kernel
theorem d_148_102 : decode prog_9_method_37_code 102 = .ok (.iload_n 1, 1) := by decide +kernel
theorem d_148_103 : decode prog_9_method_37_code 103 = .ok (.iaload, 1) := by decide +kernel
theorem d_148_104 : decode prog_9_method_37_code 104 = .ok (.bipush 8, 2) := by decide +kernel
theorem d_148_106 : decode prog_9_method_37_code 106 = .ok (.if_icmp .ne 21, 3) := by decide +kernel
theorem d_148_109 : decode prog_9_method_37_code 109 = .ok (.iload_n 2, 1) := by decide +kernel
theorem d_148_110 : decode prog_9_method_37_code 110 = .ok (.bipush 6, 2) := by decide +kernel
theorem d_148_112 : decode prog_9_method_37_code 112 = .ok (.if_icmp .ne 25, 3) := by decide +kernel
theorem d_148_115 : decode prog_9_method_37_code 115 = .ok (.aload_n 0, 1) := by decide +kernel
theorem d_148_116 : decode prog_9_method_37_code 116 = .ok (.getfield 33, 3) := by decide +kernel
theorem d_148_119 : decode prog_9_method_37_code 119 = .ok (.iload_n 1, 1) := by decide +kernel
theorem d_148_120 : decode prog_9_method_37_code 120 = .ok (.iaload, 1) := by decide +kernel
theorem d_148_121 : decode prog_9_method_37_code 121 = .ok (.iconst 2, 1) := by decide +kernel
theorem d_148_122 : decode prog_9_method_37_code 122 = .ok (.irem, 1) := by decide +kernel
theorem d_148_123 : decode prog_9_method_37_code 123 = .ok (.iconst 1, 1) := by decide +kernel
theorem d_148_124 : decode prog_9_method_37_code 124 = .ok (.if_icmp .ne 13, 3) := by decide +kernel
theorem d_148_127 : decode prog_9_method_37_code 127 = .ok (.aload_n 0, 1) := by decide +kernel
theorem d_148_128 : decode prog_9_method_37_code 128 = .ok (.aload_n 0, 1) := by decide +kernel
theorem d_148_129 : decode prog_9_method_37_code 129 = .ok (.getfield 39, 3) := by decide +kernel
theorem d_148_132 : decode prog_9_method_37_code 132 = .ok (.iload_n 1, 1) := by decide +kernel
theorem d_148_133 : decode prog_9_method_37_code 133 = .ok (.iaload, 1) := by decide +kernel
theorem d_148_134 : decode prog_9_method_37_code 134 = .ok (.invokevirtual 134, 3) := by decide +kernel
theorem d_148_137 : decode prog_9_method_37_code 137 = .ok (.iload_n 3, 1) := by decide +kernel
theorem d_148_138 : decode prog_9_method_37_code 138 = .ok (.ifCond .eq 38, 3) := by decide +kernel
theorem d_148_141 : decode prog_9_method_37_code 141 = .ok (.aload_n 0, 1) := by decide +kernel
theorem d_148_142 : decode prog_9_method_37_code 142 = .ok (.getfield 100, 3) := by decide +kernel
theorem d_148_145 : decode prog_9_method_37_code 145 = .ok (.ifCond .ge 31, 3) := by decide +kernel
theorem d_148_148 : decode prog_9_method_37_code 148 = .ok (.aload_n 0, 1) := by decide +kernel
theorem d_148_149 : decode prog_9_method_37_code 149 = .ok (.getfield 20, 3) := by decide +kernel
theorem d_148_152 : decode prog_9_method_37_code 152 = .ok (.iload_n 1, 1) := by decide +kernel
theorem d_148_153 : decode prog_9_method_37_code 153 = .ok (.iload_n 2, 1) := by decide +kernel
theorem d_148_154 : decode prog_9_method_37_code 154 = .ok (.iconst 4, 1) := by decide +kernel
theorem d_148_155 : decode prog_9_method_37_code 155 = .ok (.if_icmp .ne 8, 3) := by decide +kernel
theorem d_148_158 : decode prog_9_method_37_code 158 = .ok (.bipush 10, 2) := by decide +kernel
theorem d_148_160 : decode prog_9_method_37_code 160 = .ok (.goto 15, 3) := by decide +kernel
theorem d_148_163 : decode prog_9_method_37_code 163 = .ok (.iload_n 2, 1) := by decide +kernel
theorem d_148_164 : decode prog_9_method_37_code 164 = .ok (.iconst 5, 1) := by decide +kernel
theorem d_148_165 : decode prog_9_method_37_code 165 = .ok (.if_icmp .ne 8, 3) := by decide +kernel
theorem d_148_168 : decode prog_9_method_37_code 168 = .ok (.bipush 9, 2) := by decide +kernel
theorem d_148_170 : decode prog_9_method_37_code 170 = .ok (.goto 5, 3) := by decide +kernel
theorem d_148_173 : decode prog_9_method_37_code 173 = .ok (.bipush 11, 2) := by decide +kernel
theorem d_148_175 : decode prog_9_method_37_code 175 = .ok (.iastore, 1) := by decide +kernel
theorem d_148_176 : decode prog_9_method_37_code 176 = .ok (.iload_n 2, 1) := by decide +kernel
theorem d_148_177 : decode prog_9_method_37_code 177 = .ok (.iconst 4, 1) := by decide +kernel
theorem d_148_178 : decode prog_9_method_37_code 178 = .ok (.if_icmp .eq 14, 3) := by decide +kernel
theorem d_148_181 : decode prog_9_method_37_code 181 = .ok (.iload_n 2, 1) := by decide +kernel
theorem d_148_182 : decode prog_9_method_37_code 182 = .ok (.bipush 6, 2) := by decide +kernel
theorem d_148_184 : decode prog_9_method_37_code 184 = .ok (.if_icmp .eq 8, 3) := by decide +kernel
theorem d_148_187 : decode prog_9_method_37_code 187 = .ok (.iload_n 2, 1) := by decide +kernel
theorem d_148_188 : decode prog_9_method_37_code 188 = .ok (.iconst 2, 1) := by decide +kernel
theorem d_148_189 : decode prog_9_method_37_code 189 = .ok (.if_icmp .ne 18, 3) := by decide +kernel
theorem d_148_192 : decode prog_9_method_37_code 192 = .ok (.aload_n 0, 1) := by decide +kernel
theorem d_148_193 : decode prog_9_method_37_code 193 = .ok (.iload_n 1, 1) := by decide +kernel
theorem d_148_194 : decode prog_9_method_37_code 194 = .ok (.iload_n 2, 1) := by decide +kernel
theorem d_148_195 : decode prog_9_method_37_code 195 = .ok (.iconst 4, 1) := by decide +kernel
theorem d_148_196 : decode prog_9_method_37_code 196 = .ok (.if_icmp .ne 7, 3) := by decide +kernel
theorem d_148_199 : decode prog_9_method_37_code 199 = .ok (.iconst 1, 1) := by decide +kernel
theorem d_148_200 : decode prog_9_method_37_code 200 = .ok (.goto 4, 3) := by decide +kernel
theorem d_148_203 : decode prog_9_method_37_code 203 = .ok (.iconst 2, 1) := by decide +kernel
theorem d_148_204 : decode prog_9_method_37_code 204 = .ok (.invokevirtual 217, 3) := by decide +kernel
theorem d_148_207 : decode prog_9_method_37_code 207 = .ok (.aload_n 0, 1) := by decide +kernel
theorem d_148_208 : decode prog_9_method_37_code 208 = .ok (.getfield 39, 3) := by decide +kernel
theorem d_148_211 : decode prog_9_method_37_code 211 = .ok (.iload_n 1, 1) := by decide +kernel
theorem d_148_212 : decode prog_9_method_37_code 212 = .ok (.aload_n 0, 1) := by decide +kernel
theorem d_148_213 : decode prog_9_method_37_code 213 = .ok (.getfield 57, 3) := by decide +kernel
theorem d_148_216 : decode prog_9_method_37_code 216 = .ok (.aload_n 0, 1) := by decide +kernel
theorem d_148_217 : decode prog_9_method_37_code 217 = .ok (.getfield 162, 3) := by decide +kernel
theorem d_148_220 : decode prog_9_method_37_code 220 = .ok (.iaload, 1) := by decide +kernel
theorem d_148_221 : decode prog_9_method_37_code 221 = .ok (.iastore, 1) := by decide +kernel
theorem d_148_222 : decode prog_9_method_37_code 222 = .ok (.aload_n 0, 1) := by decide +kernel
theorem d_148_223 : decode prog_9_method_37_code 223 = .ok (.getfield 100, 3) := by decide +kernel
theorem d_148_226 : decode prog_9_method_37_code 226 = .ok (.ifCond .ge 19, 3) := by decide +kernel
theorem d_148_229 : decode prog_9_method_37_code 229 = .ok (.aload_n 0, 1) := by decide +kernel
theorem d_148_230 : decode prog_9_method_37_code 230 = .ok (.iload_n 1, 1) := by decide +kernel
theorem d_148_231 : decode prog_9_method_37_code 231 = .ok (.sipush 256, 3) := by decide +kernel
theorem d_148_234 : decode prog_9_method_37_code 234 = .ok (.sipush 256, 3) := by decide +kernel
theorem d_148_237 : decode prog_9_method_37_code 237 = .ok (.aload_n 0, 1) := by decide +kernel
theorem d_148_238 : decode prog_9_method_37_code 238 = .ok (.getfield 121, 3) := by decide +kernel
theorem d_148_241 : decode prog_9_method_37_code 241 = .ok (.iadd, 1) := by decide +kernel
theorem d_148_242 : decode prog_9_method_37_code 242 = .ok (.invokevirtual 124, 3) := by decide +kernel
theorem d_148_245 : decode prog_9_method_37_code 245 = .ok (.aload_n 0, 1) := by decide +kernel
theorem d_148_246 : decode prog_9_method_37_code 246 = .ok (.dup, 1) := by decide +kernel
theorem d_148_247 : decode prog_9_method_37_code 247 = .ok (.getfield 162, 3) := by decide +kernel
theorem d_148_250 : decode prog_9_method_37_code 250 = .ok (.iconst 1, 1) := by decide +kernel
theorem d_148_251 : decode prog_9_method_37_code 251 = .ok (.isub, 1) := by decide +kernel
theorem d_148_252 : decode prog_9_method_37_code 252 = .ok (.putfield 162, 3) := by decide +kernel
theorem d_148_255 : decode prog_9_method_37_code 255 = .ok (.aload_n 0, 1) := by decide +kernel
theorem d_148_256 : decode prog_9_method_37_code 256 = .ok (.invokevirtual 221, 3) := by decide +kernel
theorem d_148_259 : decode prog_9_method_37_code 259 = .ok (.return_, 1) := by decide +kernel
theorem d_149_0 : decode prog_9_method_36_code 0 = .ok (.iload_n 1, 1) := by decide +kernel
theorem d_149_1 : decode prog_9_method_36_code 1 = .ok (.iconst 1, 1) := by decide +kernel
theorem d_149_2 : decode prog_9_method_36_code 2 = .ok (.iadd, 1) := by decide +kernel
theorem d_149_3 : decode prog_9_method_36_code 3 = .ok (.istore_n 3, 1) := by decide +kernel
theorem d_149_4 : decode prog_9_method_36_code 4 = .ok (.iconst 0, 1) := by decide +kernel
theorem d_149_5 : decode prog_9_method_36_code 5 = .ok (.istore 4, 2) := by decide +kernel
theorem d_149_7 : decode prog_9_method_36_code 7 = .ok (.iload 4, 2) := by decide +kernel
theorem d_149_9 : decode prog_9_method_36_code 9 = .ok (.aload_n 0, 1) := by decide +kernel
theorem d_149_10 : decode prog_9_method_36_code 10 = .ok (.getfield 33, 3) := by decide +kernel
theorem d_149_13 : decode prog_9_method_36_code 13 = .ok (.iload_n 1, 1) := by decide +kernel
theorem d_149_14 : decode prog_9_method_36_code 14 = .ok (.iaload, 1) := by decide +kernel
theorem d_149_15 : decode prog_9_method_36_code 15 = .ok (.if_icmp .ge 91, 3) := by decide +kernel
theorem d_149_18 : decode prog_9_method_36_code 18 = .ok (.iload_n 1, 1) := by decide +kernel
theorem d_149_19 : decode prog_9_method_36_code 19 = .ok (.iconst 1, 1) := by decide +kernel
theorem d_149_20 : decode prog_9_method_36_code 20 = .ok (.iadd, 1) := by decide +kernel
theorem d_149_21 : decode prog_9_method_36_code 21 = .ok (.istore 5, 2) := by decide +kernel
theorem d_149_23 : decode prog_9_method_36_code 23 = .ok (.iconst 0, 1) := by decide +kernel
theorem d_149_24 : decode prog_9_method_36_code 24 = .ok (.istore 6, 2) := by decide +kernel
theorem d_149_26 : decode prog_9_method_36_code 26 = .ok (.iload 6, 2) := by decide +kernel
theorem d_149_28 : decode prog_9_method_36_code 28 = .ok (.iload 4, 2) := by decide +kernel
theorem d_149_30 : decode prog_9_method_36_code 30 = .ok (.if_icmp .ge 61, 3) := by decide +kernel
theorem d_149_33 : decode prog_9_method_36_code 33 = .ok (.iload 4, 2) := by decide +kernel
theorem d_149_35 : decode prog_9_method_36_code 35 = .ok (.iload_n 2, 1) := by decide +kernel
theorem d_149_36 : decode prog_9_method_36_code 36 = .ok (.irem, 1) := by decide +kernel
theorem d_149_37 : decode prog_9_method_36_code 37 = .ok (.ifCond .ne 54, 3) := by decide +kernel
theorem d_149_40 : decode prog_9_method_36_code 40 = .ok (.iload 6, 2) := by decide +kernel
theorem d_149_42 : decode prog_9_method_36_code 42 = .ok (.iload_n 2, 1) := by decide +kernel
theorem d_149_43 : decode prog_9_method_36_code 43 = .ok (.irem, 1) := by decide +kernel
theorem d_149_44 : decode prog_9_method_36_code 44 = .ok (.ifCond .ne 29, 3) := by decide +kernel
theorem d_149_47 : decode prog_9_method_36_code 47 = .ok (.aload_n 0, 1) := by decide +kernel
theorem d_149_48 : decode prog_9_method_36_code 48 = .ok (.getfield 42, 3) := by decide +kernel
theorem d_149_51 : decode prog_9_method_36_code 51 = .ok (.iload_n 3, 1) := by decide +kernel
theorem d_149_52 : decode prog_9_method_36_code 52 = .ok (.iaload, 1) := by decide +kernel
theorem d_149_53 : decode prog_9_method_36_code 53 = .ok (.aload_n 0, 1) := by decide +kernel
theorem d_149_54 : decode prog_9_method_36_code 54 = .ok (.getfield 42, 3) := by decide +kernel
theorem d_149_57 : decode prog_9_method_36_code 57 = .ok (.iload 5, 2) := by decide +kernel
theorem d_149_59 : decode prog_9_method_36_code 59 = .ok (.iaload, 1) := by decide +kernel
theorem d_149_60 : decode prog_9_method_36_code 60 = .ok (.if_icmp .ne 13, 3) := by decide +kernel
theorem d_149_63 : decode prog_9_method_36_code 63 = .ok (.aload_n 0, 1) := by decide +kernel
theorem d_149_64 : decode prog_9_method_36_code 64 = .ok (.aload_n 0, 1) := by decide +kernel
theorem d_149_65 : decode prog_9_method_36_code 65 = .ok (.getfield 39, 3) := by decide +kernel
theorem d_149_68 : decode prog_9_method_36_code 68 = .ok (.iload_n 3, 1) := by decide +kernel
theorem d_149_69 : decode prog_9_method_36_code 69 = .ok (.iaload, 1) := by decide +kernel
theorem d_149_70 : decode prog_9_method_36_code 70 = .ok (.invokevirtual 134, 3) := by decide +kernel
theorem d_149_73 : decode prog_9_method_36_code 73 = .ok (.iload 5, 2) := by decide +kernel
theorem d_149_75 : decode prog_9_method_36_code 75 = .ok (.aload_n 0, 1) := by decide +kernel
theorem d_149_76 : decode prog_9_method_36_code 76 = .ok (.getfield 36, 3) := by decide +kernel
theorem d_149_79 : decode prog_9_method_36_code 79 = .ok (.iload 5, 2) := by decide +kernel
theorem d_149_81 : decode prog_9_method_36_code 81 = .ok (.iaload, 1) := by decide +kernel
theorem d_149_82 : decode prog_9_method_36_code 82 = .ok (.iadd, 1) := by decide +kernel
theorem d_149_83 : decode prog_9_method_36_code 83 = .ok (.istore 5, 2) := by decide +kernel
theorem d_149_85 : decode prog_9_method_36_code 85 = .ok (.iinc 6 1, 3) := by decide +kernel
theorem d_149_88 : decode prog_9_method_36_code 88 = .ok (.goto (-62), 3) := by decide +kernel
theorem d_149_91 : decode prog_9_method_36_code 91 = .ok (.iload_n 3, 1) := by decide +kernel
theorem d_149_92 : decode prog_9_method_36_code 92 = .ok (.aload_n 0, 1) := by decide +kernel
theorem d_149_93 : decode prog_9_method_36_code 93 = .ok (.getfield 36, 3) := by decide +kernel
theorem d_149_96 : decode prog_9_method_36_code 96 = .ok (.iload_n 3, 1) := by decide +kernel
theorem d_149_97 : decode prog_9_method_36_code 97 = .ok (.iaload, 1) := by decide +kernel
theorem d_149_98 : decode prog_9_method_36_code 98 = .ok (.iadd, 1) := by decide +kernel
theorem d_149_99 : decode prog_9_method_36_code 99 = .ok (.istore_n 3, 1) := by decide +kernel
theorem d_149_100 : decode prog_9_method_36_code 100 = .ok (.iinc 4 1, 3) := by decide +kernel
theorem d_149_103 : decode prog_9_method_36_code 103 = .ok (.goto (-96), 3) := by decide +kernel
theorem d_149_106 : decode prog_9_method_36_code 106 = .ok (.return_, 1) := by decide +kernel
theorem d_150_0 : decode prog_9_method_40_code 0 = .ok (.aload_n 0, 1) := by decide +kernel
theorem d_150_1 : decode prog_9_method_40_code 1 = .ok (.getfield 239, 3) := by decide +kernel
theorem d_150_4 : decode prog_9_method_40_code 4 = .ok (.ifCond .eq 9, 3) := by decide +kernel
theorem d_150_7 : decode prog_9_method_40_code 7 = .ok (.iconst 1, 1) := by decide +kernel
theorem d_150_8 : decode prog_9_method_40_code 8 = .ok (.iload_n 1, 1) := by decide +kernel
theorem d_150_9 : decode prog_9_method_40_code 9 = .ok (.isub, 1) := by decide +kernel
theorem d_150_10 : decode prog_9_method_40_code 10 = .ok (.goto 4, 3) := by decide +kernel
theorem d_150_13 : decode prog_9_method_40_code 13 = .ok (.iload_n 1, 1) := by decide +kernel
theorem d_150_14 : decode prog_9_method_40_code 14 = .ok (.ireturn, 1) := by decide +kernel
theorem d_151_0 : decode prog_9_method_42_code 0 = .ok (.iconst 0, 1) := by decide +kernel
theorem d_151_1 : decode prog_9_method_42_code 1 = .ok (.istore 5, 2) := by decide +kernel
theorem d_151_3 : decode prog_9_method_42_code 3 = .ok (.iload 5, 2) := by decide +kernel
theorem d_151_5 : decode prog_9_method_42_code 5 = .ok (.iload_n 3, 1) := by decide +kernel
theorem d_151_6 : decode prog_9_method_42_code 6 = .ok (.if_icmp .ge 118, 3) := by decide +kernel
theorem d_151_9 : decode prog_9_method_42_code 9 = .ok (.sipush 128, 3) := by decide +kernel
theorem d_151_12 : decode prog_9_method_42_code 12 = .ok (.iload_n 1, 1) := by decide +kernel
theorem d_151_13 : decode prog_9_method_42_code 13 = .ok (.imul, 1) := by decide +kernel
theorem d_151_14 : decode prog_9_method_42_code 14 = .ok (.iload 5, 2) := by decide +kernel
theorem d_151_16 : decode prog_9_method_42_code 16 = .ok (.iadd, 1) := by decide +kernel
theorem d_151_17 : decode prog_9_method_42_code 17 = .ok (.istore 6, 2) := by decide +kernel
theorem d_151_19 : decode prog_9_method_42_code 19 = .ok (.aload_n 0, 1) := by decide +kernel
theorem d_151_20 : decode prog_9_method_42_code 20 = .ok (.getfield 20, 3) := by decide +kernel
theorem d_151_23 : decode prog_9_method_42_code 23 = .ok (.iload 6, 2) := by decide +kernel
theorem d_151_25 : decode prog_9_method_42_code 25 = .ok (.aload_n 0, 1) := by decide +kernel
theorem d_151_26 : decode prog_9_method_42_code 26 = .ok (.getfield 20, 3) := by decide +kernel
theorem d_151_29 : decode prog_9_method_42_code 29 = .ok (.iload_n 2, 1) := by decide +kernel
theorem d_151_30 : decode prog_9_method_42_code 30 = .ok (.iload 5, 2) := by decide +kernel
theorem d_151_32 : decode prog_9_method_42_code 32 = .ok (.iadd, 1) := by decide +kernel
theorem d_151_33 : decode prog_9_method_42_code 33 = .ok (.iaload, 1) := by decide +kernel
theorem d_151_34 : decode prog_9_method_42_code 34 = .ok (.iastore, 1) := by decide +kernel
theorem d_151_35 : decode prog_9_method_42_code 35 = .ok (.aload_n 0, 1) := by decide +kernel
theorem d_151_36 : decode prog_9_method_42_code 36 = .ok (.getfield 23, 3) := by decide +kernel
theorem d_151_39 : decode prog_9_method_42_code 39 = .ok (.iload 6, 2) := by decide +kernel
theorem d_151_41 : decode prog_9_method_42_code 41 = .ok (.aload_n 0, 1) := by decide +kernel
theorem d_151_42 : decode prog_9_method_42_code 42 = .ok (.getfield 23, 3) := by decide +kernel
theorem d_151_45 : decode prog_9_method_42_code 45 = .ok (.iload_n 2, 1) := by decide +kernel
theorem d_151_46 : decode prog_9_method_42_code 46 = .ok (.iload 5, 2) := by decide +kernel
theorem d_151_48 : decode prog_9_method_42_code 48 = .ok (.iadd, 1) := by decide +kernel
theorem d_151_49 : decode prog_9_method_42_code 49 = .ok (.laload, 1) := by decide +kernel
theorem d_151_50 : decode prog_9_method_42_code 50 = .ok (.lastore, 1) := by decide +kernel
theorem d_151_51 : decode prog_9_method_42_code 51 = .ok (.aload_n 0, 1) := by decide +kernel
theorem d_151_52 : decode prog_9_method_42_code 52 = .ok (.getfield 27, 3) := by decide +kernel
theorem d_151_55 : decode prog_9_method_42_code 55 = .ok (.iload 6, 2) := by decide +kernel
theorem d_151_57 : decode prog_9_method_42_code 57 = .ok (.aload_n 0, 1) := by decide +kernel
theorem d_151_58 : decode prog_9_method_42_code 58 = .ok (.getfield 27, 3) := by decide +kernel
theorem d_151_61 : decode prog_9_method_42_code 61 = .ok (.iload_n 2, 1) := by decide +kernel
theorem d_151_62 : decode prog_9_method_42_code 62 = .ok (.iload 5, 2) := by decide +kernel
theorem d_151_64 : decode prog_9_method_42_code 64 = .ok (.iadd, 1) := by decide +kernel
theorem d_151_65 : decode prog_9_method_42_code 65 = .ok (.iaload, 1) := by decide +kernel
theorem d_151_66 : decode prog_9_method_42_code 66 = .ok (.iload 4, 2) := by decide +kernel
theorem d_151_68 : decode prog_9_method_42_code 68 = .ok (.iadd, 1) := by decide +kernel
theorem d_151_69 : decode prog_9_method_42_code 69 = .ok (.iastore, 1) := by decide +kernel
theorem d_151_70 : decode prog_9_method_42_code 70 = .ok (.aload_n 0, 1) := by decide +kernel
theorem d_151_71 : decode prog_9_method_42_code 71 = .ok (.getfield 30, 3) := by decide +kernel
theorem d_151_74 : decode prog_9_method_42_code 74 = .ok (.iload 6, 2) := by decide +kernel
theorem d_151_76 : decode prog_9_method_42_code 76 = .ok (.aload_n 0, 1) := by decide +kernel
theorem d_151_77 : decode prog_9_method_42_code 77 = .ok (.getfield 30, 3) := by decide +kernel
theorem d_151_80 : decode prog_9_method_42_code 80 = .ok (.iload_n 2, 1) := by decide +kernel
theorem d_151_81 : decode prog_9_method_42_code 81 = .ok (.iload 5, 2) := by decide +kernel
theorem d_151_83 : decode prog_9_method_42_code 83 = .ok (.iadd, 1) := by decide +kernel
theorem d_151_84 : decode prog_9_method_42_code 84 = .ok (.iaload, 1) := by decide +kernel
theorem d_151_85 : decode prog_9_method_42_code 85 = .ok (.iastore, 1) := by decide +kernel
theorem d_151_86 : decode prog_9_method_42_code 86 = .ok (.aload_n 0, 1) := by decide +kernel
theorem d_151_87 : decode prog_9_method_42_code 87 = .ok (.getfield 33, 3) := by decide +kernel
theorem d_151_90 : decode prog_9_method_42_code 90 = .ok (.iload 6, 2) := by decide +kernel
theorem d_151_92 : decode prog_9_method_42_code 92 = .ok (.aload_n 0, 1) := by decide +kernel
theorem d_151_93 : decode prog_9_method_42_code 93 = .ok (.getfield 33, 3) := by decide +kernel
theorem d_151_96 : decode prog_9_method_42_code 96 = .ok (.iload_n 2, 1) := by decide +kernel
theorem d_151_97 : decode prog_9_method_42_code 97 = .ok (.iload 5, 2) := by decide +kernel
theorem d_151_99 : decode prog_9_method_42_code 99 = .ok (.iadd, 1) := by decide +kernel
theorem d_151_100 : decode prog_9_method_42_code 100 = .ok (.iaload, 1) := by decide +kernel
theorem d_151_101 : decode prog_9_method_42_code 101 = .ok (.iastore, 1) := by decide +kernel
theorem d_151_102 : decode prog_9_method_42_code 102 = .ok (.aload_n 0, 1) := by decide +kernel
theorem d_151_103 : decode prog_9_method_42_code 103 = .ok (.getfield 36, 3) := by decide +kernel
theorem d_151_106 : decode prog_9_method_42_code 106 = .ok (.iload 6, 2) := by decide +kernel
theorem d_151_108 : decode prog_9_method_42_code 108 = .ok (.aload_n 0, 1) := by decide +kernel
theorem d_151_109 : decode prog_9_method_42_code 109 = .ok (.getfield 36, 3) := by decide +kernel
theorem d_151_112 : decode prog_9_method_42_code 112 = .ok (.iload_n 2, 1) := by decide +kernel
theorem d_151_113 : decode prog_9_method_42_code 113 = .ok (.iload 5, 2) := by decide +kernel
theorem d_151_115 : decode prog_9_method_42_code 115 = .ok (.iadd, 1) := by decide +kernel
theorem d_151_116 : decode prog_9_method_42_code 116 = .ok (.iaload, 1) := by decide +kernel
theorem d_151_117 : decode prog_9_method_42_code 117 = .ok (.iastore, 1) := by decide +kernel
theorem d_151_118 : decode prog_9_method_42_code 118 = .ok (.iinc 5 1, 3) := by decide +kernel
theorem d_151_121 : decode prog_9_method_42_code 121 = .ok (.goto (-118), 3) := by decide +kernel
theorem d_151_124 : decode prog_9_method_42_code 124 = .ok (.aload_n 0, 1) := by decide +kernel
theorem d_151_125 : decode prog_9_method_42_code 125 = .ok (.getfield 17, 3) := by decide +kernel
theorem d_151_128 : decode prog_9_method_42_code 128 = .ok (.iload_n 1, 1) := by decide +kernel
theorem d_151_129 : decode prog_9_method_42_code 129 = .ok (.iload_n 3, 1) := by decide +kernel
theorem d_151_130 : decode prog_9_method_42_code 130 = .ok (.iastore, 1) := by decide +kernel
theorem d_151_131 : decode prog_9_method_42_code 131 = .ok (.return_, 1) := by decide +kernel
theorem d_152_0 : decode prog_9_method_44_code 0 = .ok (.aload_n 0, 1) := by decide +kernel
theorem d_152_1 : decode prog_9_method_44_code 1 = .ok (.iconst 0, 1) := by decide +kernel
theorem d_152_2 : decode prog_9_method_44_code 2 = .ok (.putfield 94, 3) := by decide +kernel
theorem d_152_5 : decode prog_9_method_44_code 5 = .ok (.aload_n 0, 1) := by decide +kernel
theorem d_152_6 : decode prog_9_method_44_code 6 = .ok (.getfield 9, 3) := by decide +kernel
theorem d_152_9 : decode prog_9_method_44_code 9 = .ok (.ireturn, 1) := by decide +kernel
theorem d_153_0 : decode prog_9_method_63_code 0 = .ok (.aload_n 0, 1) := by decide +kernel
theorem d_153_1 : decode prog_9_method_63_code 1 = .ok (.iload_n 1, 1) := by decide +kernel
theorem d_153_2 : decode prog_9_method_63_code 2 = .ok (.invokestatic 243, 3) := by decide +kernel
theorem d_153_5 : decode prog_9_method_63_code 5 = .ok (.ifCond .eq 7, 3) := by decide +kernel
theorem d_153_8 : decode prog_9_method_63_code 8 = .ok (.iconst 1, 1) := by decide +kernel
theorem d_153_9 : decode prog_9_method_63_code 9 = .ok (.goto 21, 3) := by decide +kernel
theorem d_153_12 : decode prog_9_method_63_code 12 = .ok (.aload_n 0, 1) := by decide +kernel
theorem d_153_13 : decode prog_9_method_63_code 13 = .ok (.getfield 17, 3) := by decide +kernel
theorem d_153_16 : decode prog_9_method_63_code 16 = .ok (.aload_n 0, 1) := by decide +kernel
theorem d_153_17 : decode prog_9_method_63_code 17 = .ok (.iload_n 1, 1) := by decide +kernel
theorem d_153_18 : decode prog_9_method_63_code 18 = .ok (.invokevirtual 249, 3) := by decide +kernel
theorem d_153_21 : decode prog_9_method_63_code 21 = .ok (.iaload, 1) := by decide +kernel
theorem d_153_22 : decode prog_9_method_63_code 22 = .ok (.ifCond .ne 7, 3) := by decide +kernel
theorem d_153_25 : decode prog_9_method_63_code 25 = .ok (.iconst 2, 1) := by decide +kernel
theorem d_153_26 : decode prog_9_method_63_code 26 = .ok (.goto 4, 3) := by decide +kernel
theorem d_153_29 : decode prog_9_method_63_code 29 = .ok (.iconst 0, 1) := by decide +kernel
theorem d_153_30 : decode prog_9_method_63_code 30 = .ok (.putfield 94, 3) := by decide +kernel
theorem d_153_33 : decode prog_9_method_63_code 33 = .ok (.aload_n 0, 1) := by decide +kernel
theorem d_153_34 : decode prog_9_method_63_code 34 = .ok (.getfield 94, 3) := by decide +kernel
theorem d_153_37 : decode prog_9_method_63_code 37 = .ok (.ifCond .le 5, 3) := by decide +kernel
theorem d_153_40 : decode prog_9_method_63_code 40 = .ok (.iconst 0, 1) := by decide +kernel
theorem d_153_41 : decode prog_9_method_63_code 41 = .ok (.ireturn, 1) := by decide +kernel
theorem d_153_42 : decode prog_9_method_63_code 42 = .ok (.aload_n 0, 1) := by decide +kernel
theorem d_153_43 : decode prog_9_method_63_code 43 = .ok (.sipush 128, 3) := by decide +kernel
theorem d_153_46 : decode prog_9_method_63_code 46 = .ok (.aload_n 0, 1) := by decide +kernel
theorem d_153_47 : decode prog_9_method_63_code 47 = .ok (.iload_n 1, 1) := by decide +kernel
theorem d_153_48 : decode prog_9_method_63_code 48 = .ok (.invokevirtual 249, 3) := by decide +kernel
theorem d_153_51 : decode prog_9_method_63_code 51 = .ok (.imul, 1) := by decide +kernel
theorem d_153_52 : decode prog_9_method_63_code 52 = .ok (.invokevirtual 331, 3) := by decide +kernel
theorem d_153_55 : decode prog_9_method_63_code 55 = .ok (.aload_n 0, 1) := by decide +kernel
theorem d_153_56 : decode prog_9_method_63_code 56 = .ok (.getfield 259, 3) := by decide +kernel
theorem d_153_59 : decode prog_9_method_63_code 59 = .ok (.ifCond .eq 10, 3) := by decide +kernel
theorem d_153_62 : decode prog_9_method_63_code 62 = .ok (.aload_n 0, 1) := by decide +kernel
theorem d_153_63 : decode prog_9_method_63_code 63 = .ok (.iconst 3, 1) := by decide +kernel
theorem d_153_64 : decode prog_9_method_63_code 64 = .ok (.putfield 94, 3) := by decide +kernel
theorem d_153_67 : decode prog_9_method_63_code 67 = .ok (.iconst 0, 1) := by decide +kernel
theorem d_153_68 : decode prog_9_method_63_code 68 = .ok (.ireturn, 1) := by decide +kernel
theorem d_153_69 : decode prog_9_method_63_code 69 = .ok (.aload_n 0, 1) := by decide +kernel
theorem d_153_70 : decode prog_9_method_63_code 70 = .ok (.aload_n 0, 1) := by decide +kernel
theorem d_153_71 : decode prog_9_method_63_code 71 = .ok (.getfield 256, 3) := by decide +kernel
theorem d_153_74 : decode prog_9_method_63_code 74 = .ok (.putfield 97, 3) := by decide +kernel
theorem d_153_77 : decode prog_9_method_63_code 77 = .ok (.iconst 0, 1) := by decide +kernel
theorem d_153_78 : decode prog_9_method_63_code 78 = .ok (.istore_n 2, 1) := by decide +kernel
theorem d_153_79 : decode prog_9_method_63_code 79 = .ok (.iload_n 2, 1) := by decide +kernel
theorem d_153_80 : decode prog_9_method_63_code 80 = .ok (.aload_n 0, 1) := by decide +kernel
theorem d_153_81 : decode prog_9_method_63_code 81 = .ok (.getfield 97, 3) := by decide +kernel
theorem d_153_84 : decode prog_9_method_63_code 84 = .ok (.if_icmp .ge 21, 3) := by decide +kernel
theorem d_153_87 : decode prog_9_method_63_code 87 = .ok (.aload_n 0, 1) := by decide +kernel
theorem d_153_88 : decode prog_9_method_63_code 88 = .ok (.getfield 13, 3) := by decide +kernel
theorem d_153_91 : decode prog_9_method_63_code 91 = .ok (.iload_n 2, 1) := by decide +kernel
theorem d_153_92 : decode prog_9_method_63_code 92 = .ok (.aload_n 0, 1) := by decide +kernel
theorem d_153_93 : decode prog_9_method_63_code 93 = .ok (.getfield 66, 3) := by decide +kernel
theorem d_153_96 : decode prog_9_method_63_code 96 = .ok (.iload_n 2, 1) := by decide +kernel
theorem d_153_97 : decode prog_9_method_63_code 97 = .ok (.iaload, 1) := by decide +kernel
theorem d_153_98 : decode prog_9_method_63_code 98 = .ok (.iastore, 1) := by decide +kernel
theorem d_153_99 : decode prog_9_method_63_code 99 = .ok (.iinc 2 1, 3) := by decide +kernel
theorem d_153_102 : decode prog_9_method_63_code 102 = .ok (.goto (-23), 3) := by decide +kernel
theorem d_153_105 : decode prog_9_method_63_code 105 = .ok (.aload_n 0, 1) := by decide +kernel
theorem d_153_106 : decode prog_9_method_63_code 106 = .ok (.getfield 97, 3) := by decide +kernel
theorem d_153_109 : decode prog_9_method_63_code 109 = .ok (.ireturn, 1) := by decide +kernel
theorem d_154_0 : decode prog_9_method_62_code 0 = .ok (.aload_n 0, 1) := by decide +kernel
theorem d_154_1 : decode prog_9_method_62_code 1 = .ok (.iconst 0, 1) := by decide +kernel
theorem d_154_2 : decode prog_9_method_62_code 2 = .ok (.putfield 256, 3) := by decide +kernel
theorem d_154_5 : decode prog_9_method_62_code 5 = .ok (.aload_n 0, 1) := by decide +kernel
theorem d_154_6 : decode prog_9_method_62_code 6 = .ok (.iconst 0, 1) := by decide +kernel
theorem d_154_7 : decode prog_9_method_62_code 7 = .ok (.putfield 259, 3) := by decide +kernel
theorem d_154_10 : decode prog_9_method_62_code 10 = .ok (.aload_n 0, 1) := by decide +kernel
theorem d_154_11 : decode prog_9_method_62_code 11 = .ok (.iconst 0, 1) := by decide +kernel
theorem d_154_12 : decode prog_9_method_62_code 12 = .ok (.putfield 265, 3) := by decide +kernel
theorem d_154_15 : decode prog_9_method_62_code 15 = .ok (.aload_n 0, 1) := by decide +kernel
theorem d_154_16 : decode prog_9_method_62_code 16 = .ok (.iconst 0, 1) := by decide +kernel
theorem d_154_17 : decode prog_9_method_62_code 17 = .ok (.putfield 159, 3) := by decide +kernel
theorem d_154_20 : decode prog_9_method_62_code 20 = .ok (.aload_n 0, 1) := by decide +kernel
theorem d_154_21 : decode prog_9_method_62_code 21 = .ok (.iconst (-1), 1) := by decide +kernel
theorem d_154_22 : decode prog_9_method_62_code 22 = .ok (.putfield 325, 3) := by decide +kernel
theorem d_154_25 : decode prog_9_method_62_code 25 = .ok (.aload_n 0, 1) := by decide +kernel
theorem d_154_26 : decode prog_9_method_62_code 26 = .ok (.getfield 20, 3) := by decide +kernel
theorem d_154_29 : decode prog_9_method_62_code 29 = .ok (.iload_n 1, 1) := by decide +kernel
theorem d_154_30 : decode prog_9_method_62_code 30 = .ok (.iaload, 1) := by decide +kernel
theorem d_154_31 : decode prog_9_method_62_code 31 = .ok (.bipush 8, 2) := by decide +kernel
theorem d_154_33 : decode prog_9_method_62_code 33 = .ok (.if_icmp .ge 35, 3) := by decide +kernel
theorem d_154_36 : decode prog_9_method_62_code 36 = .ok (.aload_n 0, 1) := by decide +kernel
theorem d_154_37 : decode prog_9_method_62_code 37 = .ok (.invokevirtual 316, 3) := by decide +kernel
theorem d_154_40 : decode prog_9_method_62_code 40 = .ok (.aload_n 0, 1) := by decide +kernel
theorem d_154_41 : decode prog_9_method_62_code 41 = .ok (.bipush 39, 2) := by decide +kernel
theorem d_154_43 : decode prog_9_method_62_code 43 = .ok (.iconst 0, 1) := by decide +kernel
theorem d_154_44 : decode prog_9_method_62_code 44 = .ok (.iconst 0, 1) := by decide +kernel
theorem d_154_45 : decode prog_9_method_62_code 45 = .ok (.iconst 0, 1) := by decide +kernel
theorem d_154_46 : decode prog_9_method_62_code 46 = .ok (.invokevirtual 322, 3) := by decide +kernel
theorem d_154_49 : decode prog_9_method_62_code 49 = .ok (.aload_n 0, 1) := by decide +kernel
theorem d_154_50 : decode prog_9_method_62_code 50 = .ok (.bipush 44, 2) := by decide +kernel
theorem d_154_52 : decode prog_9_method_62_code 52 = .ok (.invokevirtual 262, 3) := by decide +kernel
theorem d_154_55 : decode prog_9_method_62_code 55 = .ok (.aload_n 0, 1) := by decide +kernel
theorem d_154_56 : decode prog_9_method_62_code 56 = .ok (.iload_n 1, 1) := by decide +kernel
theorem d_154_57 : decode prog_9_method_62_code 57 = .ok (.iconst 0, 1) := by decide +kernel
theorem d_154_58 : decode prog_9_method_62_code 58 = .ok (.invokevirtual 312, 3) := by decide +kernel
theorem d_154_61 : decode prog_9_method_62_code 61 = .ok (.aload_n 0, 1) := by decide +kernel
theorem d_154_62 : decode prog_9_method_62_code 62 = .ok (.bipush 93, 2) := by decide +kernel
theorem d_154_64 : decode prog_9_method_62_code 64 = .ok (.invokevirtual 262, 3) := by decide +kernel
theorem d_154_67 : decode prog_9_method_62_code 67 = .ok (.return_, 1) := by decide +kernel
theorem d_154_68 : decode prog_9_method_62_code 68 = .ok (.aload_n 0, 1) := by decide +kernel
theorem d_154_69 : decode prog_9_method_62_code 69 = .ok (.iload_n 1, 1) := by decide +kernel
theorem d_154_70 : decode prog_9_method_62_code 70 = .ok (.iconst 0, 1) := by decide +kernel
theorem d_154_71 : decode prog_9_method_62_code 71 = .ok (.invokevirtual 328, 3) := by decide +kernel
theorem d_154_74 : decode prog_9_method_62_code 74 = .ok (.aload_n 0, 1) := by decide +kernel
theorem d_154_75 : decode prog_9_method_62_code 75 = .ok (.getfield 325, 3) := by decide +kernel
theorem d_154_78 : decode prog_9_method_62_code 78 = .ok (.ifCond .lt 171, 3) := by decide +kernel
theorem d_154_81 : decode prog_9_method_62_code 81 = .ok (.aload_n 0, 1) := by decide +kernel
theorem d_154_82 : decode prog_9_method_62_code 82 = .ok (.getfield 259, 3) := by decide +kernel
theorem d_154_85 : decode prog_9_method_62_code 85 = .ok (.ifCond .ne 164, 3) := by decide +kernel
theorem d_154_88 : decode prog_9_method_62_code 88 = .ok (.aload_n 0, 1) := by decide +kernel
theorem d_154_89 : decode prog_9_method_62_code 89 = .ok (.getfield 325, 3) := by decide +kernel
theorem d_154_92 : decode prog_9_method_62_code 92 = .ok (.istore_n 2, 1) := by decide +kernel
theorem d_154_93 : decode prog_9_method_62_code 93 = .ok (.aload_n 0, 1) := by decide +kernel
theorem d_154_94 : decode prog_9_method_62_code 94 = .ok (.getfield 72, 3) := by decide +kernel
theorem d_154_97 : decode prog_9_method_62_code 97 = .ok (.iload_n 2, 1) := by decide +kernel
theorem d_154_98 : decode prog_9_method_62_code 98 = .ok (.iaload, 1) := by decide +kernel
theorem d_154_99 : decode prog_9_method_62_code 99 = .ok (.ifCond .le 103, 3) := by decide +kernel
theorem d_154_102 : decode prog_9_method_62_code 102 = .ok (.aload_n 0, 1) := by decide +kernel
theorem d_154_103 : decode prog_9_method_62_code 103 = .ok (.getfield 69, 3) := by decide +kernel
theorem d_154_106 : decode prog_9_method_62_code 106 = .ok (.iload_n 2, 1) := by decide +kernel
theorem d_154_107 : decode prog_9_method_62_code 107 = .ok (.iaload, 1) := by decide +kernel
theorem d_154_108 : decode prog_9_method_62_code 108 = .ok (.istore_n 3, 1) := by decide +kernel
theorem d_154_109 : decode prog_9_method_62_code 109 = .ok (.aload_n 0, 1) := by decide +kernel
theorem d_154_110 : decode prog_9_method_62_code 110 = .ok (.getfield 82, 3) := by decide +kernel
theorem d_154_113 : decode prog_9_method_62_code 113 = .ok (.iload_n 2, 1) := by decide +kernel
theorem d_154_114 : decode prog_9_method_62_code 114 = .ok (.baload, 1) := by decide +kernel
theorem d_154_115 : decode prog_9_method_62_code 115 = .ok (.istore 4, 2) := by decide +kernel
theorem d_154_117 : decode prog_9_method_62_code 117 = .ok (.aload_n 0, 1) := by decide +kernel
theorem d_154_118 : decode prog_9_method_62_code 118 = .ok (.getfield 75, 3) := by decide +kernel
theorem d_154_121 : decode prog_9_method_62_code 121 = .ok (.iload_n 2, 1) := by decide +kernel
theorem d_154_122 : decode prog_9_method_62_code 122 = .ok (.baload, 1) := by decide +kernel
theorem d_154_123 : decode prog_9_method_62_code 123 = .ok (.ifCond .eq 9, 3) := by decide +kernel
theorem d_154_126 : decode prog_9_method_62_code 126 = .ok (.aload_n 0, 1) := by decide +kernel
theorem d_154_127 : decode prog_9_method_62_code 127 = .ok (.bipush 44, 2) := by decide +kernel
theorem d_154_129 : decode prog_9_method_62_code 129 = .ok (.invokevirtual 262, 3) := by decide +kernel
theorem d_154_132 : decode prog_9_method_62_code 132 = .ok (.aload_n 0, 1) := by decide +kernel
theorem d_154_133 : decode prog_9_method_62_code 133 = .ok (.getfield 75, 3) := by decide +kernel
theorem d_154_136 : decode prog_9_method_62_code 136 = .ok (.iload_n 2, 1) := by decide +kernel
theorem d_154_137 : decode prog_9_method_62_code 137 = .ok (.iconst 1, 1) := by decide +kernel
theorem d_154_138 : decode prog_9_method_62_code 138 = .ok (.bastore, 1) := by decide +kernel
theorem d_154_139 : decode prog_9_method_62_code 139 = .ok (.aload_n 0, 1) := by decide +kernel
theorem d_154_140 : decode prog_9_method_62_code 140 = .ok (.getfield 72, 3) := by decide +kernel
theorem d_154_143 : decode prog_9_method_62_code 143 = .ok (.iload_n 2, 1) := by decide +kernel
theorem d_154_144 : decode prog_9_method_62_code 144 = .ok (.aload_n 0, 1) := by decide +kernel
theorem d_154_145 : decode prog_9_method_62_code 145 = .ok (.getfield 72, 3) := by decide +kernel
theorem d_154_148 : decode prog_9_method_62_code 148 = .ok (.iload_n 2, 1) := by decide +kernel
theorem d_154_149 : decode prog_9_method_62_code 149 = .ok (.iaload, 1) := by decide +kernel
theorem d_154_150 : decode prog_9_method_62_code 150 = .ok (.iconst 1, 1) := by decide +kernel
theorem d_154_151 : decode prog_9_method_62_code 151 = .ok (.isub, 1) := by decide +kernel
theorem d_154_152 : decode prog_9_method_62_code 152 = .ok (.iastore, 1) := by decide +kernel
theorem d_154_153 : decode prog_9_method_62_code 153 = .ok (.aload_n 0, 1) := by decide +kernel
theorem d_154_154 : decode prog_9_method_62_code 154 = .ok (.getfield 69, 3) := by decide +kernel
theorem d_154_157 : decode prog_9_method_62_code 157 = .ok (.iload_n 2, 1) := by decide +kernel
theorem d_154_158 : decode prog_9_method_62_code 158 = .ok (.iload_n 3, 1) := by decide +kernel
theorem d_154_159 : decode prog_9_method_62_code 159 = .ok (.aload_n 0, 1) := by decide +kernel
theorem d_154_160 : decode prog_9_method_62_code 160 = .ok (.getfield 36, 3) := by decide +kernel
theorem d_154_163 : decode prog_9_method_62_code 163 = .ok (.iload_n 3, 1) := by decide +kernel
theorem d_154_164 : decode prog_9_method_62_code 164 = .ok (.iaload, 1) := by decide +kernel
theorem d_154_165 : decode prog_9_method_62_code 165 = .ok (.iadd, 1) := by decide +kernel
theorem d_154_166 : decode prog_9_method_62_code 166 = .ok (.iastore, 1) := by decide +kernel
theorem d_154_167 : decode prog_9_method_62_code 167 = .ok (.aload_n 0, 1) := by decide +kernel
theorem d_154_168 : decode prog_9_method_62_code 168 = .ok (.getfield 82, 3) := by decide +kernel
theorem d_154_171 : decode prog_9_method_62_code 171 = .ok (.iload_n 2, 1) := by decide +kernel
theorem d_154_172 : decode prog_9_method_62_code 172 = .ok (.aload_n 0, 1) := by decide +kernel
theorem d_154_173 : decode prog_9_method_62_code 173 = .ok (.getfield 79, 3) := by decide +kernel
theorem d_154_176 : decode prog_9_method_62_code 176 = .ok (.iload_n 2, 1) := by decide +kernel
theorem d_154_177 : decode prog_9_method_62_code 177 = .ok (.baload, 1) := by decide +kernel
theorem d_154_178 : decode prog_9_method_62_code 178 = .ok (.ifCond .eq 12, 3) := by decide +kernel
theorem d_154_181 : decode prog_9_method_62_code 181 = .ok (.iload 4, 2) := by decide +kernel
theorem d_154_183 : decode prog_9_method_62_code 183 = .ok (.ifCond .ne 7, 3) := by decide +kernel
theorem d_154_186 : decode prog_9_method_62_code 186 = .ok (.iconst 1, 1) := by decide +kernel
theorem d_154_187 : decode prog_9_method_62_code 187 = .ok (.goto 4, 3) := by decide +kernel
theorem d_154_190 : decode prog_9_method_62_code 190 = .ok (.iconst 0, 1) := by decide +kernel
theorem d_154_191 : decode prog_9_method_62_code 191 = .ok (.bastore, 1) := by decide +kernel
theorem d_154_192 : decode prog_9_method_62_code 192 = .ok (.aload_n 0, 1) := by decide +kernel
theorem d_154_193 : decode prog_9_method_62_code 193 = .ok (.iload_n 3, 1) := by decide +kernel
theorem d_154_194 : decode prog_9_method_62_code 194 = .ok (.iload 4, 2) := by decide +kernel
theorem d_154_196 : decode prog_9_method_62_code 196 = .ok (.invokevirtual 328, 3) := by decide +kernel
theorem d_154_199 : decode prog_9_method_62_code 199 = .ok (.goto 47, 3) := by decide +kernel
theorem d_154_202 : decode prog_9_method_62_code 202 = .ok (.iconst 0, 1) := by decide +kernel
theorem d_154_203 : decode prog_9_method_62_code 203 = .ok (.istore_n 3, 1) := by decide +kernel
theorem d_154_204 : decode prog_9_method_62_code 204 = .ok (.iload_n 3, 1) := by decide +kernel
theorem d_154_205 : decode prog_9_method_62_code 205 = .ok (.aload_n 0, 1) := by decide +kernel
theorem d_154_206 : decode prog_9_method_62_code 206 = .ok (.getfield 85, 3) := by decide +kernel
theorem d_154_209 : decode prog_9_method_62_code 209 = .ok (.iload_n 2, 1) := by decide +kernel
theorem d_154_210 : decode prog_9_method_62_code 210 = .ok (.iaload, 1) := by decide +kernel
theorem d_154_211 : decode prog_9_method_62_code 211 = .ok (.if_icmp .ge 25, 3) := by decide +kernel
theorem d_154_214 : decode prog_9_method_62_code 214 = .ok (.aload_n 0, 1) := by decide +kernel
theorem d_154_215 : decode prog_9_method_62_code 215 = .ok (.bipush 93, 2) := by decide +kernel
theorem d_154_217 : decode prog_9_method_62_code 217 = .ok (.invokevirtual 262, 3) := by decide +kernel
theorem d_154_220 : decode prog_9_method_62_code 220 = .ok (.aload_n 0, 1) := by decide +kernel
theorem d_154_221 : decode prog_9_method_62_code 221 = .ok (.dup, 1) := by decide +kernel
theorem d_154_222 : decode prog_9_method_62_code 222 = .ok (.getfield 265, 3) := by decide +kernel
theorem d_154_225 : decode prog_9_method_62_code 225 = .ok (.iconst 1, 1) := by decide +kernel
theorem d_154_226 : decode prog_9_method_62_code 226 = .ok (.isub, 1) := by decide +kernel
theorem d_154_227 : decode prog_9_method_62_code 227 = .ok (.putfield 265, 3) := by decide +kernel
theorem d_154_230 : decode prog_9_method_62_code 230 = .ok (.iinc 3 1, 3) := by decide +kernel
theorem d_154_233 : decode prog_9_method_62_code 233 = .ok (.goto (-29), 3) := by decide +kernel
theorem d_154_236 : decode prog_9_method_62_code 236 = .ok (.aload_n 0, 1) := by decide +kernel
theorem d_154_237 : decode prog_9_method_62_code 237 = .ok (.dup, 1) := by decide +kernel
theorem d_154_238 : decode prog_9_method_62_code 238 = .ok (.getfield 325, 3) := by decide +kernel
theorem d_154_241 : decode prog_9_method_62_code 241 = .ok (.iconst 1, 1) := by decide +kernel
theorem d_154_242 : decode prog_9_method_62_code 242 = .ok (.isub, 1) := by decide +kernel
theorem d_154_243 : decode prog_9_method_62_code 243 = .ok (.putfield 325, 3) := by decide +kernel
theorem d_154_246 : decode prog_9_method_62_code 246 = .ok (.goto (-172), 3) := by decide +kernel
theorem d_154_249 : decode prog_9_method_62_code 249 = .ok (.return_, 1) := by decide +kernel
theorem d_155_0 : decode prog_9_method_46_code 0 = .ok (.aload_n 0, 1) := by decide +kernel
theorem d_155_1 : decode prog_9_method_46_code 1 = .ok (.bipush 91, 2) := by decide +kernel
theorem d_155_3 : decode prog_9_method_46_code 3 = .ok (.invokevirtual 262, 3) := by decide +kernel
theorem d_155_6 : decode prog_9_method_46_code 6 = .ok (.aload_n 0, 1) := by decide +kernel
theorem d_155_7 : decode prog_9_method_46_code 7 = .ok (.dup, 1) := by decide +kernel
theorem d_155_8 : decode prog_9_method_46_code 8 = .ok (.getfield 265, 3) := by decide +kernel
theorem d_155_11 : decode prog_9_method_46_code 11 = .ok (.iconst 1, 1) := by decide +kernel
theorem d_155_12 : decode prog_9_method_46_code 12 = .ok (.iadd, 1) := by decide +kernel
theorem d_155_13 : decode prog_9_method_46_code 13 = .ok (.putfield 265, 3) := by decide +kernel
theorem d_155_16 : decode prog_9_method_46_code 16 = .ok (.aload_n 0, 1) := by decide +kernel
theorem d_155_17 : decode prog_9_method_46_code 17 = .ok (.aload_n 0, 1) := by decide +kernel
theorem d_155_18 : decode prog_9_method_46_code 18 = .ok (.getfield 259, 3) := by decide +kernel
theorem d_155_21 : decode prog_9_method_46_code 21 = .ok (.ifCond .ne 12, 3) := by decide +kernel
theorem d_155_24 : decode prog_9_method_46_code 24 = .ok (.aload_n 0, 1) := by decide +kernel
theorem d_155_25 : decode prog_9_method_46_code 25 = .ok (.getfield 265, 3) := by decide +kernel
theorem d_155_28 : decode prog_9_method_46_code 28 = .ok (.bipush 8, 2) := by decide +kernel
theorem d_155_30 : decode prog_9_method_46_code 30 = .ok (.if_icmp .le 7, 3) := by decide +kernel
theorem d_155_33 : decode prog_9_method_46_code 33 = .ok (.iconst 1, 1) := by decide +kernel
theorem d_155_34 : decode prog_9_method_46_code 34 = .ok (.goto 4, 3) := by decide +kernel
theorem d_155_37 : decode prog_9_method_46_code 37 = .ok (.iconst 0, 1) := by decide +kernel
theorem d_155_38 : decode prog_9_method_46_code 38 = .ok (.putfield 259, 3) := by decide +kernel
theorem d_155_41 : decode prog_9_method_46_code 41 = .ok (.return_, 1) := by decide +kernel
theorem d_156_0 : decode prog_9_method_45_code 0 = .ok (.aload_n 0, 1) := by decide +kernel
theorem d_156_1 : decode prog_9_method_45_code 1 = .ok (.getfield 256, 3) := by decide +kernel
theorem d_156_4 : decode prog_9_method_45_code 4 = .ok (.sipush 240, 3) := by decide +kernel
theorem d_156_7 : decode prog_9_method_45_code 7 = .ok (.if_icmp .ne 9, 3) := by decide +kernel
theorem d_156_10 : decode prog_9_method_45_code 10 = .ok (.aload_n 0, 1) := by decide +kernel
theorem d_156_11 : decode prog_9_method_45_code 11 = .ok (.iconst 1, 1) := by decide +kernel
theorem d_156_12 : decode prog_9_method_45_code 12 = .ok (.putfield 259, 3) := by decide +kernel
theorem d_156_15 : decode prog_9_method_45_code 15 = .ok (.return_, 1) := by decide +kernel
theorem d_156_16 : decode prog_9_method_45_code 16 = .ok (.aload_n 0, 1) := by decide +kernel
theorem d_156_17 : decode prog_9_method_45_code 17 = .ok (.getfield 66, 3) := by decide +kernel
theorem d_156_20 : decode prog_9_method_45_code 20 = .ok (.aload_n 0, 1) := by decide +kernel
theorem d_156_21 : decode prog_9_method_45_code 21 = .ok (.getfield 256, 3) := by decide +kernel
theorem d_156_24 : decode prog_9_method_45_code 24 = .ok (.iload_n 1, 1) := by decide +kernel
theorem d_156_25 : decode prog_9_method_45_code 25 = .ok (.iastore, 1) := by decide +kernel
theorem d_156_26 : decode prog_9_method_45_code 26 = .ok (.aload_n 0, 1) := by decide +kernel
theorem d_156_27 : decode prog_9_method_45_code 27 = .ok (.dup, 1) := by decide +kernel
theorem d_156_28 : decode prog_9_method_45_code 28 = .ok (.getfield 256, 3) := by decide +kernel
theorem d_156_31 : decode prog_9_method_45_code 31 = .ok (.iconst 1, 1) := by decide +kernel
theorem d_156_32 : decode prog_9_method_45_code 32 = .ok (.iadd, 1) := by decide +kernel
theorem d_156_33 : decode prog_9_method_45_code 33 = .ok (.putfield 256, 3) := by decide +kernel
theorem d_156_36 : decode prog_9_method_45_code 36 = .ok (.return_, 1) := by decide +kernel
theorem d_157_0 : decode prog_9_method_56_code 0 = .ok (.aload_n 0, 1) := by decide +kernel
theorem d_157_1 : decode prog_9_method_56_code 1 = .ok (.bipush 126, 2) := by decide +kernel
theorem d_157_3 : decode prog_9_method_56_code 3 = .ok (.bipush 35, 2) := by decide +kernel
theorem d_157_5 : decode prog_9_method_56_code 5 = .ok (.invokevirtual 288, 3) := by decide +kernel
theorem d_157_8 : decode prog_9_method_56_code 8 = .ok (.aload_n 0, 1) := by decide +kernel
theorem d_157_9 : decode prog_9_method_56_code 9 = .ok (.iload_n 1, 1) := by decide +kernel
theorem d_157_10 : decode prog_9_method_56_code 10 = .ok (.invokevirtual 271, 3) := by decide +kernel
theorem d_157_13 : decode prog_9_method_56_code 13 = .ok (.iload_n 2, 1) := by decide +kernel
theorem d_157_14 : decode prog_9_method_56_code 14 = .ok (.ifCond .le 13, 3) := by decide +kernel
theorem d_157_17 : decode prog_9_method_56_code 17 = .ok (.aload_n 0, 1) := by decide +kernel
theorem d_157_18 : decode prog_9_method_56_code 18 = .ok (.iload_n 2, 1) := by decide +kernel
theorem d_157_19 : decode prog_9_method_56_code 19 = .ok (.invokevirtual 271, 3) := by decide +kernel
theorem d_157_22 : decode prog_9_method_56_code 22 = .ok (.aload_n 0, 1) := by decide +kernel
theorem d_157_23 : decode prog_9_method_56_code 23 = .ok (.iload_n 3, 1) := by decide +kernel
theorem d_157_24 : decode prog_9_method_56_code 24 = .ok (.invokevirtual 271, 3) := by decide +kernel
theorem d_157_27 : decode prog_9_method_56_code 27 = .ok (.iload 4, 2) := by decide +kernel
theorem d_157_29 : decode prog_9_method_56_code 29 = .ok (.ifCond .le 9, 3) := by decide +kernel
theorem d_157_32 : decode prog_9_method_56_code 32 = .ok (.aload_n 0, 1) := by decide +kernel
theorem d_157_33 : decode prog_9_method_56_code 33 = .ok (.iload 4, 2) := by decide +kernel
theorem d_157_35 : decode prog_9_method_56_code 35 = .ok (.invokevirtual 271, 3) := by decide +kernel
theorem d_157_38 : decode prog_9_method_56_code 38 = .ok (.aload_n 0, 1) := by decide +kernel
theorem d_157_39 : decode prog_9_method_56_code 39 = .ok (.iconst 0, 1) := by decide +kernel
theorem d_157_40 : decode prog_9_method_56_code 40 = .ok (.invokevirtual 291, 3) := by decide +kernel
theorem d_157_43 : decode prog_9_method_56_code 43 = .ok (.return_, 1) := by decide +kernel
theorem d_158_0 : decode prog_9_method_48_code 0 = .ok (.aload_n 0, 1) := by decide +kernel
theorem d_158_1 : decode prog_9_method_48_code 1 = .ok (.iconst 0, 1) := by decide +kernel
theorem d_158_2 : decode prog_9_method_48_code 2 = .ok (.putfield 268, 3) := by decide +kernel
theorem d_158_5 : decode prog_9_method_48_code 5 = .ok (.aload_n 0, 1) := by decide +kernel
theorem d_158_6 : decode prog_9_method_48_code 6 = .ok (.iload_n 1, 1) := by decide +kernel
theorem d_158_7 : decode prog_9_method_48_code 7 = .ok (.invokevirtual 271, 3) := by decide +kernel
theorem d_158_10 : decode prog_9_method_48_code 10 = .ok (.iload_n 2, 1) := by decide +kernel
theorem d_158_11 : decode prog_9_method_48_code 11 = .ok (.ifCond .le 8, 3) := by decide +kernel
theorem d_158_14 : decode prog_9_method_48_code 14 = .ok (.aload_n 0, 1) := by decide +kernel
theorem d_158_15 : decode prog_9_method_48_code 15 = .ok (.iload_n 2, 1) := by decide +kernel
theorem d_158_16 : decode prog_9_method_48_code 16 = .ok (.invokevirtual 271, 3) := by decide +kernel
theorem d_158_19 : decode prog_9_method_48_code 19 = .ok (.return_, 1) := by decide +kernel
theorem d_159_0 : decode prog_9_method_47_code 0 = .ok (.aload_n 0, 1) := by decide +kernel
theorem d_159_1 : decode prog_9_method_47_code 1 = .ok (.getfield 88, 3) := by decide +kernel
theorem d_159_4 : decode prog_9_method_47_code 4 = .ok (.aload_n 0, 1) := by decide +kernel
theorem d_159_5 : decode prog_9_method_47_code 5 = .ok (.getfield 268, 3) := by decide +kernel
theorem d_159_8 : decode prog_9_method_47_code 8 = .ok (.iload_n 1, 1) := by decide +kernel
theorem d_159_9 : decode prog_9_method_47_code 9 = .ok (.iastore, 1) := by decide +kernel
theorem d_159_10 : decode prog_9_method_47_code 10 = .ok (.aload_n 0, 1) := by decide +kernel
theorem d_159_11 : decode prog_9_method_47_code 11 = .ok (.dup, 1) := by decide +kernel
theorem d_159_12 : decode prog_9_method_47_code 12 = .ok (.getfield 268, 3) := by decide +kernel
theorem d_159_15 : decode prog_9_method_47_code 15 = .ok (.iconst 1, 1) := by decide +kernel
theorem d_159_16 : decode prog_9_method_47_code 16 = .ok (.iadd, 1) := by decide +kernel
theorem d_159_17 : decode prog_9_method_47_code 17 = .ok (.putfield 268, 3) := by decide +kernel
theorem d_159_20 : decode prog_9_method_47_code 20 = .ok (.return_, 1) := by decide +kernel
theorem d_160_0 : decode prog_9_method_55_code 0 = .ok (.aload_n 0, 1) := by decide +kernel
theorem d_160_1 : decode prog_9_method_55_code 1 = .ok (.getfield 259, 3) := by decide +kernel
theorem d_160_4 : decode prog_9_method_55_code 4 = .ok (.ifCond .eq 4, 3) := by decide +kernel
theorem d_160_7 : decode prog_9_method_55_code 7 = .ok (.return_, 1) := by decide +kernel
theorem d_160_8 : decode prog_9_method_55_code 8 = .ok (.aload_n 0, 1) := by decide +kernel
theorem d_160_9 : decode prog_9_method_55_code 9 = .ok (.getfield 268, 3) := by decide +kernel
theorem d_160_12 : decode prog_9_method_55_code 12 = .ok (.iconst 3, 1) := by decide +kernel
theorem d_160_13 : decode prog_9_method_55_code 13 = .ok (.if_icmp .le 55, 3) := by decide +kernel
theorem d_160_16 : decode prog_9_method_55_code 16 = .ok (.iload_n 1, 1) := by decide +kernel
theorem d_160_17 : decode prog_9_method_55_code 17 = .ok (.ifCond .ne 47, 3) := by decide +kernel
theorem d_160_20 : decode prog_9_method_55_code 20 = .ok (.aload_n 0, 1) := by decide +kernel
theorem d_160_21 : decode prog_9_method_55_code 21 = .ok (.getfield 88, 3) := by decide +kernel
theorem d_160_24 : decode prog_9_method_55_code 24 = .ok (.iconst 0, 1) := by decide +kernel
theorem d_160_25 : decode prog_9_method_55_code 25 = .ok (.iaload, 1) := by decide +kernel
theorem d_160_26 : decode prog_9_method_55_code 26 = .ok (.bipush 126, 2) := by decide +kernel
theorem d_160_28 : decode prog_9_method_55_code 28 = .ok (.if_icmp .ne 40, 3) := by decide +kernel
theorem d_160_31 : decode prog_9_method_55_code 31 = .ok (.aload_n 0, 1) := by decide +kernel
theorem d_160_32 : decode prog_9_method_55_code 32 = .ok (.getfield 88, 3) := by decide +kernel
theorem d_160_35 : decode prog_9_method_55_code 35 = .ok (.iconst 1, 1) := by decide +kernel
theorem d_160_36 : decode prog_9_method_55_code 36 = .ok (.iaload, 1) := by decide +kernel
theorem d_160_37 : decode prog_9_method_55_code 37 = .ok (.bipush 58, 2) := by decide +kernel
theorem d_160_39 : decode prog_9_method_55_code 39 = .ok (.if_icmp .eq 25, 3) := by decide +kernel
theorem d_160_42 : decode prog_9_method_55_code 42 = .ok (.aload_n 0, 1) := by decide +kernel
theorem d_160_43 : decode prog_9_method_55_code 43 = .ok (.getfield 88, 3) := by decide +kernel
theorem d_160_46 : decode prog_9_method_55_code 46 = .ok (.iconst 1, 1) := by decide +kernel
theorem d_160_47 : decode prog_9_method_55_code 47 = .ok (.iaload, 1) := by decide +kernel
theorem d_160_48 : decode prog_9_method_55_code 48 = .ok (.bipush 36, 2) := by decide +kernel
theorem d_160_50 : decode prog_9_method_55_code 50 = .ok (.if_icmp .eq 14, 3) := by decide +kernel
theorem d_160_53 : decode prog_9_method_55_code 53 = .ok (.aload_n 0, 1) := by decide +kernel
theorem d_160_54 : decode prog_9_method_55_code 54 = .ok (.getfield 88, 3) := by decide +kernel
theorem d_160_57 : decode prog_9_method_55_code 57 = .ok (.iconst 1, 1) := by decide +kernel
theorem d_160_58 : decode prog_9_method_55_code 58 = .ok (.iaload, 1) := by decide +kernel
theorem d_160_59 : decode prog_9_method_55_code 59 = .ok (.bipush 35, 2) := by decide +kernel
theorem d_160_61 : decode prog_9_method_55_code 61 = .ok (.if_icmp .ne 7, 3) := by decide +kernel
theorem d_160_64 : decode prog_9_method_55_code 64 = .ok (.iconst 1, 1) := by decide +kernel
theorem d_160_65 : decode prog_9_method_55_code 65 = .ok (.goto 4, 3) := by decide +kernel
theorem d_160_68 : decode prog_9_method_55_code 68 = .ok (.iconst 0, 1) := by decide +kernel
theorem d_160_69 : decode prog_9_method_55_code 69 = .ok (.istore_n 2, 1) := by decide +kernel
theorem d_160_70 : decode prog_9_method_55_code 70 = .ok (.iload_n 2, 1) := by decide +kernel
theorem d_160_71 : decode prog_9_method_55_code 71 = .ok (.ifCond .eq 10, 3) := by decide +kernel
theorem d_160_74 : decode prog_9_method_55_code 74 = .ok (.aload_n 0, 1) := by decide +kernel
theorem d_160_75 : decode prog_9_method_55_code 75 = .ok (.invokevirtual 282, 3) := by decide +kernel
theorem d_160_78 : decode prog_9_method_55_code 78 = .ok (.goto 4, 3) := by decide +kernel
theorem d_160_81 : decode prog_9_method_55_code 81 = .ok (.iconst (-1), 1) := by decide +kernel
theorem d_160_82 : decode prog_9_method_55_code 82 = .ok (.istore_n 3, 1) := by decide +kernel
theorem d_160_83 : decode prog_9_method_55_code 83 = .ok (.aload_n 0, 1) := by decide +kernel
theorem d_160_84 : decode prog_9_method_55_code 84 = .ok (.bipush 34, 2) := by decide +kernel
theorem d_160_86 : decode prog_9_method_55_code 86 = .ok (.invokevirtual 262, 3) := by decide +kernel
theorem d_160_89 : decode prog_9_method_55_code 89 = .ok (.iload_n 3, 1) := by decide +kernel
theorem d_160_90 : decode prog_9_method_55_code 90 = .ok (.ifCond .lt 36, 3) := by decide +kernel
theorem d_160_93 : decode prog_9_method_55_code 93 = .ok (.aload_n 0, 1) := by decide +kernel
theorem d_160_94 : decode prog_9_method_55_code 94 = .ok (.bipush 94, 2) := by decide +kernel
theorem d_160_96 : decode prog_9_method_55_code 96 = .ok (.invokevirtual 262, 3) := by decide +kernel
theorem d_160_99 : decode prog_9_method_55_code 99 = .ok (.iload_n 3, 1) := by decide +kernel
theorem d_160_100 : decode prog_9_method_55_code 100 = .ok (.iconst 5, 1) := by decide +kernel
theorem d_160_101 : decode prog_9_method_55_code 101 = .ok (.if_icmp .le 14, 3) := by decide +kernel
theorem d_160_104 : decode prog_9_method_55_code 104 = .ok (.aload_n 0, 1) := by decide +kernel
theorem d_160_105 : decode prog_9_method_55_code 105 = .ok (.bipush 48, 2) := by decide +kernel
theorem d_160_107 : decode prog_9_method_55_code 107 = .ok (.iload_n 3, 1) := by decide +kernel
theorem d_160_108 : decode prog_9_method_55_code 108 = .ok (.bipush 6, 2) := by decide +kernel
theorem d_160_110 : decode prog_9_method_55_code 110 = .ok (.idiv, 1) := by decide +kernel
theorem d_160_111 : decode prog_9_method_55_code 111 = .ok (.iadd, 1) := by decide +kernel
theorem d_160_112 : decode prog_9_method_55_code 112 = .ok (.invokevirtual 262, 3) := by decide +kernel
theorem d_160_115 : decode prog_9_method_55_code 115 = .ok (.aload_n 0, 1) := by decide +kernel
theorem d_160_116 : decode prog_9_method_55_code 116 = .ok (.bipush 48, 2) := by decide +kernel
theorem d_160_118 : decode prog_9_method_55_code 118 = .ok (.iload_n 3, 1) := by decide +kernel
theorem d_160_119 : decode prog_9_method_55_code 119 = .ok (.bipush 6, 2) := by decide +kernel
theorem d_160_121 : decode prog_9_method_55_code 121 = .ok (.irem, 1) := by decide +kernel
theorem d_160_122 : decode prog_9_method_55_code 122 = .ok (.iadd, 1) := by decide +kernel
theorem d_160_123 : decode prog_9_method_55_code 123 = .ok (.invokevirtual 262, 3) := by decide +kernel
theorem d_160_126 : decode prog_9_method_55_code 126 = .ok (.iconst 0, 1) := by decide +kernel
theorem d_160_127 : decode prog_9_method_55_code 127 = .ok (.istore 4, 2) := by decide +kernel
theorem d_160_129 : decode prog_9_method_55_code 129 = .ok (.iload 4, 2) := by decide +kernel
theorem d_160_131 : decode prog_9_method_55_code 131 = .ok (.aload_n 0, 1) := by decide +kernel
theorem d_160_132 : decode prog_9_method_55_code 132 = .ok (.getfield 268, 3) := by decide +kernel
theorem d_160_135 : decode prog_9_method_55_code 135 = .ok (.if_icmp .ge 54, 3) := by decide +kernel
theorem d_160_138 : decode prog_9_method_55_code 138 = .ok (.iload_n 3, 1) := by decide +kernel
theorem d_160_139 : decode prog_9_method_55_code 139 = .ok (.ifCond .ge 50, 3) := by decide +kernel
theorem d_160_142 : decode prog_9_method_55_code 142 = .ok (.aload_n 0, 1) := by decide +kernel
theorem d_160_143 : decode prog_9_method_55_code 143 = .ok (.getfield 88, 3) := by decide +kernel
theorem d_160_146 : decode prog_9_method_55_code 146 = .ok (.iload 4, 2) := by decide +kernel
theorem d_160_148 : decode prog_9_method_55_code 148 = .ok (.iaload, 1) := by decide +kernel
theorem d_160_149 : decode prog_9_method_55_code 149 = .ok (.bipush 34, 2) := by decide +kernel
theorem d_160_151 : decode prog_9_method_55_code 151 = .ok (.if_icmp .eq 15, 3) := by decide +kernel
theorem d_160_154 : decode prog_9_method_55_code 154 = .ok (.aload_n 0, 1) := by decide +kernel
theorem d_160_155 : decode prog_9_method_55_code 155 = .ok (.getfield 88, 3) := by decide +kernel
theorem d_160_158 : decode prog_9_method_55_code 158 = .ok (.iload 4, 2) := by decide +kernel
theorem d_160_160 : decode prog_9_method_55_code 160 = .ok (.iaload, 1) := by decide +kernel
theorem d_160_161 : decode prog_9_method_55_code 161 = .ok (.bipush 92, 2) := by decide +kernel
theorem d_160_163 : decode prog_9_method_55_code 163 = .ok (.if_icmp .ne 9, 3) := by decide +kernel
theorem d_160_166 : decode prog_9_method_55_code 166 = .ok (.aload_n 0, 1) := by decide +kernel
theorem d_160_167 : decode prog_9_method_55_code 167 = .ok (.bipush 92, 2) := by decide +kernel
theorem d_160_169 : decode prog_9_method_55_code 169 = .ok (.invokevirtual 262, 3) := by decide +kernel
theorem d_160_172 : decode prog_9_method_55_code 172 = .ok (.aload_n 0, 1) := by decide +kernel
theorem d_160_173 : decode prog_9_method_55_code 173 = .ok (.aload_n 0, 1) := by decide +kernel
theorem d_160_174 : decode prog_9_method_55_code 174 = .ok (.getfield 88, 3) := by decide +kernel
theorem d_160_177 : decode prog_9_method_55_code 177 = .ok (.iload 4, 2) := by decide +kernel
theorem d_160_179 : decode prog_9_method_55_code 179 = .ok (.iaload, 1) := by decide +kernel
theorem d_160_180 : decode prog_9_method_55_code 180 = .ok (.invokevirtual 262, 3) := by decide +kernel
theorem d_160_183 : decode prog_9_method_55_code 183 = .ok (.iinc 4 1, 3) := by decide +kernel
theorem d_160_186 : decode prog_9_method_55_code 186 = .ok (.goto (-57), 3) := by decide +kernel
theorem d_160_189 : decode prog_9_method_55_code 189 = .ok (.aload_n 0, 1) := by decide +kernel
theorem d_160_190 : decode prog_9_method_55_code 190 = .ok (.bipush 34, 2) := by decide +kernel
theorem d_160_192 : decode prog_9_method_55_code 192 = .ok (.invokevirtual 262, 3) := by decide +kernel
theorem d_160_195 : decode prog_9_method_55_code 195 = .ok (.iload_n 2, 1) := by decide +kernel
theorem d_160_196 : decode prog_9_method_55_code 196 = .ok (.ifCond .eq 18, 3) := by decide +kernel
theorem d_160_199 : decode prog_9_method_55_code 199 = .ok (.iload_n 3, 1) := by decide +kernel
theorem d_160_200 : decode prog_9_method_55_code 200 = .ok (.ifCond .ge 14, 3) := by decide +kernel
theorem d_160_203 : decode prog_9_method_55_code 203 = .ok (.aload_n 0, 1) := by decide +kernel
theorem d_160_204 : decode prog_9_method_55_code 204 = .ok (.getfield 259, 3) := by decide +kernel
theorem d_160_207 : decode prog_9_method_55_code 207 = .ok (.ifCond .ne 7, 3) := by decide +kernel
theorem d_160_210 : decode prog_9_method_55_code 210 = .ok (.aload_n 0, 1) := by decide +kernel
theorem d_160_211 : decode prog_9_method_55_code 211 = .ok (.invokevirtual 285, 3) := by decide +kernel
theorem d_160_214 : decode prog_9_method_55_code 214 = .ok (.return_, 1) := by decide +kernel
theorem d_161_0 : decode prog_9_method_53_code 0 = .ok (.iconst 0, 1) := by decide +kernel
theorem d_161_1 : decode prog_9_method_53_code 1 = .ok (.istore_n 1, 1) := by decide +kernel
theorem d_161_2 : decode prog_9_method_53_code 2 = .ok (.iload_n 1, 1) := by decide +kernel
theorem d_161_3 : decode prog_9_method_53_code 3 = .ok (.aload_n 0, 1) := by decide +kernel
theorem d_161_4 : decode prog_9_method_53_code 4 = .ok (.getfield 159, 3) := by decide +kernel
theorem d_161_7 : decode prog_9_method_53_code 7 = .ok (.if_icmp .ge 82, 3) := by decide +kernel
theorem d_161_10 : decode prog_9_method_53_code 10 = .ok (.aload_n 0, 1) := by decide +kernel
theorem d_161_11 : decode prog_9_method_53_code 11 = .ok (.getfield 63, 3) := by decide +kernel
theorem d_161_14 : decode prog_9_method_53_code 14 = .ok (.iload_n 1, 1) := by decide +kernel
theorem d_161_15 : decode prog_9_method_53_code 15 = .ok (.iaload, 1) := by decide +kernel
theorem d_161_16 : decode prog_9_method_53_code 16 = .ok (.aload_n 0, 1) := by decide +kernel
theorem d_161_17 : decode prog_9_method_53_code 17 = .ok (.getfield 268, 3) := by decide +kernel
theorem d_161_20 : decode prog_9_method_53_code 20 = .ok (.if_icmp .ne 7, 3) := by decide +kernel
theorem d_161_23 : decode prog_9_method_53_code 23 = .ok (.iconst 1, 1) := by decide +kernel
theorem d_161_24 : decode prog_9_method_53_code 24 = .ok (.goto 4, 3) := by decide +kernel
theorem d_161_27 : decode prog_9_method_53_code 27 = .ok (.iconst 0, 1) := by decide +kernel
theorem d_161_28 : decode prog_9_method_53_code 28 = .ok (.istore_n 2, 1) := by decide +kernel
theorem d_161_29 : decode prog_9_method_53_code 29 = .ok (.iconst 0, 1) := by decide +kernel
theorem d_161_30 : decode prog_9_method_53_code 30 = .ok (.istore_n 3, 1) := by decide +kernel
theorem d_161_31 : decode prog_9_method_53_code 31 = .ok (.iload_n 3, 1) := by decide +kernel
theorem d_161_32 : decode prog_9_method_53_code 32 = .ok (.aload_n 0, 1) := by decide +kernel
theorem d_161_33 : decode prog_9_method_53_code 33 = .ok (.getfield 268, 3) := by decide +kernel
theorem d_161_36 : decode prog_9_method_53_code 36 = .ok (.if_icmp .ge 41, 3) := by decide +kernel
theorem d_161_39 : decode prog_9_method_53_code 39 = .ok (.iload_n 2, 1) := by decide +kernel
theorem d_161_40 : decode prog_9_method_53_code 40 = .ok (.ifCond .eq 37, 3) := by decide +kernel
theorem d_161_43 : decode prog_9_method_53_code 43 = .ok (.aload_n 0, 1) := by decide +kernel
theorem d_161_44 : decode prog_9_method_53_code 44 = .ok (.getfield 91, 3) := by decide +kernel
theorem d_161_47 : decode prog_9_method_53_code 47 = .ok (.aload_n 0, 1) := by decide +kernel
theorem d_161_48 : decode prog_9_method_53_code 48 = .ok (.getfield 60, 3) := by decide +kernel
theorem d_161_51 : decode prog_9_method_53_code 51 = .ok (.iload_n 1, 1) := by decide +kernel
theorem d_161_52 : decode prog_9_method_53_code 52 = .ok (.iaload, 1) := by decide +kernel
theorem d_161_53 : decode prog_9_method_53_code 53 = .ok (.iload_n 3, 1) := by decide +kernel
theorem d_161_54 : decode prog_9_method_53_code 54 = .ok (.iadd, 1) := by decide +kernel
theorem d_161_55 : decode prog_9_method_53_code 55 = .ok (.iaload, 1) := by decide +kernel
theorem d_161_56 : decode prog_9_method_53_code 56 = .ok (.aload_n 0, 1) := by decide +kernel
theorem d_161_57 : decode prog_9_method_53_code 57 = .ok (.getfield 88, 3) := by decide +kernel
theorem d_161_60 : decode prog_9_method_53_code 60 = .ok (.iload_n 3, 1) := by decide +kernel
theorem d_161_61 : decode prog_9_method_53_code 61 = .ok (.iaload, 1) := by decide +kernel
theorem d_161_62 : decode prog_9_method_53_code 62 = .ok (.if_icmp .ne 7, 3) := by decide +kernel
theorem d_161_65 : decode prog_9_method_53_code 65 = .ok (.iconst 1, 1) := by decide +kernel
theorem d_161_66 : decode prog_9_method_53_code 66 = .ok (.goto 4, 3) := by decide +kernel
theorem d_161_69 : decode prog_9_method_53_code 69 = .ok (.iconst 0, 1) := by decide +kernel
theorem d_161_70 : decode prog_9_method_53_code 70 = .ok (.istore_n 2, 1) := by decide +kernel
theorem d_161_71 : decode prog_9_method_53_code 71 = .ok (.iinc 3 1, 3) := by decide +kernel
theorem d_161_74 : decode prog_9_method_53_code 74 = .ok (.goto (-43), 3) := by decide +kernel
theorem d_161_77 : decode prog_9_method_53_code 77 = .ok (.iload_n 2, 1) := by decide +kernel
theorem d_161_78 : decode prog_9_method_53_code 78 = .ok (.ifCond .eq 5, 3) := by decide +kernel
theorem d_161_81 : decode prog_9_method_53_code 81 = .ok (.iload_n 1, 1) := by decide +kernel
theorem d_161_82 : decode prog_9_method_53_code 82 = .ok (.ireturn, 1) := by decide +kernel
theorem d_161_83 : decode prog_9_method_53_code 83 = .ok (.iinc 1 1, 3) := by decide +kernel
theorem d_161_86 : decode prog_9_method_53_code 86 = .ok (.goto (-84), 3) := by decide +kernel
theorem d_161_89 : decode prog_9_method_53_code 89 = .ok (.iconst (-1), 1) := by decide +kernel
theorem d_161_90 : decode prog_9_method_53_code 90 = .ok (.ireturn, 1) := by decide +kernel
theorem d_162_0 : decode prog_9_method_54_code 0 = .ok (.aload_n 0, 1) := by decide +kernel
theorem d_162_1 : decode prog_9_method_54_code 1 = .ok (.aload_n 0, 1) := by decide +kernel
theorem d_162_2 : decode prog_9_method_54_code 2 = .ok (.getfield 159, 3) := by decide +kernel
theorem d_162_5 : decode prog_9_method_54_code 5 = .ok (.bipush 24, 2) := by decide +kernel
theorem d_162_7 : decode prog_9_method_54_code 7 = .ok (.if_icmp .ne 7, 3) := by decide +kernel
theorem d_162_10 : decode prog_9_method_54_code 10 = .ok (.iconst 0, 1) := by decide +kernel
theorem d_162_11 : decode prog_9_method_54_code 11 = .ok (.goto 7, 3) := by decide +kernel
theorem d_162_14 : decode prog_9_method_54_code 14 = .ok (.aload_n 0, 1) := by decide +kernel
theorem d_162_15 : decode prog_9_method_54_code 15 = .ok (.getfield 159, 3) := by decide +kernel
theorem d_162_18 : decode prog_9_method_54_code 18 = .ok (.putfield 159, 3) := by decide +kernel
theorem d_162_21 : decode prog_9_method_54_code 21 = .ok (.aload_n 0, 1) := by decide +kernel
theorem d_162_22 : decode prog_9_method_54_code 22 = .ok (.getfield 159, 3) := by decide +kernel
theorem d_162_25 : decode prog_9_method_54_code 25 = .ok (.ifCond .ne 7, 3) := by decide +kernel
theorem d_162_28 : decode prog_9_method_54_code 28 = .ok (.iconst 0, 1) := by decide +kernel
theorem d_162_29 : decode prog_9_method_54_code 29 = .ok (.goto 26, 3) := by decide +kernel
theorem d_162_32 : decode prog_9_method_54_code 32 = .ok (.aload_n 0, 1) := by decide +kernel
theorem d_162_33 : decode prog_9_method_54_code 33 = .ok (.getfield 60, 3) := by decide +kernel
theorem d_162_36 : decode prog_9_method_54_code 36 = .ok (.aload_n 0, 1) := by decide +kernel
theorem d_162_37 : decode prog_9_method_54_code 37 = .ok (.getfield 159, 3) := by decide +kernel
theorem d_162_40 : decode prog_9_method_54_code 40 = .ok (.iconst 1, 1) := by decide +kernel
theorem d_162_41 : decode prog_9_method_54_code 41 = .ok (.isub, 1) := by decide +kernel
theorem d_162_42 : decode prog_9_method_54_code 42 = .ok (.iaload, 1) := by decide +kernel
theorem d_162_43 : decode prog_9_method_54_code 43 = .ok (.aload_n 0, 1) := by decide +kernel
theorem d_162_44 : decode prog_9_method_54_code 44 = .ok (.getfield 63, 3) := by decide +kernel
theorem d_162_47 : decode prog_9_method_54_code 47 = .ok (.aload_n 0, 1) := by decide +kernel
theorem d_162_48 : decode prog_9_method_54_code 48 = .ok (.getfield 159, 3) := by decide +kernel
theorem d_162_51 : decode prog_9_method_54_code 51 = .ok (.iconst 1, 1) := by decide +kernel
theorem d_162_52 : decode prog_9_method_54_code 52 = .ok (.isub, 1) := by decide +kernel
theorem d_162_53 : decode prog_9_method_54_code 53 = .ok (.iaload, 1) := by decide +kernel
theorem d_162_54 : decode prog_9_method_54_code 54 = .ok (.iadd, 1) := by decide +kernel
theorem d_162_55 : decode prog_9_method_54_code 55 = .ok (.istore_n 1, 1) := by decide +kernel
theorem d_162_56 : decode prog_9_method_54_code 56 = .ok (.aload_n 0, 1) := by decide +kernel
theorem d_162_57 : decode prog_9_method_54_code 57 = .ok (.getfield 60, 3) := by decide +kernel
theorem d_162_60 : decode prog_9_method_54_code 60 = .ok (.aload_n 0, 1) := by decide +kernel
theorem d_162_61 : decode prog_9_method_54_code 61 = .ok (.getfield 159, 3) := by decide +kernel
theorem d_162_64 : decode prog_9_method_54_code 64 = .ok (.iload_n 1, 1) := by decide +kernel
theorem d_162_65 : decode prog_9_method_54_code 65 = .ok (.iastore, 1) := by decide +kernel
theorem d_162_66 : decode prog_9_method_54_code 66 = .ok (.aload_n 0, 1) := by decide +kernel
theorem d_162_67 : decode prog_9_method_54_code 67 = .ok (.getfield 63, 3) := by decide +kernel
theorem d_162_70 : decode prog_9_method_54_code 70 = .ok (.aload_n 0, 1) := by decide +kernel
theorem d_162_71 : decode prog_9_method_54_code 71 = .ok (.getfield 159, 3) := by decide +kernel
theorem d_162_74 : decode prog_9_method_54_code 74 = .ok (.aload_n 0, 1) := by decide +kernel
theorem d_162_75 : decode prog_9_method_54_code 75 = .ok (.getfield 268, 3) := by decide +kernel
theorem d_162_78 : decode prog_9_method_54_code 78 = .ok (.iastore, 1) := by decide +kernel
theorem d_162_79 : decode prog_9_method_54_code 79 = .ok (.iconst 0, 1) := by decide +kernel
theorem d_162_80 : decode prog_9_method_54_code 80 = .ok (.istore_n 2, 1) := by decide +kernel
theorem d_162_81 : decode prog_9_method_54_code 81 = .ok (.iload_n 2, 1) := by decide +kernel
theorem d_162_82 : decode prog_9_method_54_code 82 = .ok (.aload_n 0, 1) := by decide +kernel
theorem d_162_83 : decode prog_9_method_54_code 83 = .ok (.getfield 268, 3) := by decide +kernel
theorem d_162_86 : decode prog_9_method_54_code 86 = .ok (.if_icmp .ge 23, 3) := by decide +kernel
theorem d_162_89 : decode prog_9_method_54_code 89 = .ok (.aload_n 0, 1) := by decide +kernel
theorem d_162_90 : decode prog_9_method_54_code 90 = .ok (.getfield 91, 3) := by decide +kernel
theorem d_162_93 : decode prog_9_method_54_code 93 = .ok (.iload_n 1, 1) := by decide +kernel
theorem d_162_94 : decode prog_9_method_54_code 94 = .ok (.iload_n 2, 1) := by decide +kernel
theorem d_162_95 : decode prog_9_method_54_code 95 = .ok (.iadd, 1) := by decide +kernel
theorem d_162_96 : decode prog_9_method_54_code 96 = .ok (.aload_n 0, 1) := by decide +kernel
theorem d_162_97 : decode prog_9_method_54_code 97 = .ok (.getfield 88, 3) := by decide +kernel
theorem d_162_100 : decode prog_9_method_54_code 100 = .ok (.iload_n 2, 1) := by decide +kernel
theorem d_162_101 : decode prog_9_method_54_code 101 = .ok (.iaload, 1) := by decide +kernel
theorem d_162_102 : decode prog_9_method_54_code 102 = .ok (.iastore, 1) := by decide +kernel
theorem d_162_103 : decode prog_9_method_54_code 103 = .ok (.iinc 2 1, 3) := by decide +kernel
theorem d_162_106 : decode prog_9_method_54_code 106 = .ok (.goto (-25), 3) := by decide +kernel
theorem d_162_109 : decode prog_9_method_54_code 109 = .ok (.aload_n 0, 1) := by decide +kernel
theorem d_162_110 : decode prog_9_method_54_code 110 = .ok (.dup, 1) := by decide +kernel
theorem d_162_111 : decode prog_9_method_54_code 111 = .ok (.getfield 159, 3) := by decide +kernel
theorem d_162_114 : decode prog_9_method_54_code 114 = .ok (.iconst 1, 1) := by decide +kernel
theorem d_162_115 : decode prog_9_method_54_code 115 = .ok (.iadd, 1) := by decide +kernel
theorem d_162_116 : decode prog_9_method_54_code 116 = .ok (.putfield 159, 3) := by decide +kernel
theorem d_162_119 : decode prog_9_method_54_code 119 = .ok (.return_, 1) := by decide +kernel
theorem d_163_0 : decode prog_9_method_59_code 0 = .ok (.aload_n 0, 1) := by decide +kernel
theorem d_163_1 : decode prog_9_method_59_code 1 = .ok (.getfield 20, 3) := by decide +kernel
theorem d_163_4 : decode prog_9_method_59_code 4 = .ok (.iload_n 1, 1) := by decide +kernel
theorem d_163_5 : decode prog_9_method_59_code 5 = .ok (.iaload, 1) := by decide +kernel
theorem d_163_6 : decode prog_9_method_59_code 6 = .ok (.istore_n 3, 1) := by decide +kernel
theorem d_163_7 : decode prog_9_method_59_code 7 = .ok (.iload_n 3, 1) := by decide +kernel
theorem d_163_8 : decode prog_9_method_59_code 8 = .ok (.iconst 2, 1) := by decide +kernel
theorem d_163_9 : decode prog_9_method_59_code 9 = .ok (.if_icmp .ne 33, 3) := by decide +kernel
theorem d_163_12 : decode prog_9_method_59_code 12 = .ok (.aload_n 0, 1) := by decide +kernel
theorem d_163_13 : decode prog_9_method_59_code 13 = .ok (.getfield 23, 3) := by decide +kernel
theorem d_163_16 : decode prog_9_method_59_code 16 = .ok (.iload_n 1, 1) := by decide +kernel
theorem d_163_17 : decode prog_9_method_59_code 17 = .ok (.laload, 1) := by decide +kernel
theorem d_163_18 : decode prog_9_method_59_code 18 = .ok (.ldc2_w 302, 3) := by decide +kernel
theorem d_163_21 : decode prog_9_method_59_code 21 = .ok (.lcmp, 1) := by decide +kernel
theorem d_163_22 : decode prog_9_method_59_code 22 = .ok (.ifCond .lt 20, 3) := by decide +kernel
theorem d_163_25 : decode prog_9_method_59_code 25 = .ok (.aload_n 0, 1) := by decide +kernel
theorem d_163_26 : decode prog_9_method_59_code 26 = .ok (.getfield 23, 3) := by decide +kernel
theorem d_163_29 : decode prog_9_method_59_code 29 = .ok (.iload_n 1, 1) := by decide +kernel
theorem d_163_30 : decode prog_9_method_59_code 30 = .ok (.laload, 1) := by decide +kernel
theorem d_163_31 : decode prog_9_method_59_code 31 = .ok (.ldc2_w 304, 3) := by decide +kernel
theorem d_163_34 : decode prog_9_method_59_code 34 = .ok (.lcmp, 1) := by decide +kernel
theorem d_163_35 : decode prog_9_method_59_code 35 = .ok (.ifCond .gt 7, 3) := by decide +kernel
theorem d_163_38 : decode prog_9_method_59_code 38 = .ok (.iconst 1, 1) := by decide +kernel
theorem d_163_39 : decode prog_9_method_59_code 39 = .ok (.goto 4, 3) := by decide +kernel
theorem d_163_42 : decode prog_9_method_59_code 42 = .ok (.iconst 0, 1) := by decide +kernel
theorem d_163_43 : decode prog_9_method_59_code 43 = .ok (.istore 4, 2) := by decide +kernel
theorem d_163_45 : decode prog_9_method_59_code 45 = .ok (.iload_n 2, 1) := by decide +kernel
theorem d_163_46 : decode prog_9_method_59_code 46 = .ok (.ifCond .ne 23, 3) := by decide +kernel
theorem d_163_49 : decode prog_9_method_59_code 49 = .ok (.iload_n 3, 1) := by decide +kernel
theorem d_163_50 : decode prog_9_method_59_code 50 = .ok (.ifCond .ne 19, 3) := by decide +kernel
theorem d_163_53 : decode prog_9_method_59_code 53 = .ok (.aload_n 0, 1) := by decide +kernel
theorem d_163_54 : decode prog_9_method_59_code 54 = .ok (.bipush 110, 2) := by decide +kernel
theorem d_163_56 : decode prog_9_method_59_code 56 = .ok (.bipush 117, 2) := by decide +kernel
theorem d_163_58 : decode prog_9_method_59_code 58 = .ok (.bipush 108, 2) := by decide +kernel
theorem d_163_60 : decode prog_9_method_59_code 60 = .ok (.bipush 108, 2) := by decide +kernel
theorem d_163_62 : decode prog_9_method_59_code 62 = .ok (.iconst 0, 1) := by decide +kernel
theorem d_163_63 : decode prog_9_method_59_code 63 = .ok (.invokevirtual 306, 3) := by decide +kernel
theorem d_163_66 : decode prog_9_method_59_code 66 = .ok (.goto 131, 3) := by decide +kernel
theorem d_163_69 : decode prog_9_method_59_code 69 = .ok (.iload_n 2, 1) := by decide +kernel
theorem d_163_70 : decode prog_9_method_59_code 70 = .ok (.ifCond .ne 35, 3) := by decide +kernel
theorem d_163_73 : decode prog_9_method_59_code 73 = .ok (.iload_n 3, 1) := by decide +kernel
theorem d_163_74 : decode prog_9_method_59_code 74 = .ok (.iconst 1, 1) := by decide +kernel
theorem d_163_75 : decode prog_9_method_59_code 75 = .ok (.if_icmp .ne 30, 3) := by decide +kernel
theorem d_163_78 : decode prog_9_method_59_code 78 = .ok (.aload_n 0, 1) := by decide +kernel
theorem d_163_79 : decode prog_9_method_59_code 79 = .ok (.getfield 23, 3) := by decide +kernel
theorem d_163_82 : decode prog_9_method_59_code 82 = .ok (.iload_n 1, 1) := by decide +kernel
theorem d_163_83 : decode prog_9_method_59_code 83 = .ok (.laload, 1) := by decide +kernel
theorem d_163_84 : decode prog_9_method_59_code 84 = .ok (.lconst 1, 1) := by decide +kernel
theorem d_163_85 : decode prog_9_method_59_code 85 = .ok (.lcmp, 1) := by decide +kernel
theorem d_163_86 : decode prog_9_method_59_code 86 = .ok (.ifCond .ne 19, 3) := by decide +kernel
theorem d_163_89 : decode prog_9_method_59_code 89 = .ok (.aload_n 0, 1) := by decide +kernel
theorem d_163_90 : decode prog_9_method_59_code 90 = .ok (.bipush 116, 2) := by decide +kernel
theorem d_163_92 : decode prog_9_method_59_code 92 = .ok (.bipush 114, 2) := by decide +kernel
theorem d_163_94 : decode prog_9_method_59_code 94 = .ok (.bipush 117, 2) := by decide +kernel
theorem d_163_96 : decode prog_9_method_59_code 96 = .ok (.bipush 101, 2) := by decide +kernel
theorem d_163_98 : decode prog_9_method_59_code 98 = .ok (.iconst 0, 1) := by decide +kernel
theorem d_163_99 : decode prog_9_method_59_code 99 = .ok (.invokevirtual 306, 3) := by decide +kernel
theorem d_163_102 : decode prog_9_method_59_code 102 = .ok (.goto 95, 3) := by decide +kernel
theorem d_163_105 : decode prog_9_method_59_code 105 = .ok (.iload_n 2, 1) := by decide +kernel
theorem d_163_106 : decode prog_9_method_59_code 106 = .ok (.ifCond .ne 25, 3) := by decide +kernel
theorem d_163_109 : decode prog_9_method_59_code 109 = .ok (.iload_n 3, 1) := by decide +kernel
theorem d_163_110 : decode prog_9_method_59_code 110 = .ok (.iconst 1, 1) := by decide +kernel
theorem d_163_111 : decode prog_9_method_59_code 111 = .ok (.if_icmp .ne 20, 3) := by decide +kernel
theorem d_163_114 : decode prog_9_method_59_code 114 = .ok (.aload_n 0, 1) := by decide +kernel
theorem d_163_115 : decode prog_9_method_59_code 115 = .ok (.bipush 102, 2) := by decide +kernel
theorem d_163_117 : decode prog_9_method_59_code 117 = .ok (.bipush 97, 2) := by decide +kernel
theorem d_163_119 : decode prog_9_method_59_code 119 = .ok (.bipush 108, 2) := by decide +kernel
theorem d_163_121 : decode prog_9_method_59_code 121 = .ok (.bipush 115, 2) := by decide +kernel
theorem d_163_123 : decode prog_9_method_59_code 123 = .ok (.bipush 101, 2) := by decide +kernel
theorem d_163_125 : decode prog_9_method_59_code 125 = .ok (.invokevirtual 306, 3) := by decide +kernel
theorem d_163_128 : decode prog_9_method_59_code 128 = .ok (.goto 69, 3) := by decide +kernel
theorem d_163_131 : decode prog_9_method_59_code 131 = .ok (.iload_n 2, 1) := by decide +kernel
theorem d_163_132 : decode prog_9_method_59_code 132 = .ok (.ifCond .ne 55, 3) := by decide +kernel
theorem d_163_135 : decode prog_9_method_59_code 135 = .ok (.iload 4, 2) := by decide +kernel
theorem d_163_137 : decode prog_9_method_59_code 137 = .ok (.ifCond .eq 50, 3) := by decide +kernel
theorem d_163_140 : decode prog_9_method_59_code 140 = .ok (.aload_n 0, 1) := by decide +kernel
theorem d_163_141 : decode prog_9_method_59_code 141 = .ok (.iconst 0, 1) := by decide +kernel
theorem d_163_142 : decode prog_9_method_59_code 142 = .ok (.putfield 268, 3) := by decide +kernel
theorem d_163_145 : decode prog_9_method_59_code 145 = .ok (.aload_n 0, 1) := by decide +kernel
theorem d_163_146 : decode prog_9_method_59_code 146 = .ok (.aload_n 0, 1) := by decide +kernel
theorem d_163_147 : decode prog_9_method_59_code 147 = .ok (.getfield 23, 3) := by decide +kernel
theorem d_163_150 : decode prog_9_method_59_code 150 = .ok (.iload_n 1, 1) := by decide +kernel
theorem d_163_151 : decode prog_9_method_59_code 151 = .ok (.laload, 1) := by decide +kernel
theorem d_163_152 : decode prog_9_method_59_code 152 = .ok (.invokevirtual 298, 3) := by decide +kernel
theorem d_163_155 : decode prog_9_method_59_code 155 = .ok (.iconst 0, 1) := by decide +kernel
theorem d_163_156 : decode prog_9_method_59_code 156 = .ok (.istore 5, 2) := by decide +kernel
theorem d_163_158 : decode prog_9_method_59_code 158 = .ok (.iload 5, 2) := by decide +kernel
theorem d_163_160 : decode prog_9_method_59_code 160 = .ok (.aload_n 0, 1) := by decide +kernel
theorem d_163_161 : decode prog_9_method_59_code 161 = .ok (.getfield 268, 3) := by decide +kernel
theorem d_163_164 : decode prog_9_method_59_code 164 = .ok (.if_icmp .ge 20, 3) := by decide +kernel
theorem d_163_167 : decode prog_9_method_59_code 167 = .ok (.aload_n 0, 1) := by decide +kernel
theorem d_163_168 : decode prog_9_method_59_code 168 = .ok (.aload_n 0, 1) := by decide +kernel
theorem d_163_169 : decode prog_9_method_59_code 169 = .ok (.getfield 88, 3) := by decide +kernel
theorem d_163_172 : decode prog_9_method_59_code 172 = .ok (.iload 5, 2) := by decide +kernel
theorem d_163_174 : decode prog_9_method_59_code 174 = .ok (.iaload, 1) := by decide +kernel
theorem d_163_175 : decode prog_9_method_59_code 175 = .ok (.invokevirtual 262, 3) := by decide +kernel
theorem d_163_178 : decode prog_9_method_59_code 178 = .ok (.iinc 5 1, 3) := by decide +kernel
theorem d_163_181 : decode prog_9_method_59_code 181 = .ok (.goto (-23), 3) := by decide +kernel
theorem d_163_184 : decode prog_9_method_59_code 184 = .ok (.goto 13, 3) := by decide +kernel
theorem d_163_187 : decode prog_9_method_59_code 187 = .ok (.aload_n 0, 1) := by decide +kernel
theorem d_163_188 : decode prog_9_method_59_code 188 = .ok (.iload_n 1, 1) := by decide +kernel
theorem d_163_189 : decode prog_9_method_59_code 189 = .ok (.invokevirtual 309, 3) := by decide +kernel
theorem d_163_192 : decode prog_9_method_59_code 192 = .ok (.aload_n 0, 1) := by decide +kernel
theorem d_163_193 : decode prog_9_method_59_code 193 = .ok (.iload_n 2, 1) := by decide +kernel
theorem d_163_194 : decode prog_9_method_59_code 194 = .ok (.invokevirtual 291, 3) := by decide +kernel
theorem d_163_197 : decode prog_9_method_59_code 197 = .ok (.return_, 1) := by decide +kernel
theorem d_164_0 : decode prog_9_method_57_code 0 = .ok (.aload_n 0, 1) := by decide +kernel
theorem d_164_1 : decode prog_9_method_57_code 1 = .ok (.iload_n 1, 1) := by decide +kernel
theorem d_164_2 : decode prog_9_method_57_code 2 = .ok (.invokevirtual 262, 3) := by decide +kernel
theorem d_164_5 : decode prog_9_method_57_code 5 = .ok (.aload_n 0, 1) := by decide +kernel
theorem d_164_6 : decode prog_9_method_57_code 6 = .ok (.iload_n 2, 1) := by decide +kernel
theorem d_164_7 : decode prog_9_method_57_code 7 = .ok (.invokevirtual 262, 3) := by decide +kernel
theorem d_164_10 : decode prog_9_method_57_code 10 = .ok (.aload_n 0, 1) := by decide +kernel
theorem d_164_11 : decode prog_9_method_57_code 11 = .ok (.iload_n 3, 1) := by decide +kernel
theorem d_164_12 : decode prog_9_method_57_code 12 = .ok (.invokevirtual 262, 3) := by decide +kernel
theorem d_164_15 : decode prog_9_method_57_code 15 = .ok (.aload_n 0, 1) := by decide +kernel
theorem d_164_16 : decode prog_9_method_57_code 16 = .ok (.iload 4, 2) := by decide +kernel
theorem d_164_18 : decode prog_9_method_57_code 18 = .ok (.invokevirtual 262, 3) := by decide +kernel
theorem d_164_21 : decode prog_9_method_57_code 21 = .ok (.iload 5, 2) := by decide +kernel
theorem d_164_23 : decode prog_9_method_57_code 23 = .ok (.ifCond .le 9, 3) := by decide +kernel
theorem d_164_26 : decode prog_9_method_57_code 26 = .ok (.aload_n 0, 1) := by decide +kernel
theorem d_164_27 : decode prog_9_method_57_code 27 = .ok (.iload 5, 2) := by decide +kernel
theorem d_164_29 : decode prog_9_method_57_code 29 = .ok (.invokevirtual 262, 3) := by decide +kernel
theorem d_164_32 : decode prog_9_method_57_code 32 = .ok (.return_, 1) := by decide +kernel
theorem d_165_0 : decode prog_9_method_52_code 0 = .ok (.lload_n 1, 1) := by decide +kernel
theorem d_165_1 : decode prog_9_method_52_code 1 = .ok (.lconst 0, 1) := by decide +kernel
theorem d_165_2 : decode prog_9_method_52_code 2 = .ok (.lcmp, 1) := by decide +kernel
theorem d_165_3 : decode prog_9_method_52_code 3 = .ok (.ifCond .ge 9, 3) := by decide +kernel
theorem d_165_6 : decode prog_9_method_52_code 6 = .ok (.aload_n 0, 1) := by decide +kernel
theorem d_165_7 : decode prog_9_method_52_code 7 = .ok (.bipush 45, 2) := by decide +kernel
theorem d_165_9 : decode prog_9_method_52_code 9 = .ok (.invokevirtual 271, 3) := by decide +kernel
theorem d_165_12 : decode prog_9_method_52_code 12 = .ok (.lload_n 1, 1) := by decide +kernel
theorem d_165_13 : decode prog_9_method_52_code 13 = .ok (.invokestatic 274, 3) := by decide +kernel
theorem d_165_16 : decode prog_9_method_52_code 16 = .ok (.lstore_n 3, 1) := by decide +kernel
theorem d_165_17 : decode prog_9_method_52_code 17 = .ok (.lload_n 3, 1) := by decide +kernel
theorem d_165_18 : decode prog_9_method_52_code 18 = .ok (.lconst 0, 1) := by decide +kernel
theorem d_165_19 : decode prog_9_method_52_code 19 = .ok (.lcmp, 1) := by decide +kernel
theorem d_165_20 : decode prog_9_method_52_code 20 = .ok (.ifCond .le 21, 3) := by decide +kernel
theorem d_165_23 : decode prog_9_method_52_code 23 = .ok (.aload_n 0, 1) := by decide +kernel
theorem d_165_24 : decode prog_9_method_52_code 24 = .ok (.lload_n 1, 1) := by decide +kernel
theorem d_165_25 : decode prog_9_method_52_code 25 = .ok (.lload_n 3, 1) := by decide +kernel
theorem d_165_26 : decode prog_9_method_52_code 26 = .ok (.invokestatic 278, 3) := by decide +kernel
theorem d_165_29 : decode prog_9_method_52_code 29 = .ok (.invokevirtual 271, 3) := by decide +kernel
theorem d_165_32 : decode prog_9_method_52_code 32 = .ok (.lload_n 3, 1) := by decide +kernel
theorem d_165_33 : decode prog_9_method_52_code 33 = .ok (.ldc2_w 142, 3) := by decide +kernel
theorem d_165_36 : decode prog_9_method_52_code 36 = .ok (.ldiv, 1) := by decide +kernel
theorem d_165_37 : decode prog_9_method_52_code 37 = .ok (.lstore_n 3, 1) := by decide +kernel
theorem d_165_38 : decode prog_9_method_52_code 38 = .ok (.goto (-21), 3) := by decide +kernel
theorem d_165_41 : decode prog_9_method_52_code 41 = .ok (.return_, 1) := by decide +kernel
theorem d_166_0 : decode prog_9_method_51_code 0 = .ok (.lconst 1, 1) := by decide +kernel
theorem d_166_1 : decode prog_9_method_51_code 1 = .ok (.lstore_n 2, 1) := by decide +kernel
theorem d_166_2 : decode prog_9_method_51_code 2 = .ok (.iconst 0, 1) := by decide +kernel
theorem d_166_3 : decode prog_9_method_51_code 3 = .ok (.istore 4, 2) := by decide +kernel
theorem d_166_5 : decode prog_9_method_51_code 5 = .ok (.iload 4, 2) := by decide +kernel
theorem d_166_7 : decode prog_9_method_51_code 7 = .ok (.bipush 18, 2) := by decide +kernel
theorem d_166_9 : decode prog_9_method_51_code 9 = .ok (.if_icmp .ge 31, 3) := by decide +kernel
theorem d_166_12 : decode prog_9_method_51_code 12 = .ok (.lload_n 0, 1) := by decide +kernel
theorem d_166_13 : decode prog_9_method_51_code 13 = .ok (.lload_n 2, 1) := by decide +kernel
theorem d_166_14 : decode prog_9_method_51_code 14 = .ok (.ldiv, 1) := by decide +kernel
theorem d_166_15 : decode prog_9_method_51_code 15 = .ok (.ldc2_w 142, 3) := by decide +kernel
theorem d_166_18 : decode prog_9_method_51_code 18 = .ok (.ldiv, 1) := by decide +kernel
theorem d_166_19 : decode prog_9_method_51_code 19 = .ok (.lconst 0, 1) := by decide +kernel
theorem d_166_20 : decode prog_9_method_51_code 20 = .ok (.lcmp, 1) := by decide +kernel
theorem d_166_21 : decode prog_9_method_51_code 21 = .ok (.ifCond .eq 11, 3) := by decide +kernel
theorem d_166_24 : decode prog_9_method_51_code 24 = .ok (.lload_n 2, 1) := by decide +kernel
theorem d_166_25 : decode prog_9_method_51_code 25 = .ok (.ldc2_w 142, 3) := by decide +kernel
theorem d_166_28 : decode prog_9_method_51_code 28 = .ok (.lmul, 1) := by decide +kernel
theorem d_166_29 : decode prog_9_method_51_code 29 = .ok (.goto 4, 3) := by decide +kernel
theorem d_166_32 : decode prog_9_method_51_code 32 = .ok (.lload_n 2, 1) := by decide +kernel
theorem d_166_33 : decode prog_9_method_51_code 33 = .ok (.lstore_n 2, 1) := by decide +kernel
theorem d_166_34 : decode prog_9_method_51_code 34 = .ok (.iinc 4 1, 3) := by decide +kernel
theorem d_166_37 : decode prog_9_method_51_code 37 = .ok (.goto (-32), 3) := by decide +kernel
theorem d_166_40 : decode prog_9_method_51_code 40 = .ok (.lload_n 2, 1) := by decide +kernel
theorem d_166_41 : decode prog_9_method_51_code 41 = .ok (.lreturn, 1) := by decide +kernel
theorem d_167_0 : decode prog_9_method_50_code 0 = .ok (.lload_n 0, 1) := by decide +kernel
theorem d_167_1 : decode prog_9_method_50_code 1 = .ok (.lload_n 2, 1) := by decide +kernel
theorem d_167_2 : decode prog_9_method_50_code 2 = .ok (.ldiv, 1) := by decide +kernel
theorem d_167_3 : decode prog_9_method_50_code 3 = .ok (.ldc2_w 142, 3) := by decide +kernel
theorem d_167_6 : decode prog_9_method_50_code 6 = .ok (.lrem, 1) := by decide +kernel
theorem d_167_7 : decode prog_9_method_50_code 7 = .ok (.l2i, 1) := by decide +kernel
theorem d_167_8 : decode prog_9_method_50_code 8 = .ok (.istore 4, 2) := by decide +kernel
theorem d_167_10 : decode prog_9_method_50_code 10 = .ok (.bipush 48, 2) := by decide +kernel
theorem d_167_12 : decode prog_9_method_50_code 12 = .ok (.iload 4, 2) := by decide +kernel
theorem d_167_14 : decode prog_9_method_50_code 14 = .ok (.ifCond .ge 9, 3) := by decide +kernel
theorem d_167_17 : decode prog_9_method_50_code 17 = .ok (.iload 4, 2) := by decide +kernel
theorem d_167_19 : decode prog_9_method_50_code 19 = .ok (.ineg, 1) := by decide +kernel
theorem d_167_20 : decode prog_9_method_50_code 20 = .ok (.goto 5, 3) := by decide +kernel
theorem d_167_23 : decode prog_9_method_50_code 23 = .ok (.iload 4, 2) := by decide +kernel
theorem d_167_25 : decode prog_9_method_50_code 25 = .ok (.iadd, 1) := by decide +kernel
theorem d_167_26 : decode prog_9_method_50_code 26 = .ok (.ireturn, 1) := by decide +kernel
theorem d_168_0 : decode prog_9_method_58_code 0 = .ok (.aload_n 0, 1) := by decide +kernel
theorem d_168_1 : decode prog_9_method_58_code 1 = .ok (.getfield 20, 3) := by decide +kernel
theorem d_168_4 : decode prog_9_method_58_code 4 = .ok (.iload_n 1, 1) := by decide +kernel
theorem d_168_5 : decode prog_9_method_58_code 5 = .ok (.iaload, 1) := by decide +kernel
theorem d_168_6 : decode prog_9_method_58_code 6 = .ok (.istore_n 2, 1) := by decide +kernel
theorem d_168_7 : decode prog_9_method_58_code 7 = .ok (.iload_n 2, 1) := by decide +kernel
theorem d_168_8 : decode prog_9_method_58_code 8 = .ok (.iconst 4, 1) := by decide +kernel
theorem d_168_9 : decode prog_9_method_58_code 9 = .ok (.if_icmp .ne 63, 3) := by decide +kernel
theorem d_168_12 : decode prog_9_method_58_code 12 = .ok (.aload_n 0, 1) := by decide +kernel
theorem d_168_13 : decode prog_9_method_58_code 13 = .ok (.getfield 30, 3) := by decide +kernel
theorem d_168_16 : decode prog_9_method_58_code 16 = .ok (.iload_n 1, 1) := by decide +kernel
theorem d_168_17 : decode prog_9_method_58_code 17 = .ok (.iaload, 1) := by decide +kernel
theorem d_168_18 : decode prog_9_method_58_code 18 = .ok (.ifCond .le 17, 3) := by decide +kernel
theorem d_168_21 : decode prog_9_method_58_code 21 = .ok (.aload_n 0, 1) := by decide +kernel
theorem d_168_22 : decode prog_9_method_58_code 22 = .ok (.getfield 45, 3) := by decide +kernel
theorem d_168_25 : decode prog_9_method_58_code 25 = .ok (.aload_n 0, 1) := by decide +kernel
theorem d_168_26 : decode prog_9_method_58_code 26 = .ok (.getfield 27, 3) := by decide +kernel
theorem d_168_29 : decode prog_9_method_58_code 29 = .ok (.iload_n 1, 1) := by decide +kernel
theorem d_168_30 : decode prog_9_method_58_code 30 = .ok (.iaload, 1) := by decide +kernel
theorem d_168_31 : decode prog_9_method_58_code 31 = .ok (.iaload, 1) := by decide +kernel
theorem d_168_32 : decode prog_9_method_58_code 32 = .ok (.goto 4, 3) := by decide +kernel
theorem d_168_35 : decode prog_9_method_58_code 35 = .ok (.iconst 0, 1) := by decide +kernel
theorem d_168_36 : decode prog_9_method_58_code 36 = .ok (.istore_n 3, 1) := by decide +kernel
theorem d_168_37 : decode prog_9_method_58_code 37 = .ok (.aload_n 0, 1) := by decide +kernel
theorem d_168_38 : decode prog_9_method_58_code 38 = .ok (.iconst 0, 1) := by decide +kernel
theorem d_168_39 : decode prog_9_method_58_code 39 = .ok (.putfield 268, 3) := by decide +kernel
theorem d_168_42 : decode prog_9_method_58_code 42 = .ok (.iload_n 3, 1) := by decide +kernel
theorem d_168_43 : decode prog_9_method_58_code 43 = .ok (.bipush 126, 2) := by decide +kernel
theorem d_168_45 : decode prog_9_method_58_code 45 = .ok (.if_icmp .eq 15, 3) := by decide +kernel
theorem d_168_48 : decode prog_9_method_58_code 48 = .ok (.iload_n 3, 1) := by decide +kernel
theorem d_168_49 : decode prog_9_method_58_code 49 = .ok (.bipush 94, 2) := by decide +kernel
theorem d_168_51 : decode prog_9_method_58_code 51 = .ok (.if_icmp .eq 9, 3) := by decide +kernel
theorem d_168_54 : decode prog_9_method_58_code 54 = .ok (.iload_n 3, 1) := by decide +kernel
theorem d_168_55 : decode prog_9_method_58_code 55 = .ok (.bipush 96, 2) := by decide +kernel
theorem d_168_57 : decode prog_9_method_58_code 57 = .ok (.if_icmp .ne 9, 3) := by decide +kernel
theorem d_168_60 : decode prog_9_method_58_code 60 = .ok (.aload_n 0, 1) := by decide +kernel
theorem d_168_61 : decode prog_9_method_58_code 61 = .ok (.bipush 126, 2) := by decide +kernel
theorem d_168_63 : decode prog_9_method_58_code 63 = .ok (.invokevirtual 271, 3) := by decide +kernel
theorem d_168_66 : decode prog_9_method_58_code 66 = .ok (.aload_n 0, 1) := by decide +kernel
theorem d_168_67 : decode prog_9_method_58_code 67 = .ok (.iload_n 1, 1) := by decide +kernel
theorem d_168_68 : decode prog_9_method_58_code 68 = .ok (.invokevirtual 295, 3) := by decide +kernel
theorem d_168_71 : decode prog_9_method_58_code 71 = .ok (.return_, 1) := by decide +kernel
theorem d_168_72 : decode prog_9_method_58_code 72 = .ok (.aload_n 0, 1) := by decide +kernel
theorem d_168_73 : decode prog_9_method_58_code 73 = .ok (.bipush 126, 2) := by decide +kernel
theorem d_168_75 : decode prog_9_method_58_code 75 = .ok (.iload_n 2, 1) := by decide +kernel
theorem d_168_76 : decode prog_9_method_58_code 76 = .ok (.ifCond .ne 8, 3) := by decide +kernel
theorem d_168_79 : decode prog_9_method_58_code 79 = .ok (.bipush 95, 2) := by decide +kernel
theorem d_168_81 : decode prog_9_method_58_code 81 = .ok (.goto 56, 3) := by decide +kernel
theorem d_168_84 : decode prog_9_method_58_code 84 = .ok (.iload_n 2, 1) := by decide +kernel
theorem d_168_85 : decode prog_9_method_58_code 85 = .ok (.iconst 1, 1) := by decide +kernel
theorem d_168_86 : decode prog_9_method_58_code 86 = .ok (.if_icmp .ne 8, 3) := by decide +kernel
theorem d_168_89 : decode prog_9_method_58_code 89 = .ok (.bipush 63, 2) := by decide +kernel
theorem d_168_91 : decode prog_9_method_58_code 91 = .ok (.goto 46, 3) := by decide +kernel
theorem d_168_94 : decode prog_9_method_58_code 94 = .ok (.iload_n 2, 1) := by decide +kernel
theorem d_168_95 : decode prog_9_method_58_code 95 = .ok (.iconst 2, 1) := by decide +kernel
theorem d_168_96 : decode prog_9_method_58_code 96 = .ok (.if_icmp .ne 8, 3) := by decide +kernel
theorem d_168_99 : decode prog_9_method_58_code 99 = .ok (.bipush 105, 2) := by decide +kernel
theorem d_168_101 : decode prog_9_method_58_code 101 = .ok (.goto 36, 3) := by decide +kernel
theorem d_168_104 : decode prog_9_method_58_code 104 = .ok (.iload_n 2, 1) := by decide +kernel
theorem d_168_105 : decode prog_9_method_58_code 105 = .ok (.iconst 3, 1) := by decide +kernel
theorem d_168_106 : decode prog_9_method_58_code 106 = .ok (.if_icmp .ne 8, 3) := by decide +kernel
theorem d_168_109 : decode prog_9_method_58_code 109 = .ok (.bipush 109, 2) := by decide +kernel
theorem d_168_111 : decode prog_9_method_58_code 111 = .ok (.goto 26, 3) := by decide +kernel
theorem d_168_114 : decode prog_9_method_58_code 114 = .ok (.iload_n 2, 1) := by decide +kernel
theorem d_168_115 : decode prog_9_method_58_code 115 = .ok (.iconst 5, 1) := by decide +kernel
theorem d_168_116 : decode prog_9_method_58_code 116 = .ok (.if_icmp .ne 8, 3) := by decide +kernel
theorem d_168_119 : decode prog_9_method_58_code 119 = .ok (.bipush 58, 2) := by decide +kernel
theorem d_168_121 : decode prog_9_method_58_code 121 = .ok (.goto 16, 3) := by decide +kernel
theorem d_168_124 : decode prog_9_method_58_code 124 = .ok (.iload_n 2, 1) := by decide +kernel
theorem d_168_125 : decode prog_9_method_58_code 125 = .ok (.bipush 6, 2) := by decide +kernel
theorem d_168_127 : decode prog_9_method_58_code 127 = .ok (.if_icmp .ne 8, 3) := by decide +kernel
theorem d_168_130 : decode prog_9_method_58_code 130 = .ok (.bipush 36, 2) := by decide +kernel
theorem d_168_132 : decode prog_9_method_58_code 132 = .ok (.goto 5, 3) := by decide +kernel
theorem d_168_135 : decode prog_9_method_58_code 135 = .ok (.bipush 99, 2) := by decide +kernel
theorem d_168_137 : decode prog_9_method_58_code 137 = .ok (.invokevirtual 288, 3) := by decide +kernel
theorem d_168_140 : decode prog_9_method_58_code 140 = .ok (.iload_n 2, 1) := by decide +kernel
theorem d_168_141 : decode prog_9_method_58_code 141 = .ok (.iconst 1, 1) := by decide +kernel
theorem d_168_142 : decode prog_9_method_58_code 142 = .ok (.if_icmp .ne 25, 3) := by decide +kernel
theorem d_168_145 : decode prog_9_method_58_code 145 = .ok (.aload_n 0, 1) := by decide +kernel
theorem d_168_146 : decode prog_9_method_58_code 146 = .ok (.aload_n 0, 1) := by decide +kernel
theorem d_168_147 : decode prog_9_method_58_code 147 = .ok (.getfield 23, 3) := by decide +kernel
theorem d_168_150 : decode prog_9_method_58_code 150 = .ok (.iload_n 1, 1) := by decide +kernel
theorem d_168_151 : decode prog_9_method_58_code 151 = .ok (.laload, 1) := by decide +kernel
theorem d_168_152 : decode prog_9_method_58_code 152 = .ok (.lconst 1, 1) := by decide +kernel
theorem d_168_153 : decode prog_9_method_58_code 153 = .ok (.lcmp, 1) := by decide +kernel
theorem d_168_154 : decode prog_9_method_58_code 154 = .ok (.ifCond .ne 8, 3) := by decide +kernel
theorem d_168_157 : decode prog_9_method_58_code 157 = .ok (.bipush 116, 2) := by decide +kernel
theorem d_168_159 : decode prog_9_method_58_code 159 = .ok (.goto 5, 3) := by decide +kernel
theorem d_168_162 : decode prog_9_method_58_code 162 = .ok (.bipush 102, 2) := by decide +kernel
theorem d_168_164 : decode prog_9_method_58_code 164 = .ok (.invokevirtual 271, 3) := by decide +kernel
theorem d_168_167 : decode prog_9_method_58_code 167 = .ok (.iload_n 2, 1) := by decide +kernel
theorem d_168_168 : decode prog_9_method_58_code 168 = .ok (.iconst 2, 1) := by decide +kernel
theorem d_168_169 : decode prog_9_method_58_code 169 = .ok (.if_icmp .eq 8, 3) := by decide +kernel
theorem d_168_172 : decode prog_9_method_58_code 172 = .ok (.iload_n 2, 1) := by decide +kernel
theorem d_168_173 : decode prog_9_method_58_code 173 = .ok (.iconst 3, 1) := by decide +kernel
theorem d_168_174 : decode prog_9_method_58_code 174 = .ok (.if_icmp .ne 13, 3) := by decide +kernel
theorem d_168_177 : decode prog_9_method_58_code 177 = .ok (.aload_n 0, 1) := by decide +kernel
theorem d_168_178 : decode prog_9_method_58_code 178 = .ok (.aload_n 0, 1) := by decide +kernel
theorem d_168_179 : decode prog_9_method_58_code 179 = .ok (.getfield 23, 3) := by decide +kernel
theorem d_168_182 : decode prog_9_method_58_code 182 = .ok (.iload_n 1, 1) := by decide +kernel
theorem d_168_183 : decode prog_9_method_58_code 183 = .ok (.laload, 1) := by decide +kernel
theorem d_168_184 : decode prog_9_method_58_code 184 = .ok (.invokevirtual 298, 3) := by decide +kernel
theorem d_168_187 : decode prog_9_method_58_code 187 = .ok (.iload_n 2, 1) := by decide +kernel
theorem d_168_188 : decode prog_9_method_58_code 188 = .ok (.bipush 7, 2) := by decide +kernel
theorem d_168_190 : decode prog_9_method_58_code 190 = .ok (.if_icmp .ne 14, 3) := by decide +kernel
theorem d_168_193 : decode prog_9_method_58_code 193 = .ok (.aload_n 0, 1) := by decide +kernel
theorem d_168_194 : decode prog_9_method_58_code 194 = .ok (.aload_n 0, 1) := by decide +kernel
theorem d_168_195 : decode prog_9_method_58_code 195 = .ok (.getfield 23, 3) := by decide +kernel
theorem d_168_198 : decode prog_9_method_58_code 198 = .ok (.iload_n 1, 1) := by decide +kernel
theorem d_168_199 : decode prog_9_method_58_code 199 = .ok (.laload, 1) := by decide +kernel
theorem d_168_200 : decode prog_9_method_58_code 200 = .ok (.l2i, 1) := by decide +kernel
theorem d_168_201 : decode prog_9_method_58_code 201 = .ok (.invokevirtual 271, 3) := by decide +kernel
theorem d_168_204 : decode prog_9_method_58_code 204 = .ok (.aload_n 0, 1) := by decide +kernel
theorem d_168_205 : decode prog_9_method_58_code 205 = .ok (.iload_n 1, 1) := by decide +kernel
theorem d_168_206 : decode prog_9_method_58_code 206 = .ok (.invokevirtual 295, 3) := by decide +kernel
theorem d_168_209 : decode prog_9_method_58_code 209 = .ok (.return_, 1) := by decide +kernel
theorem d_169_0 : decode prog_9_method_49_code 0 = .ok (.iconst 0, 1) := by decide +kernel
theorem d_169_1 : decode prog_9_method_49_code 1 = .ok (.istore_n 2, 1) := by decide +kernel
theorem d_169_2 : decode prog_9_method_49_code 2 = .ok (.iload_n 2, 1) := by decide +kernel
theorem d_169_3 : decode prog_9_method_49_code 3 = .ok (.aload_n 0, 1) := by decide +kernel
theorem d_169_4 : decode prog_9_method_49_code 4 = .ok (.getfield 30, 3) := by decide +kernel
theorem d_169_7 : decode prog_9_method_49_code 7 = .ok (.iload_n 1, 1) := by decide +kernel
theorem d_169_8 : decode prog_9_method_49_code 8 = .ok (.iaload, 1) := by decide +kernel
theorem d_169_9 : decode prog_9_method_49_code 9 = .ok (.if_icmp .ge 26, 3) := by decide +kernel
theorem d_169_12 : decode prog_9_method_49_code 12 = .ok (.aload_n 0, 1) := by decide +kernel
theorem d_169_13 : decode prog_9_method_49_code 13 = .ok (.aload_n 0, 1) := by decide +kernel
theorem d_169_14 : decode prog_9_method_49_code 14 = .ok (.getfield 45, 3) := by decide +kernel
theorem d_169_17 : decode prog_9_method_49_code 17 = .ok (.aload_n 0, 1) := by decide +kernel
theorem d_169_18 : decode prog_9_method_49_code 18 = .ok (.getfield 27, 3) := by decide +kernel
theorem d_169_21 : decode prog_9_method_49_code 21 = .ok (.iload_n 1, 1) := by decide +kernel
theorem d_169_22 : decode prog_9_method_49_code 22 = .ok (.iaload, 1) := by decide +kernel
theorem d_169_23 : decode prog_9_method_49_code 23 = .ok (.iload_n 2, 1) := by decide +kernel
theorem d_169_24 : decode prog_9_method_49_code 24 = .ok (.iadd, 1) := by decide +kernel
theorem d_169_25 : decode prog_9_method_49_code 25 = .ok (.iaload, 1) := by decide +kernel
theorem d_169_26 : decode prog_9_method_49_code 26 = .ok (.invokevirtual 271, 3) := by decide +kernel
theorem d_169_29 : decode prog_9_method_49_code 29 = .ok (.iinc 2 1, 3) := by decide +kernel
theorem d_169_32 : decode prog_9_method_49_code 32 = .ok (.goto (-30), 3) := by decide +kernel
theorem d_169_35 : decode prog_9_method_49_code 35 = .ok (.return_, 1) := by decide +kernel
theorem d_170_0 : decode prog_9_method_61_code 0 = .ok (.aload_n 0, 1) := by decide +kernel
theorem d_170_1 : decode prog_9_method_61_code 1 = .ok (.getfield 20, 3) := by decide +kernel
theorem d_170_4 : decode prog_9_method_61_code 4 = .ok (.iload_n 1, 1) := by decide +kernel
theorem d_170_5 : decode prog_9_method_61_code 5 = .ok (.iaload, 1) := by decide +kernel
theorem d_170_6 : decode prog_9_method_61_code 6 = .ok (.istore_n 3, 1) := by decide +kernel
theorem d_170_7 : decode prog_9_method_61_code 7 = .ok (.iload_n 3, 1) := by decide +kernel
theorem d_170_8 : decode prog_9_method_61_code 8 = .ok (.bipush 8, 2) := by decide +kernel
theorem d_170_10 : decode prog_9_method_61_code 10 = .ok (.if_icmp .ge 10, 3) := by decide +kernel
theorem d_170_13 : decode prog_9_method_61_code 13 = .ok (.aload_n 0, 1) := by decide +kernel
theorem d_170_14 : decode prog_9_method_61_code 14 = .ok (.iload_n 1, 1) := by decide +kernel
theorem d_170_15 : decode prog_9_method_61_code 15 = .ok (.iload_n 2, 1) := by decide +kernel
theorem d_170_16 : decode prog_9_method_61_code 16 = .ok (.invokevirtual 312, 3) := by decide +kernel
theorem d_170_19 : decode prog_9_method_61_code 19 = .ok (.return_, 1) := by decide +kernel
theorem d_170_20 : decode prog_9_method_61_code 20 = .ok (.aload_n 0, 1) := by decide +kernel
theorem d_170_21 : decode prog_9_method_61_code 21 = .ok (.invokevirtual 316, 3) := by decide +kernel
theorem d_170_24 : decode prog_9_method_61_code 24 = .ok (.iload_n 3, 1) := by decide +kernel
theorem d_170_25 : decode prog_9_method_61_code 25 = .ok (.bipush 11, 2) := by decide +kernel
theorem d_170_27 : decode prog_9_method_61_code 27 = .ok (.if_icmp .ne 15, 3) := by decide +kernel
theorem d_170_30 : decode prog_9_method_61_code 30 = .ok (.aload_n 0, 1) := by decide +kernel
theorem d_170_31 : decode prog_9_method_61_code 31 = .ok (.iload_n 1, 1) := by decide +kernel
theorem d_170_32 : decode prog_9_method_61_code 32 = .ok (.invokevirtual 319, 3) := by decide +kernel
theorem d_170_35 : decode prog_9_method_61_code 35 = .ok (.ifCond .eq 7, 3) := by decide +kernel
theorem d_170_38 : decode prog_9_method_61_code 38 = .ok (.iconst 1, 1) := by decide +kernel
theorem d_170_39 : decode prog_9_method_61_code 39 = .ok (.goto 4, 3) := by decide +kernel
theorem d_170_42 : decode prog_9_method_61_code 42 = .ok (.iconst 0, 1) := by decide +kernel
theorem d_170_43 : decode prog_9_method_61_code 43 = .ok (.istore 4, 2) := by decide +kernel
theorem d_170_45 : decode prog_9_method_61_code 45 = .ok (.iload_n 3, 1) := by decide +kernel
theorem d_170_46 : decode prog_9_method_61_code 46 = .ok (.bipush 10, 2) := by decide +kernel
theorem d_170_48 : decode prog_9_method_61_code 48 = .ok (.if_icmp .eq 20, 3) := by decide +kernel
theorem d_170_51 : decode prog_9_method_61_code 51 = .ok (.iload_n 3, 1) := by decide +kernel
theorem d_170_52 : decode prog_9_method_61_code 52 = .ok (.bipush 9, 2) := by decide +kernel
theorem d_170_54 : decode prog_9_method_61_code 54 = .ok (.if_icmp .eq 14, 3) := by decide +kernel
theorem d_170_57 : decode prog_9_method_61_code 57 = .ok (.iload_n 3, 1) := by decide +kernel
theorem d_170_58 : decode prog_9_method_61_code 58 = .ok (.bipush 11, 2) := by decide +kernel
theorem d_170_60 : decode prog_9_method_61_code 60 = .ok (.if_icmp .ne 12, 3) := by decide +kernel
theorem d_170_63 : decode prog_9_method_61_code 63 = .ok (.iload 4, 2) := by decide +kernel
theorem d_170_65 : decode prog_9_method_61_code 65 = .ok (.ifCond .ne 7, 3) := by decide +kernel
theorem d_170_68 : decode prog_9_method_61_code 68 = .ok (.iconst 1, 1) := by decide +kernel
theorem d_170_69 : decode prog_9_method_61_code 69 = .ok (.goto 4, 3) := by decide +kernel
theorem d_170_72 : decode prog_9_method_61_code 72 = .ok (.iconst 0, 1) := by decide +kernel
theorem d_170_73 : decode prog_9_method_61_code 73 = .ok (.istore 5, 2) := by decide +kernel
theorem d_170_75 : decode prog_9_method_61_code 75 = .ok (.iload_n 3, 1) := by decide +kernel
theorem d_170_76 : decode prog_9_method_61_code 76 = .ok (.bipush 12, 2) := by decide +kernel
theorem d_170_78 : decode prog_9_method_61_code 78 = .ok (.if_icmp .ne 24, 3) := by decide +kernel
theorem d_170_81 : decode prog_9_method_61_code 81 = .ok (.aload_n 0, 1) := by decide +kernel
theorem d_170_82 : decode prog_9_method_61_code 82 = .ok (.bipush 126, 2) := by decide +kernel
theorem d_170_84 : decode prog_9_method_61_code 84 = .ok (.bipush 35, 2) := by decide +kernel
theorem d_170_86 : decode prog_9_method_61_code 86 = .ok (.invokevirtual 288, 3) := by decide +kernel
theorem d_170_89 : decode prog_9_method_61_code 89 = .ok (.aload_n 0, 1) := by decide +kernel
theorem d_170_90 : decode prog_9_method_61_code 90 = .ok (.iload_n 1, 1) := by decide +kernel
theorem d_170_91 : decode prog_9_method_61_code 91 = .ok (.invokevirtual 295, 3) := by decide +kernel
theorem d_170_94 : decode prog_9_method_61_code 94 = .ok (.aload_n 0, 1) := by decide +kernel
theorem d_170_95 : decode prog_9_method_61_code 95 = .ok (.iconst 0, 1) := by decide +kernel
theorem d_170_96 : decode prog_9_method_61_code 96 = .ok (.invokevirtual 291, 3) := by decide +kernel
theorem d_170_99 : decode prog_9_method_61_code 99 = .ok (.goto 83, 3) := by decide +kernel
theorem d_170_102 : decode prog_9_method_61_code 102 = .ok (.iload 4, 2) := by decide +kernel
theorem d_170_104 : decode prog_9_method_61_code 104 = .ok (.ifCond .eq 19, 3) := by decide +kernel
theorem d_170_107 : decode prog_9_method_61_code 107 = .ok (.aload_n 0, 1) := by decide +kernel
theorem d_170_108 : decode prog_9_method_61_code 108 = .ok (.bipush 94, 2) := by decide +kernel
theorem d_170_110 : decode prog_9_method_61_code 110 = .ok (.bipush 32, 2) := by decide +kernel
theorem d_170_112 : decode prog_9_method_61_code 112 = .ok (.invokevirtual 288, 3) := by decide +kernel
theorem d_170_115 : decode prog_9_method_61_code 115 = .ok (.aload_n 0, 1) := by decide +kernel
theorem d_170_116 : decode prog_9_method_61_code 116 = .ok (.iconst 0, 1) := by decide +kernel
theorem d_170_117 : decode prog_9_method_61_code 117 = .ok (.invokevirtual 291, 3) := by decide +kernel
theorem d_170_120 : decode prog_9_method_61_code 120 = .ok (.goto 62, 3) := by decide +kernel
theorem d_170_123 : decode prog_9_method_61_code 123 = .ok (.iload_n 3, 1) := by decide +kernel
theorem d_170_124 : decode prog_9_method_61_code 124 = .ok (.bipush 10, 2) := by decide +kernel
theorem d_170_126 : decode prog_9_method_61_code 126 = .ok (.if_icmp .ne 17, 3) := by decide +kernel
theorem d_170_129 : decode prog_9_method_61_code 129 = .ok (.aload_n 0, 1) := by decide +kernel
theorem d_170_130 : decode prog_9_method_61_code 130 = .ok (.bipush 115, 2) := by decide +kernel
theorem d_170_132 : decode prog_9_method_61_code 132 = .ok (.bipush 101, 2) := by decide +kernel
theorem d_170_134 : decode prog_9_method_61_code 134 = .ok (.bipush 116, 2) := by decide +kernel
theorem d_170_136 : decode prog_9_method_61_code 136 = .ok (.iconst 0, 1) := by decide +kernel
theorem d_170_137 : decode prog_9_method_61_code 137 = .ok (.invokevirtual 322, 3) := by decide +kernel
theorem d_170_140 : decode prog_9_method_61_code 140 = .ok (.goto 42, 3) := by decide +kernel
theorem d_170_143 : decode prog_9_method_61_code 143 = .ok (.iload_n 3, 1) := by decide +kernel
theorem d_170_144 : decode prog_9_method_61_code 144 = .ok (.bipush 9, 2) := by decide +kernel
theorem d_170_146 : decode prog_9_method_61_code 146 = .ok (.if_icmp .ne 18, 3) := by decide +kernel
theorem d_170_149 : decode prog_9_method_61_code 149 = .ok (.aload_n 0, 1) := by decide +kernel
theorem d_170_150 : decode prog_9_method_61_code 150 = .ok (.bipush 108, 2) := by decide +kernel
theorem d_170_152 : decode prog_9_method_61_code 152 = .ok (.bipush 105, 2) := by decide +kernel
theorem d_170_154 : decode prog_9_method_61_code 154 = .ok (.bipush 115, 2) := by decide +kernel
theorem d_170_156 : decode prog_9_method_61_code 156 = .ok (.bipush 116, 2) := by decide +kernel
theorem d_170_158 : decode prog_9_method_61_code 158 = .ok (.invokevirtual 322, 3) := by decide +kernel
theorem d_170_161 : decode prog_9_method_61_code 161 = .ok (.goto 21, 3) := by decide +kernel
theorem d_170_164 : decode prog_9_method_61_code 164 = .ok (.iload_n 3, 1) := by decide +kernel
theorem d_170_165 : decode prog_9_method_61_code 165 = .ok (.bipush 11, 2) := by decide +kernel
theorem d_170_167 : decode prog_9_method_61_code 167 = .ok (.if_icmp .ne 15, 3) := by decide +kernel
theorem d_170_170 : decode prog_9_method_61_code 170 = .ok (.aload_n 0, 1) := by decide +kernel
theorem d_170_171 : decode prog_9_method_61_code 171 = .ok (.bipush 99, 2) := by decide +kernel
theorem d_170_173 : decode prog_9_method_61_code 173 = .ok (.bipush 109, 2) := by decide +kernel
theorem d_170_175 : decode prog_9_method_61_code 175 = .ok (.bipush 97, 2) := by decide +kernel
theorem d_170_177 : decode prog_9_method_61_code 177 = .ok (.bipush 112, 2) := by decide +kernel
theorem d_170_179 : decode prog_9_method_61_code 179 = .ok (.invokevirtual 322, 3) := by decide +kernel
theorem d_170_182 : decode prog_9_method_61_code 182 = .ok (.iload 5, 2) := by decide +kernel
theorem d_170_184 : decode prog_9_method_61_code 184 = .ok (.ifCond .eq 13, 3) := by decide +kernel
theorem d_170_187 : decode prog_9_method_61_code 187 = .ok (.aload_n 0, 1) := by decide +kernel
theorem d_170_188 : decode prog_9_method_61_code 188 = .ok (.bipush 44, 2) := by decide +kernel
theorem d_170_190 : decode prog_9_method_61_code 190 = .ok (.invokevirtual 262, 3) := by decide +kernel
theorem d_170_193 : decode prog_9_method_61_code 193 = .ok (.aload_n 0, 1) := by decide +kernel
theorem d_170_194 : decode prog_9_method_61_code 194 = .ok (.invokevirtual 316, 3) := by decide +kernel
theorem d_170_197 : decode prog_9_method_61_code 197 = .ok (.aload_n 0, 1) := by decide +kernel
theorem d_170_198 : decode prog_9_method_61_code 198 = .ok (.getfield 259, 3) := by decide +kernel
theorem d_170_201 : decode prog_9_method_61_code 201 = .ok (.ifCond .ne 106, 3) := by decide +kernel
theorem d_170_204 : decode prog_9_method_61_code 204 = .ok (.aload_n 0, 1) := by decide +kernel
theorem d_170_205 : decode prog_9_method_61_code 205 = .ok (.dup, 1) := by decide +kernel
theorem d_170_206 : decode prog_9_method_61_code 206 = .ok (.getfield 325, 3) := by decide +kernel
theorem d_170_209 : decode prog_9_method_61_code 209 = .ok (.iconst 1, 1) := by decide +kernel
theorem d_170_210 : decode prog_9_method_61_code 210 = .ok (.iadd, 1) := by decide +kernel
theorem d_170_211 : decode prog_9_method_61_code 211 = .ok (.putfield 325, 3) := by decide +kernel
theorem d_170_214 : decode prog_9_method_61_code 214 = .ok (.aload_n 0, 1) := by decide +kernel
theorem d_170_215 : decode prog_9_method_61_code 215 = .ok (.getfield 69, 3) := by decide +kernel
theorem d_170_218 : decode prog_9_method_61_code 218 = .ok (.aload_n 0, 1) := by decide +kernel
theorem d_170_219 : decode prog_9_method_61_code 219 = .ok (.getfield 325, 3) := by decide +kernel
theorem d_170_222 : decode prog_9_method_61_code 222 = .ok (.iload_n 1, 1) := by decide +kernel
theorem d_170_223 : decode prog_9_method_61_code 223 = .ok (.iconst 1, 1) := by decide +kernel
theorem d_170_224 : decode prog_9_method_61_code 224 = .ok (.iadd, 1) := by decide +kernel
theorem d_170_225 : decode prog_9_method_61_code 225 = .ok (.iastore, 1) := by decide +kernel
theorem d_170_226 : decode prog_9_method_61_code 226 = .ok (.aload_n 0, 1) := by decide +kernel
theorem d_170_227 : decode prog_9_method_61_code 227 = .ok (.getfield 72, 3) := by decide +kernel
theorem d_170_230 : decode prog_9_method_61_code 230 = .ok (.aload_n 0, 1) := by decide +kernel
theorem d_170_231 : decode prog_9_method_61_code 231 = .ok (.getfield 325, 3) := by decide +kernel
theorem d_170_234 : decode prog_9_method_61_code 234 = .ok (.aload_n 0, 1) := by decide +kernel
theorem d_170_235 : decode prog_9_method_61_code 235 = .ok (.getfield 33, 3) := by decide +kernel
theorem d_170_238 : decode prog_9_method_61_code 238 = .ok (.iload_n 1, 1) := by decide +kernel
theorem d_170_239 : decode prog_9_method_61_code 239 = .ok (.iaload, 1) := by decide +kernel
theorem d_170_240 : decode prog_9_method_61_code 240 = .ok (.iastore, 1) := by decide +kernel
theorem d_170_241 : decode prog_9_method_61_code 241 = .ok (.aload_n 0, 1) := by decide +kernel
theorem d_170_242 : decode prog_9_method_61_code 242 = .ok (.getfield 75, 3) := by decide +kernel
theorem d_170_245 : decode prog_9_method_61_code 245 = .ok (.aload_n 0, 1) := by decide +kernel
theorem d_170_246 : decode prog_9_method_61_code 246 = .ok (.getfield 325, 3) := by decide +kernel
theorem d_170_249 : decode prog_9_method_61_code 249 = .ok (.iload_n 3, 1) := by decide +kernel
theorem d_170_250 : decode prog_9_method_61_code 250 = .ok (.bipush 12, 2) := by decide +kernel
theorem d_170_252 : decode prog_9_method_61_code 252 = .ok (.if_icmp .eq 8, 3) := by decide +kernel
theorem d_170_255 : decode prog_9_method_61_code 255 = .ok (.iload 4, 2) := by decide +kernel
theorem d_170_257 : decode prog_9_method_61_code 257 = .ok (.ifCond .eq 7, 3) := by decide +kernel
theorem d_170_260 : decode prog_9_method_61_code 260 = .ok (.iconst 1, 1) := by decide +kernel
theorem d_170_261 : decode prog_9_method_61_code 261 = .ok (.goto 4, 3) := by decide +kernel
theorem d_170_264 : decode prog_9_method_61_code 264 = .ok (.iconst 0, 1) := by decide +kernel
theorem d_170_265 : decode prog_9_method_61_code 265 = .ok (.bastore, 1) := by decide +kernel
theorem d_170_266 : decode prog_9_method_61_code 266 = .ok (.aload_n 0, 1) := by decide +kernel
theorem d_170_267 : decode prog_9_method_61_code 267 = .ok (.getfield 79, 3) := by decide +kernel
theorem d_170_270 : decode prog_9_method_61_code 270 = .ok (.aload_n 0, 1) := by decide +kernel
theorem d_170_271 : decode prog_9_method_61_code 271 = .ok (.getfield 325, 3) := by decide +kernel
theorem d_170_274 : decode prog_9_method_61_code 274 = .ok (.iload 4, 2) := by decide +kernel
theorem d_170_276 : decode prog_9_method_61_code 276 = .ok (.bastore, 1) := by decide +kernel
theorem d_170_277 : decode prog_9_method_61_code 277 = .ok (.aload_n 0, 1) := by decide +kernel
theorem d_170_278 : decode prog_9_method_61_code 278 = .ok (.getfield 82, 3) := by decide +kernel
theorem d_170_281 : decode prog_9_method_61_code 281 = .ok (.aload_n 0, 1) := by decide +kernel
theorem d_170_282 : decode prog_9_method_61_code 282 = .ok (.getfield 325, 3) := by decide +kernel
theorem d_170_285 : decode prog_9_method_61_code 285 = .ok (.iload 4, 2) := by decide +kernel
theorem d_170_287 : decode prog_9_method_61_code 287 = .ok (.bastore, 1) := by decide +kernel
theorem d_170_288 : decode prog_9_method_61_code 288 = .ok (.aload_n 0, 1) := by decide +kernel
theorem d_170_289 : decode prog_9_method_61_code 289 = .ok (.getfield 85, 3) := by decide +kernel
theorem d_170_292 : decode prog_9_method_61_code 292 = .ok (.aload_n 0, 1) := by decide +kernel
theorem d_170_293 : decode prog_9_method_61_code 293 = .ok (.getfield 325, 3) := by decide +kernel
theorem d_170_296 : decode prog_9_method_61_code 296 = .ok (.iload 5, 2) := by decide +kernel
theorem d_170_298 : decode prog_9_method_61_code 298 = .ok (.ifCond .eq 7, 3) := by decide +kernel
theorem d_170_301 : decode prog_9_method_61_code 301 = .ok (.iconst 2, 1) := by decide +kernel
theorem d_170_302 : decode prog_9_method_61_code 302 = .ok (.goto 4, 3) := by decide +kernel
theorem d_170_305 : decode prog_9_method_61_code 305 = .ok (.iconst 1, 1) := by decide +kernel
theorem d_170_306 : decode prog_9_method_61_code 306 = .ok (.iastore, 1) := by decide +kernel
theorem d_170_307 : decode prog_9_method_61_code 307 = .ok (.return_, 1) := by decide +kernel
theorem d_171_0 : decode prog_9_method_60_code 0 = .ok (.iload_n 1, 1) := by decide +kernel
theorem d_171_1 : decode prog_9_method_60_code 1 = .ok (.iconst 1, 1) := by decide +kernel
theorem d_171_2 : decode prog_9_method_60_code 2 = .ok (.iadd, 1) := by decide +kernel
theorem d_171_3 : decode prog_9_method_60_code 3 = .ok (.istore_n 2, 1) := by decide +kernel
theorem d_171_4 : decode prog_9_method_60_code 4 = .ok (.iconst 1, 1) := by decide +kernel
theorem d_171_5 : decode prog_9_method_60_code 5 = .ok (.istore_n 3, 1) := by decide +kernel
theorem d_171_6 : decode prog_9_method_60_code 6 = .ok (.iconst 0, 1) := by decide +kernel
theorem d_171_7 : decode prog_9_method_60_code 7 = .ok (.istore 4, 2) := by decide +kernel
theorem d_171_9 : decode prog_9_method_60_code 9 = .ok (.iload 4, 2) := by decide +kernel
theorem d_171_11 : decode prog_9_method_60_code 11 = .ok (.aload_n 0, 1) := by decide +kernel
theorem d_171_12 : decode prog_9_method_60_code 12 = .ok (.getfield 33, 3) := by decide +kernel
theorem d_171_15 : decode prog_9_method_60_code 15 = .ok (.iload_n 1, 1) := by decide +kernel
theorem d_171_16 : decode prog_9_method_60_code 16 = .ok (.iaload, 1) := by decide +kernel
theorem d_171_17 : decode prog_9_method_60_code 17 = .ok (.if_icmp .ge 47, 3) := by decide +kernel
theorem d_171_20 : decode prog_9_method_60_code 20 = .ok (.iload_n 3, 1) := by decide +kernel
theorem d_171_21 : decode prog_9_method_60_code 21 = .ok (.ifCond .eq 26, 3) := by decide +kernel
theorem d_171_24 : decode prog_9_method_60_code 24 = .ok (.iload 4, 2) := by decide +kernel
theorem d_171_26 : decode prog_9_method_60_code 26 = .ok (.iconst 2, 1) := by decide +kernel
theorem d_171_27 : decode prog_9_method_60_code 27 = .ok (.irem, 1) := by decide +kernel
theorem d_171_28 : decode prog_9_method_60_code 28 = .ok (.iconst 1, 1) := by decide +kernel
theorem d_171_29 : decode prog_9_method_60_code 29 = .ok (.if_icmp .eq 14, 3) := by decide +kernel
theorem d_171_32 : decode prog_9_method_60_code 32 = .ok (.aload_n 0, 1) := by decide +kernel
theorem d_171_33 : decode prog_9_method_60_code 33 = .ok (.getfield 20, 3) := by decide +kernel
theorem d_171_36 : decode prog_9_method_60_code 36 = .ok (.iload_n 2, 1) := by decide +kernel
theorem d_171_37 : decode prog_9_method_60_code 37 = .ok (.iaload, 1) := by decide +kernel
theorem d_171_38 : decode prog_9_method_60_code 38 = .ok (.bipush 8, 2) := by decide +kernel
theorem d_171_40 : decode prog_9_method_60_code 40 = .ok (.if_icmp .ge 7, 3) := by decide +kernel
theorem d_171_43 : decode prog_9_method_60_code 43 = .ok (.iconst 1, 1) := by decide +kernel
theorem d_171_44 : decode prog_9_method_60_code 44 = .ok (.goto 4, 3) := by decide +kernel
theorem d_171_47 : decode prog_9_method_60_code 47 = .ok (.iconst 0, 1) := by decide +kernel
theorem d_171_48 : decode prog_9_method_60_code 48 = .ok (.istore_n 3, 1) := by decide +kernel
theorem d_171_49 : decode prog_9_method_60_code 49 = .ok (.iload_n 2, 1) := by decide +kernel
theorem d_171_50 : decode prog_9_method_60_code 50 = .ok (.aload_n 0, 1) := by decide +kernel
theorem d_171_51 : decode prog_9_method_60_code 51 = .ok (.getfield 36, 3) := by decide +kernel
theorem d_171_54 : decode prog_9_method_60_code 54 = .ok (.iload_n 2, 1) := by decide +kernel
theorem d_171_55 : decode prog_9_method_60_code 55 = .ok (.iaload, 1) := by decide +kernel
theorem d_171_56 : decode prog_9_method_60_code 56 = .ok (.iadd, 1) := by decide +kernel
theorem d_171_57 : decode prog_9_method_60_code 57 = .ok (.istore_n 2, 1) := by decide +kernel
theorem d_171_58 : decode prog_9_method_60_code 58 = .ok (.iinc 4 1, 3) := by decide +kernel
theorem d_171_61 : decode prog_9_method_60_code 61 = .ok (.goto (-52), 3) := by decide +kernel
theorem d_171_64 : decode prog_9_method_60_code 64 = .ok (.iload_n 3, 1) := by decide +kernel
theorem d_171_65 : decode prog_9_method_60_code 65 = .ok (.ireturn, 1) := by decide +kernel
theorem d_172_0 : decode prog_9_method_64_code 0 = .ok (.aload_n 0, 1) := by decide +kernel
theorem d_172_1 : decode prog_9_method_64_code 1 = .ok (.iload_n 1, 1) := by decide +kernel
theorem d_172_2 : decode prog_9_method_64_code 2 = .ok (.invokestatic 243, 3) := by decide +kernel
theorem d_172_5 : decode prog_9_method_64_code 5 = .ok (.ifCond .eq 7, 3) := by decide +kernel
theorem d_172_8 : decode prog_9_method_64_code 8 = .ok (.iconst 1, 1) := by decide +kernel
theorem d_172_9 : decode prog_9_method_64_code 9 = .ok (.goto 4, 3) := by decide +kernel
theorem d_172_12 : decode prog_9_method_64_code 12 = .ok (.iconst 0, 1) := by decide +kernel
theorem d_172_13 : decode prog_9_method_64_code 13 = .ok (.putfield 94, 3) := by decide +kernel
theorem d_172_16 : decode prog_9_method_64_code 16 = .ok (.aload_n 0, 1) := by decide +kernel
theorem d_172_17 : decode prog_9_method_64_code 17 = .ok (.getfield 94, 3) := by decide +kernel
theorem d_172_20 : decode prog_9_method_64_code 20 = .ok (.ifCond .le 7, 3) := by decide +kernel
theorem d_172_23 : decode prog_9_method_64_code 23 = .ok (.iconst 0, 1) := by decide +kernel
theorem d_172_24 : decode prog_9_method_64_code 24 = .ok (.goto 13, 3) := by decide +kernel
theorem d_172_27 : decode prog_9_method_64_code 27 = .ok (.aload_n 0, 1) := by decide +kernel
theorem d_172_28 : decode prog_9_method_64_code 28 = .ok (.getfield 17, 3) := by decide +kernel
theorem d_172_31 : decode prog_9_method_64_code 31 = .ok (.aload_n 0, 1) := by decide +kernel
theorem d_172_32 : decode prog_9_method_64_code 32 = .ok (.iload_n 1, 1) := by decide +kernel
theorem d_172_33 : decode prog_9_method_64_code 33 = .ok (.invokevirtual 249, 3) := by decide +kernel
theorem d_172_36 : decode prog_9_method_64_code 36 = .ok (.iaload, 1) := by decide +kernel
theorem d_172_37 : decode prog_9_method_64_code 37 = .ok (.ireturn, 1) := by decide +kernel
theorem d_173_0 : decode prog_9_method_66_code 0 = .ok (.aload_n 0, 1) := by decide +kernel
theorem d_173_1 : decode prog_9_method_66_code 1 = .ok (.iload_n 1, 1) := by decide +kernel
theorem d_173_2 : decode prog_9_method_66_code 2 = .ok (.iload_n 2, 1) := by decide +kernel
theorem d_173_3 : decode prog_9_method_66_code 3 = .ok (.invokevirtual 334, 3) := by decide +kernel
theorem d_173_6 : decode prog_9_method_66_code 6 = .ok (.ifCond .eq 7, 3) := by decide +kernel
theorem d_173_9 : decode prog_9_method_66_code 9 = .ok (.iconst 0, 1) := by decide +kernel
theorem d_173_10 : decode prog_9_method_66_code 10 = .ok (.goto 19, 3) := by decide +kernel
theorem d_173_13 : decode prog_9_method_66_code 13 = .ok (.aload_n 0, 1) := by decide +kernel
theorem d_173_14 : decode prog_9_method_66_code 14 = .ok (.getfield 20, 3) := by decide +kernel
theorem d_173_17 : decode prog_9_method_66_code 17 = .ok (.sipush 128, 3) := by decide +kernel
theorem d_173_20 : decode prog_9_method_66_code 20 = .ok (.aload_n 0, 1) := by decide +kernel
theorem d_173_21 : decode prog_9_method_66_code 21 = .ok (.iload_n 1, 1) := by decide +kernel
theorem d_173_22 : decode prog_9_method_66_code 22 = .ok (.invokevirtual 249, 3) := by decide +kernel
theorem d_173_25 : decode prog_9_method_66_code 25 = .ok (.imul, 1) := by decide +kernel
theorem d_173_26 : decode prog_9_method_66_code 26 = .ok (.iload_n 2, 1) := by decide +kernel
theorem d_173_27 : decode prog_9_method_66_code 27 = .ok (.iadd, 1) := by decide +kernel
theorem d_173_28 : decode prog_9_method_66_code 28 = .ok (.iaload, 1) := by decide +kernel
theorem d_173_29 : decode prog_9_method_66_code 29 = .ok (.ireturn, 1) := by decide +kernel
theorem d_174_0 : decode prog_9_method_65_code 0 = .ok (.aload_n 0, 1) := by decide +kernel
theorem d_174_1 : decode prog_9_method_65_code 1 = .ok (.iload_n 1, 1) := by decide +kernel
theorem d_174_2 : decode prog_9_method_65_code 2 = .ok (.invokestatic 243, 3) := by decide +kernel
theorem d_174_5 : decode prog_9_method_65_code 5 = .ok (.ifCond .ne 21, 3) := by decide +kernel
theorem d_174_8 : decode prog_9_method_65_code 8 = .ok (.iload_n 2, 1) := by decide +kernel
theorem d_174_9 : decode prog_9_method_65_code 9 = .ok (.ifCond .lt 17, 3) := by decide +kernel
theorem d_174_12 : decode prog_9_method_65_code 12 = .ok (.iload_n 2, 1) := by decide +kernel
theorem d_174_13 : decode prog_9_method_65_code 13 = .ok (.aload_n 0, 1) := by decide +kernel
theorem d_174_14 : decode prog_9_method_65_code 14 = .ok (.getfield 17, 3) := by decide +kernel
theorem d_174_17 : decode prog_9_method_65_code 17 = .ok (.aload_n 0, 1) := by decide +kernel
theorem d_174_18 : decode prog_9_method_65_code 18 = .ok (.iload_n 1, 1) := by decide +kernel
theorem d_174_19 : decode prog_9_method_65_code 19 = .ok (.invokevirtual 249, 3) := by decide +kernel
theorem d_174_22 : decode prog_9_method_65_code 22 = .ok (.iaload, 1) := by decide +kernel
theorem d_174_23 : decode prog_9_method_65_code 23 = .ok (.if_icmp .lt 7, 3) := by decide +kernel
theorem d_174_26 : decode prog_9_method_65_code 26 = .ok (.iconst 1, 1) := by decide +kernel
theorem d_174_27 : decode prog_9_method_65_code 27 = .ok (.goto 4, 3) := by decide +kernel
theorem d_174_30 : decode prog_9_method_65_code 30 = .ok (.iconst 0, 1) := by decide +kernel
theorem d_174_31 : decode prog_9_method_65_code 31 = .ok (.putfield 94, 3) := by decide +kernel
theorem d_174_34 : decode prog_9_method_65_code 34 = .ok (.aload_n 0, 1) := by decide +kernel
theorem d_174_35 : decode prog_9_method_65_code 35 = .ok (.getfield 94, 3) := by decide +kernel
theorem d_174_38 : decode prog_9_method_65_code 38 = .ok (.ifCond .le 7, 3) := by decide +kernel
theorem d_174_41 : decode prog_9_method_65_code 41 = .ok (.iconst 1, 1) := by decide +kernel
theorem d_174_42 : decode prog_9_method_65_code 42 = .ok (.goto 4, 3) := by decide +kernel
theorem d_174_45 : decode prog_9_method_65_code 45 = .ok (.iconst 0, 1) := by decide +kernel
theorem d_174_46 : decode prog_9_method_65_code 46 = .ok (.ireturn, 1) := by decide +kernel
theorem d_175_0 : decode prog_9_method_67_code 0 = .ok (.aload_n 0, 1) := by decide +kernel
theorem d_175_1 : decode prog_9_method_67_code 1 = .ok (.iload_n 1, 1) := by decide +kernel
theorem d_175_2 : decode prog_9_method_67_code 2 = .ok (.iload_n 2, 1) := by decide +kernel
theorem d_175_3 : decode prog_9_method_67_code 3 = .ok (.invokevirtual 334, 3) := by decide +kernel
theorem d_175_6 : decode prog_9_method_67_code 6 = .ok (.ifCond .eq 5, 3) := by decide +kernel
theorem d_175_9 : decode prog_9_method_67_code 9 = .ok (.iconst 0, 1) := by decide +kernel
theorem d_175_10 : decode prog_9_method_67_code 10 = .ok (.ireturn, 1) := by decide +kernel
theorem d_175_11 : decode prog_9_method_67_code 11 = .ok (.sipush 128, 3) := by decide +kernel
theorem d_175_14 : decode prog_9_method_67_code 14 = .ok (.aload_n 0, 1) := by decide +kernel
theorem d_175_15 : decode prog_9_method_67_code 15 = .ok (.iload_n 1, 1) := by decide +kernel
theorem d_175_16 : decode prog_9_method_67_code 16 = .ok (.invokevirtual 249, 3) := by decide +kernel
theorem d_175_19 : decode prog_9_method_67_code 19 = .ok (.imul, 1) := by decide +kernel
theorem d_175_20 : decode prog_9_method_67_code 20 = .ok (.iload_n 2, 1) := by decide +kernel
theorem d_175_21 : decode prog_9_method_67_code 21 = .ok (.iadd, 1) := by decide +kernel
theorem d_175_22 : decode prog_9_method_67_code 22 = .ok (.istore_n 3, 1) := by decide +kernel
theorem d_175_23 : decode prog_9_method_67_code 23 = .ok (.aload_n 0, 1) := by decide +kernel
theorem d_175_24 : decode prog_9_method_67_code 24 = .ok (.getfield 20, 3) := by decide +kernel
theorem d_175_27 : decode prog_9_method_67_code 27 = .ok (.iload_n 3, 1) := by decide +kernel
theorem d_175_28 : decode prog_9_method_67_code 28 = .ok (.iaload, 1) := by decide +kernel
theorem d_175_29 : decode prog_9_method_67_code 29 = .ok (.bipush 8, 2) := by decide +kernel
theorem d_175_31 : decode prog_9_method_67_code 31 = .ok (.if_icmp .lt 12, 3) := by decide +kernel
theorem d_175_34 : decode prog_9_method_67_code 34 = .ok (.aload_n 0, 1) := by decide +kernel
theorem d_175_35 : decode prog_9_method_67_code 35 = .ok (.getfield 33, 3) := by decide +kernel
theorem d_175_38 : decode prog_9_method_67_code 38 = .ok (.iload_n 3, 1) := by decide +kernel
theorem d_175_39 : decode prog_9_method_67_code 39 = .ok (.iaload, 1) := by decide +kernel
theorem d_175_40 : decode prog_9_method_67_code 40 = .ok (.goto 9, 3) := by decide +kernel
theorem d_175_43 : decode prog_9_method_67_code 43 = .ok (.aload_n 0, 1) := by decide +kernel
theorem d_175_44 : decode prog_9_method_67_code 44 = .ok (.getfield 30, 3) := by decide +kernel
theorem d_175_47 : decode prog_9_method_67_code 47 = .ok (.iload_n 3, 1) := by decide +kernel
theorem d_175_48 : decode prog_9_method_67_code 48 = .ok (.iaload, 1) := by decide +kernel
theorem d_175_49 : decode prog_9_method_67_code 49 = .ok (.ireturn, 1) := by decide +kernel
theorem d_176_0 : decode prog_9_method_68_code 0 = .ok (.aload_n 0, 1) := by decide +kernel
theorem d_176_1 : decode prog_9_method_68_code 1 = .ok (.iload_n 1, 1) := by decide +kernel
theorem d_176_2 : decode prog_9_method_68_code 2 = .ok (.iload_n 2, 1) := by decide +kernel
theorem d_176_3 : decode prog_9_method_68_code 3 = .ok (.invokevirtual 334, 3) := by decide +kernel
theorem d_176_6 : decode prog_9_method_68_code 6 = .ok (.ifCond .eq 7, 3) := by decide +kernel
theorem d_176_9 : decode prog_9_method_68_code 9 = .ok (.lconst 0, 1) := by decide +kernel
theorem d_176_10 : decode prog_9_method_68_code 10 = .ok (.goto 19, 3) := by decide +kernel
theorem d_176_13 : decode prog_9_method_68_code 13 = .ok (.aload_n 0, 1) := by decide +kernel
theorem d_176_14 : decode prog_9_method_68_code 14 = .ok (.getfield 23, 3) := by decide +kernel
theorem d_176_17 : decode prog_9_method_68_code 17 = .ok (.sipush 128, 3) := by decide +kernel
theorem d_176_20 : decode prog_9_method_68_code 20 = .ok (.aload_n 0, 1) := by decide +kernel
theorem d_176_21 : decode prog_9_method_68_code 21 = .ok (.iload_n 1, 1) := by decide +kernel
theorem d_176_22 : decode prog_9_method_68_code 22 = .ok (.invokevirtual 249, 3) := by decide +kernel
theorem d_176_25 : decode prog_9_method_68_code 25 = .ok (.imul, 1) := by decide +kernel
theorem d_176_26 : decode prog_9_method_68_code 26 = .ok (.iload_n 2, 1) := by decide +kernel
theorem d_176_27 : decode prog_9_method_68_code 27 = .ok (.iadd, 1) := by decide +kernel
theorem d_176_28 : decode prog_9_method_68_code 28 = .ok (.laload, 1) := by decide +kernel
theorem d_176_29 : decode prog_9_method_68_code 29 = .ok (.lreturn, 1) := by decide +kernel
theorem d_177_0 : decode prog_9_method_69_code 0 = .ok (.aload_n 0, 1) := by decide +kernel
theorem d_177_1 : decode prog_9_method_69_code 1 = .ok (.iload_n 1, 1) := by decide +kernel
theorem d_177_2 : decode prog_9_method_69_code 2 = .ok (.iload_n 2, 1) := by decide +kernel
theorem d_177_3 : decode prog_9_method_69_code 3 = .ok (.invokevirtual 334, 3) := by decide +kernel
theorem d_177_6 : decode prog_9_method_69_code 6 = .ok (.ifCond .eq 5, 3) := by decide +kernel
theorem d_177_9 : decode prog_9_method_69_code 9 = .ok (.iconst 0, 1) := by decide +kernel
theorem d_177_10 : decode prog_9_method_69_code 10 = .ok (.ireturn, 1) := by decide +kernel
theorem d_177_11 : decode prog_9_method_69_code 11 = .ok (.sipush 128, 3) := by decide +kernel
theorem d_177_14 : decode prog_9_method_69_code 14 = .ok (.aload_n 0, 1) := by decide +kernel
theorem d_177_15 : decode prog_9_method_69_code 15 = .ok (.iload_n 1, 1) := by decide +kernel
theorem d_177_16 : decode prog_9_method_69_code 16 = .ok (.invokevirtual 249, 3) := by decide +kernel
theorem d_177_19 : decode prog_9_method_69_code 19 = .ok (.imul, 1) := by decide +kernel
theorem d_177_20 : decode prog_9_method_69_code 20 = .ok (.iload_n 2, 1) := by decide +kernel
theorem d_177_21 : decode prog_9_method_69_code 21 = .ok (.iadd, 1) := by decide +kernel
theorem d_177_22 : decode prog_9_method_69_code 22 = .ok (.istore 4, 2) := by decide +kernel
theorem d_177_24 : decode prog_9_method_69_code 24 = .ok (.iload_n 3, 1) := by decide +kernel
theorem d_177_25 : decode prog_9_method_69_code 25 = .ok (.ifCond .lt 14, 3) := by decide +kernel
theorem d_177_28 : decode prog_9_method_69_code 28 = .ok (.iload_n 3, 1) := by decide +kernel
theorem d_177_29 : decode prog_9_method_69_code 29 = .ok (.aload_n 0, 1) := by decide +kernel
theorem d_177_30 : decode prog_9_method_69_code 30 = .ok (.getfield 30, 3) := by decide +kernel
theorem d_177_33 : decode prog_9_method_69_code 33 = .ok (.iload 4, 2) := by decide +kernel
theorem d_177_35 : decode prog_9_method_69_code 35 = .ok (.iaload, 1) := by decide +kernel
theorem d_177_36 : decode prog_9_method_69_code 36 = .ok (.if_icmp .lt 7, 3) := by decide +kernel
theorem d_177_39 : decode prog_9_method_69_code 39 = .ok (.iconst (-1), 1) := by decide +kernel
theorem d_177_40 : decode prog_9_method_69_code 40 = .ok (.goto 17, 3) := by decide +kernel
theorem d_177_43 : decode prog_9_method_69_code 43 = .ok (.aload_n 0, 1) := by decide +kernel
theorem d_177_44 : decode prog_9_method_69_code 44 = .ok (.getfield 45, 3) := by decide +kernel
theorem d_177_47 : decode prog_9_method_69_code 47 = .ok (.aload_n 0, 1) := by decide +kernel
theorem d_177_48 : decode prog_9_method_69_code 48 = .ok (.getfield 27, 3) := by decide +kernel
theorem d_177_51 : decode prog_9_method_69_code 51 = .ok (.iload 4, 2) := by decide +kernel
theorem d_177_53 : decode prog_9_method_69_code 53 = .ok (.iaload, 1) := by decide +kernel
theorem d_177_54 : decode prog_9_method_69_code 54 = .ok (.iload_n 3, 1) := by decide +kernel
theorem d_177_55 : decode prog_9_method_69_code 55 = .ok (.iadd, 1) := by decide +kernel
theorem d_177_56 : decode prog_9_method_69_code 56 = .ok (.iaload, 1) := by decide +kernel
theorem d_177_57 : decode prog_9_method_69_code 57 = .ok (.ireturn, 1) := by decide +kernel
theorem d_178_0 : decode prog_9_method_70_code 0 = .ok (.aload_n 0, 1) := by decide +kernel
theorem d_178_1 : decode prog_9_method_70_code 1 = .ok (.iload_n 1, 1) := by decide +kernel
theorem d_178_2 : decode prog_9_method_70_code 2 = .ok (.iload_n 2, 1) := by decide +kernel
theorem d_178_3 : decode prog_9_method_70_code 3 = .ok (.invokevirtual 334, 3) := by decide +kernel
theorem d_178_6 : decode prog_9_method_70_code 6 = .ok (.ifCond .eq 5, 3) := by decide +kernel
theorem d_178_9 : decode prog_9_method_70_code 9 = .ok (.iconst 0, 1) := by decide +kernel
theorem d_178_10 : decode prog_9_method_70_code 10 = .ok (.ireturn, 1) := by decide +kernel
theorem d_178_11 : decode prog_9_method_70_code 11 = .ok (.aload_n 0, 1) := by decide +kernel
theorem d_178_12 : decode prog_9_method_70_code 12 = .ok (.iload_n 1, 1) := by decide +kernel
theorem d_178_13 : decode prog_9_method_70_code 13 = .ok (.invokevirtual 249, 3) := by decide +kernel
theorem d_178_16 : decode prog_9_method_70_code 16 = .ok (.istore_n 3, 1) := by decide +kernel
theorem d_178_17 : decode prog_9_method_70_code 17 = .ok (.aload_n 0, 1) := by decide +kernel
theorem d_178_18 : decode prog_9_method_70_code 18 = .ok (.iload_n 3, 1) := by decide +kernel
theorem d_178_19 : decode prog_9_method_70_code 19 = .ok (.sipush 128, 3) := by decide +kernel
theorem d_178_22 : decode prog_9_method_70_code 22 = .ok (.iload_n 3, 1) := by decide +kernel
theorem d_178_23 : decode prog_9_method_70_code 23 = .ok (.imul, 1) := by decide +kernel
theorem d_178_24 : decode prog_9_method_70_code 24 = .ok (.iload_n 2, 1) := by decide +kernel
theorem d_178_25 : decode prog_9_method_70_code 25 = .ok (.iadd, 1) := by decide +kernel
theorem d_178_26 : decode prog_9_method_70_code 26 = .ok (.aload_n 0, 1) := by decide +kernel
theorem d_178_27 : decode prog_9_method_70_code 27 = .ok (.getfield 36, 3) := by decide +kernel
theorem d_178_30 : decode prog_9_method_70_code 30 = .ok (.sipush 128, 3) := by decide +kernel
theorem d_178_33 : decode prog_9_method_70_code 33 = .ok (.iload_n 3, 1) := by decide +kernel
theorem d_178_34 : decode prog_9_method_70_code 34 = .ok (.imul, 1) := by decide +kernel
theorem d_178_35 : decode prog_9_method_70_code 35 = .ok (.iload_n 2, 1) := by decide +kernel
theorem d_178_36 : decode prog_9_method_70_code 36 = .ok (.iadd, 1) := by decide +kernel
theorem d_178_37 : decode prog_9_method_70_code 37 = .ok (.iaload, 1) := by decide +kernel
theorem d_178_38 : decode prog_9_method_70_code 38 = .ok (.iconst 0, 1) := by decide +kernel
theorem d_178_39 : decode prog_9_method_70_code 39 = .ok (.invokevirtual 252, 3) := by decide +kernel
theorem d_178_42 : decode prog_9_method_70_code 42 = .ok (.aload_n 0, 1) := by decide +kernel
theorem d_178_43 : decode prog_9_method_70_code 43 = .ok (.getfield 17, 3) := by decide +kernel
theorem d_178_46 : decode prog_9_method_70_code 46 = .ok (.iload_n 3, 1) := by decide +kernel
theorem d_178_47 : decode prog_9_method_70_code 47 = .ok (.iaload, 1) := by decide +kernel
theorem d_178_48 : decode prog_9_method_70_code 48 = .ok (.ireturn, 1) := by decide +kernel
theorem d_179_0 : decode prog_9_method_71_code 0 = .ok (.aload_n 0, 1) := by decide +kernel
theorem d_179_1 : decode prog_9_method_71_code 1 = .ok (.iconst 0, 1) := by decide +kernel
theorem d_179_2 : decode prog_9_method_71_code 2 = .ok (.putfield 94, 3) := by decide +kernel
theorem d_179_5 : decode prog_9_method_71_code 5 = .ok (.aload_n 0, 1) := by decide +kernel
theorem d_179_6 : decode prog_9_method_71_code 6 = .ok (.getfield 17, 3) := by decide +kernel
theorem d_179_9 : decode prog_9_method_71_code 9 = .ok (.iconst 0, 1) := by decide +kernel
theorem d_179_10 : decode prog_9_method_71_code 10 = .ok (.iaload, 1) := by decide +kernel
theorem d_179_11 : decode prog_9_method_71_code 11 = .ok (.ifCond .eq 12, 3) := by decide +kernel
theorem d_179_14 : decode prog_9_method_71_code 14 = .ok (.aload_n 0, 1) := by decide +kernel
theorem d_179_15 : decode prog_9_method_71_code 15 = .ok (.getfield 17, 3) := by decide +kernel
theorem d_179_18 : decode prog_9_method_71_code 18 = .ok (.iconst 1, 1) := by decide +kernel
theorem d_179_19 : decode prog_9_method_71_code 19 = .ok (.iaload, 1) := by decide +kernel
theorem d_179_20 : decode prog_9_method_71_code 20 = .ok (.ifCond .ne 24, 3) := by decide +kernel
theorem d_179_23 : decode prog_9_method_71_code 23 = .ok (.aload_n 0, 1) := by decide +kernel
theorem d_179_24 : decode prog_9_method_71_code 24 = .ok (.getfield 17, 3) := by decide +kernel
theorem d_179_27 : decode prog_9_method_71_code 27 = .ok (.iconst 0, 1) := by decide +kernel
theorem d_179_28 : decode prog_9_method_71_code 28 = .ok (.iaload, 1) := by decide +kernel
theorem d_179_29 : decode prog_9_method_71_code 29 = .ok (.aload_n 0, 1) := by decide +kernel
theorem d_179_30 : decode prog_9_method_71_code 30 = .ok (.getfield 17, 3) := by decide +kernel
theorem d_179_33 : decode prog_9_method_71_code 33 = .ok (.iconst 1, 1) := by decide +kernel
theorem d_179_34 : decode prog_9_method_71_code 34 = .ok (.iaload, 1) := by decide +kernel
theorem d_179_35 : decode prog_9_method_71_code 35 = .ok (.if_icmp .ne 7, 3) := by decide +kernel
theorem d_179_38 : decode prog_9_method_71_code 38 = .ok (.iconst 1, 1) := by decide +kernel
theorem d_179_39 : decode prog_9_method_71_code 39 = .ok (.goto 4, 3) := by decide +kernel
theorem d_179_42 : decode prog_9_method_71_code 42 = .ok (.iconst 0, 1) := by decide +kernel
theorem d_179_43 : decode prog_9_method_71_code 43 = .ok (.ireturn, 1) := by decide +kernel
theorem d_179_44 : decode prog_9_method_71_code 44 = .ok (.iconst 0, 1) := by decide +kernel
theorem d_179_45 : decode prog_9_method_71_code 45 = .ok (.istore_n 1, 1) := by decide +kernel
theorem d_179_46 : decode prog_9_method_71_code 46 = .ok (.iload_n 1, 1) := by decide +kernel
theorem d_179_47 : decode prog_9_method_71_code 47 = .ok (.sipush 256, 3) := by decide +kernel
theorem d_179_50 : decode prog_9_method_71_code 50 = .ok (.if_icmp .ge 16, 3) := by decide +kernel
theorem d_179_53 : decode prog_9_method_71_code 53 = .ok (.aload_n 0, 1) := by decide +kernel
theorem d_179_54 : decode prog_9_method_71_code 54 = .ok (.getfield 42, 3) := by decide +kernel
theorem d_179_57 : decode prog_9_method_71_code 57 = .ok (.iload_n 1, 1) := by decide +kernel
theorem d_179_58 : decode prog_9_method_71_code 58 = .ok (.iconst (-1), 1) := by decide +kernel
theorem d_179_59 : decode prog_9_method_71_code 59 = .ok (.iastore, 1) := by decide +kernel
theorem d_179_60 : decode prog_9_method_71_code 60 = .ok (.iinc 1 1, 3) := by decide +kernel
theorem d_179_63 : decode prog_9_method_71_code 63 = .ok (.goto (-17), 3) := by decide +kernel
theorem d_179_66 : decode prog_9_method_71_code 66 = .ok (.iconst 0, 1) := by decide +kernel
theorem d_179_67 : decode prog_9_method_71_code 67 = .ok (.istore_n 1, 1) := by decide +kernel
theorem d_179_68 : decode prog_9_method_71_code 68 = .ok (.iload_n 1, 1) := by decide +kernel
theorem d_179_69 : decode prog_9_method_71_code 69 = .ok (.iconst 2, 1) := by decide +kernel
theorem d_179_70 : decode prog_9_method_71_code 70 = .ok (.if_icmp .ge 48, 3) := by decide +kernel
theorem d_179_73 : decode prog_9_method_71_code 73 = .ok (.sipush 128, 3) := by decide +kernel
theorem d_179_76 : decode prog_9_method_71_code 76 = .ok (.iload_n 1, 1) := by decide +kernel
theorem d_179_77 : decode prog_9_method_71_code 77 = .ok (.imul, 1) := by decide +kernel
theorem d_179_78 : decode prog_9_method_71_code 78 = .ok (.aload_n 0, 1) := by decide +kernel
theorem d_179_79 : decode prog_9_method_71_code 79 = .ok (.getfield 17, 3) := by decide +kernel
theorem d_179_82 : decode prog_9_method_71_code 82 = .ok (.iload_n 1, 1) := by decide +kernel
theorem d_179_83 : decode prog_9_method_71_code 83 = .ok (.iaload, 1) := by decide +kernel
theorem d_179_84 : decode prog_9_method_71_code 84 = .ok (.iadd, 1) := by decide +kernel
theorem d_179_85 : decode prog_9_method_71_code 85 = .ok (.iconst 1, 1) := by decide +kernel
theorem d_179_86 : decode prog_9_method_71_code 86 = .ok (.isub, 1) := by decide +kernel
theorem d_179_87 : decode prog_9_method_71_code 87 = .ok (.istore_n 2, 1) := by decide +kernel
theorem d_179_88 : decode prog_9_method_71_code 88 = .ok (.iload_n 2, 1) := by decide +kernel
theorem d_179_89 : decode prog_9_method_71_code 89 = .ok (.sipush 128, 3) := by decide +kernel
theorem d_179_92 : decode prog_9_method_71_code 92 = .ok (.iload_n 1, 1) := by decide +kernel
theorem d_179_93 : decode prog_9_method_71_code 93 = .ok (.imul, 1) := by decide +kernel
theorem d_179_94 : decode prog_9_method_71_code 94 = .ok (.if_icmp .lt 18, 3) := by decide +kernel
theorem d_179_97 : decode prog_9_method_71_code 97 = .ok (.aload_n 0, 1) := by decide +kernel
theorem d_179_98 : decode prog_9_method_71_code 98 = .ok (.iload_n 2, 1) := by decide +kernel
theorem d_179_99 : decode prog_9_method_71_code 99 = .ok (.iconst 0, 1) := by decide +kernel
theorem d_179_100 : decode prog_9_method_71_code 100 = .ok (.sipush 256, 3) := by decide +kernel
theorem d_179_103 : decode prog_9_method_71_code 103 = .ok (.invokevirtual 124, 3) := by decide +kernel
theorem d_179_106 : decode prog_9_method_71_code 106 = .ok (.iinc 2 (-1), 3) := by decide +kernel
theorem d_179_109 : decode prog_9_method_71_code 109 = .ok (.goto (-21), 3) := by decide +kernel
theorem d_179_112 : decode prog_9_method_71_code 112 = .ok (.iinc 1 1, 3) := by decide +kernel
theorem d_179_115 : decode prog_9_method_71_code 115 = .ok (.goto (-47), 3) := by decide +kernel
theorem d_179_118 : decode prog_9_method_71_code 118 = .ok (.aload_n 0, 1) := by decide +kernel
theorem d_179_119 : decode prog_9_method_71_code 119 = .ok (.getfield 42, 3) := by decide +kernel
theorem d_179_122 : decode prog_9_method_71_code 122 = .ok (.iconst 0, 1) := by decide +kernel
theorem d_179_123 : decode prog_9_method_71_code 123 = .ok (.iaload, 1) := by decide +kernel
theorem d_179_124 : decode prog_9_method_71_code 124 = .ok (.aload_n 0, 1) := by decide +kernel
theorem d_179_125 : decode prog_9_method_71_code 125 = .ok (.getfield 42, 3) := by decide +kernel
theorem d_179_128 : decode prog_9_method_71_code 128 = .ok (.sipush 128, 3) := by decide +kernel
theorem d_179_131 : decode prog_9_method_71_code 131 = .ok (.iaload, 1) := by decide +kernel
theorem d_179_132 : decode prog_9_method_71_code 132 = .ok (.if_icmp .ne 7, 3) := by decide +kernel
theorem d_179_135 : decode prog_9_method_71_code 135 = .ok (.iconst 1, 1) := by decide +kernel
theorem d_179_136 : decode prog_9_method_71_code 136 = .ok (.goto 4, 3) := by decide +kernel
theorem d_179_139 : decode prog_9_method_71_code 139 = .ok (.iconst 0, 1) := by decide +kernel
theorem d_179_140 : decode prog_9_method_71_code 140 = .ok (.ireturn, 1) := by decide +kernel
theorem d_180_0 : decode prog_9_method_72_code 0 = .ok (.aload_n 0, 1) := by decide +kernel
theorem d_180_1 : decode prog_9_method_72_code 1 = .ok (.iconst 0, 1) := by decide +kernel
theorem d_180_2 : decode prog_9_method_72_code 2 = .ok (.putfield 94, 3) := by decide +kernel
theorem d_180_5 : decode prog_9_method_72_code 5 = .ok (.aload_n 0, 1) := by decide +kernel
theorem d_180_6 : decode prog_9_method_72_code 6 = .ok (.aload_n 0, 1) := by decide +kernel
theorem d_180_7 : decode prog_9_method_72_code 7 = .ok (.getfield 239, 3) := by decide +kernel
theorem d_180_10 : decode prog_9_method_72_code 10 = .ok (.ifCond .ne 7, 3) := by decide +kernel
theorem d_180_13 : decode prog_9_method_72_code 13 = .ok (.iconst 1, 1) := by decide +kernel
theorem d_180_14 : decode prog_9_method_72_code 14 = .ok (.goto 4, 3) := by decide +kernel
theorem d_180_17 : decode prog_9_method_72_code 17 = .ok (.iconst 0, 1) := by decide +kernel
theorem d_180_18 : decode prog_9_method_72_code 18 = .ok (.putfield 239, 3) := by decide +kernel
theorem d_180_21 : decode prog_9_method_72_code 21 = .ok (.return_, 1) := by decide +kernel
theorem d_L_0 : decode code 0 = .ok (.new 8, 3) := by decide +kernel
theorem d_L_3 : decode code 3 = .ok (.dup, 1) := by decide +kernel
theorem d_L_4 : decode code 4 = .ok (.invokespecial 45, 3) := by decide +kernel
theorem d_L_7 : decode code 7 = .ok (.astore_n 1, 1) := by decide +kernel
theorem d_L_8 : decode code 8 = .ok (.new 46, 3) := by decide +kernel
theorem d_L_11 : decode code 11 = .ok (.dup, 1) := by decide +kernel
theorem d_L_12 : decode code 12 = .ok (.invokespecial 48, 3) := by decide +kernel
theorem d_L_15 : decode code 15 = .ok (.astore_n 2, 1) := by decide +kernel
theorem d_L_16 : decode code 16 = .ok (.iconst 1, 1) := by decide +kernel
theorem d_L_17 : decode code 17 = .ok (.newarray .long, 2) := by decide +kernel
theorem d_L_19 : decode code 19 = .ok (.astore_n 3, 1) := by decide +kernel
theorem d_L_20 : decode code 20 = .ok (.iconst 0, 1) := by decide +kernel
theorem d_L_21 : decode code 21 = .ok (.istore 4, 2) := by decide +kernel
theorem d_L_23 : decode code 23 = .ok (.iload 4, 2) := by decide +kernel
theorem d_L_25 : decode code 25 = .ok (.aload_n 0, 1) := by decide +kernel
theorem d_L_26 : decode code 26 = .ok (.arraylength, 1) := by decide +kernel
theorem d_L_27 : decode code 27 = .ok (.iconst 4, 1) := by decide +kernel
theorem d_L_28 : decode code 28 = .ok (.isub, 1) := by decide +kernel
theorem d_L_29 : decode code 29 = .ok (.if_icmp .gt 719, 3) := by decide +kernel
theorem d_L_32 : decode code 32 = .ok (.aload_n 0, 1) := by decide +kernel
theorem d_L_33 : decode code 33 = .ok (.iload 4, 2) := by decide +kernel
theorem d_L_35 : decode code 35 = .ok (.iaload, 1) := by decide +kernel
theorem d_L_36 : decode code 36 = .ok (.bipush 15, 2) := by decide +kernel
theorem d_L_38 : decode code 38 = .ok (.iand, 1) := by decide +kernel
theorem d_L_39 : decode code 39 = .ok (.tableswitch 703 0 14 #[73, 98, 109, 122, 147, 203, 216, 272, 328, 396, 464, 531, 611, 679, 692], 73) := by decide +kernel
theorem d_L_112 : decode code 112 = .ok (.aload_n 1, 1) := by decide +kernel
theorem d_L_113 : decode code 113 = .ok (.aload_n 0, 1) := by decide +kernel
theorem d_L_114 : decode code 114 = .ok (.iload 4, 2) := by decide +kernel
theorem d_L_116 : decode code 116 = .ok (.iconst 1, 1) := by decide +kernel
theorem d_L_117 : decode code 117 = .ok (.iadd, 1) := by decide +kernel
theorem d_L_118 : decode code 118 = .ok (.iaload, 1) := by decide +kernel
theorem d_L_119 : decode code 119 = .ok (.invokevirtual 49, 3) := by decide +kernel
theorem d_L_122 : decode code 122 = .ok (.aload_n 2, 1) := by decide +kernel
theorem d_L_123 : decode code 123 = .ok (.aload_n 0, 1) := by decide +kernel
theorem d_L_124 : decode code 124 = .ok (.iload 4, 2) := by decide +kernel
theorem d_L_126 : decode code 126 = .ok (.iconst 1, 1) := by decide +kernel
theorem d_L_127 : decode code 127 = .ok (.iadd, 1) := by decide +kernel
theorem d_L_128 : decode code 128 = .ok (.iaload, 1) := by decide +kernel
theorem d_L_129 : decode code 129 = .ok (.invokevirtual 53, 3) := by decide +kernel
theorem d_L_132 : decode code 132 = .ok (.if_icmp .eq 610, 3) := by decide +kernel
theorem d_L_135 : decode code 135 = .ok (.iconst 0, 1) := by decide +kernel
theorem d_L_136 : decode code 136 = .ok (.ireturn, 1) := by decide +kernel
theorem d_L_137 : decode code 137 = .ok (.aload_n 1, 1) := by decide +kernel
theorem d_L_138 : decode code 138 = .ok (.invokevirtual 54, 3) := by decide +kernel
theorem d_L_141 : decode code 141 = .ok (.aload_n 2, 1) := by decide +kernel
theorem d_L_142 : decode code 142 = .ok (.invokevirtual 57, 3) := by decide +kernel
theorem d_L_145 : decode code 145 = .ok (.goto 597, 3) := by decide +kernel
theorem d_L_148 : decode code 148 = .ok (.aload_n 1, 1) := by decide +kernel
theorem d_L_149 : decode code 149 = .ok (.invokevirtual 58, 3) := by decide +kernel
theorem d_L_152 : decode code 152 = .ok (.aload_n 2, 1) := by decide +kernel
theorem d_L_153 : decode code 153 = .ok (.invokevirtual 62, 3) := by decide +kernel
theorem d_L_156 : decode code 156 = .ok (.if_icmp .eq 586, 3) := by decide +kernel
theorem d_L_159 : decode code 159 = .ok (.iconst 0, 1) := by decide +kernel
theorem d_L_160 : decode code 160 = .ok (.ireturn, 1) := by decide +kernel
theorem d_L_161 : decode code 161 = .ok (.aload_n 1, 1) := by decide +kernel
theorem d_L_162 : decode code 162 = .ok (.aload_n 0, 1) := by decide +kernel
theorem d_L_163 : decode code 163 = .ok (.iload 4, 2) := by decide +kernel
theorem d_L_165 : decode code 165 = .ok (.iconst 1, 1) := by decide +kernel
theorem d_L_166 : decode code 166 = .ok (.iadd, 1) := by decide +kernel
theorem d_L_167 : decode code 167 = .ok (.iaload, 1) := by decide +kernel
theorem d_L_168 : decode code 168 = .ok (.invokevirtual 63, 3) := by decide +kernel
theorem d_L_171 : decode code 171 = .ok (.aload_n 2, 1) := by decide +kernel
theorem d_L_172 : decode code 172 = .ok (.aload_n 0, 1) := by decide +kernel
theorem d_L_173 : decode code 173 = .ok (.iload 4, 2) := by decide +kernel
theorem d_L_175 : decode code 175 = .ok (.iconst 1, 1) := by decide +kernel
theorem d_L_176 : decode code 176 = .ok (.iadd, 1) := by decide +kernel
theorem d_L_177 : decode code 177 = .ok (.iaload, 1) := by decide +kernel
theorem d_L_178 : decode code 178 = .ok (.invokevirtual 66, 3) := by decide +kernel
theorem d_L_181 : decode code 181 = .ok (.if_icmp .eq 561, 3) := by decide +kernel
theorem d_L_184 : decode code 184 = .ok (.iconst 0, 1) := by decide +kernel
theorem d_L_185 : decode code 185 = .ok (.ireturn, 1) := by decide +kernel
theorem d_L_186 : decode code 186 = .ok (.aload_n 1, 1) := by decide +kernel
theorem d_L_187 : decode code 187 = .ok (.aload_n 0, 1) := by decide +kernel
theorem d_L_188 : decode code 188 = .ok (.iload 4, 2) := by decide +kernel
theorem d_L_190 : decode code 190 = .ok (.iconst 1, 1) := by decide +kernel
theorem d_L_191 : decode code 191 = .ok (.iadd, 1) := by decide +kernel
theorem d_L_192 : decode code 192 = .ok (.iaload, 1) := by decide +kernel
theorem d_L_193 : decode code 193 = .ok (.aload_n 3, 1) := by decide +kernel
theorem d_L_194 : decode code 194 = .ok (.invokestatic 67, 3) := by decide +kernel
theorem d_L_197 : decode code 197 = .ok (.istore 5, 2) := by decide +kernel
theorem d_L_199 : decode code 199 = .ok (.aload_n 2, 1) := by decide +kernel
theorem d_L_200 : decode code 200 = .ok (.aload_n 0, 1) := by decide +kernel
theorem d_L_201 : decode code 201 = .ok (.iload 4, 2) := by decide +kernel
theorem d_L_203 : decode code 203 = .ok (.iconst 1, 1) := by decide +kernel
theorem d_L_204 : decode code 204 = .ok (.iadd, 1) := by decide +kernel
theorem d_L_205 : decode code 205 = .ok (.iaload, 1) := by decide +kernel
theorem d_L_206 : decode code 206 = .ok (.invokevirtual 72, 3) := by decide +kernel
theorem d_L_209 : decode code 209 = .ok (.istore 6, 2) := by decide +kernel
theorem d_L_211 : decode code 211 = .ok (.aload_n 2, 1) := by decide +kernel
theorem d_L_212 : decode code 212 = .ok (.invokevirtual 73, 3) := by decide +kernel
theorem d_L_215 : decode code 215 = .ok (.iload 5, 2) := by decide +kernel
theorem d_L_217 : decode code 217 = .ok (.if_icmp .eq 5, 3) := by decide +kernel
theorem d_L_220 : decode code 220 = .ok (.iconst 0, 1) := by decide +kernel
theorem d_L_221 : decode code 221 = .ok (.ireturn, 1) := by decide +kernel
theorem d_L_222 : decode code 222 = .ok (.iload 5, 2) := by decide +kernel
theorem d_L_224 : decode code 224 = .ok (.ifCond .ne 15, 3) := by decide +kernel
theorem d_L_227 : decode code 227 = .ok (.aload_n 3, 1) := by decide +kernel
theorem d_L_228 : decode code 228 = .ok (.iconst 0, 1) := by decide +kernel
theorem d_L_229 : decode code 229 = .ok (.laload, 1) := by decide +kernel
theorem d_L_230 : decode code 230 = .ok (.iload 6, 2) := by decide +kernel
theorem d_L_232 : decode code 232 = .ok (.i2l, 1) := by decide +kernel
theorem d_L_233 : decode code 233 = .ok (.lcmp, 1) := by decide +kernel
theorem d_L_234 : decode code 234 = .ok (.ifCond .eq 5, 3) := by decide +kernel
theorem d_L_237 : decode code 237 = .ok (.iconst 0, 1) := by decide +kernel
theorem d_L_238 : decode code 238 = .ok (.ireturn, 1) := by decide +kernel
theorem d_L_239 : decode code 239 = .ok (.goto 503, 3) := by decide +kernel
theorem d_L_242 : decode code 242 = .ok (.aload_n 1, 1) := by decide +kernel
theorem d_L_243 : decode code 243 = .ok (.invokevirtual 76, 3) := by decide +kernel
theorem d_L_246 : decode code 246 = .ok (.aload_n 2, 1) := by decide +kernel
theorem d_L_247 : decode code 247 = .ok (.invokevirtual 79, 3) := by decide +kernel
theorem d_L_250 : decode code 250 = .ok (.if_icmp .eq 492, 3) := by decide +kernel
theorem d_L_253 : decode code 253 = .ok (.iconst 0, 1) := by decide +kernel
theorem d_L_254 : decode code 254 = .ok (.ireturn, 1) := by decide +kernel
theorem d_L_255 : decode code 255 = .ok (.aload_n 1, 1) := by decide +kernel
theorem d_L_256 : decode code 256 = .ok (.aload_n 0, 1) := by decide +kernel
theorem d_L_257 : decode code 257 = .ok (.iload 4, 2) := by decide +kernel
theorem d_L_259 : decode code 259 = .ok (.iconst 1, 1) := by decide +kernel
theorem d_L_260 : decode code 260 = .ok (.iadd, 1) := by decide +kernel
theorem d_L_261 : decode code 261 = .ok (.iaload, 1) := by decide +kernel
theorem d_L_262 : decode code 262 = .ok (.aload_n 3, 1) := by decide +kernel
theorem d_L_263 : decode code 263 = .ok (.invokestatic 80, 3) := by decide +kernel
theorem d_L_266 : decode code 266 = .ok (.istore 5, 2) := by decide +kernel
theorem d_L_268 : decode code 268 = .ok (.aload_n 2, 1) := by decide +kernel
theorem d_L_269 : decode code 269 = .ok (.aload_n 0, 1) := by decide +kernel
theorem d_L_270 : decode code 270 = .ok (.iload 4, 2) := by decide +kernel
theorem d_L_272 : decode code 272 = .ok (.iconst 1, 1) := by decide +kernel
theorem d_L_273 : decode code 273 = .ok (.iadd, 1) := by decide +kernel
theorem d_L_274 : decode code 274 = .ok (.iaload, 1) := by decide +kernel
theorem d_L_275 : decode code 275 = .ok (.invokevirtual 82, 3) := by decide +kernel
theorem d_L_278 : decode code 278 = .ok (.istore 6, 2) := by decide +kernel
theorem d_L_280 : decode code 280 = .ok (.aload_n 2, 1) := by decide +kernel
theorem d_L_281 : decode code 281 = .ok (.invokevirtual 73, 3) := by decide +kernel
theorem d_L_284 : decode code 284 = .ok (.iload 5, 2) := by decide +kernel
theorem d_L_286 : decode code 286 = .ok (.if_icmp .eq 5, 3) := by decide +kernel
theorem d_L_289 : decode code 289 = .ok (.iconst 0, 1) := by decide +kernel
theorem d_L_290 : decode code 290 = .ok (.ireturn, 1) := by decide +kernel
theorem d_L_291 : decode code 291 = .ok (.iload 5, 2) := by decide +kernel
theorem d_L_293 : decode code 293 = .ok (.ifCond .ne 15, 3) := by decide +kernel
theorem d_L_296 : decode code 296 = .ok (.aload_n 3, 1) := by decide +kernel
theorem d_L_297 : decode code 297 = .ok (.iconst 0, 1) := by decide +kernel
theorem d_L_298 : decode code 298 = .ok (.laload, 1) := by decide +kernel
theorem d_L_299 : decode code 299 = .ok (.iload 6, 2) := by decide +kernel
theorem d_L_301 : decode code 301 = .ok (.i2l, 1) := by decide +kernel
theorem d_L_302 : decode code 302 = .ok (.lcmp, 1) := by decide +kernel
theorem d_L_303 : decode code 303 = .ok (.ifCond .eq 5, 3) := by decide +kernel
theorem d_L_306 : decode code 306 = .ok (.iconst 0, 1) := by decide +kernel
theorem d_L_307 : decode code 307 = .ok (.ireturn, 1) := by decide +kernel
theorem d_L_308 : decode code 308 = .ok (.goto 434, 3) := by decide +kernel
theorem d_L_311 : decode code 311 = .ok (.aload_n 1, 1) := by decide +kernel
theorem d_L_312 : decode code 312 = .ok (.aload_n 0, 1) := by decide +kernel
theorem d_L_313 : decode code 313 = .ok (.iload 4, 2) := by decide +kernel
theorem d_L_315 : decode code 315 = .ok (.iconst 1, 1) := by decide +kernel
theorem d_L_316 : decode code 316 = .ok (.iadd, 1) := by decide +kernel
theorem d_L_317 : decode code 317 = .ok (.iaload, 1) := by decide +kernel
theorem d_L_318 : decode code 318 = .ok (.aload_n 3, 1) := by decide +kernel
theorem d_L_319 : decode code 319 = .ok (.invokestatic 83, 3) := by decide +kernel
theorem d_L_322 : decode code 322 = .ok (.istore 5, 2) := by decide +kernel
theorem d_L_324 : decode code 324 = .ok (.aload_n 2, 1) := by decide +kernel
theorem d_L_325 : decode code 325 = .ok (.aload_n 0, 1) := by decide +kernel
theorem d_L_326 : decode code 326 = .ok (.iload 4, 2) := by decide +kernel
theorem d_L_328 : decode code 328 = .ok (.iconst 1, 1) := by decide +kernel
theorem d_L_329 : decode code 329 = .ok (.iadd, 1) := by decide +kernel
theorem d_L_330 : decode code 330 = .ok (.iaload, 1) := by decide +kernel
theorem d_L_331 : decode code 331 = .ok (.invokevirtual 85, 3) := by decide +kernel
theorem d_L_334 : decode code 334 = .ok (.istore 6, 2) := by decide +kernel
theorem d_L_336 : decode code 336 = .ok (.aload_n 2, 1) := by decide +kernel
theorem d_L_337 : decode code 337 = .ok (.invokevirtual 73, 3) := by decide +kernel
theorem d_L_340 : decode code 340 = .ok (.iload 5, 2) := by decide +kernel
theorem d_L_342 : decode code 342 = .ok (.if_icmp .eq 5, 3) := by decide +kernel
theorem d_L_345 : decode code 345 = .ok (.iconst 0, 1) := by decide +kernel
theorem d_L_346 : decode code 346 = .ok (.ireturn, 1) := by decide +kernel
theorem d_L_347 : decode code 347 = .ok (.iload 5, 2) := by decide +kernel
theorem d_L_349 : decode code 349 = .ok (.ifCond .ne 15, 3) := by decide +kernel
theorem d_L_352 : decode code 352 = .ok (.aload_n 3, 1) := by decide +kernel
theorem d_L_353 : decode code 353 = .ok (.iconst 0, 1) := by decide +kernel
theorem d_L_354 : decode code 354 = .ok (.laload, 1) := by decide +kernel
theorem d_L_355 : decode code 355 = .ok (.iload 6, 2) := by decide +kernel
theorem d_L_357 : decode code 357 = .ok (.i2l, 1) := by decide +kernel
theorem d_L_358 : decode code 358 = .ok (.lcmp, 1) := by decide +kernel
theorem d_L_359 : decode code 359 = .ok (.ifCond .eq 5, 3) := by decide +kernel
theorem d_L_362 : decode code 362 = .ok (.iconst 0, 1) := by decide +kernel
theorem d_L_363 : decode code 363 = .ok (.ireturn, 1) := by decide +kernel
theorem d_L_364 : decode code 364 = .ok (.goto 378, 3) := by decide +kernel
theorem d_L_367 : decode code 367 = .ok (.aload_n 1, 1) := by decide +kernel
theorem d_L_368 : decode code 368 = .ok (.aload_n 0, 1) := by decide +kernel
theorem d_L_369 : decode code 369 = .ok (.iload 4, 2) := by decide +kernel
theorem d_L_371 : decode code 371 = .ok (.iconst 1, 1) := by decide +kernel
theorem d_L_372 : decode code 372 = .ok (.iadd, 1) := by decide +kernel
theorem d_L_373 : decode code 373 = .ok (.iaload, 1) := by decide +kernel
theorem d_L_374 : decode code 374 = .ok (.aload_n 0, 1) := by decide +kernel
theorem d_L_375 : decode code 375 = .ok (.iload 4, 2) := by decide +kernel
theorem d_L_377 : decode code 377 = .ok (.iconst 2, 1) := by decide +kernel
theorem d_L_378 : decode code 378 = .ok (.iadd, 1) := by decide +kernel
theorem d_L_379 : decode code 379 = .ok (.iaload, 1) := by decide +kernel
theorem d_L_380 : decode code 380 = .ok (.aload_n 3, 1) := by decide +kernel
theorem d_L_381 : decode code 381 = .ok (.invokestatic 86, 3) := by decide +kernel
theorem d_L_384 : decode code 384 = .ok (.istore 5, 2) := by decide +kernel
theorem d_L_386 : decode code 386 = .ok (.aload_n 2, 1) := by decide +kernel
theorem d_L_387 : decode code 387 = .ok (.aload_n 0, 1) := by decide +kernel
theorem d_L_388 : decode code 388 = .ok (.iload 4, 2) := by decide +kernel
theorem d_L_390 : decode code 390 = .ok (.iconst 1, 1) := by decide +kernel
theorem d_L_391 : decode code 391 = .ok (.iadd, 1) := by decide +kernel
theorem d_L_392 : decode code 392 = .ok (.iaload, 1) := by decide +kernel
theorem d_L_393 : decode code 393 = .ok (.aload_n 0, 1) := by decide +kernel
theorem d_L_394 : decode code 394 = .ok (.iload 4, 2) := by decide +kernel
theorem d_L_396 : decode code 396 = .ok (.iconst 2, 1) := by decide +kernel
theorem d_L_397 : decode code 397 = .ok (.iadd, 1) := by decide +kernel
theorem d_L_398 : decode code 398 = .ok (.iaload, 1) := by decide +kernel
theorem d_L_399 : decode code 399 = .ok (.invokevirtual 89, 3) := by decide +kernel
theorem d_L_402 : decode code 402 = .ok (.istore 6, 2) := by decide +kernel
theorem d_L_404 : decode code 404 = .ok (.aload_n 2, 1) := by decide +kernel
theorem d_L_405 : decode code 405 = .ok (.invokevirtual 73, 3) := by decide +kernel
theorem d_L_408 : decode code 408 = .ok (.iload 5, 2) := by decide +kernel
theorem d_L_410 : decode code 410 = .ok (.if_icmp .eq 5, 3) := by decide +kernel
theorem d_L_413 : decode code 413 = .ok (.iconst 0, 1) := by decide +kernel
theorem d_L_414 : decode code 414 = .ok (.ireturn, 1) := by decide +kernel
theorem d_L_415 : decode code 415 = .ok (.iload 5, 2) := by decide +kernel
theorem d_L_417 : decode code 417 = .ok (.ifCond .ne 15, 3) := by decide +kernel
theorem d_L_420 : decode code 420 = .ok (.aload_n 3, 1) := by decide +kernel
theorem d_L_421 : decode code 421 = .ok (.iconst 0, 1) := by decide +kernel
theorem d_L_422 : decode code 422 = .ok (.laload, 1) := by decide +kernel
theorem d_L_423 : decode code 423 = .ok (.iload 6, 2) := by decide +kernel
theorem d_L_425 : decode code 425 = .ok (.i2l, 1) := by decide +kernel
theorem d_L_426 : decode code 426 = .ok (.lcmp, 1) := by decide +kernel
theorem d_L_427 : decode code 427 = .ok (.ifCond .eq 5, 3) := by decide +kernel
theorem d_L_430 : decode code 430 = .ok (.iconst 0, 1) := by decide +kernel
theorem d_L_431 : decode code 431 = .ok (.ireturn, 1) := by decide +kernel
theorem d_L_432 : decode code 432 = .ok (.goto 310, 3) := by decide +kernel
theorem d_L_435 : decode code 435 = .ok (.aload_n 1, 1) := by decide +kernel
theorem d_L_436 : decode code 436 = .ok (.aload_n 0, 1) := by decide +kernel
theorem d_L_437 : decode code 437 = .ok (.iload 4, 2) := by decide +kernel
theorem d_L_439 : decode code 439 = .ok (.iconst 1, 1) := by decide +kernel
theorem d_L_440 : decode code 440 = .ok (.iadd, 1) := by decide +kernel
theorem d_L_441 : decode code 441 = .ok (.iaload, 1) := by decide +kernel
theorem d_L_442 : decode code 442 = .ok (.aload_n 0, 1) := by decide +kernel
theorem d_L_443 : decode code 443 = .ok (.iload 4, 2) := by decide +kernel
theorem d_L_445 : decode code 445 = .ok (.iconst 2, 1) := by decide +kernel
theorem d_L_446 : decode code 446 = .ok (.iadd, 1) := by decide +kernel
theorem d_L_447 : decode code 447 = .ok (.iaload, 1) := by decide +kernel
theorem d_L_448 : decode code 448 = .ok (.aload_n 3, 1) := by decide +kernel
theorem d_L_449 : decode code 449 = .ok (.invokestatic 90, 3) := by decide +kernel
theorem d_L_452 : decode code 452 = .ok (.istore 5, 2) := by decide +kernel
theorem d_L_454 : decode code 454 = .ok (.aload_n 2, 1) := by decide +kernel
theorem d_L_455 : decode code 455 = .ok (.aload_n 0, 1) := by decide +kernel
theorem d_L_456 : decode code 456 = .ok (.iload 4, 2) := by decide +kernel
theorem d_L_458 : decode code 458 = .ok (.iconst 1, 1) := by decide +kernel
theorem d_L_459 : decode code 459 = .ok (.iadd, 1) := by decide +kernel
theorem d_L_460 : decode code 460 = .ok (.iaload, 1) := by decide +kernel
theorem d_L_461 : decode code 461 = .ok (.aload_n 0, 1) := by decide +kernel
theorem d_L_462 : decode code 462 = .ok (.iload 4, 2) := by decide +kernel
theorem d_L_464 : decode code 464 = .ok (.iconst 2, 1) := by decide +kernel
theorem d_L_465 : decode code 465 = .ok (.iadd, 1) := by decide +kernel
theorem d_L_466 : decode code 466 = .ok (.iaload, 1) := by decide +kernel
theorem d_L_467 : decode code 467 = .ok (.invokevirtual 92, 3) := by decide +kernel
theorem d_L_470 : decode code 470 = .ok (.istore 6, 2) := by decide +kernel
theorem d_L_472 : decode code 472 = .ok (.aload_n 2, 1) := by decide +kernel
theorem d_L_473 : decode code 473 = .ok (.invokevirtual 73, 3) := by decide +kernel
theorem d_L_476 : decode code 476 = .ok (.iload 5, 2) := by decide +kernel
theorem d_L_478 : decode code 478 = .ok (.if_icmp .eq 5, 3) := by decide +kernel
theorem d_L_481 : decode code 481 = .ok (.iconst 0, 1) := by decide +kernel
theorem d_L_482 : decode code 482 = .ok (.ireturn, 1) := by decide +kernel
theorem d_L_483 : decode code 483 = .ok (.iload 5, 2) := by decide +kernel
theorem d_L_485 : decode code 485 = .ok (.ifCond .ne 15, 3) := by decide +kernel
theorem d_L_488 : decode code 488 = .ok (.aload_n 3, 1) := by decide +kernel
theorem d_L_489 : decode code 489 = .ok (.iconst 0, 1) := by decide +kernel
theorem d_L_490 : decode code 490 = .ok (.laload, 1) := by decide +kernel
theorem d_L_491 : decode code 491 = .ok (.iload 6, 2) := by decide +kernel
theorem d_L_493 : decode code 493 = .ok (.i2l, 1) := by decide +kernel
theorem d_L_494 : decode code 494 = .ok (.lcmp, 1) := by decide +kernel
theorem d_L_495 : decode code 495 = .ok (.ifCond .eq 5, 3) := by decide +kernel
theorem d_L_498 : decode code 498 = .ok (.iconst 0, 1) := by decide +kernel
theorem d_L_499 : decode code 499 = .ok (.ireturn, 1) := by decide +kernel
theorem d_L_500 : decode code 500 = .ok (.goto 242, 3) := by decide +kernel
theorem d_L_503 : decode code 503 = .ok (.aload_n 1, 1) := by decide +kernel
theorem d_L_504 : decode code 504 = .ok (.aload_n 0, 1) := by decide +kernel
theorem d_L_505 : decode code 505 = .ok (.iload 4, 2) := by decide +kernel
theorem d_L_507 : decode code 507 = .ok (.iconst 1, 1) := by decide +kernel
theorem d_L_508 : decode code 508 = .ok (.iadd, 1) := by decide +kernel
theorem d_L_509 : decode code 509 = .ok (.iaload, 1) := by decide +kernel
theorem d_L_510 : decode code 510 = .ok (.aload_n 0, 1) := by decide +kernel
theorem d_L_511 : decode code 511 = .ok (.iload 4, 2) := by decide +kernel
theorem d_L_513 : decode code 513 = .ok (.iconst 2, 1) := by decide +kernel
theorem d_L_514 : decode code 514 = .ok (.iadd, 1) := by decide +kernel
theorem d_L_515 : decode code 515 = .ok (.iaload, 1) := by decide +kernel
theorem d_L_516 : decode code 516 = .ok (.aload_n 3, 1) := by decide +kernel
theorem d_L_517 : decode code 517 = .ok (.invokestatic 93, 3) := by decide +kernel
theorem d_L_520 : decode code 520 = .ok (.istore 5, 2) := by decide +kernel
theorem d_L_522 : decode code 522 = .ok (.aload_n 2, 1) := by decide +kernel
theorem d_L_523 : decode code 523 = .ok (.aload_n 0, 1) := by decide +kernel
theorem d_L_524 : decode code 524 = .ok (.iload 4, 2) := by decide +kernel
theorem d_L_526 : decode code 526 = .ok (.iconst 1, 1) := by decide +kernel
theorem d_L_527 : decode code 527 = .ok (.iadd, 1) := by decide +kernel
theorem d_L_528 : decode code 528 = .ok (.iaload, 1) := by decide +kernel
theorem d_L_529 : decode code 529 = .ok (.aload_n 0, 1) := by decide +kernel
theorem d_L_530 : decode code 530 = .ok (.iload 4, 2) := by decide +kernel
theorem d_L_532 : decode code 532 = .ok (.iconst 2, 1) := by decide +kernel
theorem d_L_533 : decode code 533 = .ok (.iadd, 1) := by decide +kernel
theorem d_L_534 : decode code 534 = .ok (.iaload, 1) := by decide +kernel
theorem d_L_535 : decode code 535 = .ok (.invokevirtual 95, 3) := by decide +kernel
theorem d_L_538 : decode code 538 = .ok (.lstore 6, 2) := by decide +kernel
theorem d_L_540 : decode code 540 = .ok (.aload_n 2, 1) := by decide +kernel
theorem d_L_541 : decode code 541 = .ok (.invokevirtual 73, 3) := by decide +kernel
theorem d_L_544 : decode code 544 = .ok (.iload 5, 2) := by decide +kernel
theorem d_L_546 : decode code 546 = .ok (.if_icmp .eq 5, 3) := by decide +kernel
theorem d_L_549 : decode code 549 = .ok (.iconst 0, 1) := by decide +kernel
theorem d_L_550 : decode code 550 = .ok (.ireturn, 1) := by decide +kernel
theorem d_L_551 : decode code 551 = .ok (.iload 5, 2) := by decide +kernel
theorem d_L_553 : decode code 553 = .ok (.ifCond .ne 14, 3) := by decide +kernel
theorem d_L_556 : decode code 556 = .ok (.aload_n 3, 1) := by decide +kernel
theorem d_L_557 : decode code 557 = .ok (.iconst 0, 1) := by decide +kernel
theorem d_L_558 : decode code 558 = .ok (.laload, 1) := by decide +kernel
theorem d_L_559 : decode code 559 = .ok (.lload 6, 2) := by decide +kernel
theorem d_L_561 : decode code 561 = .ok (.lcmp, 1) := by decide +kernel
theorem d_L_562 : decode code 562 = .ok (.ifCond .eq 5, 3) := by decide +kernel
theorem d_L_565 : decode code 565 = .ok (.iconst 0, 1) := by decide +kernel
theorem d_L_566 : decode code 566 = .ok (.ireturn, 1) := by decide +kernel
theorem d_L_567 : decode code 567 = .ok (.goto 175, 3) := by decide +kernel
theorem d_L_570 : decode code 570 = .ok (.aload_n 1, 1) := by decide +kernel
theorem d_L_571 : decode code 571 = .ok (.aload_n 0, 1) := by decide +kernel
theorem d_L_572 : decode code 572 = .ok (.iload 4, 2) := by decide +kernel
theorem d_L_574 : decode code 574 = .ok (.iconst 1, 1) := by decide +kernel
theorem d_L_575 : decode code 575 = .ok (.iadd, 1) := by decide +kernel
theorem d_L_576 : decode code 576 = .ok (.iaload, 1) := by decide +kernel
theorem d_L_577 : decode code 577 = .ok (.aload_n 0, 1) := by decide +kernel
theorem d_L_578 : decode code 578 = .ok (.iload 4, 2) := by decide +kernel
theorem d_L_580 : decode code 580 = .ok (.iconst 2, 1) := by decide +kernel
theorem d_L_581 : decode code 581 = .ok (.iadd, 1) := by decide +kernel
theorem d_L_582 : decode code 582 = .ok (.iaload, 1) := by decide +kernel
theorem d_L_583 : decode code 583 = .ok (.aload_n 0, 1) := by decide +kernel
theorem d_L_584 : decode code 584 = .ok (.iload 4, 2) := by decide +kernel
theorem d_L_586 : decode code 586 = .ok (.iconst 3, 1) := by decide +kernel
theorem d_L_587 : decode code 587 = .ok (.iadd, 1) := by decide +kernel
theorem d_L_588 : decode code 588 = .ok (.iaload, 1) := by decide +kernel
theorem d_L_589 : decode code 589 = .ok (.aload_n 3, 1) := by decide +kernel
theorem d_L_590 : decode code 590 = .ok (.invokestatic 96, 3) := by decide +kernel
theorem d_L_593 : decode code 593 = .ok (.istore 5, 2) := by decide +kernel
theorem d_L_595 : decode code 595 = .ok (.aload_n 2, 1) := by decide +kernel
theorem d_L_596 : decode code 596 = .ok (.aload_n 0, 1) := by decide +kernel
theorem d_L_597 : decode code 597 = .ok (.iload 4, 2) := by decide +kernel
theorem d_L_599 : decode code 599 = .ok (.iconst 1, 1) := by decide +kernel
theorem d_L_600 : decode code 600 = .ok (.iadd, 1) := by decide +kernel
theorem d_L_601 : decode code 601 = .ok (.iaload, 1) := by decide +kernel
theorem d_L_602 : decode code 602 = .ok (.aload_n 0, 1) := by decide +kernel
theorem d_L_603 : decode code 603 = .ok (.iload 4, 2) := by decide +kernel
theorem d_L_605 : decode code 605 = .ok (.iconst 2, 1) := by decide +kernel
theorem d_L_606 : decode code 606 = .ok (.iadd, 1) := by decide +kernel
theorem d_L_607 : decode code 607 = .ok (.iaload, 1) := by decide +kernel
theorem d_L_608 : decode code 608 = .ok (.aload_n 0, 1) := by decide +kernel
theorem d_L_609 : decode code 609 = .ok (.iload 4, 2) := by decide +kernel
theorem d_L_611 : decode code 611 = .ok (.iconst 3, 1) := by decide +kernel
theorem d_L_612 : decode code 612 = .ok (.iadd, 1) := by decide +kernel
theorem d_L_613 : decode code 613 = .ok (.iaload, 1) := by decide +kernel
theorem d_L_614 : decode code 614 = .ok (.invokevirtual 99, 3) := by decide +kernel
theorem d_L_617 : decode code 617 = .ok (.istore 6, 2) := by decide +kernel
theorem d_L_619 : decode code 619 = .ok (.aload_n 2, 1) := by decide +kernel
theorem d_L_620 : decode code 620 = .ok (.invokevirtual 73, 3) := by decide +kernel
theorem d_L_623 : decode code 623 = .ok (.iload 5, 2) := by decide +kernel
theorem d_L_625 : decode code 625 = .ok (.if_icmp .eq 5, 3) := by decide +kernel
theorem d_L_628 : decode code 628 = .ok (.iconst 0, 1) := by decide +kernel
theorem d_L_629 : decode code 629 = .ok (.ireturn, 1) := by decide +kernel
theorem d_L_630 : decode code 630 = .ok (.iload 5, 2) := by decide +kernel
theorem d_L_632 : decode code 632 = .ok (.ifCond .ne 15, 3) := by decide +kernel
theorem d_L_635 : decode code 635 = .ok (.aload_n 3, 1) := by decide +kernel
theorem d_L_636 : decode code 636 = .ok (.iconst 0, 1) := by decide +kernel
theorem d_L_637 : decode code 637 = .ok (.laload, 1) := by decide +kernel
theorem d_L_638 : decode code 638 = .ok (.iload 6, 2) := by decide +kernel
theorem d_L_640 : decode code 640 = .ok (.i2l, 1) := by decide +kernel
theorem d_L_641 : decode code 641 = .ok (.lcmp, 1) := by decide +kernel
theorem d_L_642 : decode code 642 = .ok (.ifCond .eq 5, 3) := by decide +kernel
theorem d_L_645 : decode code 645 = .ok (.iconst 0, 1) := by decide +kernel
theorem d_L_646 : decode code 646 = .ok (.ireturn, 1) := by decide +kernel
theorem d_L_647 : decode code 647 = .ok (.goto 95, 3) := by decide +kernel
theorem d_L_650 : decode code 650 = .ok (.aload_n 1, 1) := by decide +kernel
theorem d_L_651 : decode code 651 = .ok (.aload_n 0, 1) := by decide +kernel
theorem d_L_652 : decode code 652 = .ok (.iload 4, 2) := by decide +kernel
theorem d_L_654 : decode code 654 = .ok (.iconst 1, 1) := by decide +kernel
theorem d_L_655 : decode code 655 = .ok (.iadd, 1) := by decide +kernel
theorem d_L_656 : decode code 656 = .ok (.iaload, 1) := by decide +kernel
theorem d_L_657 : decode code 657 = .ok (.aload_n 0, 1) := by decide +kernel
theorem d_L_658 : decode code 658 = .ok (.iload 4, 2) := by decide +kernel
theorem d_L_660 : decode code 660 = .ok (.iconst 2, 1) := by decide +kernel
theorem d_L_661 : decode code 661 = .ok (.iadd, 1) := by decide +kernel
theorem d_L_662 : decode code 662 = .ok (.iaload, 1) := by decide +kernel
theorem d_L_663 : decode code 663 = .ok (.aload_n 3, 1) := by decide +kernel
theorem d_L_664 : decode code 664 = .ok (.invokestatic 100, 3) := by decide +kernel
theorem d_L_667 : decode code 667 = .ok (.istore 5, 2) := by decide +kernel
theorem d_L_669 : decode code 669 = .ok (.aload_n 2, 1) := by decide +kernel
theorem d_L_670 : decode code 670 = .ok (.aload_n 0, 1) := by decide +kernel
theorem d_L_671 : decode code 671 = .ok (.iload 4, 2) := by decide +kernel
theorem d_L_673 : decode code 673 = .ok (.iconst 1, 1) := by decide +kernel
theorem d_L_674 : decode code 674 = .ok (.iadd, 1) := by decide +kernel
theorem d_L_675 : decode code 675 = .ok (.iaload, 1) := by decide +kernel
theorem d_L_676 : decode code 676 = .ok (.aload_n 0, 1) := by decide +kernel
theorem d_L_677 : decode code 677 = .ok (.iload 4, 2) := by decide +kernel
theorem d_L_679 : decode code 679 = .ok (.iconst 2, 1) := by decide +kernel
theorem d_L_680 : decode code 680 = .ok (.iadd, 1) := by decide +kernel
theorem d_L_681 : decode code 681 = .ok (.iaload, 1) := by decide +kernel
theorem d_L_682 : decode code 682 = .ok (.invokevirtual 102, 3) := by decide +kernel
theorem d_L_685 : decode code 685 = .ok (.istore 6, 2) := by decide +kernel
theorem d_L_687 : decode code 687 = .ok (.aload_n 2, 1) := by decide +kernel
theorem d_L_688 : decode code 688 = .ok (.invokevirtual 73, 3) := by decide +kernel
theorem d_L_691 : decode code 691 = .ok (.iload 5, 2) := by decide +kernel
theorem d_L_693 : decode code 693 = .ok (.if_icmp .eq 5, 3) := by decide +kernel
theorem d_L_696 : decode code 696 = .ok (.iconst 0, 1) := by decide +kernel
theorem d_L_697 : decode code 697 = .ok (.ireturn, 1) := by decide +kernel
theorem d_L_698 : decode code 698 = .ok (.iload 5, 2) := by decide +kernel
theorem d_L_700 : decode code 700 = .ok (.ifCond .ne 15, 3) := by decide +kernel
theorem d_L_703 : decode code 703 = .ok (.aload_n 3, 1) := by decide +kernel
theorem d_L_704 : decode code 704 = .ok (.iconst 0, 1) := by decide +kernel
theorem d_L_705 : decode code 705 = .ok (.laload, 1) := by decide +kernel
theorem d_L_706 : decode code 706 = .ok (.iload 6, 2) := by decide +kernel
theorem d_L_708 : decode code 708 = .ok (.i2l, 1) := by decide +kernel
theorem d_L_709 : decode code 709 = .ok (.lcmp, 1) := by decide +kernel
theorem d_L_710 : decode code 710 = .ok (.ifCond .eq 5, 3) := by decide +kernel
theorem d_L_713 : decode code 713 = .ok (.iconst 0, 1) := by decide +kernel
theorem d_L_714 : decode code 714 = .ok (.ireturn, 1) := by decide +kernel
theorem d_L_715 : decode code 715 = .ok (.goto 27, 3) := by decide +kernel
theorem d_L_718 : decode code 718 = .ok (.aload_n 1, 1) := by decide +kernel
theorem d_L_719 : decode code 719 = .ok (.invokevirtual 103, 3) := by decide +kernel
theorem d_L_722 : decode code 722 = .ok (.aload_n 2, 1) := by decide +kernel
theorem d_L_723 : decode code 723 = .ok (.invokevirtual 107, 3) := by decide +kernel
theorem d_L_726 : decode code 726 = .ok (.if_icmp .eq 16, 3) := by decide +kernel
theorem d_L_729 : decode code 729 = .ok (.iconst 0, 1) := by decide +kernel
theorem d_L_730 : decode code 730 = .ok (.ireturn, 1) := by decide +kernel
theorem d_L_731 : decode code 731 = .ok (.aload_n 1, 1) := by decide +kernel
theorem d_L_732 : decode code 732 = .ok (.invokevirtual 108, 3) := by decide +kernel
theorem d_L_735 : decode code 735 = .ok (.aload_n 2, 1) := by decide +kernel
theorem d_L_736 : decode code 736 = .ok (.invokevirtual 111, 3) := by decide +kernel
theorem d_L_739 : decode code 739 = .ok (.goto 3, 3) := by decide +kernel
theorem d_L_742 : decode code 742 = .ok (.iinc 4 4, 3) := by decide +kernel
theorem d_L_745 : decode code 745 = .ok (.goto (-722), 3) := by decide +kernel
theorem d_L_748 : decode code 748 = .ok (.iconst 1, 1) := by decide +kernel
theorem d_L_749 : decode code 749 = .ok (.ireturn, 1) := by decide +kernel
