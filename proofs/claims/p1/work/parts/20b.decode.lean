/-! THE PURE PART, 4: the instructions of every method -/
theorem d_50_0 : decode prog_5_method_25_code 0 = .ok (.iconst 0, 1) := by decide +kernel
theorem d_50_1 : decode prog_5_method_25_code 1 = .ok (.istore_n 3, 1) := by decide +kernel
theorem d_50_2 : decode prog_5_method_25_code 2 = .ok (.iload_n 3, 1) := by decide +kernel
theorem d_50_3 : decode prog_5_method_25_code 3 = .ok (.sipush 240, 3) := by decide +kernel
theorem d_50_6 : decode prog_5_method_25_code 6 = .ok (.if_icmp .ge 42, 3) := by decide +kernel
theorem d_50_9 : decode prog_5_method_25_code 9 = .ok (.aload_n 0, 1) := by decide +kernel
theorem d_50_10 : decode prog_5_method_25_code 10 = .ok (.invokevirtual 225, 3) := by decide +kernel
theorem d_50_13 : decode prog_5_method_25_code 13 = .ok (.ifCond .eq 35, 3) := by decide +kernel
theorem d_50_16 : decode prog_5_method_25_code 16 = .ok (.aload_n 0, 1) := by decide +kernel
theorem d_50_17 : decode prog_5_method_25_code 17 = .ok (.iconst 1, 1) := by decide +kernel
theorem d_50_18 : decode prog_5_method_25_code 18 = .ok (.iload_n 2, 1) := by decide +kernel
theorem d_50_19 : decode prog_5_method_25_code 19 = .ok (.iconst 1, 1) := by decide +kernel
theorem d_50_20 : decode prog_5_method_25_code 20 = .ok (.iadd, 1) := by decide +kernel
theorem d_50_21 : decode prog_5_method_25_code 21 = .ok (.invokevirtual 53, 3) := by decide +kernel
theorem d_50_24 : decode prog_5_method_25_code 24 = .ok (.aload_n 0, 1) := by decide +kernel
theorem d_50_25 : decode prog_5_method_25_code 25 = .ok (.invokevirtual 57, 3) := by decide +kernel
theorem d_50_28 : decode prog_5_method_25_code 28 = .ok (.aload_n 0, 1) := by decide +kernel
theorem d_50_29 : decode prog_5_method_25_code 29 = .ok (.bipush 44, 2) := by decide +kernel
theorem d_50_31 : decode prog_5_method_25_code 31 = .ok (.invokevirtual 128, 3) := by decide +kernel
theorem d_50_34 : decode prog_5_method_25_code 34 = .ok (.aload_n 0, 1) := by decide +kernel
theorem d_50_35 : decode prog_5_method_25_code 35 = .ok (.iconst 0, 1) := by decide +kernel
theorem d_50_36 : decode prog_5_method_25_code 36 = .ok (.iload_n 2, 1) := by decide +kernel
theorem d_50_37 : decode prog_5_method_25_code 37 = .ok (.iconst 1, 1) := by decide +kernel
theorem d_50_38 : decode prog_5_method_25_code 38 = .ok (.iadd, 1) := by decide +kernel
theorem d_50_39 : decode prog_5_method_25_code 39 = .ok (.invokevirtual 53, 3) := by decide +kernel
theorem d_50_42 : decode prog_5_method_25_code 42 = .ok (.iinc 3 2, 3) := by decide +kernel
theorem d_50_45 : decode prog_5_method_25_code 45 = .ok (.goto (-43), 3) := by decide +kernel
theorem d_50_48 : decode prog_5_method_25_code 48 = .ok (.aload_n 0, 1) := by decide +kernel
theorem d_50_49 : decode prog_5_method_25_code 49 = .ok (.getfield 32, 3) := by decide +kernel
theorem d_50_52 : decode prog_5_method_25_code 52 = .ok (.iload_n 1, 1) := by decide +kernel
theorem d_50_53 : decode prog_5_method_25_code 53 = .ok (.bipush 11, 2) := by decide +kernel
theorem d_50_55 : decode prog_5_method_25_code 55 = .ok (.iload_n 3, 1) := by decide +kernel
theorem d_50_56 : decode prog_5_method_25_code 56 = .ok (.invokevirtual 207, 3) := by decide +kernel
theorem d_50_59 : decode prog_5_method_25_code 59 = .ok (.aload_n 0, 1) := by decide +kernel
theorem d_50_60 : decode prog_5_method_25_code 60 = .ok (.iload_n 1, 1) := by decide +kernel
theorem d_50_61 : decode prog_5_method_25_code 61 = .ok (.invokevirtual 228, 3) := by decide +kernel
theorem d_50_64 : decode prog_5_method_25_code 64 = .ok (.return_, 1) := by decide +kernel
theorem d_51_0 : decode prog_5_method_29_code 0 = .ok (.aload_n 0, 1) := by decide +kernel
theorem d_51_1 : decode prog_5_method_29_code 1 = .ok (.getfield 32, 3) := by decide +kernel
theorem d_51_4 : decode prog_5_method_29_code 4 = .ok (.getfield 241, 3) := by decide +kernel
theorem d_51_7 : decode prog_5_method_29_code 7 = .ok (.iload_n 1, 1) := by decide +kernel
theorem d_51_8 : decode prog_5_method_29_code 8 = .ok (.iaload, 1) := by decide +kernel
theorem d_51_9 : decode prog_5_method_29_code 9 = .ok (.bipush 11, 2) := by decide +kernel
theorem d_51_11 : decode prog_5_method_29_code 11 = .ok (.if_icmp .ne 7, 3) := by decide +kernel
theorem d_51_14 : decode prog_5_method_29_code 14 = .ok (.iconst 1, 1) := by decide +kernel
theorem d_51_15 : decode prog_5_method_29_code 15 = .ok (.goto 4, 3) := by decide +kernel
theorem d_51_18 : decode prog_5_method_29_code 18 = .ok (.iconst 0, 1) := by decide +kernel
theorem d_51_19 : decode prog_5_method_29_code 19 = .ok (.istore_n 2, 1) := by decide +kernel
theorem d_51_20 : decode prog_5_method_29_code 20 = .ok (.iload_n 2, 1) := by decide +kernel
theorem d_51_21 : decode prog_5_method_29_code 21 = .ok (.ifCond .eq 7, 3) := by decide +kernel
theorem d_51_24 : decode prog_5_method_29_code 24 = .ok (.iconst 2, 1) := by decide +kernel
theorem d_51_25 : decode prog_5_method_29_code 25 = .ok (.goto 4, 3) := by decide +kernel
theorem d_51_28 : decode prog_5_method_29_code 28 = .ok (.iconst 1, 1) := by decide +kernel
theorem d_51_29 : decode prog_5_method_29_code 29 = .ok (.istore_n 3, 1) := by decide +kernel
theorem d_51_30 : decode prog_5_method_29_code 30 = .ok (.iload_n 1, 1) := by decide +kernel
theorem d_51_31 : decode prog_5_method_29_code 31 = .ok (.iconst 1, 1) := by decide +kernel
theorem d_51_32 : decode prog_5_method_29_code 32 = .ok (.iadd, 1) := by decide +kernel
theorem d_51_33 : decode prog_5_method_29_code 33 = .ok (.istore 4, 2) := by decide +kernel
theorem d_51_35 : decode prog_5_method_29_code 35 = .ok (.iconst 0, 1) := by decide +kernel
theorem d_51_36 : decode prog_5_method_29_code 36 = .ok (.istore 5, 2) := by decide +kernel
theorem d_51_38 : decode prog_5_method_29_code 38 = .ok (.iload 5, 2) := by decide +kernel
theorem d_51_40 : decode prog_5_method_29_code 40 = .ok (.aload_n 0, 1) := by decide +kernel
theorem d_51_41 : decode prog_5_method_29_code 41 = .ok (.getfield 32, 3) := by decide +kernel
theorem d_51_44 : decode prog_5_method_29_code 44 = .ok (.getfield 252, 3) := by decide +kernel
theorem d_51_47 : decode prog_5_method_29_code 47 = .ok (.iload_n 1, 1) := by decide +kernel
theorem d_51_48 : decode prog_5_method_29_code 48 = .ok (.iaload, 1) := by decide +kernel
theorem d_51_49 : decode prog_5_method_29_code 49 = .ok (.if_icmp .ge 90, 3) := by decide +kernel
theorem d_51_52 : decode prog_5_method_29_code 52 = .ok (.iload_n 1, 1) := by decide +kernel
theorem d_51_53 : decode prog_5_method_29_code 53 = .ok (.iconst 1, 1) := by decide +kernel
theorem d_51_54 : decode prog_5_method_29_code 54 = .ok (.iadd, 1) := by decide +kernel
theorem d_51_55 : decode prog_5_method_29_code 55 = .ok (.istore 6, 2) := by decide +kernel
theorem d_51_57 : decode prog_5_method_29_code 57 = .ok (.iconst 0, 1) := by decide +kernel
theorem d_51_58 : decode prog_5_method_29_code 58 = .ok (.istore 7, 2) := by decide +kernel
theorem d_51_60 : decode prog_5_method_29_code 60 = .ok (.iload 7, 2) := by decide +kernel
theorem d_51_62 : decode prog_5_method_29_code 62 = .ok (.iload 5, 2) := by decide +kernel
theorem d_51_64 : decode prog_5_method_29_code 64 = .ok (.if_icmp .ge 54, 3) := by decide +kernel
theorem d_51_67 : decode prog_5_method_29_code 67 = .ok (.aload_n 0, 1) := by decide +kernel
theorem d_51_68 : decode prog_5_method_29_code 68 = .ok (.getfield 32, 3) := by decide +kernel
theorem d_51_71 : decode prog_5_method_29_code 71 = .ok (.iload 6, 2) := by decide +kernel
theorem d_51_73 : decode prog_5_method_29_code 73 = .ok (.aload_n 0, 1) := by decide +kernel
theorem d_51_74 : decode prog_5_method_29_code 74 = .ok (.getfield 32, 3) := by decide +kernel
theorem d_51_77 : decode prog_5_method_29_code 77 = .ok (.iload 4, 2) := by decide +kernel
theorem d_51_79 : decode prog_5_method_29_code 79 = .ok (.iconst 0, 1) := by decide +kernel
theorem d_51_80 : decode prog_5_method_29_code 80 = .ok (.invokestatic 255, 3) := by decide +kernel
theorem d_51_83 : decode prog_5_method_29_code 83 = .ok (.ifCond .eq 14, 3) := by decide +kernel
theorem d_51_86 : decode prog_5_method_29_code 86 = .ok (.aload_n 0, 1) := by decide +kernel
theorem d_51_87 : decode prog_5_method_29_code 87 = .ok (.aload_n 0, 1) := by decide +kernel
theorem d_51_88 : decode prog_5_method_29_code 88 = .ok (.getfield 25, 3) := by decide +kernel
theorem d_51_91 : decode prog_5_method_29_code 91 = .ok (.iload 4, 2) := by decide +kernel
theorem d_51_93 : decode prog_5_method_29_code 93 = .ok (.iaload, 1) := by decide +kernel
theorem d_51_94 : decode prog_5_method_29_code 94 = .ok (.invokevirtual 65, 3) := by decide +kernel
theorem d_51_97 : decode prog_5_method_29_code 97 = .ok (.aload_n 0, 1) := by decide +kernel
theorem d_51_98 : decode prog_5_method_29_code 98 = .ok (.getfield 32, 3) := by decide +kernel
theorem d_51_101 : decode prog_5_method_29_code 101 = .ok (.iload 6, 2) := by decide +kernel
theorem d_51_103 : decode prog_5_method_29_code 103 = .ok (.iload_n 2, 1) := by decide +kernel
theorem d_51_104 : decode prog_5_method_29_code 104 = .ok (.invokevirtual 259, 3) := by decide +kernel
theorem d_51_107 : decode prog_5_method_29_code 107 = .ok (.istore 6, 2) := by decide +kernel
theorem d_51_109 : decode prog_5_method_29_code 109 = .ok (.iload 7, 2) := by decide +kernel
theorem d_51_111 : decode prog_5_method_29_code 111 = .ok (.iload_n 3, 1) := by decide +kernel
theorem d_51_112 : decode prog_5_method_29_code 112 = .ok (.iadd, 1) := by decide +kernel
theorem d_51_113 : decode prog_5_method_29_code 113 = .ok (.istore 7, 2) := by decide +kernel
theorem d_51_115 : decode prog_5_method_29_code 115 = .ok (.goto (-55), 3) := by decide +kernel
theorem d_51_118 : decode prog_5_method_29_code 118 = .ok (.aload_n 0, 1) := by decide +kernel
theorem d_51_119 : decode prog_5_method_29_code 119 = .ok (.getfield 32, 3) := by decide +kernel
theorem d_51_122 : decode prog_5_method_29_code 122 = .ok (.iload 4, 2) := by decide +kernel
theorem d_51_124 : decode prog_5_method_29_code 124 = .ok (.iload_n 2, 1) := by decide +kernel
theorem d_51_125 : decode prog_5_method_29_code 125 = .ok (.invokevirtual 259, 3) := by decide +kernel
theorem d_51_128 : decode prog_5_method_29_code 128 = .ok (.istore 4, 2) := by decide +kernel
theorem d_51_130 : decode prog_5_method_29_code 130 = .ok (.iload 5, 2) := by decide +kernel
theorem d_51_132 : decode prog_5_method_29_code 132 = .ok (.iload_n 3, 1) := by decide +kernel
theorem d_51_133 : decode prog_5_method_29_code 133 = .ok (.iadd, 1) := by decide +kernel
theorem d_51_134 : decode prog_5_method_29_code 134 = .ok (.istore 5, 2) := by decide +kernel
theorem d_51_136 : decode prog_5_method_29_code 136 = .ok (.goto (-98), 3) := by decide +kernel
theorem d_51_139 : decode prog_5_method_29_code 139 = .ok (.return_, 1) := by decide +kernel
theorem d_52_0 : decode prog_5_method_17_code 0 = .ok (.iload_n 1, 1) := by decide +kernel
theorem d_52_1 : decode prog_5_method_17_code 1 = .ok (.ifCond .ne 11, 3) := by decide +kernel
theorem d_52_4 : decode prog_5_method_17_code 4 = .ok (.aload_n 0, 1) := by decide +kernel
theorem d_52_5 : decode prog_5_method_17_code 5 = .ok (.aload_n 0, 1) := by decide +kernel
theorem d_52_6 : decode prog_5_method_17_code 6 = .ok (.getfield 147, 3) := by decide +kernel
theorem d_52_9 : decode prog_5_method_17_code 9 = .ok (.invokevirtual 65, 3) := by decide +kernel
theorem d_52_12 : decode prog_5_method_17_code 12 = .ok (.return_, 1) := by decide +kernel
theorem d_53_0 : decode prog_5_method_26_code 0 = .ok (.aload_n 0, 1) := by decide +kernel
theorem d_53_1 : decode prog_5_method_26_code 1 = .ok (.getfield 153, 3) := by decide +kernel
theorem d_53_4 : decode prog_5_method_26_code 4 = .ok (.iconst 2, 1) := by decide +kernel
theorem d_53_5 : decode prog_5_method_26_code 5 = .ok (.iadd, 1) := by decide +kernel
theorem d_53_6 : decode prog_5_method_26_code 6 = .ok (.istore_n 3, 1) := by decide +kernel
theorem d_53_7 : decode prog_5_method_26_code 7 = .ok (.aload_n 0, 1) := by decide +kernel
theorem d_53_8 : decode prog_5_method_26_code 8 = .ok (.getfield 161, 3) := by decide +kernel
theorem d_53_11 : decode prog_5_method_26_code 11 = .ok (.iconst 2, 1) := by decide +kernel
theorem d_53_12 : decode prog_5_method_26_code 12 = .ok (.isub, 1) := by decide +kernel
theorem d_53_13 : decode prog_5_method_26_code 13 = .ok (.istore 4, 2) := by decide +kernel
theorem d_53_15 : decode prog_5_method_26_code 15 = .ok (.aload_n 0, 1) := by decide +kernel
theorem d_53_16 : decode prog_5_method_26_code 16 = .ok (.iload_n 3, 1) := by decide +kernel
theorem d_53_17 : decode prog_5_method_26_code 17 = .ok (.iload 4, 2) := by decide +kernel
theorem d_53_19 : decode prog_5_method_26_code 19 = .ok (.invokevirtual 231, 3) := by decide +kernel
theorem d_53_22 : decode prog_5_method_26_code 22 = .ok (.istore 5, 2) := by decide +kernel
theorem d_53_24 : decode prog_5_method_26_code 24 = .ok (.aload_n 0, 1) := by decide +kernel
theorem d_53_25 : decode prog_5_method_26_code 25 = .ok (.getfield 25, 3) := by decide +kernel
theorem d_53_28 : decode prog_5_method_26_code 28 = .ok (.iload_n 1, 1) := by decide +kernel
theorem d_53_29 : decode prog_5_method_26_code 29 = .ok (.iaload, 1) := by decide +kernel
theorem d_53_30 : decode prog_5_method_26_code 30 = .ok (.istore 6, 2) := by decide +kernel
theorem d_53_32 : decode prog_5_method_26_code 32 = .ok (.iload 5, 2) := by decide +kernel
theorem d_53_34 : decode prog_5_method_26_code 34 = .ok (.bipush 12, 2) := by decide +kernel
theorem d_53_36 : decode prog_5_method_26_code 36 = .ok (.if_icmp .ne 17, 3) := by decide +kernel
theorem d_53_39 : decode prog_5_method_26_code 39 = .ok (.aload_n 0, 1) := by decide +kernel
theorem d_53_40 : decode prog_5_method_26_code 40 = .ok (.getfield 32, 3) := by decide +kernel
theorem d_53_43 : decode prog_5_method_26_code 43 = .ok (.iload_n 1, 1) := by decide +kernel
theorem d_53_44 : decode prog_5_method_26_code 44 = .ok (.iload_n 3, 1) := by decide +kernel
theorem d_53_45 : decode prog_5_method_26_code 45 = .ok (.iload 4, 2) := by decide +kernel
theorem d_53_47 : decode prog_5_method_26_code 47 = .ok (.invokevirtual 203, 3) := by decide +kernel
theorem d_53_50 : decode prog_5_method_26_code 50 = .ok (.goto 11, 3) := by decide +kernel
theorem d_53_53 : decode prog_5_method_26_code 53 = .ok (.aload_n 0, 1) := by decide +kernel
theorem d_53_54 : decode prog_5_method_26_code 54 = .ok (.getfield 32, 3) := by decide +kernel
theorem d_53_57 : decode prog_5_method_26_code 57 = .ok (.iload_n 1, 1) := by decide +kernel
theorem d_53_58 : decode prog_5_method_26_code 58 = .ok (.invokevirtual 235, 3) := by decide +kernel
theorem d_53_61 : decode prog_5_method_26_code 61 = .ok (.aload_n 0, 1) := by decide +kernel
theorem d_53_62 : decode prog_5_method_26_code 62 = .ok (.invokevirtual 57, 3) := by decide +kernel
theorem d_53_65 : decode prog_5_method_26_code 65 = .ok (.aload_n 0, 1) := by decide +kernel
theorem d_53_66 : decode prog_5_method_26_code 66 = .ok (.bipush 44, 2) := by decide +kernel
theorem d_53_68 : decode prog_5_method_26_code 68 = .ok (.invokevirtual 128, 3) := by decide +kernel
theorem d_53_71 : decode prog_5_method_26_code 71 = .ok (.aload_n 0, 1) := by decide +kernel
theorem d_53_72 : decode prog_5_method_26_code 72 = .ok (.iconst 0, 1) := by decide +kernel
theorem d_53_73 : decode prog_5_method_26_code 73 = .ok (.iload_n 2, 1) := by decide +kernel
theorem d_53_74 : decode prog_5_method_26_code 74 = .ok (.iconst 1, 1) := by decide +kernel
theorem d_53_75 : decode prog_5_method_26_code 75 = .ok (.iadd, 1) := by decide +kernel
theorem d_53_76 : decode prog_5_method_26_code 76 = .ok (.invokevirtual 53, 3) := by decide +kernel
theorem d_53_79 : decode prog_5_method_26_code 79 = .ok (.aload_n 0, 1) := by decide +kernel
theorem d_53_80 : decode prog_5_method_26_code 80 = .ok (.invokevirtual 57, 3) := by decide +kernel
theorem d_53_83 : decode prog_5_method_26_code 83 = .ok (.aload_n 0, 1) := by decide +kernel
theorem d_53_84 : decode prog_5_method_26_code 84 = .ok (.bipush 93, 2) := by decide +kernel
theorem d_53_86 : decode prog_5_method_26_code 86 = .ok (.invokevirtual 128, 3) := by decide +kernel
theorem d_53_89 : decode prog_5_method_26_code 89 = .ok (.iload 5, 2) := by decide +kernel
theorem d_53_91 : decode prog_5_method_26_code 91 = .ok (.bipush 12, 2) := by decide +kernel
theorem d_53_93 : decode prog_5_method_26_code 93 = .ok (.if_icmp .ne 17, 3) := by decide +kernel
theorem d_53_96 : decode prog_5_method_26_code 96 = .ok (.aload_n 0, 1) := by decide +kernel
theorem d_53_97 : decode prog_5_method_26_code 97 = .ok (.getfield 32, 3) := by decide +kernel
theorem d_53_100 : decode prog_5_method_26_code 100 = .ok (.iload_n 1, 1) := by decide +kernel
theorem d_53_101 : decode prog_5_method_26_code 101 = .ok (.bipush 12, 2) := by decide +kernel
theorem d_53_103 : decode prog_5_method_26_code 103 = .ok (.iconst 1, 1) := by decide +kernel
theorem d_53_104 : decode prog_5_method_26_code 104 = .ok (.invokevirtual 207, 3) := by decide +kernel
theorem d_53_107 : decode prog_5_method_26_code 107 = .ok (.goto 39, 3) := by decide +kernel
theorem d_53_110 : decode prog_5_method_26_code 110 = .ok (.iload 5, 2) := by decide +kernel
theorem d_53_112 : decode prog_5_method_26_code 112 = .ok (.iconst (-1), 1) := by decide +kernel
theorem d_53_113 : decode prog_5_method_26_code 113 = .ok (.if_icmp .eq 33, 3) := by decide +kernel
theorem d_53_116 : decode prog_5_method_26_code 116 = .ok (.aload_n 0, 1) := by decide +kernel
theorem d_53_117 : decode prog_5_method_26_code 117 = .ok (.iload_n 1, 1) := by decide +kernel
theorem d_53_118 : decode prog_5_method_26_code 118 = .ok (.iload 5, 2) := by decide +kernel
theorem d_53_120 : decode prog_5_method_26_code 120 = .ok (.invokevirtual 238, 3) := by decide +kernel
theorem d_53_123 : decode prog_5_method_26_code 123 = .ok (.aload_n 0, 1) := by decide +kernel
theorem d_53_124 : decode prog_5_method_26_code 124 = .ok (.getfield 32, 3) := by decide +kernel
theorem d_53_127 : decode prog_5_method_26_code 127 = .ok (.getfield 241, 3) := by decide +kernel
theorem d_53_130 : decode prog_5_method_26_code 130 = .ok (.iload_n 1, 1) := by decide +kernel
theorem d_53_131 : decode prog_5_method_26_code 131 = .ok (.iload 5, 2) := by decide +kernel
theorem d_53_133 : decode prog_5_method_26_code 133 = .ok (.iastore, 1) := by decide +kernel
theorem d_53_134 : decode prog_5_method_26_code 134 = .ok (.iload 5, 2) := by decide +kernel
theorem d_53_136 : decode prog_5_method_26_code 136 = .ok (.bipush 9, 2) := by decide +kernel
theorem d_53_138 : decode prog_5_method_26_code 138 = .ok (.if_icmp .eq 8, 3) := by decide +kernel
theorem d_53_141 : decode prog_5_method_26_code 141 = .ok (.aload_n 0, 1) := by decide +kernel
theorem d_53_142 : decode prog_5_method_26_code 142 = .ok (.iload_n 1, 1) := by decide +kernel
theorem d_53_143 : decode prog_5_method_26_code 143 = .ok (.invokevirtual 228, 3) := by decide +kernel
theorem d_53_146 : decode prog_5_method_26_code 146 = .ok (.aload_n 0, 1) := by decide +kernel
theorem d_53_147 : decode prog_5_method_26_code 147 = .ok (.getfield 25, 3) := by decide +kernel
theorem d_53_150 : decode prog_5_method_26_code 150 = .ok (.iload_n 1, 1) := by decide +kernel
theorem d_53_151 : decode prog_5_method_26_code 151 = .ok (.iload 6, 2) := by decide +kernel
theorem d_53_153 : decode prog_5_method_26_code 153 = .ok (.iastore, 1) := by decide +kernel
theorem d_53_154 : decode prog_5_method_26_code 154 = .ok (.return_, 1) := by decide +kernel
theorem d_54_0 : decode prog_5_method_27_code 0 = .ok (.aload_n 0, 1) := by decide +kernel
theorem d_54_1 : decode prog_5_method_27_code 1 = .ok (.getfield 32, 3) := by decide +kernel
theorem d_54_4 : decode prog_5_method_27_code 4 = .ok (.getfield 150, 3) := by decide +kernel
theorem d_54_7 : decode prog_5_method_27_code 7 = .ok (.iload_n 1, 1) := by decide +kernel
theorem d_54_8 : decode prog_5_method_27_code 8 = .ok (.iload_n 2, 1) := by decide +kernel
theorem d_54_9 : decode prog_5_method_27_code 9 = .ok (.ldc 244, 2) := by decide +kernel
theorem d_54_11 : decode prog_5_method_27_code 11 = .ok (.invokevirtual 215, 3) := by decide +kernel
theorem d_54_14 : decode prog_5_method_27_code 14 = .ok (.ifCond .eq 5, 3) := by decide +kernel
theorem d_54_17 : decode prog_5_method_27_code 17 = .ok (.iconst (-1), 1) := by decide +kernel
theorem d_54_18 : decode prog_5_method_27_code 18 = .ok (.ireturn, 1) := by decide +kernel
theorem d_54_19 : decode prog_5_method_27_code 19 = .ok (.aload_n 0, 1) := by decide +kernel
theorem d_54_20 : decode prog_5_method_27_code 20 = .ok (.getfield 32, 3) := by decide +kernel
theorem d_54_23 : decode prog_5_method_27_code 23 = .ok (.getfield 150, 3) := by decide +kernel
theorem d_54_26 : decode prog_5_method_27_code 26 = .ok (.iload_n 1, 1) := by decide +kernel
theorem d_54_27 : decode prog_5_method_27_code 27 = .ok (.iload_n 2, 1) := by decide +kernel
theorem d_54_28 : decode prog_5_method_27_code 28 = .ok (.ldc 246, 2) := by decide +kernel
theorem d_54_30 : decode prog_5_method_27_code 30 = .ok (.invokevirtual 215, 3) := by decide +kernel
theorem d_54_33 : decode prog_5_method_27_code 33 = .ok (.ifCond .eq 6, 3) := by decide +kernel
theorem d_54_36 : decode prog_5_method_27_code 36 = .ok (.bipush 10, 2) := by decide +kernel
theorem d_54_38 : decode prog_5_method_27_code 38 = .ok (.ireturn, 1) := by decide +kernel
theorem d_54_39 : decode prog_5_method_27_code 39 = .ok (.aload_n 0, 1) := by decide +kernel
theorem d_54_40 : decode prog_5_method_27_code 40 = .ok (.getfield 32, 3) := by decide +kernel
theorem d_54_43 : decode prog_5_method_27_code 43 = .ok (.getfield 150, 3) := by decide +kernel
theorem d_54_46 : decode prog_5_method_27_code 46 = .ok (.iload_n 1, 1) := by decide +kernel
theorem d_54_47 : decode prog_5_method_27_code 47 = .ok (.iload_n 2, 1) := by decide +kernel
theorem d_54_48 : decode prog_5_method_27_code 48 = .ok (.ldc 248, 2) := by decide +kernel
theorem d_54_50 : decode prog_5_method_27_code 50 = .ok (.invokevirtual 215, 3) := by decide +kernel
theorem d_54_53 : decode prog_5_method_27_code 53 = .ok (.ifCond .eq 6, 3) := by decide +kernel
theorem d_54_56 : decode prog_5_method_27_code 56 = .ok (.bipush 9, 2) := by decide +kernel
theorem d_54_58 : decode prog_5_method_27_code 58 = .ok (.ireturn, 1) := by decide +kernel
theorem d_54_59 : decode prog_5_method_27_code 59 = .ok (.aload_n 0, 1) := by decide +kernel
theorem d_54_60 : decode prog_5_method_27_code 60 = .ok (.getfield 32, 3) := by decide +kernel
theorem d_54_63 : decode prog_5_method_27_code 63 = .ok (.getfield 150, 3) := by decide +kernel
theorem d_54_66 : decode prog_5_method_27_code 66 = .ok (.iload_n 1, 1) := by decide +kernel
theorem d_54_67 : decode prog_5_method_27_code 67 = .ok (.iload_n 2, 1) := by decide +kernel
theorem d_54_68 : decode prog_5_method_27_code 68 = .ok (.ldc 250, 2) := by decide +kernel
theorem d_54_70 : decode prog_5_method_27_code 70 = .ok (.invokevirtual 215, 3) := by decide +kernel
theorem d_54_73 : decode prog_5_method_27_code 73 = .ok (.ifCond .eq 8, 3) := by decide +kernel
theorem d_54_76 : decode prog_5_method_27_code 76 = .ok (.bipush 11, 2) := by decide +kernel
theorem d_54_78 : decode prog_5_method_27_code 78 = .ok (.goto 5, 3) := by decide +kernel
theorem d_54_81 : decode prog_5_method_27_code 81 = .ok (.bipush 12, 2) := by decide +kernel
theorem d_54_83 : decode prog_5_method_27_code 83 = .ok (.ireturn, 1) := by decide +kernel
theorem d_55_0 : decode prog_6_method_5_code 0 = .ok (.aload_n 0, 1) := by decide +kernel
theorem d_55_1 : decode prog_6_method_5_code 1 = .ok (.getfield 19, 3) := by decide +kernel
theorem d_55_4 : decode prog_6_method_5_code 4 = .ok (.iload_n 1, 1) := by decide +kernel
theorem d_55_5 : decode prog_6_method_5_code 5 = .ok (.iload_n 2, 1) := by decide +kernel
theorem d_55_6 : decode prog_6_method_5_code 6 = .ok (.iastore, 1) := by decide +kernel
theorem d_55_7 : decode prog_6_method_5_code 7 = .ok (.aload_n 0, 1) := by decide +kernel
theorem d_55_8 : decode prog_6_method_5_code 8 = .ok (.getfield 22, 3) := by decide +kernel
theorem d_55_11 : decode prog_6_method_5_code 11 = .ok (.iload_n 1, 1) := by decide +kernel
theorem d_55_12 : decode prog_6_method_5_code 12 = .ok (.iload_n 3, 1) := by decide +kernel
theorem d_55_13 : decode prog_6_method_5_code 13 = .ok (.iastore, 1) := by decide +kernel
theorem d_55_14 : decode prog_6_method_5_code 14 = .ok (.return_, 1) := by decide +kernel
theorem d_56_0 : decode prog_6_method_6_code 0 = .ok (.aload_n 0, 1) := by decide +kernel
theorem d_56_1 : decode prog_6_method_6_code 1 = .ok (.iload_n 1, 1) := by decide +kernel
theorem d_56_2 : decode prog_6_method_6_code 2 = .ok (.putfield 40, 3) := by decide +kernel
theorem d_56_5 : decode prog_6_method_6_code 5 = .ok (.return_, 1) := by decide +kernel
theorem d_57_0 : decode prog_5_method_28_code 0 = .ok (.aload_n 0, 1) := by decide +kernel
theorem d_57_1 : decode prog_5_method_28_code 1 = .ok (.getfield 32, 3) := by decide +kernel
theorem d_57_4 : decode prog_5_method_28_code 4 = .ok (.getfield 252, 3) := by decide +kernel
theorem d_57_7 : decode prog_5_method_28_code 7 = .ok (.iload_n 1, 1) := by decide +kernel
theorem d_57_8 : decode prog_5_method_28_code 8 = .ok (.iaload, 1) := by decide +kernel
theorem d_57_9 : decode prog_5_method_28_code 9 = .ok (.iconst 2, 1) := by decide +kernel
theorem d_57_10 : decode prog_5_method_28_code 10 = .ok (.irem, 1) := by decide +kernel
theorem d_57_11 : decode prog_5_method_28_code 11 = .ok (.ifCond .eq 7, 3) := by decide +kernel
theorem d_57_14 : decode prog_5_method_28_code 14 = .ok (.iconst 1, 1) := by decide +kernel
theorem d_57_15 : decode prog_5_method_28_code 15 = .ok (.goto 4, 3) := by decide +kernel
theorem d_57_18 : decode prog_5_method_28_code 18 = .ok (.iconst 0, 1) := by decide +kernel
theorem d_57_19 : decode prog_5_method_28_code 19 = .ok (.istore_n 3, 1) := by decide +kernel
theorem d_57_20 : decode prog_5_method_28_code 20 = .ok (.aload_n 0, 1) := by decide +kernel
theorem d_57_21 : decode prog_5_method_28_code 21 = .ok (.getfield 32, 3) := by decide +kernel
theorem d_57_24 : decode prog_5_method_28_code 24 = .ok (.getfield 241, 3) := by decide +kernel
theorem d_57_27 : decode prog_5_method_28_code 27 = .ok (.iload_n 1, 1) := by decide +kernel
theorem d_57_28 : decode prog_5_method_28_code 28 = .ok (.iaload, 1) := by decide +kernel
theorem d_57_29 : decode prog_5_method_28_code 29 = .ok (.bipush 8, 2) := by decide +kernel
theorem d_57_31 : decode prog_5_method_28_code 31 = .ok (.if_icmp .ne 13, 3) := by decide +kernel
theorem d_57_34 : decode prog_5_method_28_code 34 = .ok (.iload_n 2, 1) := by decide +kernel
theorem d_57_35 : decode prog_5_method_28_code 35 = .ok (.bipush 11, 2) := by decide +kernel
theorem d_57_37 : decode prog_5_method_28_code 37 = .ok (.if_icmp .ne 17, 3) := by decide +kernel
theorem d_57_40 : decode prog_5_method_28_code 40 = .ok (.iload_n 3, 1) := by decide +kernel
theorem d_57_41 : decode prog_5_method_28_code 41 = .ok (.ifCond .eq 13, 3) := by decide +kernel
theorem d_57_44 : decode prog_5_method_28_code 44 = .ok (.aload_n 0, 1) := by decide +kernel
theorem d_57_45 : decode prog_5_method_28_code 45 = .ok (.aload_n 0, 1) := by decide +kernel
theorem d_57_46 : decode prog_5_method_28_code 46 = .ok (.getfield 25, 3) := by decide +kernel
theorem d_57_49 : decode prog_5_method_28_code 49 = .ok (.iload_n 1, 1) := by decide +kernel
theorem d_57_50 : decode prog_5_method_28_code 50 = .ok (.iaload, 1) := by decide +kernel
theorem d_57_51 : decode prog_5_method_28_code 51 = .ok (.invokevirtual 65, 3) := by decide +kernel
theorem d_57_54 : decode prog_5_method_28_code 54 = .ok (.return_, 1) := by decide +kernel
theorem d_58_0 : decode prog_5_method_18_code 0 = .ok (.aload_n 0, 1) := by decide +kernel
theorem d_58_1 : decode prog_5_method_18_code 1 = .ok (.iconst 0, 1) := by decide +kernel
theorem d_58_2 : decode prog_5_method_18_code 2 = .ok (.invokevirtual 178, 3) := by decide +kernel
theorem d_58_5 : decode prog_5_method_18_code 5 = .ok (.istore_n 1, 1) := by decide +kernel
theorem d_58_6 : decode prog_5_method_18_code 6 = .ok (.aload_n 0, 1) := by decide +kernel
theorem d_58_7 : decode prog_5_method_18_code 7 = .ok (.iload_n 1, 1) := by decide +kernel
theorem d_58_8 : decode prog_5_method_18_code 8 = .ok (.bipush 94, 2) := by decide +kernel
theorem d_58_10 : decode prog_5_method_18_code 10 = .ok (.if_icmp .eq 13, 3) := by decide +kernel
theorem d_58_13 : decode prog_5_method_18_code 13 = .ok (.iload_n 1, 1) := by decide +kernel
theorem d_58_14 : decode prog_5_method_18_code 14 = .ok (.bipush 96, 2) := by decide +kernel
theorem d_58_16 : decode prog_5_method_18_code 16 = .ok (.if_icmp .eq 7, 3) := by decide +kernel
theorem d_58_19 : decode prog_5_method_18_code 19 = .ok (.iconst 1, 1) := by decide +kernel
theorem d_58_20 : decode prog_5_method_18_code 20 = .ok (.goto 4, 3) := by decide +kernel
theorem d_58_23 : decode prog_5_method_18_code 23 = .ok (.iconst 0, 1) := by decide +kernel
theorem d_58_24 : decode prog_5_method_18_code 24 = .ok (.invokevirtual 188, 3) := by decide +kernel
theorem d_58_27 : decode prog_5_method_18_code 27 = .ok (.iload_n 1, 1) := by decide +kernel
theorem d_58_28 : decode prog_5_method_18_code 28 = .ok (.bipush 126, 2) := by decide +kernel
theorem d_58_30 : decode prog_5_method_18_code 30 = .ok (.if_icmp .eq 10, 3) := by decide +kernel
theorem d_58_33 : decode prog_5_method_18_code 33 = .ok (.aload_n 0, 1) := by decide +kernel
theorem d_58_34 : decode prog_5_method_18_code 34 = .ok (.iconst 4, 1) := by decide +kernel
theorem d_58_35 : decode prog_5_method_18_code 35 = .ok (.iconst 0, 1) := by decide +kernel
theorem d_58_36 : decode prog_5_method_18_code 36 = .ok (.invokevirtual 191, 3) := by decide +kernel
theorem d_58_39 : decode prog_5_method_18_code 39 = .ok (.return_, 1) := by decide +kernel
theorem d_58_40 : decode prog_5_method_18_code 40 = .ok (.aload_n 0, 1) := by decide +kernel
theorem d_58_41 : decode prog_5_method_18_code 41 = .ok (.iconst 1, 1) := by decide +kernel
theorem d_58_42 : decode prog_5_method_18_code 42 = .ok (.invokevirtual 178, 3) := by decide +kernel
theorem d_58_45 : decode prog_5_method_18_code 45 = .ok (.istore_n 2, 1) := by decide +kernel
theorem d_58_46 : decode prog_5_method_18_code 46 = .ok (.aload_n 0, 1) := by decide +kernel
theorem d_58_47 : decode prog_5_method_18_code 47 = .ok (.iconst 2, 1) := by decide +kernel
theorem d_58_48 : decode prog_5_method_18_code 48 = .ok (.invokevirtual 178, 3) := by decide +kernel
theorem d_58_51 : decode prog_5_method_18_code 51 = .ok (.istore_n 3, 1) := by decide +kernel
theorem d_58_52 : decode prog_5_method_18_code 52 = .ok (.iload_n 2, 1) := by decide +kernel
theorem d_58_53 : decode prog_5_method_18_code 53 = .ok (.lookupswitch 286 #[(36, 226), (58, 200), (63, 131), (94, 91), (95, 100), (96, 91), (99, 253), (105, 184), (109, 192), (126, 91)], 91) := by decide +kernel
theorem d_58_144 : decode prog_5_method_18_code 144 = .ok (.aload_n 0, 1) := by decide +kernel
theorem d_58_145 : decode prog_5_method_18_code 145 = .ok (.iconst 4, 1) := by decide +kernel
theorem d_58_146 : decode prog_5_method_18_code 146 = .ok (.iconst 1, 1) := by decide +kernel
theorem d_58_147 : decode prog_5_method_18_code 147 = .ok (.invokevirtual 191, 3) := by decide +kernel
theorem d_58_150 : decode prog_5_method_18_code 150 = .ok (.goto 201, 3) := by decide +kernel
theorem d_58_153 : decode prog_5_method_18_code 153 = .ok (.aload_n 0, 1) := by decide +kernel
theorem d_58_154 : decode prog_5_method_18_code 154 = .ok (.aload_n 0, 1) := by decide +kernel
theorem d_58_155 : decode prog_5_method_18_code 155 = .ok (.getfield 161, 3) := by decide +kernel
theorem d_58_158 : decode prog_5_method_18_code 158 = .ok (.iconst 2, 1) := by decide +kernel
theorem d_58_159 : decode prog_5_method_18_code 159 = .ok (.if_icmp .ne 7, 3) := by decide +kernel
theorem d_58_162 : decode prog_5_method_18_code 162 = .ok (.iconst 1, 1) := by decide +kernel
theorem d_58_163 : decode prog_5_method_18_code 163 = .ok (.goto 4, 3) := by decide +kernel
theorem d_58_166 : decode prog_5_method_18_code 166 = .ok (.iconst 0, 1) := by decide +kernel
theorem d_58_167 : decode prog_5_method_18_code 167 = .ok (.invokevirtual 188, 3) := by decide +kernel
theorem d_58_170 : decode prog_5_method_18_code 170 = .ok (.aload_n 0, 1) := by decide +kernel
theorem d_58_171 : decode prog_5_method_18_code 171 = .ok (.iconst 0, 1) := by decide +kernel
theorem d_58_172 : decode prog_5_method_18_code 172 = .ok (.lconst 0, 1) := by decide +kernel
theorem d_58_173 : decode prog_5_method_18_code 173 = .ok (.aload_n 0, 1) := by decide +kernel
theorem d_58_174 : decode prog_5_method_18_code 174 = .ok (.getfield 147, 3) := by decide +kernel
theorem d_58_177 : decode prog_5_method_18_code 177 = .ok (.invokevirtual 110, 3) := by decide +kernel
theorem d_58_180 : decode prog_5_method_18_code 180 = .ok (.pop, 1) := by decide +kernel
theorem d_58_181 : decode prog_5_method_18_code 181 = .ok (.goto 170, 3) := by decide +kernel
theorem d_58_184 : decode prog_5_method_18_code 184 = .ok (.aload_n 0, 1) := by decide +kernel
theorem d_58_185 : decode prog_5_method_18_code 185 = .ok (.aload_n 0, 1) := by decide +kernel
theorem d_58_186 : decode prog_5_method_18_code 186 = .ok (.getfield 161, 3) := by decide +kernel
theorem d_58_189 : decode prog_5_method_18_code 189 = .ok (.iconst 3, 1) := by decide +kernel
theorem d_58_190 : decode prog_5_method_18_code 190 = .ok (.if_icmp .ne 19, 3) := by decide +kernel
theorem d_58_193 : decode prog_5_method_18_code 193 = .ok (.iload_n 3, 1) := by decide +kernel
theorem d_58_194 : decode prog_5_method_18_code 194 = .ok (.bipush 116, 2) := by decide +kernel
theorem d_58_196 : decode prog_5_method_18_code 196 = .ok (.if_icmp .eq 9, 3) := by decide +kernel
theorem d_58_199 : decode prog_5_method_18_code 199 = .ok (.iload_n 3, 1) := by decide +kernel
theorem d_58_200 : decode prog_5_method_18_code 200 = .ok (.bipush 102, 2) := by decide +kernel
theorem d_58_202 : decode prog_5_method_18_code 202 = .ok (.if_icmp .ne 7, 3) := by decide +kernel
theorem d_58_205 : decode prog_5_method_18_code 205 = .ok (.iconst 1, 1) := by decide +kernel
theorem d_58_206 : decode prog_5_method_18_code 206 = .ok (.goto 4, 3) := by decide +kernel
theorem d_58_209 : decode prog_5_method_18_code 209 = .ok (.iconst 0, 1) := by decide +kernel
theorem d_58_210 : decode prog_5_method_18_code 210 = .ok (.invokevirtual 188, 3) := by decide +kernel
theorem d_58_213 : decode prog_5_method_18_code 213 = .ok (.aload_n 0, 1) := by decide +kernel
theorem d_58_214 : decode prog_5_method_18_code 214 = .ok (.iconst 1, 1) := by decide +kernel
theorem d_58_215 : decode prog_5_method_18_code 215 = .ok (.iload_n 3, 1) := by decide +kernel
theorem d_58_216 : decode prog_5_method_18_code 216 = .ok (.bipush 116, 2) := by decide +kernel
theorem d_58_218 : decode prog_5_method_18_code 218 = .ok (.if_icmp .ne 7, 3) := by decide +kernel
theorem d_58_221 : decode prog_5_method_18_code 221 = .ok (.lconst 1, 1) := by decide +kernel
theorem d_58_222 : decode prog_5_method_18_code 222 = .ok (.goto 4, 3) := by decide +kernel
theorem d_58_225 : decode prog_5_method_18_code 225 = .ok (.lconst 0, 1) := by decide +kernel
theorem d_58_226 : decode prog_5_method_18_code 226 = .ok (.aload_n 0, 1) := by decide +kernel
theorem d_58_227 : decode prog_5_method_18_code 227 = .ok (.getfield 147, 3) := by decide +kernel
theorem d_58_230 : decode prog_5_method_18_code 230 = .ok (.invokevirtual 110, 3) := by decide +kernel
theorem d_58_233 : decode prog_5_method_18_code 233 = .ok (.pop, 1) := by decide +kernel
theorem d_58_234 : decode prog_5_method_18_code 234 = .ok (.goto 117, 3) := by decide +kernel
theorem d_58_237 : decode prog_5_method_18_code 237 = .ok (.aload_n 0, 1) := by decide +kernel
theorem d_58_238 : decode prog_5_method_18_code 238 = .ok (.iconst 2, 1) := by decide +kernel
theorem d_58_239 : decode prog_5_method_18_code 239 = .ok (.invokevirtual 194, 3) := by decide +kernel
theorem d_58_242 : decode prog_5_method_18_code 242 = .ok (.goto 109, 3) := by decide +kernel
theorem d_58_245 : decode prog_5_method_18_code 245 = .ok (.aload_n 0, 1) := by decide +kernel
theorem d_58_246 : decode prog_5_method_18_code 246 = .ok (.iconst 3, 1) := by decide +kernel
theorem d_58_247 : decode prog_5_method_18_code 247 = .ok (.invokevirtual 194, 3) := by decide +kernel
theorem d_58_250 : decode prog_5_method_18_code 250 = .ok (.goto 101, 3) := by decide +kernel
theorem d_58_253 : decode prog_5_method_18_code 253 = .ok (.aload_n 0, 1) := by decide +kernel
theorem d_58_254 : decode prog_5_method_18_code 254 = .ok (.aload_n 0, 1) := by decide +kernel
theorem d_58_255 : decode prog_5_method_18_code 255 = .ok (.getfield 161, 3) := by decide +kernel
theorem d_58_258 : decode prog_5_method_18_code 258 = .ok (.iconst 2, 1) := by decide +kernel
theorem d_58_259 : decode prog_5_method_18_code 259 = .ok (.if_icmp .le 7, 3) := by decide +kernel
theorem d_58_262 : decode prog_5_method_18_code 262 = .ok (.iconst 1, 1) := by decide +kernel
theorem d_58_263 : decode prog_5_method_18_code 263 = .ok (.goto 4, 3) := by decide +kernel
theorem d_58_266 : decode prog_5_method_18_code 266 = .ok (.iconst 0, 1) := by decide +kernel
theorem d_58_267 : decode prog_5_method_18_code 267 = .ok (.invokevirtual 188, 3) := by decide +kernel
theorem d_58_270 : decode prog_5_method_18_code 270 = .ok (.aload_n 0, 1) := by decide +kernel
theorem d_58_271 : decode prog_5_method_18_code 271 = .ok (.iconst 5, 1) := by decide +kernel
theorem d_58_272 : decode prog_5_method_18_code 272 = .ok (.iconst 2, 1) := by decide +kernel
theorem d_58_273 : decode prog_5_method_18_code 273 = .ok (.invokevirtual 191, 3) := by decide +kernel
theorem d_58_276 : decode prog_5_method_18_code 276 = .ok (.goto 75, 3) := by decide +kernel
theorem d_58_279 : decode prog_5_method_18_code 279 = .ok (.aload_n 0, 1) := by decide +kernel
theorem d_58_280 : decode prog_5_method_18_code 280 = .ok (.aload_n 0, 1) := by decide +kernel
theorem d_58_281 : decode prog_5_method_18_code 281 = .ok (.getfield 161, 3) := by decide +kernel
theorem d_58_284 : decode prog_5_method_18_code 284 = .ok (.iconst 2, 1) := by decide +kernel
theorem d_58_285 : decode prog_5_method_18_code 285 = .ok (.if_icmp .le 7, 3) := by decide +kernel
theorem d_58_288 : decode prog_5_method_18_code 288 = .ok (.iconst 1, 1) := by decide +kernel
theorem d_58_289 : decode prog_5_method_18_code 289 = .ok (.goto 4, 3) := by decide +kernel
theorem d_58_292 : decode prog_5_method_18_code 292 = .ok (.iconst 0, 1) := by decide +kernel
theorem d_58_293 : decode prog_5_method_18_code 293 = .ok (.invokevirtual 188, 3) := by decide +kernel
theorem d_58_296 : decode prog_5_method_18_code 296 = .ok (.aload_n 0, 1) := by decide +kernel
theorem d_58_297 : decode prog_5_method_18_code 297 = .ok (.bipush 6, 2) := by decide +kernel
theorem d_58_299 : decode prog_5_method_18_code 299 = .ok (.iconst 2, 1) := by decide +kernel
theorem d_58_300 : decode prog_5_method_18_code 300 = .ok (.invokevirtual 191, 3) := by decide +kernel
theorem d_58_303 : decode prog_5_method_18_code 303 = .ok (.goto 48, 3) := by decide +kernel
theorem d_58_306 : decode prog_5_method_18_code 306 = .ok (.aload_n 0, 1) := by decide +kernel
theorem d_58_307 : decode prog_5_method_18_code 307 = .ok (.aload_n 0, 1) := by decide +kernel
theorem d_58_308 : decode prog_5_method_18_code 308 = .ok (.getfield 161, 3) := by decide +kernel
theorem d_58_311 : decode prog_5_method_18_code 311 = .ok (.iconst 3, 1) := by decide +kernel
theorem d_58_312 : decode prog_5_method_18_code 312 = .ok (.if_icmp .ne 7, 3) := by decide +kernel
theorem d_58_315 : decode prog_5_method_18_code 315 = .ok (.iconst 1, 1) := by decide +kernel
theorem d_58_316 : decode prog_5_method_18_code 316 = .ok (.goto 4, 3) := by decide +kernel
theorem d_58_319 : decode prog_5_method_18_code 319 = .ok (.iconst 0, 1) := by decide +kernel
theorem d_58_320 : decode prog_5_method_18_code 320 = .ok (.invokevirtual 188, 3) := by decide +kernel
theorem d_58_323 : decode prog_5_method_18_code 323 = .ok (.aload_n 0, 1) := by decide +kernel
theorem d_58_324 : decode prog_5_method_18_code 324 = .ok (.bipush 7, 2) := by decide +kernel
theorem d_58_326 : decode prog_5_method_18_code 326 = .ok (.iload_n 3, 1) := by decide +kernel
theorem d_58_327 : decode prog_5_method_18_code 327 = .ok (.i2l, 1) := by decide +kernel
theorem d_58_328 : decode prog_5_method_18_code 328 = .ok (.aload_n 0, 1) := by decide +kernel
theorem d_58_329 : decode prog_5_method_18_code 329 = .ok (.getfield 147, 3) := by decide +kernel
theorem d_58_332 : decode prog_5_method_18_code 332 = .ok (.invokevirtual 110, 3) := by decide +kernel
theorem d_58_335 : decode prog_5_method_18_code 335 = .ok (.pop, 1) := by decide +kernel
theorem d_58_336 : decode prog_5_method_18_code 336 = .ok (.goto 15, 3) := by decide +kernel
theorem d_58_339 : decode prog_5_method_18_code 339 = .ok (.aload_n 0, 1) := by decide +kernel
theorem d_58_340 : decode prog_5_method_18_code 340 = .ok (.iload_n 2, 1) := by decide +kernel
theorem d_58_341 : decode prog_5_method_18_code 341 = .ok (.invokestatic 197, 3) := by decide +kernel
theorem d_58_344 : decode prog_5_method_18_code 344 = .ok (.invokevirtual 188, 3) := by decide +kernel
theorem d_58_347 : decode prog_5_method_18_code 347 = .ok (.aload_n 0, 1) := by decide +kernel
theorem d_58_348 : decode prog_5_method_18_code 348 = .ok (.invokevirtual 200, 3) := by decide +kernel
theorem d_58_351 : decode prog_5_method_18_code 351 = .ok (.return_, 1) := by decide +kernel
theorem d_59_0 : decode prog_5_method_19_code 0 = .ok (.aload_n 0, 1) := by decide +kernel
theorem d_59_1 : decode prog_5_method_19_code 1 = .ok (.iload_n 1, 1) := by decide +kernel
theorem d_59_2 : decode prog_5_method_19_code 2 = .ok (.lconst 0, 1) := by decide +kernel
theorem d_59_3 : decode prog_5_method_19_code 3 = .ok (.aload_n 0, 1) := by decide +kernel
theorem d_59_4 : decode prog_5_method_19_code 4 = .ok (.getfield 147, 3) := by decide +kernel
theorem d_59_7 : decode prog_5_method_19_code 7 = .ok (.invokevirtual 110, 3) := by decide +kernel
theorem d_59_10 : decode prog_5_method_19_code 10 = .ok (.istore_n 3, 1) := by decide +kernel
theorem d_59_11 : decode prog_5_method_19_code 11 = .ok (.aload_n 0, 1) := by decide +kernel
theorem d_59_12 : decode prog_5_method_19_code 12 = .ok (.getfield 32, 3) := by decide +kernel
theorem d_59_15 : decode prog_5_method_19_code 15 = .ok (.iload_n 3, 1) := by decide +kernel
theorem d_59_16 : decode prog_5_method_19_code 16 = .ok (.aload_n 0, 1) := by decide +kernel
theorem d_59_17 : decode prog_5_method_19_code 17 = .ok (.getfield 153, 3) := by decide +kernel
theorem d_59_20 : decode prog_5_method_19_code 20 = .ok (.iload_n 2, 1) := by decide +kernel
theorem d_59_21 : decode prog_5_method_19_code 21 = .ok (.iadd, 1) := by decide +kernel
theorem d_59_22 : decode prog_5_method_19_code 22 = .ok (.aload_n 0, 1) := by decide +kernel
theorem d_59_23 : decode prog_5_method_19_code 23 = .ok (.getfield 161, 3) := by decide +kernel
theorem d_59_26 : decode prog_5_method_19_code 26 = .ok (.iload_n 2, 1) := by decide +kernel
theorem d_59_27 : decode prog_5_method_19_code 27 = .ok (.isub, 1) := by decide +kernel
theorem d_59_28 : decode prog_5_method_19_code 28 = .ok (.invokevirtual 203, 3) := by decide +kernel
theorem d_59_31 : decode prog_5_method_19_code 31 = .ok (.return_, 1) := by decide +kernel
theorem d_60_0 : decode prog_5_method_20_code 0 = .ok (.aload_n 0, 1) := by decide +kernel
theorem d_60_1 : decode prog_5_method_20_code 1 = .ok (.getfield 153, 3) := by decide +kernel
theorem d_60_4 : decode prog_5_method_20_code 4 = .ok (.aload_n 0, 1) := by decide +kernel
theorem d_60_5 : decode prog_5_method_20_code 5 = .ok (.getfield 161, 3) := by decide +kernel
theorem d_60_8 : decode prog_5_method_20_code 8 = .ok (.iadd, 1) := by decide +kernel
theorem d_60_9 : decode prog_5_method_20_code 9 = .ok (.istore_n 2, 1) := by decide +kernel
theorem d_60_10 : decode prog_5_method_20_code 10 = .ok (.aload_n 0, 1) := by decide +kernel
theorem d_60_11 : decode prog_5_method_20_code 11 = .ok (.getfield 21, 3) := by decide +kernel
theorem d_60_14 : decode prog_5_method_20_code 14 = .ok (.aload_n 0, 1) := by decide +kernel
theorem d_60_15 : decode prog_5_method_20_code 15 = .ok (.getfield 32, 3) := by decide +kernel
theorem d_60_18 : decode prog_5_method_20_code 18 = .ok (.getfield 150, 3) := by decide +kernel
theorem d_60_21 : decode prog_5_method_20_code 21 = .ok (.aload_n 0, 1) := by decide +kernel
theorem d_60_22 : decode prog_5_method_20_code 22 = .ok (.getfield 153, 3) := by decide +kernel
theorem d_60_25 : decode prog_5_method_20_code 25 = .ok (.iconst 2, 1) := by decide +kernel
theorem d_60_26 : decode prog_5_method_20_code 26 = .ok (.iadd, 1) := by decide +kernel
theorem d_60_27 : decode prog_5_method_20_code 27 = .ok (.iload_n 2, 1) := by decide +kernel
theorem d_60_28 : decode prog_5_method_20_code 28 = .ok (.invokevirtual 132, 3) := by decide +kernel
theorem d_60_31 : decode prog_5_method_20_code 31 = .ok (.istore_n 3, 1) := by decide +kernel
theorem d_60_32 : decode prog_5_method_20_code 32 = .ok (.aload_n 0, 1) := by decide +kernel
theorem d_60_33 : decode prog_5_method_20_code 33 = .ok (.iload_n 3, 1) := by decide +kernel
theorem d_60_34 : decode prog_5_method_20_code 34 = .ok (.ifCond .eq 28, 3) := by decide +kernel
theorem d_60_37 : decode prog_5_method_20_code 37 = .ok (.aload_n 0, 1) := by decide +kernel
theorem d_60_38 : decode prog_5_method_20_code 38 = .ok (.getfield 21, 3) := by decide +kernel
theorem d_60_41 : decode prog_5_method_20_code 41 = .ok (.getfield 139, 3) := by decide +kernel
theorem d_60_44 : decode prog_5_method_20_code 44 = .ok (.ifCond .eq 18, 3) := by decide +kernel
theorem d_60_47 : decode prog_5_method_20_code 47 = .ok (.aload_n 0, 1) := by decide +kernel
theorem d_60_48 : decode prog_5_method_20_code 48 = .ok (.getfield 21, 3) := by decide +kernel
theorem d_60_51 : decode prog_5_method_20_code 51 = .ok (.getfield 136, 3) := by decide +kernel
theorem d_60_54 : decode prog_5_method_20_code 54 = .ok (.iload_n 2, 1) := by decide +kernel
theorem d_60_55 : decode prog_5_method_20_code 55 = .ok (.if_icmp .ne 7, 3) := by decide +kernel
theorem d_60_58 : decode prog_5_method_20_code 58 = .ok (.iconst 1, 1) := by decide +kernel
theorem d_60_59 : decode prog_5_method_20_code 59 = .ok (.goto 4, 3) := by decide +kernel
theorem d_60_62 : decode prog_5_method_20_code 62 = .ok (.iconst 0, 1) := by decide +kernel
theorem d_60_63 : decode prog_5_method_20_code 63 = .ok (.invokevirtual 188, 3) := by decide +kernel
theorem d_60_66 : decode prog_5_method_20_code 66 = .ok (.aload_n 0, 1) := by decide +kernel
theorem d_60_67 : decode prog_5_method_20_code 67 = .ok (.iload_n 1, 1) := by decide +kernel
theorem d_60_68 : decode prog_5_method_20_code 68 = .ok (.aload_n 0, 1) := by decide +kernel
theorem d_60_69 : decode prog_5_method_20_code 69 = .ok (.getfield 21, 3) := by decide +kernel
theorem d_60_72 : decode prog_5_method_20_code 72 = .ok (.getfield 143, 3) := by decide +kernel
theorem d_60_75 : decode prog_5_method_20_code 75 = .ok (.aload_n 0, 1) := by decide +kernel
theorem d_60_76 : decode prog_5_method_20_code 76 = .ok (.getfield 147, 3) := by decide +kernel
theorem d_60_79 : decode prog_5_method_20_code 79 = .ok (.invokevirtual 110, 3) := by decide +kernel
theorem d_60_82 : decode prog_5_method_20_code 82 = .ok (.pop, 1) := by decide +kernel
theorem d_60_83 : decode prog_5_method_20_code 83 = .ok (.return_, 1) := by decide +kernel
theorem d_61_0 : decode prog_4_method_2_code 0 = .ok (.iload_n 2, 1) := by decide +kernel
theorem d_61_1 : decode prog_4_method_2_code 1 = .ok (.iload_n 3, 1) := by decide +kernel
theorem d_61_2 : decode prog_4_method_2_code 2 = .ok (.if_icmp .ge 17, 3) := by decide +kernel
theorem d_61_5 : decode prog_4_method_2_code 5 = .ok (.aload_n 1, 1) := by decide +kernel
theorem d_61_6 : decode prog_4_method_2_code 6 = .ok (.iload_n 2, 1) := by decide +kernel
theorem d_61_7 : decode prog_4_method_2_code 7 = .ok (.invokevirtual 9, 3) := by decide +kernel
theorem d_61_10 : decode prog_4_method_2_code 10 = .ok (.bipush 45, 2) := by decide +kernel
theorem d_61_12 : decode prog_4_method_2_code 12 = .ok (.if_icmp .ne 7, 3) := by decide +kernel
theorem d_61_15 : decode prog_4_method_2_code 15 = .ok (.iconst 1, 1) := by decide +kernel
theorem d_61_16 : decode prog_4_method_2_code 16 = .ok (.goto 4, 3) := by decide +kernel
theorem d_61_19 : decode prog_4_method_2_code 19 = .ok (.iconst 0, 1) := by decide +kernel
theorem d_61_20 : decode prog_4_method_2_code 20 = .ok (.istore 4, 2) := by decide +kernel
theorem d_61_22 : decode prog_4_method_2_code 22 = .ok (.aload_n 0, 1) := by decide +kernel
theorem d_61_23 : decode prog_4_method_2_code 23 = .ok (.iload 4, 2) := by decide +kernel
theorem d_61_25 : decode prog_4_method_2_code 25 = .ok (.ifCond .eq 9, 3) := by decide +kernel
theorem d_61_28 : decode prog_4_method_2_code 28 = .ok (.iload_n 2, 1) := by decide +kernel
theorem d_61_29 : decode prog_4_method_2_code 29 = .ok (.iconst 1, 1) := by decide +kernel
theorem d_61_30 : decode prog_4_method_2_code 30 = .ok (.iadd, 1) := by decide +kernel
theorem d_61_31 : decode prog_4_method_2_code 31 = .ok (.goto 4, 3) := by decide +kernel
theorem d_61_34 : decode prog_4_method_2_code 34 = .ok (.iload_n 2, 1) := by decide +kernel
theorem d_61_35 : decode prog_4_method_2_code 35 = .ok (.putfield 15, 3) := by decide +kernel
theorem d_61_38 : decode prog_4_method_2_code 38 = .ok (.aload_n 0, 1) := by decide +kernel
theorem d_61_39 : decode prog_4_method_2_code 39 = .ok (.lconst 0, 1) := by decide +kernel
theorem d_61_40 : decode prog_4_method_2_code 40 = .ok (.putfield 21, 3) := by decide +kernel
theorem d_61_43 : decode prog_4_method_2_code 43 = .ok (.aload_n 0, 1) := by decide +kernel
theorem d_61_44 : decode prog_4_method_2_code 44 = .ok (.iconst 1, 1) := by decide +kernel
theorem d_61_45 : decode prog_4_method_2_code 45 = .ok (.putfield 25, 3) := by decide +kernel
theorem d_61_48 : decode prog_4_method_2_code 48 = .ok (.aload_n 0, 1) := by decide +kernel
theorem d_61_49 : decode prog_4_method_2_code 49 = .ok (.getfield 15, 3) := by decide +kernel
theorem d_61_52 : decode prog_4_method_2_code 52 = .ok (.iload_n 3, 1) := by decide +kernel
theorem d_61_53 : decode prog_4_method_2_code 53 = .ok (.if_icmp .ge 17, 3) := by decide +kernel
theorem d_61_56 : decode prog_4_method_2_code 56 = .ok (.aload_n 1, 1) := by decide +kernel
theorem d_61_57 : decode prog_4_method_2_code 57 = .ok (.aload_n 0, 1) := by decide +kernel
theorem d_61_58 : decode prog_4_method_2_code 58 = .ok (.getfield 15, 3) := by decide +kernel
theorem d_61_61 : decode prog_4_method_2_code 61 = .ok (.invokevirtual 9, 3) := by decide +kernel
theorem d_61_64 : decode prog_4_method_2_code 64 = .ok (.invokestatic 29, 3) := by decide +kernel
theorem d_61_67 : decode prog_4_method_2_code 67 = .ok (.ifCond .ne 5, 3) := by decide +kernel
theorem d_61_70 : decode prog_4_method_2_code 70 = .ok (.iconst 0, 1) := by decide +kernel
theorem d_61_71 : decode prog_4_method_2_code 71 = .ok (.ireturn, 1) := by decide +kernel
theorem d_61_72 : decode prog_4_method_2_code 72 = .ok (.aload_n 1, 1) := by decide +kernel
theorem d_61_73 : decode prog_4_method_2_code 73 = .ok (.aload_n 0, 1) := by decide +kernel
theorem d_61_74 : decode prog_4_method_2_code 74 = .ok (.getfield 15, 3) := by decide +kernel
theorem d_61_77 : decode prog_4_method_2_code 77 = .ok (.invokevirtual 9, 3) := by decide +kernel
theorem d_61_80 : decode prog_4_method_2_code 80 = .ok (.bipush 48, 2) := by decide +kernel
theorem d_61_82 : decode prog_4_method_2_code 82 = .ok (.if_icmp .ne 33, 3) := by decide +kernel
theorem d_61_85 : decode prog_4_method_2_code 85 = .ok (.aload_n 0, 1) := by decide +kernel
theorem d_61_86 : decode prog_4_method_2_code 86 = .ok (.dup, 1) := by decide +kernel
theorem d_61_87 : decode prog_4_method_2_code 87 = .ok (.getfield 15, 3) := by decide +kernel
theorem d_61_90 : decode prog_4_method_2_code 90 = .ok (.iload 4, 2) := by decide +kernel
theorem d_61_92 : decode prog_4_method_2_code 92 = .ok (.ifCond .eq 7, 3) := by decide +kernel
theorem d_61_95 : decode prog_4_method_2_code 95 = .ok (.iconst 0, 1) := by decide +kernel
theorem d_61_96 : decode prog_4_method_2_code 96 = .ok (.goto 4, 3) := by decide +kernel
theorem d_61_99 : decode prog_4_method_2_code 99 = .ok (.iconst 1, 1) := by decide +kernel
theorem d_61_100 : decode prog_4_method_2_code 100 = .ok (.iadd, 1) := by decide +kernel
theorem d_61_101 : decode prog_4_method_2_code 101 = .ok (.putfield 15, 3) := by decide +kernel
theorem d_61_104 : decode prog_4_method_2_code 104 = .ok (.iload 4, 2) := by decide +kernel
theorem d_61_106 : decode prog_4_method_2_code 106 = .ok (.ifCond .ne 7, 3) := by decide +kernel
theorem d_61_109 : decode prog_4_method_2_code 109 = .ok (.iconst 1, 1) := by decide +kernel
theorem d_61_110 : decode prog_4_method_2_code 110 = .ok (.goto 4, 3) := by decide +kernel
theorem d_61_113 : decode prog_4_method_2_code 113 = .ok (.iconst 0, 1) := by decide +kernel
theorem d_61_114 : decode prog_4_method_2_code 114 = .ok (.ireturn, 1) := by decide +kernel
theorem d_61_115 : decode prog_4_method_2_code 115 = .ok (.aload_n 0, 1) := by decide +kernel
theorem d_61_116 : decode prog_4_method_2_code 116 = .ok (.getfield 15, 3) := by decide +kernel
theorem d_61_119 : decode prog_4_method_2_code 119 = .ok (.iload_n 3, 1) := by decide +kernel
theorem d_61_120 : decode prog_4_method_2_code 120 = .ok (.if_icmp .ge 45, 3) := by decide +kernel
theorem d_61_123 : decode prog_4_method_2_code 123 = .ok (.aload_n 1, 1) := by decide +kernel
theorem d_61_124 : decode prog_4_method_2_code 124 = .ok (.aload_n 0, 1) := by decide +kernel
theorem d_61_125 : decode prog_4_method_2_code 125 = .ok (.getfield 15, 3) := by decide +kernel
theorem d_61_128 : decode prog_4_method_2_code 128 = .ok (.invokevirtual 9, 3) := by decide +kernel
theorem d_61_131 : decode prog_4_method_2_code 131 = .ok (.invokestatic 29, 3) := by decide +kernel
theorem d_61_134 : decode prog_4_method_2_code 134 = .ok (.ifCond .eq 31, 3) := by decide +kernel
theorem d_61_137 : decode prog_4_method_2_code 137 = .ok (.aload_n 0, 1) := by decide +kernel
theorem d_61_138 : decode prog_4_method_2_code 138 = .ok (.aload_n 1, 1) := by decide +kernel
theorem d_61_139 : decode prog_4_method_2_code 139 = .ok (.aload_n 0, 1) := by decide +kernel
theorem d_61_140 : decode prog_4_method_2_code 140 = .ok (.getfield 15, 3) := by decide +kernel
theorem d_61_143 : decode prog_4_method_2_code 143 = .ok (.invokevirtual 9, 3) := by decide +kernel
theorem d_61_146 : decode prog_4_method_2_code 146 = .ok (.bipush 48, 2) := by decide +kernel
theorem d_61_148 : decode prog_4_method_2_code 148 = .ok (.isub, 1) := by decide +kernel
theorem d_61_149 : decode prog_4_method_2_code 149 = .ok (.invokevirtual 33, 3) := by decide +kernel
theorem d_61_152 : decode prog_4_method_2_code 152 = .ok (.aload_n 0, 1) := by decide +kernel
theorem d_61_153 : decode prog_4_method_2_code 153 = .ok (.dup, 1) := by decide +kernel
theorem d_61_154 : decode prog_4_method_2_code 154 = .ok (.getfield 15, 3) := by decide +kernel
theorem d_61_157 : decode prog_4_method_2_code 157 = .ok (.iconst 1, 1) := by decide +kernel
theorem d_61_158 : decode prog_4_method_2_code 158 = .ok (.iadd, 1) := by decide +kernel
theorem d_61_159 : decode prog_4_method_2_code 159 = .ok (.putfield 15, 3) := by decide +kernel
theorem d_61_162 : decode prog_4_method_2_code 162 = .ok (.goto (-47), 3) := by decide +kernel
theorem d_61_165 : decode prog_4_method_2_code 165 = .ok (.iload 4, 2) := by decide +kernel
theorem d_61_167 : decode prog_4_method_2_code 167 = .ok (.ifCond .ne 39, 3) := by decide +kernel
theorem d_61_170 : decode prog_4_method_2_code 170 = .ok (.aload_n 0, 1) := by decide +kernel
theorem d_61_171 : decode prog_4_method_2_code 171 = .ok (.aload_n 0, 1) := by decide +kernel
theorem d_61_172 : decode prog_4_method_2_code 172 = .ok (.getfield 25, 3) := by decide +kernel
theorem d_61_175 : decode prog_4_method_2_code 175 = .ok (.ifCond .eq 18, 3) := by decide +kernel
theorem d_61_178 : decode prog_4_method_2_code 178 = .ok (.aload_n 0, 1) := by decide +kernel
theorem d_61_179 : decode prog_4_method_2_code 179 = .ok (.getfield 21, 3) := by decide +kernel
theorem d_61_182 : decode prog_4_method_2_code 182 = .ok (.ldc2_w 37, 3) := by decide +kernel
theorem d_61_185 : decode prog_4_method_2_code 185 = .ok (.lcmp, 1) := by decide +kernel
theorem d_61_186 : decode prog_4_method_2_code 186 = .ok (.ifCond .eq 7, 3) := by decide +kernel
theorem d_61_189 : decode prog_4_method_2_code 189 = .ok (.iconst 1, 1) := by decide +kernel
theorem d_61_190 : decode prog_4_method_2_code 190 = .ok (.goto 4, 3) := by decide +kernel
theorem d_61_193 : decode prog_4_method_2_code 193 = .ok (.iconst 0, 1) := by decide +kernel
theorem d_61_194 : decode prog_4_method_2_code 194 = .ok (.putfield 25, 3) := by decide +kernel
theorem d_61_197 : decode prog_4_method_2_code 197 = .ok (.aload_n 0, 1) := by decide +kernel
theorem d_61_198 : decode prog_4_method_2_code 198 = .ok (.aload_n 0, 1) := by decide +kernel
theorem d_61_199 : decode prog_4_method_2_code 199 = .ok (.getfield 21, 3) := by decide +kernel
theorem d_61_202 : decode prog_4_method_2_code 202 = .ok (.lneg, 1) := by decide +kernel
theorem d_61_203 : decode prog_4_method_2_code 203 = .ok (.putfield 21, 3) := by decide +kernel
theorem d_61_206 : decode prog_4_method_2_code 206 = .ok (.iconst 1, 1) := by decide +kernel
theorem d_61_207 : decode prog_4_method_2_code 207 = .ok (.ireturn, 1) := by decide +kernel
theorem d_62_0 : decode prog_1_method_19_code 0 = .ok (.iload_n 0, 1) := by decide +kernel
theorem d_62_1 : decode prog_1_method_19_code 1 = .ok (.bipush 48, 2) := by decide +kernel
theorem d_62_3 : decode prog_1_method_19_code 3 = .ok (.if_icmp .lt 13, 3) := by decide +kernel
theorem d_62_6 : decode prog_1_method_19_code 6 = .ok (.iload_n 0, 1) := by decide +kernel
theorem d_62_7 : decode prog_1_method_19_code 7 = .ok (.bipush 57, 2) := by decide +kernel
theorem d_62_9 : decode prog_1_method_19_code 9 = .ok (.if_icmp .gt 7, 3) := by decide +kernel
theorem d_62_12 : decode prog_1_method_19_code 12 = .ok (.iconst 1, 1) := by decide +kernel
theorem d_62_13 : decode prog_1_method_19_code 13 = .ok (.goto 4, 3) := by decide +kernel
theorem d_62_16 : decode prog_1_method_19_code 16 = .ok (.iconst 0, 1) := by decide +kernel
theorem d_62_17 : decode prog_1_method_19_code 17 = .ok (.ireturn, 1) := by decide +kernel
theorem d_63_0 : decode prog_4_method_3_code 0 = .ok (.aload_n 0, 1) := by decide +kernel
theorem d_63_1 : decode prog_4_method_3_code 1 = .ok (.aload_n 0, 1) := by decide +kernel
theorem d_63_2 : decode prog_4_method_3_code 2 = .ok (.getfield 25, 3) := by decide +kernel
theorem d_63_5 : decode prog_4_method_3_code 5 = .ok (.ifCond .eq 38, 3) := by decide +kernel
theorem d_63_8 : decode prog_4_method_3_code 8 = .ok (.aload_n 0, 1) := by decide +kernel
theorem d_63_9 : decode prog_4_method_3_code 9 = .ok (.getfield 21, 3) := by decide +kernel
theorem d_63_12 : decode prog_4_method_3_code 12 = .ok (.ldc2_w 39, 3) := by decide +kernel
theorem d_63_15 : decode prog_4_method_3_code 15 = .ok (.lcmp, 1) := by decide +kernel
theorem d_63_16 : decode prog_4_method_3_code 16 = .ok (.ifCond .gt 23, 3) := by decide +kernel
theorem d_63_19 : decode prog_4_method_3_code 19 = .ok (.aload_n 0, 1) := by decide +kernel
theorem d_63_20 : decode prog_4_method_3_code 20 = .ok (.getfield 21, 3) := by decide +kernel
theorem d_63_23 : decode prog_4_method_3_code 23 = .ok (.ldc2_w 39, 3) := by decide +kernel
theorem d_63_26 : decode prog_4_method_3_code 26 = .ok (.lcmp, 1) := by decide +kernel
theorem d_63_27 : decode prog_4_method_3_code 27 = .ok (.ifCond .ne 16, 3) := by decide +kernel
theorem d_63_30 : decode prog_4_method_3_code 30 = .ok (.iload_n 1, 1) := by decide +kernel
theorem d_63_31 : decode prog_4_method_3_code 31 = .ok (.i2l, 1) := by decide +kernel
theorem d_63_32 : decode prog_4_method_3_code 32 = .ok (.ldc2_w 41, 3) := by decide +kernel
theorem d_63_35 : decode prog_4_method_3_code 35 = .ok (.lcmp, 1) := by decide +kernel
theorem d_63_36 : decode prog_4_method_3_code 36 = .ok (.ifCond .gt 7, 3) := by decide +kernel
theorem d_63_39 : decode prog_4_method_3_code 39 = .ok (.iconst 1, 1) := by decide +kernel
theorem d_63_40 : decode prog_4_method_3_code 40 = .ok (.goto 4, 3) := by decide +kernel
theorem d_63_43 : decode prog_4_method_3_code 43 = .ok (.iconst 0, 1) := by decide +kernel
theorem d_63_44 : decode prog_4_method_3_code 44 = .ok (.putfield 25, 3) := by decide +kernel
theorem d_63_47 : decode prog_4_method_3_code 47 = .ok (.aload_n 0, 1) := by decide +kernel
theorem d_63_48 : decode prog_4_method_3_code 48 = .ok (.getfield 25, 3) := by decide +kernel
theorem d_63_51 : decode prog_4_method_3_code 51 = .ok (.ifCond .eq 18, 3) := by decide +kernel
theorem d_63_54 : decode prog_4_method_3_code 54 = .ok (.aload_n 0, 1) := by decide +kernel
theorem d_63_55 : decode prog_4_method_3_code 55 = .ok (.aload_n 0, 1) := by decide +kernel
theorem d_63_56 : decode prog_4_method_3_code 56 = .ok (.getfield 21, 3) := by decide +kernel
theorem d_63_59 : decode prog_4_method_3_code 59 = .ok (.ldc2_w 43, 3) := by decide +kernel
theorem d_63_62 : decode prog_4_method_3_code 62 = .ok (.lmul, 1) := by decide +kernel
theorem d_63_63 : decode prog_4_method_3_code 63 = .ok (.iload_n 1, 1) := by decide +kernel
theorem d_63_64 : decode prog_4_method_3_code 64 = .ok (.i2l, 1) := by decide +kernel
theorem d_63_65 : decode prog_4_method_3_code 65 = .ok (.lsub, 1) := by decide +kernel
theorem d_63_66 : decode prog_4_method_3_code 66 = .ok (.putfield 21, 3) := by decide +kernel
theorem d_63_69 : decode prog_4_method_3_code 69 = .ok (.return_, 1) := by decide +kernel
theorem d_64_0 : decode prog_1_method_20_code 0 = .ok (.iload_n 0, 1) := by decide +kernel
theorem d_64_1 : decode prog_1_method_20_code 1 = .ok (.bipush 97, 2) := by decide +kernel
theorem d_64_3 : decode prog_1_method_20_code 3 = .ok (.if_icmp .lt 9, 3) := by decide +kernel
theorem d_64_6 : decode prog_1_method_20_code 6 = .ok (.iload_n 0, 1) := by decide +kernel
theorem d_64_7 : decode prog_1_method_20_code 7 = .ok (.bipush 122, 2) := by decide +kernel
theorem d_64_9 : decode prog_1_method_20_code 9 = .ok (.if_icmp .le 15, 3) := by decide +kernel
theorem d_64_12 : decode prog_1_method_20_code 12 = .ok (.iload_n 0, 1) := by decide +kernel
theorem d_64_13 : decode prog_1_method_20_code 13 = .ok (.bipush 65, 2) := by decide +kernel
theorem d_64_15 : decode prog_1_method_20_code 15 = .ok (.if_icmp .lt 13, 3) := by decide +kernel
theorem d_64_18 : decode prog_1_method_20_code 18 = .ok (.iload_n 0, 1) := by decide +kernel
theorem d_64_19 : decode prog_1_method_20_code 19 = .ok (.bipush 90, 2) := by decide +kernel
theorem d_64_21 : decode prog_1_method_20_code 21 = .ok (.if_icmp .gt 7, 3) := by decide +kernel
theorem d_64_24 : decode prog_1_method_20_code 24 = .ok (.iconst 1, 1) := by decide +kernel
theorem d_64_25 : decode prog_1_method_20_code 25 = .ok (.goto 4, 3) := by decide +kernel
theorem d_64_28 : decode prog_1_method_20_code 28 = .ok (.iconst 0, 1) := by decide +kernel
theorem d_64_29 : decode prog_1_method_20_code 29 = .ok (.ireturn, 1) := by decide +kernel
theorem d_65_0 : decode prog_5_method_21_code 0 = .ok (.aload_n 0, 1) := by decide +kernel
theorem d_65_1 : decode prog_5_method_21_code 1 = .ok (.bipush 12, 2) := by decide +kernel
theorem d_65_3 : decode prog_5_method_21_code 3 = .ok (.lconst 0, 1) := by decide +kernel
theorem d_65_4 : decode prog_5_method_21_code 4 = .ok (.aload_n 0, 1) := by decide +kernel
theorem d_65_5 : decode prog_5_method_21_code 5 = .ok (.getfield 147, 3) := by decide +kernel
theorem d_65_8 : decode prog_5_method_21_code 8 = .ok (.invokevirtual 110, 3) := by decide +kernel
theorem d_65_11 : decode prog_5_method_21_code 11 = .ok (.istore_n 1, 1) := by decide +kernel
theorem d_65_12 : decode prog_5_method_21_code 12 = .ok (.aload_n 0, 1) := by decide +kernel
theorem d_65_13 : decode prog_5_method_21_code 13 = .ok (.getfield 32, 3) := by decide +kernel
theorem d_65_16 : decode prog_5_method_21_code 16 = .ok (.iload_n 1, 1) := by decide +kernel
theorem d_65_17 : decode prog_5_method_21_code 17 = .ok (.aload_n 0, 1) := by decide +kernel
theorem d_65_18 : decode prog_5_method_21_code 18 = .ok (.getfield 153, 3) := by decide +kernel
theorem d_65_21 : decode prog_5_method_21_code 21 = .ok (.iconst 1, 1) := by decide +kernel
theorem d_65_22 : decode prog_5_method_21_code 22 = .ok (.iadd, 1) := by decide +kernel
theorem d_65_23 : decode prog_5_method_21_code 23 = .ok (.iconst 1, 1) := by decide +kernel
theorem d_65_24 : decode prog_5_method_21_code 24 = .ok (.invokevirtual 203, 3) := by decide +kernel
theorem d_65_27 : decode prog_5_method_21_code 27 = .ok (.aload_n 0, 1) := by decide +kernel
theorem d_65_28 : decode prog_5_method_21_code 28 = .ok (.iconst 4, 1) := by decide +kernel
theorem d_65_29 : decode prog_5_method_21_code 29 = .ok (.lconst 0, 1) := by decide +kernel
theorem d_65_30 : decode prog_5_method_21_code 30 = .ok (.aload_n 0, 1) := by decide +kernel
theorem d_65_31 : decode prog_5_method_21_code 31 = .ok (.getfield 147, 3) := by decide +kernel
theorem d_65_34 : decode prog_5_method_21_code 34 = .ok (.invokevirtual 110, 3) := by decide +kernel
theorem d_65_37 : decode prog_5_method_21_code 37 = .ok (.istore_n 2, 1) := by decide +kernel
theorem d_65_38 : decode prog_5_method_21_code 38 = .ok (.aload_n 0, 1) := by decide +kernel
theorem d_65_39 : decode prog_5_method_21_code 39 = .ok (.getfield 32, 3) := by decide +kernel
theorem d_65_42 : decode prog_5_method_21_code 42 = .ok (.iload_n 2, 1) := by decide +kernel
theorem d_65_43 : decode prog_5_method_21_code 43 = .ok (.aload_n 0, 1) := by decide +kernel
theorem d_65_44 : decode prog_5_method_21_code 44 = .ok (.getfield 153, 3) := by decide +kernel
theorem d_65_47 : decode prog_5_method_21_code 47 = .ok (.iconst 2, 1) := by decide +kernel
theorem d_65_48 : decode prog_5_method_21_code 48 = .ok (.iadd, 1) := by decide +kernel
theorem d_65_49 : decode prog_5_method_21_code 49 = .ok (.aload_n 0, 1) := by decide +kernel
theorem d_65_50 : decode prog_5_method_21_code 50 = .ok (.getfield 161, 3) := by decide +kernel
theorem d_65_53 : decode prog_5_method_21_code 53 = .ok (.iconst 2, 1) := by decide +kernel
theorem d_65_54 : decode prog_5_method_21_code 54 = .ok (.isub, 1) := by decide +kernel
theorem d_65_55 : decode prog_5_method_21_code 55 = .ok (.invokevirtual 203, 3) := by decide +kernel
theorem d_65_58 : decode prog_5_method_21_code 58 = .ok (.aload_n 0, 1) := by decide +kernel
theorem d_65_59 : decode prog_5_method_21_code 59 = .ok (.getfield 32, 3) := by decide +kernel
theorem d_65_62 : decode prog_5_method_21_code 62 = .ok (.iload_n 1, 1) := by decide +kernel
theorem d_65_63 : decode prog_5_method_21_code 63 = .ok (.bipush 12, 2) := by decide +kernel
theorem d_65_65 : decode prog_5_method_21_code 65 = .ok (.iconst 1, 1) := by decide +kernel
theorem d_65_66 : decode prog_5_method_21_code 66 = .ok (.invokevirtual 207, 3) := by decide +kernel
theorem d_65_69 : decode prog_5_method_21_code 69 = .ok (.return_, 1) := by decide +kernel
theorem d_66_0 : decode prog_5_method_11_code 0 = .ok (.aload_n 0, 1) := by decide +kernel
theorem d_66_1 : decode prog_5_method_11_code 1 = .ok (.getfield 44, 3) := by decide +kernel
theorem d_66_4 : decode prog_5_method_11_code 4 = .ok (.istore_n 1, 1) := by decide +kernel
theorem d_66_5 : decode prog_5_method_11_code 5 = .ok (.aload_n 0, 1) := by decide +kernel
theorem d_66_6 : decode prog_5_method_11_code 6 = .ok (.getfield 21, 3) := by decide +kernel
theorem d_66_9 : decode prog_5_method_11_code 9 = .ok (.aload_n 0, 1) := by decide +kernel
theorem d_66_10 : decode prog_5_method_11_code 10 = .ok (.getfield 40, 3) := by decide +kernel
theorem d_66_13 : decode prog_5_method_11_code 13 = .ok (.iload_n 1, 1) := by decide +kernel
theorem d_66_14 : decode prog_5_method_11_code 14 = .ok (.aload_n 0, 1) := by decide +kernel
theorem d_66_15 : decode prog_5_method_11_code 15 = .ok (.getfield 40, 3) := by decide +kernel
theorem d_66_18 : decode prog_5_method_11_code 18 = .ok (.getfield 60, 3) := by decide +kernel
theorem d_66_21 : decode prog_5_method_11_code 21 = .ok (.invokevirtual 132, 3) := by decide +kernel
theorem d_66_24 : decode prog_5_method_11_code 24 = .ok (.ifCond .ne 14, 3) := by decide +kernel
theorem d_66_27 : decode prog_5_method_11_code 27 = .ok (.aload_n 0, 1) := by decide +kernel
theorem d_66_28 : decode prog_5_method_11_code 28 = .ok (.aload_n 0, 1) := by decide +kernel
theorem d_66_29 : decode prog_5_method_11_code 29 = .ok (.getfield 21, 3) := by decide +kernel
theorem d_66_32 : decode prog_5_method_11_code 32 = .ok (.getfield 136, 3) := by decide +kernel
theorem d_66_35 : decode prog_5_method_11_code 35 = .ok (.invokevirtual 65, 3) := by decide +kernel
theorem d_66_38 : decode prog_5_method_11_code 38 = .ok (.aload_n 0, 1) := by decide +kernel
theorem d_66_39 : decode prog_5_method_11_code 39 = .ok (.getfield 21, 3) := by decide +kernel
theorem d_66_42 : decode prog_5_method_11_code 42 = .ok (.getfield 139, 3) := by decide +kernel
theorem d_66_45 : decode prog_5_method_11_code 45 = .ok (.ifCond .ne 8, 3) := by decide +kernel
theorem d_66_48 : decode prog_5_method_11_code 48 = .ok (.aload_n 0, 1) := by decide +kernel
theorem d_66_49 : decode prog_5_method_11_code 49 = .ok (.iload_n 1, 1) := by decide +kernel
theorem d_66_50 : decode prog_5_method_11_code 50 = .ok (.invokevirtual 65, 3) := by decide +kernel
theorem d_66_53 : decode prog_5_method_11_code 53 = .ok (.aload_n 0, 1) := by decide +kernel
theorem d_66_54 : decode prog_5_method_11_code 54 = .ok (.aload_n 0, 1) := by decide +kernel
theorem d_66_55 : decode prog_5_method_11_code 55 = .ok (.getfield 21, 3) := by decide +kernel
theorem d_66_58 : decode prog_5_method_11_code 58 = .ok (.getfield 136, 3) := by decide +kernel
theorem d_66_61 : decode prog_5_method_11_code 61 = .ok (.putfield 44, 3) := by decide +kernel
theorem d_66_64 : decode prog_5_method_11_code 64 = .ok (.aload_n 0, 1) := by decide +kernel
theorem d_66_65 : decode prog_5_method_11_code 65 = .ok (.iconst 2, 1) := by decide +kernel
theorem d_66_66 : decode prog_5_method_11_code 66 = .ok (.aload_n 0, 1) := by decide +kernel
theorem d_66_67 : decode prog_5_method_11_code 67 = .ok (.getfield 21, 3) := by decide +kernel
theorem d_66_70 : decode prog_5_method_11_code 70 = .ok (.getfield 143, 3) := by decide +kernel
theorem d_66_73 : decode prog_5_method_11_code 73 = .ok (.iload_n 1, 1) := by decide +kernel
theorem d_66_74 : decode prog_5_method_11_code 74 = .ok (.invokevirtual 110, 3) := by decide +kernel
theorem d_66_77 : decode prog_5_method_11_code 77 = .ok (.pop, 1) := by decide +kernel
theorem d_66_78 : decode prog_5_method_11_code 78 = .ok (.return_, 1) := by decide +kernel
theorem d_67_0 : decode prog_5_method_9_code 0 = .ok (.aload_n 0, 1) := by decide +kernel
theorem d_67_1 : decode prog_5_method_9_code 1 = .ok (.getfield 44, 3) := by decide +kernel
theorem d_67_4 : decode prog_5_method_9_code 4 = .ok (.istore_n 2, 1) := by decide +kernel
theorem d_67_5 : decode prog_5_method_9_code 5 = .ok (.iload_n 1, 1) := by decide +kernel
theorem d_67_6 : decode prog_5_method_9_code 6 = .ok (.bipush 110, 2) := by decide +kernel
theorem d_67_8 : decode prog_5_method_9_code 8 = .ok (.if_icmp .ne 20, 3) := by decide +kernel
theorem d_67_11 : decode prog_5_method_9_code 11 = .ok (.aload_n 0, 1) := by decide +kernel
theorem d_67_12 : decode prog_5_method_9_code 12 = .ok (.ldc 104, 2) := by decide +kernel
theorem d_67_14 : decode prog_5_method_9_code 14 = .ok (.invokevirtual 106, 3) := by decide +kernel
theorem d_67_17 : decode prog_5_method_9_code 17 = .ok (.aload_n 0, 1) := by decide +kernel
theorem d_67_18 : decode prog_5_method_9_code 18 = .ok (.iconst 0, 1) := by decide +kernel
theorem d_67_19 : decode prog_5_method_9_code 19 = .ok (.lconst 0, 1) := by decide +kernel
theorem d_67_20 : decode prog_5_method_9_code 20 = .ok (.iload_n 2, 1) := by decide +kernel
theorem d_67_21 : decode prog_5_method_9_code 21 = .ok (.invokevirtual 110, 3) := by decide +kernel
theorem d_67_24 : decode prog_5_method_9_code 24 = .ok (.pop, 1) := by decide +kernel
theorem d_67_25 : decode prog_5_method_9_code 25 = .ok (.goto 40, 3) := by decide +kernel
theorem d_67_28 : decode prog_5_method_9_code 28 = .ok (.iload_n 1, 1) := by decide +kernel
theorem d_67_29 : decode prog_5_method_9_code 29 = .ok (.bipush 116, 2) := by decide +kernel
theorem d_67_31 : decode prog_5_method_9_code 31 = .ok (.if_icmp .ne 20, 3) := by decide +kernel
theorem d_67_34 : decode prog_5_method_9_code 34 = .ok (.aload_n 0, 1) := by decide +kernel
theorem d_67_35 : decode prog_5_method_9_code 35 = .ok (.ldc 114, 2) := by decide +kernel
theorem d_67_37 : decode prog_5_method_9_code 37 = .ok (.invokevirtual 106, 3) := by decide +kernel
theorem d_67_40 : decode prog_5_method_9_code 40 = .ok (.aload_n 0, 1) := by decide +kernel
theorem d_67_41 : decode prog_5_method_9_code 41 = .ok (.iconst 1, 1) := by decide +kernel
theorem d_67_42 : decode prog_5_method_9_code 42 = .ok (.lconst 1, 1) := by decide +kernel
theorem d_67_43 : decode prog_5_method_9_code 43 = .ok (.iload_n 2, 1) := by decide +kernel
theorem d_67_44 : decode prog_5_method_9_code 44 = .ok (.invokevirtual 110, 3) := by decide +kernel
theorem d_67_47 : decode prog_5_method_9_code 47 = .ok (.pop, 1) := by decide +kernel
theorem d_67_48 : decode prog_5_method_9_code 48 = .ok (.goto 17, 3) := by decide +kernel
theorem d_67_51 : decode prog_5_method_9_code 51 = .ok (.aload_n 0, 1) := by decide +kernel
theorem d_67_52 : decode prog_5_method_9_code 52 = .ok (.ldc 116, 2) := by decide +kernel
theorem d_67_54 : decode prog_5_method_9_code 54 = .ok (.invokevirtual 106, 3) := by decide +kernel
theorem d_67_57 : decode prog_5_method_9_code 57 = .ok (.aload_n 0, 1) := by decide +kernel
theorem d_67_58 : decode prog_5_method_9_code 58 = .ok (.iconst 1, 1) := by decide +kernel
theorem d_67_59 : decode prog_5_method_9_code 59 = .ok (.lconst 0, 1) := by decide +kernel
theorem d_67_60 : decode prog_5_method_9_code 60 = .ok (.iload_n 2, 1) := by decide +kernel
theorem d_67_61 : decode prog_5_method_9_code 61 = .ok (.invokevirtual 110, 3) := by decide +kernel
theorem d_67_64 : decode prog_5_method_9_code 64 = .ok (.pop, 1) := by decide +kernel
theorem d_67_65 : decode prog_5_method_9_code 65 = .ok (.return_, 1) := by decide +kernel
theorem d_68_0 : decode prog_5_method_10_code 0 = .ok (.iconst 0, 1) := by decide +kernel
theorem d_68_1 : decode prog_5_method_10_code 1 = .ok (.istore_n 2, 1) := by decide +kernel
theorem d_68_2 : decode prog_5_method_10_code 2 = .ok (.iload_n 2, 1) := by decide +kernel
theorem d_68_3 : decode prog_5_method_10_code 3 = .ok (.aload_n 1, 1) := by decide +kernel
theorem d_68_4 : decode prog_5_method_10_code 4 = .ok (.invokevirtual 118, 3) := by decide +kernel
theorem d_68_7 : decode prog_5_method_10_code 7 = .ok (.if_icmp .ge 18, 3) := by decide +kernel
theorem d_68_10 : decode prog_5_method_10_code 10 = .ok (.aload_n 0, 1) := by decide +kernel
theorem d_68_11 : decode prog_5_method_10_code 11 = .ok (.aload_n 1, 1) := by decide +kernel
theorem d_68_12 : decode prog_5_method_10_code 12 = .ok (.iload_n 2, 1) := by decide +kernel
theorem d_68_13 : decode prog_5_method_10_code 13 = .ok (.invokevirtual 124, 3) := by decide +kernel
theorem d_68_16 : decode prog_5_method_10_code 16 = .ok (.invokevirtual 128, 3) := by decide +kernel
theorem d_68_19 : decode prog_5_method_10_code 19 = .ok (.iinc 2 1, 3) := by decide +kernel
theorem d_68_22 : decode prog_5_method_10_code 22 = .ok (.goto (-20), 3) := by decide +kernel
theorem d_68_25 : decode prog_5_method_10_code 25 = .ok (.return_, 1) := by decide +kernel
theorem d_69_0 : decode prog_5_method_3_code 0 = .ok (.aload_n 0, 1) := by decide +kernel
theorem d_69_1 : decode prog_5_method_3_code 1 = .ok (.getfield 32, 3) := by decide +kernel
theorem d_69_4 : decode prog_5_method_3_code 4 = .ok (.astore_n 2, 1) := by decide +kernel
theorem d_69_5 : decode prog_5_method_3_code 5 = .ok (.aload_n 0, 1) := by decide +kernel
theorem d_69_6 : decode prog_5_method_3_code 6 = .ok (.aload_n 1, 1) := by decide +kernel
theorem d_69_7 : decode prog_5_method_3_code 7 = .ok (.putfield 32, 3) := by decide +kernel
theorem d_69_10 : decode prog_5_method_3_code 10 = .ok (.aload_n 2, 1) := by decide +kernel
theorem d_69_11 : decode prog_5_method_3_code 11 = .ok (.areturn, 1) := by decide +kernel
theorem d_70_0 : decode method_4_code 0 = .ok (.aload_n 2, 1) := by decide +kernel
theorem d_70_1 : decode method_4_code 1 = .ok (.iconst 0, 1) := by decide +kernel
theorem d_70_2 : decode method_4_code 2 = .ok (.aload_n 0, 1) := by decide +kernel
theorem d_70_3 : decode method_4_code 3 = .ok (.iload_n 1, 1) := by decide +kernel
theorem d_70_4 : decode method_4_code 4 = .ok (.invokevirtual 17, 3) := by decide +kernel
theorem d_70_7 : decode method_4_code 7 = .ok (.i2l, 1) := by decide +kernel
theorem d_70_8 : decode method_4_code 8 = .ok (.lastore, 1) := by decide +kernel
theorem d_70_9 : decode method_4_code 9 = .ok (.goto 12, 3) := by decide +kernel
theorem d_70_12 : decode method_4_code 12 = .ok (.astore_n 3, 1) := by decide +kernel
theorem d_70_13 : decode method_4_code 13 = .ok (.iconst 1, 1) := by decide +kernel
theorem d_70_14 : decode method_4_code 14 = .ok (.ireturn, 1) := by decide +kernel
theorem d_70_15 : decode method_4_code 15 = .ok (.astore_n 3, 1) := by decide +kernel
theorem d_70_16 : decode method_4_code 16 = .ok (.iconst 2, 1) := by decide +kernel
theorem d_70_17 : decode method_4_code 17 = .ok (.ireturn, 1) := by decide +kernel
theorem d_70_18 : decode method_4_code 18 = .ok (.astore_n 3, 1) := by decide +kernel
theorem d_70_19 : decode method_4_code 19 = .ok (.iconst 3, 1) := by decide +kernel
theorem d_70_20 : decode method_4_code 20 = .ok (.ireturn, 1) := by decide +kernel
theorem d_70_21 : decode method_4_code 21 = .ok (.iconst 0, 1) := by decide +kernel
theorem d_70_22 : decode method_4_code 22 = .ok (.ireturn, 1) := by decide +kernel
theorem d_71_0 : decode prog_1_method_8_code 0 = .ok (.iload_n 1, 1) := by decide +kernel
theorem d_71_1 : decode prog_1_method_8_code 1 = .ok (.invokestatic 54, 3) := by decide +kernel
theorem d_71_4 : decode prog_1_method_8_code 4 = .ok (.aload_n 0, 1) := by decide +kernel
theorem d_71_5 : decode prog_1_method_8_code 5 = .ok (.getfield 12, 3) := by decide +kernel
theorem d_71_8 : decode prog_1_method_8_code 8 = .ok (.iload_n 1, 1) := by decide +kernel
theorem d_71_9 : decode prog_1_method_8_code 9 = .ok (.aaload, 1) := by decide +kernel
theorem d_71_10 : decode prog_1_method_8_code 10 = .ok (.getfield 65, 3) := by decide +kernel
theorem d_71_13 : decode prog_1_method_8_code 13 = .ok (.ifCond .ne 11, 3) := by decide +kernel
theorem d_71_16 : decode prog_1_method_8_code 16 = .ok (.new 69, 3) := by decide +kernel
theorem d_71_19 : decode prog_1_method_8_code 19 = .ok (.dup, 1) := by decide +kernel
theorem d_71_20 : decode prog_1_method_8_code 20 = .ok (.invokespecial 71, 3) := by decide +kernel
theorem d_71_23 : decode prog_1_method_8_code 23 = .ok (.athrow, 1) := by decide +kernel
theorem d_71_24 : decode prog_1_method_8_code 24 = .ok (.aload_n 0, 1) := by decide +kernel
theorem d_71_25 : decode prog_1_method_8_code 25 = .ok (.getfield 26, 3) := by decide +kernel
theorem d_71_28 : decode prog_1_method_8_code 28 = .ok (.aload_n 0, 1) := by decide +kernel
theorem d_71_29 : decode prog_1_method_8_code 29 = .ok (.getfield 12, 3) := by decide +kernel
theorem d_71_32 : decode prog_1_method_8_code 32 = .ok (.iload_n 1, 1) := by decide +kernel
theorem d_71_33 : decode prog_1_method_8_code 33 = .ok (.aaload, 1) := by decide +kernel
theorem d_71_34 : decode prog_1_method_8_code 34 = .ok (.invokevirtual 72, 3) := by decide +kernel
theorem d_71_37 : decode prog_1_method_8_code 37 = .ok (.aload_n 0, 1) := by decide +kernel
theorem d_71_38 : decode prog_1_method_8_code 38 = .ok (.aload_n 0, 1) := by decide +kernel
theorem d_71_39 : decode prog_1_method_8_code 39 = .ok (.getfield 26, 3) := by decide +kernel
theorem d_71_42 : decode prog_1_method_8_code 42 = .ok (.aload_n 0, 1) := by decide +kernel
theorem d_71_43 : decode prog_1_method_8_code 43 = .ok (.getfield 35, 3) := by decide +kernel
theorem d_71_46 : decode prog_1_method_8_code 46 = .ok (.invokevirtual 76, 3) := by decide +kernel
theorem d_71_49 : decode prog_1_method_8_code 49 = .ok (.putfield 35, 3) := by decide +kernel
theorem d_71_52 : decode prog_1_method_8_code 52 = .ok (.aload_n 0, 1) := by decide +kernel
theorem d_71_53 : decode prog_1_method_8_code 53 = .ok (.getfield 35, 3) := by decide +kernel
theorem d_71_56 : decode prog_1_method_8_code 56 = .ok (.getfield 39, 3) := by decide +kernel
theorem d_71_59 : decode prog_1_method_8_code 59 = .ok (.ireturn, 1) := by decide +kernel
theorem d_72_0 : decode prog_7_method_2_code 0 = .ok (.aload_n 0, 1) := by decide +kernel
theorem d_72_1 : decode prog_7_method_2_code 1 = .ok (.aload_n 1, 1) := by decide +kernel
theorem d_72_2 : decode prog_7_method_2_code 2 = .ok (.putfield 34, 3) := by decide +kernel
theorem d_72_5 : decode prog_7_method_2_code 5 = .ok (.aload_n 0, 1) := by decide +kernel
theorem d_72_6 : decode prog_7_method_2_code 6 = .ok (.getfield 12, 3) := by decide +kernel
theorem d_72_9 : decode prog_7_method_2_code 9 = .ok (.invokevirtual 38, 3) := by decide +kernel
theorem d_72_12 : decode prog_7_method_2_code 12 = .ok (.aload_n 0, 1) := by decide +kernel
theorem d_72_13 : decode prog_7_method_2_code 13 = .ok (.getfield 23, 3) := by decide +kernel
theorem d_72_16 : decode prog_7_method_2_code 16 = .ok (.iconst 0, 1) := by decide +kernel
theorem d_72_17 : decode prog_7_method_2_code 17 = .ok (.invokevirtual 41, 3) := by decide +kernel
theorem d_72_20 : decode prog_7_method_2_code 20 = .ok (.aload_n 0, 1) := by decide +kernel
theorem d_72_21 : decode prog_7_method_2_code 21 = .ok (.getfield 31, 3) := by decide +kernel
theorem d_72_24 : decode prog_7_method_2_code 24 = .ok (.iconst 0, 1) := by decide +kernel
theorem d_72_25 : decode prog_7_method_2_code 25 = .ok (.invokevirtual 41, 3) := by decide +kernel
theorem d_72_28 : decode prog_7_method_2_code 28 = .ok (.aload_n 0, 1) := by decide +kernel
theorem d_72_29 : decode prog_7_method_2_code 29 = .ok (.getfield 34, 3) := by decide +kernel
theorem d_72_32 : decode prog_7_method_2_code 32 = .ok (.getfield 44, 3) := by decide +kernel
theorem d_72_35 : decode prog_7_method_2_code 35 = .ok (.iconst 0, 1) := by decide +kernel
theorem d_72_36 : decode prog_7_method_2_code 36 = .ok (.iaload, 1) := by decide +kernel
theorem d_72_37 : decode prog_7_method_2_code 37 = .ok (.bipush 7, 2) := by decide +kernel
theorem d_72_39 : decode prog_7_method_2_code 39 = .ok (.if_icmp .gt 24, 3) := by decide +kernel
theorem d_72_42 : decode prog_7_method_2_code 42 = .ok (.aload_n 0, 1) := by decide +kernel
theorem d_72_43 : decode prog_7_method_2_code 43 = .ok (.ldc 50, 2) := by decide +kernel
theorem d_72_45 : decode prog_7_method_2_code 45 = .ok (.invokevirtual 52, 3) := by decide +kernel
theorem d_72_48 : decode prog_7_method_2_code 48 = .ok (.aload_n 0, 1) := by decide +kernel
theorem d_72_49 : decode prog_7_method_2_code 49 = .ok (.iconst 0, 1) := by decide +kernel
theorem d_72_50 : decode prog_7_method_2_code 50 = .ok (.iconst 0, 1) := by decide +kernel
theorem d_72_51 : decode prog_7_method_2_code 51 = .ok (.invokevirtual 56, 3) := by decide +kernel
theorem d_72_54 : decode prog_7_method_2_code 54 = .ok (.aload_n 0, 1) := by decide +kernel
theorem d_72_55 : decode prog_7_method_2_code 55 = .ok (.bipush 93, 2) := by decide +kernel
theorem d_72_57 : decode prog_7_method_2_code 57 = .ok (.invokevirtual 60, 3) := by decide +kernel
theorem d_72_60 : decode prog_7_method_2_code 60 = .ok (.goto 10, 3) := by decide +kernel
theorem d_72_63 : decode prog_7_method_2_code 63 = .ok (.aload_n 0, 1) := by decide +kernel
theorem d_72_64 : decode prog_7_method_2_code 64 = .ok (.iconst 0, 1) := by decide +kernel
theorem d_72_65 : decode prog_7_method_2_code 65 = .ok (.iconst 0, 1) := by decide +kernel
theorem d_72_66 : decode prog_7_method_2_code 66 = .ok (.iconst 0, 1) := by decide +kernel
theorem d_72_67 : decode prog_7_method_2_code 67 = .ok (.invokevirtual 63, 3) := by decide +kernel
theorem d_72_70 : decode prog_7_method_2_code 70 = .ok (.return_, 1) := by decide +kernel
theorem d_73_0 : decode prog_7_method_19_code 0 = .ok (.iconst 0, 1) := by decide +kernel
theorem d_73_1 : decode prog_7_method_19_code 1 = .ok (.istore_n 2, 1) := by decide +kernel
theorem d_73_2 : decode prog_7_method_19_code 2 = .ok (.iload_n 2, 1) := by decide +kernel
theorem d_73_3 : decode prog_7_method_19_code 3 = .ok (.aload_n 1, 1) := by decide +kernel
theorem d_73_4 : decode prog_7_method_19_code 4 = .ok (.invokevirtual 180, 3) := by decide +kernel
theorem d_73_7 : decode prog_7_method_19_code 7 = .ok (.if_icmp .ge 18, 3) := by decide +kernel
theorem d_73_10 : decode prog_7_method_19_code 10 = .ok (.aload_n 0, 1) := by decide +kernel
theorem d_73_11 : decode prog_7_method_19_code 11 = .ok (.aload_n 1, 1) := by decide +kernel
theorem d_73_12 : decode prog_7_method_19_code 12 = .ok (.iload_n 2, 1) := by decide +kernel
theorem d_73_13 : decode prog_7_method_19_code 13 = .ok (.invokevirtual 186, 3) := by decide +kernel
theorem d_73_16 : decode prog_7_method_19_code 16 = .ok (.invokevirtual 60, 3) := by decide +kernel
theorem d_73_19 : decode prog_7_method_19_code 19 = .ok (.iinc 2 1, 3) := by decide +kernel
theorem d_73_22 : decode prog_7_method_19_code 22 = .ok (.goto (-20), 3) := by decide +kernel
theorem d_73_25 : decode prog_7_method_19_code 25 = .ok (.return_, 1) := by decide +kernel
theorem d_74_0 : decode prog_7_method_4_code 0 = .ok (.aload_n 0, 1) := by decide +kernel
theorem d_74_1 : decode prog_7_method_4_code 1 = .ok (.getfield 31, 3) := by decide +kernel
theorem d_74_4 : decode prog_7_method_4_code 4 = .ok (.iload_n 1, 1) := by decide +kernel
theorem d_74_5 : decode prog_7_method_4_code 5 = .ok (.invokevirtual 67, 3) := by decide +kernel
theorem d_74_8 : decode prog_7_method_4_code 8 = .ok (.ifCond .ne 11, 3) := by decide +kernel
theorem d_74_11 : decode prog_7_method_4_code 11 = .ok (.new 71, 3) := by decide +kernel
theorem d_74_14 : decode prog_7_method_4_code 14 = .ok (.dup, 1) := by decide +kernel
theorem d_74_15 : decode prog_7_method_4_code 15 = .ok (.invokespecial 73, 3) := by decide +kernel
theorem d_74_18 : decode prog_7_method_4_code 18 = .ok (.athrow, 1) := by decide +kernel
theorem d_74_19 : decode prog_7_method_4_code 19 = .ok (.return_, 1) := by decide +kernel
theorem d_75_0 : decode prog_7_method_11_code 0 = .ok (.aload_n 0, 1) := by decide +kernel
theorem d_75_1 : decode prog_7_method_11_code 1 = .ok (.getfield 34, 3) := by decide +kernel
theorem d_75_4 : decode prog_7_method_11_code 4 = .ok (.getfield 123, 3) := by decide +kernel
theorem d_75_7 : decode prog_7_method_11_code 7 = .ok (.iload_n 1, 1) := by decide +kernel
theorem d_75_8 : decode prog_7_method_11_code 8 = .ok (.laload, 1) := by decide +kernel
theorem d_75_9 : decode prog_7_method_11_code 9 = .ok (.lstore_n 3, 1) := by decide +kernel
theorem d_75_10 : decode prog_7_method_11_code 10 = .ok (.aload_n 0, 1) := by decide +kernel
theorem d_75_11 : decode prog_7_method_11_code 11 = .ok (.getfield 34, 3) := by decide +kernel
theorem d_75_14 : decode prog_7_method_11_code 14 = .ok (.getfield 44, 3) := by decide +kernel
theorem d_75_17 : decode prog_7_method_11_code 17 = .ok (.iload_n 1, 1) := by decide +kernel
theorem d_75_18 : decode prog_7_method_11_code 18 = .ok (.iaload, 1) := by decide +kernel
theorem d_75_19 : decode prog_7_method_11_code 19 = .ok (.istore 5, 2) := by decide +kernel
theorem d_75_21 : decode prog_7_method_11_code 21 = .ok (.lload_n 3, 1) := by decide +kernel
theorem d_75_22 : decode prog_7_method_11_code 22 = .ok (.ldc2_w 127, 3) := by decide +kernel
theorem d_75_25 : decode prog_7_method_11_code 25 = .ok (.lcmp, 1) := by decide +kernel
theorem d_75_26 : decode prog_7_method_11_code 26 = .ok (.ifCond .lt 15, 3) := by decide +kernel
theorem d_75_29 : decode prog_7_method_11_code 29 = .ok (.lload_n 3, 1) := by decide +kernel
theorem d_75_30 : decode prog_7_method_11_code 30 = .ok (.ldc2_w 129, 3) := by decide +kernel
theorem d_75_33 : decode prog_7_method_11_code 33 = .ok (.lcmp, 1) := by decide +kernel
theorem d_75_34 : decode prog_7_method_11_code 34 = .ok (.ifCond .gt 7, 3) := by decide +kernel
theorem d_75_37 : decode prog_7_method_11_code 37 = .ok (.iconst 1, 1) := by decide +kernel
theorem d_75_38 : decode prog_7_method_11_code 38 = .ok (.goto 4, 3) := by decide +kernel
theorem d_75_41 : decode prog_7_method_11_code 41 = .ok (.iconst 0, 1) := by decide +kernel
theorem d_75_42 : decode prog_7_method_11_code 42 = .ok (.istore 6, 2) := by decide +kernel
theorem d_75_44 : decode prog_7_method_11_code 44 = .ok (.iload 5, 2) := by decide +kernel
theorem d_75_46 : decode prog_7_method_11_code 46 = .ok (.ifCond .ne 16, 3) := by decide +kernel
theorem d_75_49 : decode prog_7_method_11_code 49 = .ok (.iload_n 2, 1) := by decide +kernel
theorem d_75_50 : decode prog_7_method_11_code 50 = .ok (.ifCond .ne 12, 3) := by decide +kernel
theorem d_75_53 : decode prog_7_method_11_code 53 = .ok (.aload_n 0, 1) := by decide +kernel
theorem d_75_54 : decode prog_7_method_11_code 54 = .ok (.ldc 131, 2) := by decide +kernel
theorem d_75_56 : decode prog_7_method_11_code 56 = .ok (.invokevirtual 52, 3) := by decide +kernel
theorem d_75_59 : decode prog_7_method_11_code 59 = .ok (.goto 80, 3) := by decide +kernel
theorem d_75_62 : decode prog_7_method_11_code 62 = .ok (.iload 5, 2) := by decide +kernel
theorem d_75_64 : decode prog_7_method_11_code 64 = .ok (.iconst 1, 1) := by decide +kernel
theorem d_75_65 : decode prog_7_method_11_code 65 = .ok (.if_icmp .ne 27, 3) := by decide +kernel
theorem d_75_68 : decode prog_7_method_11_code 68 = .ok (.iload_n 2, 1) := by decide +kernel
theorem d_75_69 : decode prog_7_method_11_code 69 = .ok (.ifCond .ne 23, 3) := by decide +kernel
theorem d_75_72 : decode prog_7_method_11_code 72 = .ok (.aload_n 0, 1) := by decide +kernel
theorem d_75_73 : decode prog_7_method_11_code 73 = .ok (.lload_n 3, 1) := by decide +kernel
theorem d_75_74 : decode prog_7_method_11_code 74 = .ok (.lconst 1, 1) := by decide +kernel
theorem d_75_75 : decode prog_7_method_11_code 75 = .ok (.lcmp, 1) := by decide +kernel
theorem d_75_76 : decode prog_7_method_11_code 76 = .ok (.ifCond .ne 8, 3) := by decide +kernel
theorem d_75_79 : decode prog_7_method_11_code 79 = .ok (.ldc 133, 2) := by decide +kernel
theorem d_75_81 : decode prog_7_method_11_code 81 = .ok (.goto 5, 3) := by decide +kernel
theorem d_75_84 : decode prog_7_method_11_code 84 = .ok (.ldc 135, 2) := by decide +kernel
theorem d_75_86 : decode prog_7_method_11_code 86 = .ok (.invokevirtual 52, 3) := by decide +kernel
theorem d_75_89 : decode prog_7_method_11_code 89 = .ok (.goto 50, 3) := by decide +kernel
theorem d_75_92 : decode prog_7_method_11_code 92 = .ok (.iload 5, 2) := by decide +kernel
theorem d_75_94 : decode prog_7_method_11_code 94 = .ok (.iconst 2, 1) := by decide +kernel
theorem d_75_95 : decode prog_7_method_11_code 95 = .ok (.if_icmp .ne 20, 3) := by decide +kernel
theorem d_75_98 : decode prog_7_method_11_code 98 = .ok (.iload_n 2, 1) := by decide +kernel
theorem d_75_99 : decode prog_7_method_11_code 99 = .ok (.ifCond .ne 16, 3) := by decide +kernel
theorem d_75_102 : decode prog_7_method_11_code 102 = .ok (.iload 6, 2) := by decide +kernel
theorem d_75_104 : decode prog_7_method_11_code 104 = .ok (.ifCond .eq 11, 3) := by decide +kernel
theorem d_75_107 : decode prog_7_method_11_code 107 = .ok (.aload_n 0, 1) := by decide +kernel
theorem d_75_108 : decode prog_7_method_11_code 108 = .ok (.lload_n 3, 1) := by decide +kernel
theorem d_75_109 : decode prog_7_method_11_code 109 = .ok (.invokevirtual 137, 3) := by decide +kernel
theorem d_75_112 : decode prog_7_method_11_code 112 = .ok (.goto 27, 3) := by decide +kernel
theorem d_75_115 : decode prog_7_method_11_code 115 = .ok (.aload_n 0, 1) := by decide +kernel
theorem d_75_116 : decode prog_7_method_11_code 116 = .ok (.getfield 23, 3) := by decide +kernel
theorem d_75_119 : decode prog_7_method_11_code 119 = .ok (.getfield 106, 3) := by decide +kernel
theorem d_75_122 : decode prog_7_method_11_code 122 = .ok (.istore 7, 2) := by decide +kernel
theorem d_75_124 : decode prog_7_method_11_code 124 = .ok (.aload_n 0, 1) := by decide +kernel
theorem d_75_125 : decode prog_7_method_11_code 125 = .ok (.iload_n 1, 1) := by decide +kernel
theorem d_75_126 : decode prog_7_method_11_code 126 = .ok (.iload 5, 2) := by decide +kernel
theorem d_75_128 : decode prog_7_method_11_code 128 = .ok (.lload_n 3, 1) := by decide +kernel
theorem d_75_129 : decode prog_7_method_11_code 129 = .ok (.invokevirtual 141, 3) := by decide +kernel
theorem d_75_132 : decode prog_7_method_11_code 132 = .ok (.aload_n 0, 1) := by decide +kernel
theorem d_75_133 : decode prog_7_method_11_code 133 = .ok (.iload 7, 2) := by decide +kernel
theorem d_75_135 : decode prog_7_method_11_code 135 = .ok (.iload_n 2, 1) := by decide +kernel
theorem d_75_136 : decode prog_7_method_11_code 136 = .ok (.invokevirtual 113, 3) := by decide +kernel
theorem d_75_139 : decode prog_7_method_11_code 139 = .ok (.return_, 1) := by decide +kernel
theorem d_76_0 : decode prog_7_method_17_code 0 = .ok (.aload_n 0, 1) := by decide +kernel
theorem d_76_1 : decode prog_7_method_17_code 1 = .ok (.lload_n 1, 1) := by decide +kernel
theorem d_76_2 : decode prog_7_method_17_code 2 = .ok (.invokevirtual 190, 3) := by decide +kernel
theorem d_76_5 : decode prog_7_method_17_code 5 = .ok (.istore_n 3, 1) := by decide +kernel
theorem d_76_6 : decode prog_7_method_17_code 6 = .ok (.iload_n 3, 1) := by decide +kernel
theorem d_76_7 : decode prog_7_method_17_code 7 = .ok (.istore 4, 2) := by decide +kernel
theorem d_76_9 : decode prog_7_method_17_code 9 = .ok (.iload 4, 2) := by decide +kernel
theorem d_76_11 : decode prog_7_method_17_code 11 = .ok (.bipush 20, 2) := by decide +kernel
theorem d_76_13 : decode prog_7_method_17_code 13 = .ok (.if_icmp .ge 20, 3) := by decide +kernel
theorem d_76_16 : decode prog_7_method_17_code 16 = .ok (.aload_n 0, 1) := by decide +kernel
theorem d_76_17 : decode prog_7_method_17_code 17 = .ok (.aload_n 0, 1) := by decide +kernel
theorem d_76_18 : decode prog_7_method_17_code 18 = .ok (.getfield 27, 3) := by decide +kernel
theorem d_76_21 : decode prog_7_method_17_code 21 = .ok (.iload 4, 2) := by decide +kernel
theorem d_76_23 : decode prog_7_method_17_code 23 = .ok (.caload, 1) := by decide +kernel
theorem d_76_24 : decode prog_7_method_17_code 24 = .ok (.invokevirtual 60, 3) := by decide +kernel
theorem d_76_27 : decode prog_7_method_17_code 27 = .ok (.iinc 4 1, 3) := by decide +kernel
theorem d_76_30 : decode prog_7_method_17_code 30 = .ok (.goto (-21), 3) := by decide +kernel
theorem d_76_33 : decode prog_7_method_17_code 33 = .ok (.return_, 1) := by decide +kernel
theorem d_77_0 : decode prog_7_method_18_code 0 = .ok (.lload_n 1, 1) := by decide +kernel
theorem d_77_1 : decode prog_7_method_18_code 1 = .ok (.lconst 0, 1) := by decide +kernel
theorem d_77_2 : decode prog_7_method_18_code 2 = .ok (.lcmp, 1) := by decide +kernel
theorem d_77_3 : decode prog_7_method_18_code 3 = .ok (.ifCond .ge 7, 3) := by decide +kernel
theorem d_77_6 : decode prog_7_method_18_code 6 = .ok (.lload_n 1, 1) := by decide +kernel
theorem d_77_7 : decode prog_7_method_18_code 7 = .ok (.goto 5, 3) := by decide +kernel
theorem d_77_10 : decode prog_7_method_18_code 10 = .ok (.lload_n 1, 1) := by decide +kernel
theorem d_77_11 : decode prog_7_method_18_code 11 = .ok (.lneg, 1) := by decide +kernel
theorem d_77_12 : decode prog_7_method_18_code 12 = .ok (.lstore_n 3, 1) := by decide +kernel
theorem d_77_13 : decode prog_7_method_18_code 13 = .ok (.bipush 20, 2) := by decide +kernel
theorem d_77_15 : decode prog_7_method_18_code 15 = .ok (.istore 5, 2) := by decide +kernel
theorem d_77_17 : decode prog_7_method_18_code 17 = .ok (.iinc 5 (-1), 3) := by decide +kernel
theorem d_77_20 : decode prog_7_method_18_code 20 = .ok (.aload_n 0, 1) := by decide +kernel
theorem d_77_21 : decode prog_7_method_18_code 21 = .ok (.getfield 27, 3) := by decide +kernel
theorem d_77_24 : decode prog_7_method_18_code 24 = .ok (.iload 5, 2) := by decide +kernel
theorem d_77_26 : decode prog_7_method_18_code 26 = .ok (.ldc2_w 194, 3) := by decide +kernel
theorem d_77_29 : decode prog_7_method_18_code 29 = .ok (.lload_n 3, 1) := by decide +kernel
theorem d_77_30 : decode prog_7_method_18_code 30 = .ok (.ldc2_w 196, 3) := by decide +kernel
theorem d_77_33 : decode prog_7_method_18_code 33 = .ok (.lrem, 1) := by decide +kernel
theorem d_77_34 : decode prog_7_method_18_code 34 = .ok (.lsub, 1) := by decide +kernel
theorem d_77_35 : decode prog_7_method_18_code 35 = .ok (.l2i, 1) := by decide +kernel
theorem d_77_36 : decode prog_7_method_18_code 36 = .ok (.i2c, 1) := by decide +kernel
theorem d_77_37 : decode prog_7_method_18_code 37 = .ok (.castore, 1) := by decide +kernel
theorem d_77_38 : decode prog_7_method_18_code 38 = .ok (.lload_n 3, 1) := by decide +kernel
theorem d_77_39 : decode prog_7_method_18_code 39 = .ok (.ldc2_w 196, 3) := by decide +kernel
theorem d_77_42 : decode prog_7_method_18_code 42 = .ok (.ldiv, 1) := by decide +kernel
theorem d_77_43 : decode prog_7_method_18_code 43 = .ok (.lstore_n 3, 1) := by decide +kernel
theorem d_77_44 : decode prog_7_method_18_code 44 = .ok (.lload_n 3, 1) := by decide +kernel
theorem d_77_45 : decode prog_7_method_18_code 45 = .ok (.lconst 0, 1) := by decide +kernel
theorem d_77_46 : decode prog_7_method_18_code 46 = .ok (.lcmp, 1) := by decide +kernel
theorem d_77_47 : decode prog_7_method_18_code 47 = .ok (.ifCond .eq 9, 3) := by decide +kernel
theorem d_77_50 : decode prog_7_method_18_code 50 = .ok (.iload 5, 2) := by decide +kernel
theorem d_77_52 : decode prog_7_method_18_code 52 = .ok (.iconst 1, 1) := by decide +kernel
theorem d_77_53 : decode prog_7_method_18_code 53 = .ok (.if_icmp .gt (-36), 3) := by decide +kernel
theorem d_77_56 : decode prog_7_method_18_code 56 = .ok (.lload_n 1, 1) := by decide +kernel
theorem d_77_57 : decode prog_7_method_18_code 57 = .ok (.lconst 0, 1) := by decide +kernel
theorem d_77_58 : decode prog_7_method_18_code 58 = .ok (.lcmp, 1) := by decide +kernel
theorem d_77_59 : decode prog_7_method_18_code 59 = .ok (.ifCond .ge 15, 3) := by decide +kernel
theorem d_77_62 : decode prog_7_method_18_code 62 = .ok (.iinc 5 (-1), 3) := by decide +kernel
theorem d_77_65 : decode prog_7_method_18_code 65 = .ok (.aload_n 0, 1) := by decide +kernel
theorem d_77_66 : decode prog_7_method_18_code 66 = .ok (.getfield 27, 3) := by decide +kernel
theorem d_77_69 : decode prog_7_method_18_code 69 = .ok (.iload 5, 2) := by decide +kernel
theorem d_77_71 : decode prog_7_method_18_code 71 = .ok (.bipush 45, 2) := by decide +kernel
theorem d_77_73 : decode prog_7_method_18_code 73 = .ok (.castore, 1) := by decide +kernel
theorem d_77_74 : decode prog_7_method_18_code 74 = .ok (.iload 5, 2) := by decide +kernel
theorem d_77_76 : decode prog_7_method_18_code 76 = .ok (.ireturn, 1) := by decide +kernel
theorem d_78_0 : decode prog_7_method_12_code 0 = .ok (.iload_n 2, 1) := by decide +kernel
theorem d_78_1 : decode prog_7_method_12_code 1 = .ok (.tableswitch 151 0 7 #[47, 56, 76, 90, 151, 104, 118, 132], 47) := by decide +kernel
theorem d_78_48 : decode prog_7_method_12_code 48 = .ok (.aload_n 0, 1) := by decide +kernel
theorem d_78_49 : decode prog_7_method_12_code 49 = .ok (.ldc 145, 2) := by decide +kernel
theorem d_78_51 : decode prog_7_method_12_code 51 = .ok (.invokevirtual 110, 3) := by decide +kernel
theorem d_78_54 : decode prog_7_method_12_code 54 = .ok (.goto 108, 3) := by decide +kernel
theorem d_78_57 : decode prog_7_method_12_code 57 = .ok (.aload_n 0, 1) := by decide +kernel
theorem d_78_58 : decode prog_7_method_12_code 58 = .ok (.lload_n 3, 1) := by decide +kernel
theorem d_78_59 : decode prog_7_method_12_code 59 = .ok (.lconst 1, 1) := by decide +kernel
theorem d_78_60 : decode prog_7_method_12_code 60 = .ok (.lcmp, 1) := by decide +kernel
theorem d_78_61 : decode prog_7_method_12_code 61 = .ok (.ifCond .ne 8, 3) := by decide +kernel
theorem d_78_64 : decode prog_7_method_12_code 64 = .ok (.ldc 147, 2) := by decide +kernel
theorem d_78_66 : decode prog_7_method_12_code 66 = .ok (.goto 5, 3) := by decide +kernel
theorem d_78_69 : decode prog_7_method_12_code 69 = .ok (.ldc 149, 2) := by decide +kernel
theorem d_78_71 : decode prog_7_method_12_code 71 = .ok (.invokevirtual 110, 3) := by decide +kernel
theorem d_78_74 : decode prog_7_method_12_code 74 = .ok (.goto 88, 3) := by decide +kernel
theorem d_78_77 : decode prog_7_method_12_code 77 = .ok (.aload_n 0, 1) := by decide +kernel
theorem d_78_78 : decode prog_7_method_12_code 78 = .ok (.ldc 151, 2) := by decide +kernel
theorem d_78_80 : decode prog_7_method_12_code 80 = .ok (.invokevirtual 110, 3) := by decide +kernel
theorem d_78_83 : decode prog_7_method_12_code 83 = .ok (.aload_n 0, 1) := by decide +kernel
theorem d_78_84 : decode prog_7_method_12_code 84 = .ok (.lload_n 3, 1) := by decide +kernel
theorem d_78_85 : decode prog_7_method_12_code 85 = .ok (.invokevirtual 153, 3) := by decide +kernel
theorem d_78_88 : decode prog_7_method_12_code 88 = .ok (.goto 74, 3) := by decide +kernel
theorem d_78_91 : decode prog_7_method_12_code 91 = .ok (.aload_n 0, 1) := by decide +kernel
theorem d_78_92 : decode prog_7_method_12_code 92 = .ok (.ldc 156, 2) := by decide +kernel
theorem d_78_94 : decode prog_7_method_12_code 94 = .ok (.invokevirtual 110, 3) := by decide +kernel
theorem d_78_97 : decode prog_7_method_12_code 97 = .ok (.aload_n 0, 1) := by decide +kernel
theorem d_78_98 : decode prog_7_method_12_code 98 = .ok (.lload_n 3, 1) := by decide +kernel
theorem d_78_99 : decode prog_7_method_12_code 99 = .ok (.invokevirtual 153, 3) := by decide +kernel
theorem d_78_102 : decode prog_7_method_12_code 102 = .ok (.goto 60, 3) := by decide +kernel
theorem d_78_105 : decode prog_7_method_12_code 105 = .ok (.aload_n 0, 1) := by decide +kernel
theorem d_78_106 : decode prog_7_method_12_code 106 = .ok (.ldc 158, 2) := by decide +kernel
theorem d_78_108 : decode prog_7_method_12_code 108 = .ok (.invokevirtual 110, 3) := by decide +kernel
theorem d_78_111 : decode prog_7_method_12_code 111 = .ok (.aload_n 0, 1) := by decide +kernel
theorem d_78_112 : decode prog_7_method_12_code 112 = .ok (.iload_n 1, 1) := by decide +kernel
theorem d_78_113 : decode prog_7_method_12_code 113 = .ok (.invokevirtual 120, 3) := by decide +kernel
theorem d_78_116 : decode prog_7_method_12_code 116 = .ok (.goto 46, 3) := by decide +kernel
theorem d_78_119 : decode prog_7_method_12_code 119 = .ok (.aload_n 0, 1) := by decide +kernel
theorem d_78_120 : decode prog_7_method_12_code 120 = .ok (.ldc 160, 2) := by decide +kernel
theorem d_78_122 : decode prog_7_method_12_code 122 = .ok (.invokevirtual 110, 3) := by decide +kernel
theorem d_78_125 : decode prog_7_method_12_code 125 = .ok (.aload_n 0, 1) := by decide +kernel
theorem d_78_126 : decode prog_7_method_12_code 126 = .ok (.iload_n 1, 1) := by decide +kernel
theorem d_78_127 : decode prog_7_method_12_code 127 = .ok (.invokevirtual 120, 3) := by decide +kernel
theorem d_78_130 : decode prog_7_method_12_code 130 = .ok (.goto 32, 3) := by decide +kernel
theorem d_78_133 : decode prog_7_method_12_code 133 = .ok (.aload_n 0, 1) := by decide +kernel
theorem d_78_134 : decode prog_7_method_12_code 134 = .ok (.ldc 162, 2) := by decide +kernel
theorem d_78_136 : decode prog_7_method_12_code 136 = .ok (.invokevirtual 110, 3) := by decide +kernel
theorem d_78_139 : decode prog_7_method_12_code 139 = .ok (.aload_n 0, 1) := by decide +kernel
theorem d_78_140 : decode prog_7_method_12_code 140 = .ok (.getfield 23, 3) := by decide +kernel
theorem d_78_143 : decode prog_7_method_12_code 143 = .ok (.lload_n 3, 1) := by decide +kernel
theorem d_78_144 : decode prog_7_method_12_code 144 = .ok (.l2i, 1) := by decide +kernel
theorem d_78_145 : decode prog_7_method_12_code 145 = .ok (.invokevirtual 67, 3) := by decide +kernel
theorem d_78_148 : decode prog_7_method_12_code 148 = .ok (.pop, 1) := by decide +kernel
theorem d_78_149 : decode prog_7_method_12_code 149 = .ok (.goto 13, 3) := by decide +kernel
theorem d_78_152 : decode prog_7_method_12_code 152 = .ok (.aload_n 0, 1) := by decide +kernel
theorem d_78_153 : decode prog_7_method_12_code 153 = .ok (.iload_n 1, 1) := by decide +kernel
theorem d_78_154 : decode prog_7_method_12_code 154 = .ok (.invokevirtual 164, 3) := by decide +kernel
theorem d_78_157 : decode prog_7_method_12_code 157 = .ok (.aload_n 0, 1) := by decide +kernel
theorem d_78_158 : decode prog_7_method_12_code 158 = .ok (.iload_n 1, 1) := by decide +kernel
theorem d_78_159 : decode prog_7_method_12_code 159 = .ok (.invokevirtual 120, 3) := by decide +kernel
theorem d_78_162 : decode prog_7_method_12_code 162 = .ok (.return_, 1) := by decide +kernel
theorem d_79_0 : decode prog_7_method_14_code 0 = .ok (.iconst 0, 1) := by decide +kernel
theorem d_79_1 : decode prog_7_method_14_code 1 = .ok (.istore_n 2, 1) := by decide +kernel
theorem d_79_2 : decode prog_7_method_14_code 2 = .ok (.iload_n 2, 1) := by decide +kernel
theorem d_79_3 : decode prog_7_method_14_code 3 = .ok (.aload_n 1, 1) := by decide +kernel
theorem d_79_4 : decode prog_7_method_14_code 4 = .ok (.invokevirtual 180, 3) := by decide +kernel
theorem d_79_7 : decode prog_7_method_14_code 7 = .ok (.if_icmp .ge 22, 3) := by decide +kernel
theorem d_79_10 : decode prog_7_method_14_code 10 = .ok (.aload_n 0, 1) := by decide +kernel
theorem d_79_11 : decode prog_7_method_14_code 11 = .ok (.getfield 23, 3) := by decide +kernel
theorem d_79_14 : decode prog_7_method_14_code 14 = .ok (.aload_n 1, 1) := by decide +kernel
theorem d_79_15 : decode prog_7_method_14_code 15 = .ok (.iload_n 2, 1) := by decide +kernel
theorem d_79_16 : decode prog_7_method_14_code 16 = .ok (.invokevirtual 186, 3) := by decide +kernel
theorem d_79_19 : decode prog_7_method_14_code 19 = .ok (.invokevirtual 67, 3) := by decide +kernel
theorem d_79_22 : decode prog_7_method_14_code 22 = .ok (.pop, 1) := by decide +kernel
theorem d_79_23 : decode prog_7_method_14_code 23 = .ok (.iinc 2 1, 3) := by decide +kernel
theorem d_79_26 : decode prog_7_method_14_code 26 = .ok (.goto (-24), 3) := by decide +kernel
theorem d_79_29 : decode prog_7_method_14_code 29 = .ok (.return_, 1) := by decide +kernel
theorem d_80_0 : decode prog_7_method_16_code 0 = .ok (.aload_n 0, 1) := by decide +kernel
theorem d_80_1 : decode prog_7_method_16_code 1 = .ok (.lload_n 1, 1) := by decide +kernel
theorem d_80_2 : decode prog_7_method_16_code 2 = .ok (.invokevirtual 190, 3) := by decide +kernel
theorem d_80_5 : decode prog_7_method_16_code 5 = .ok (.istore_n 3, 1) := by decide +kernel
theorem d_80_6 : decode prog_7_method_16_code 6 = .ok (.iload_n 3, 1) := by decide +kernel
theorem d_80_7 : decode prog_7_method_16_code 7 = .ok (.istore 4, 2) := by decide +kernel
theorem d_80_9 : decode prog_7_method_16_code 9 = .ok (.iload 4, 2) := by decide +kernel
theorem d_80_11 : decode prog_7_method_16_code 11 = .ok (.bipush 20, 2) := by decide +kernel
theorem d_80_13 : decode prog_7_method_16_code 13 = .ok (.if_icmp .ge 24, 3) := by decide +kernel
theorem d_80_16 : decode prog_7_method_16_code 16 = .ok (.aload_n 0, 1) := by decide +kernel
theorem d_80_17 : decode prog_7_method_16_code 17 = .ok (.getfield 23, 3) := by decide +kernel
theorem d_80_20 : decode prog_7_method_16_code 20 = .ok (.aload_n 0, 1) := by decide +kernel
theorem d_80_21 : decode prog_7_method_16_code 21 = .ok (.getfield 27, 3) := by decide +kernel
theorem d_80_24 : decode prog_7_method_16_code 24 = .ok (.iload 4, 2) := by decide +kernel
theorem d_80_26 : decode prog_7_method_16_code 26 = .ok (.caload, 1) := by decide +kernel
theorem d_80_27 : decode prog_7_method_16_code 27 = .ok (.invokevirtual 67, 3) := by decide +kernel
theorem d_80_30 : decode prog_7_method_16_code 30 = .ok (.pop, 1) := by decide +kernel
theorem d_80_31 : decode prog_7_method_16_code 31 = .ok (.iinc 4 1, 3) := by decide +kernel
theorem d_80_34 : decode prog_7_method_16_code 34 = .ok (.goto (-25), 3) := by decide +kernel
theorem d_80_37 : decode prog_7_method_16_code 37 = .ok (.return_, 1) := by decide +kernel
theorem d_81_0 : decode prog_7_method_15_code 0 = .ok (.iconst 0, 1) := by decide +kernel
theorem d_81_1 : decode prog_7_method_15_code 1 = .ok (.istore_n 2, 1) := by decide +kernel
theorem d_81_2 : decode prog_7_method_15_code 2 = .ok (.iload_n 2, 1) := by decide +kernel
theorem d_81_3 : decode prog_7_method_15_code 3 = .ok (.aload_n 0, 1) := by decide +kernel
theorem d_81_4 : decode prog_7_method_15_code 4 = .ok (.getfield 34, 3) := by decide +kernel
theorem d_81_7 : decode prog_7_method_15_code 7 = .ok (.getfield 167, 3) := by decide +kernel
theorem d_81_10 : decode prog_7_method_15_code 10 = .ok (.iload_n 1, 1) := by decide +kernel
theorem d_81_11 : decode prog_7_method_15_code 11 = .ok (.iaload, 1) := by decide +kernel
theorem d_81_12 : decode prog_7_method_15_code 12 = .ok (.if_icmp .ge 38, 3) := by decide +kernel
theorem d_81_15 : decode prog_7_method_15_code 15 = .ok (.aload_n 0, 1) := by decide +kernel
theorem d_81_16 : decode prog_7_method_15_code 16 = .ok (.getfield 23, 3) := by decide +kernel
theorem d_81_19 : decode prog_7_method_15_code 19 = .ok (.aload_n 0, 1) := by decide +kernel
theorem d_81_20 : decode prog_7_method_15_code 20 = .ok (.getfield 34, 3) := by decide +kernel
theorem d_81_23 : decode prog_7_method_15_code 23 = .ok (.getfield 170, 3) := by decide +kernel
theorem d_81_26 : decode prog_7_method_15_code 26 = .ok (.aload_n 0, 1) := by decide +kernel
theorem d_81_27 : decode prog_7_method_15_code 27 = .ok (.getfield 34, 3) := by decide +kernel
theorem d_81_30 : decode prog_7_method_15_code 30 = .ok (.getfield 173, 3) := by decide +kernel
theorem d_81_33 : decode prog_7_method_15_code 33 = .ok (.iload_n 1, 1) := by decide +kernel
theorem d_81_34 : decode prog_7_method_15_code 34 = .ok (.iaload, 1) := by decide +kernel
theorem d_81_35 : decode prog_7_method_15_code 35 = .ok (.iload_n 2, 1) := by decide +kernel
theorem d_81_36 : decode prog_7_method_15_code 36 = .ok (.iadd, 1) := by decide +kernel
theorem d_81_37 : decode prog_7_method_15_code 37 = .ok (.invokevirtual 176, 3) := by decide +kernel
theorem d_81_40 : decode prog_7_method_15_code 40 = .ok (.invokevirtual 67, 3) := by decide +kernel
theorem d_81_43 : decode prog_7_method_15_code 43 = .ok (.pop, 1) := by decide +kernel
theorem d_81_44 : decode prog_7_method_15_code 44 = .ok (.iinc 2 1, 3) := by decide +kernel
theorem d_81_47 : decode prog_7_method_15_code 47 = .ok (.goto (-45), 3) := by decide +kernel
theorem d_81_50 : decode prog_7_method_15_code 50 = .ok (.return_, 1) := by decide +kernel
theorem d_82_0 : decode prog_7_method_13_code 0 = .ok (.aload_n 0, 1) := by decide +kernel
theorem d_82_1 : decode prog_7_method_13_code 1 = .ok (.getfield 34, 3) := by decide +kernel
theorem d_82_4 : decode prog_7_method_13_code 4 = .ok (.getfield 167, 3) := by decide +kernel
theorem d_82_7 : decode prog_7_method_13_code 7 = .ok (.iload_n 1, 1) := by decide +kernel
theorem d_82_8 : decode prog_7_method_13_code 8 = .ok (.iaload, 1) := by decide +kernel
theorem d_82_9 : decode prog_7_method_13_code 9 = .ok (.ifCond .ne 4, 3) := by decide +kernel
theorem d_82_12 : decode prog_7_method_13_code 12 = .ok (.return_, 1) := by decide +kernel
theorem d_82_13 : decode prog_7_method_13_code 13 = .ok (.aload_n 0, 1) := by decide +kernel
theorem d_82_14 : decode prog_7_method_13_code 14 = .ok (.getfield 34, 3) := by decide +kernel
theorem d_82_17 : decode prog_7_method_13_code 17 = .ok (.getfield 170, 3) := by decide +kernel
theorem d_82_20 : decode prog_7_method_13_code 20 = .ok (.aload_n 0, 1) := by decide +kernel
theorem d_82_21 : decode prog_7_method_13_code 21 = .ok (.getfield 34, 3) := by decide +kernel
theorem d_82_24 : decode prog_7_method_13_code 24 = .ok (.getfield 173, 3) := by decide +kernel
theorem d_82_27 : decode prog_7_method_13_code 27 = .ok (.iload_n 1, 1) := by decide +kernel
theorem d_82_28 : decode prog_7_method_13_code 28 = .ok (.iaload, 1) := by decide +kernel
theorem d_82_29 : decode prog_7_method_13_code 29 = .ok (.invokevirtual 176, 3) := by decide +kernel
theorem d_82_32 : decode prog_7_method_13_code 32 = .ok (.istore_n 2, 1) := by decide +kernel
theorem d_82_33 : decode prog_7_method_13_code 33 = .ok (.iload_n 2, 1) := by decide +kernel
theorem d_82_34 : decode prog_7_method_13_code 34 = .ok (.bipush 126, 2) := by decide +kernel
theorem d_82_36 : decode prog_7_method_13_code 36 = .ok (.if_icmp .eq 15, 3) := by decide +kernel
theorem d_82_39 : decode prog_7_method_13_code 39 = .ok (.iload_n 2, 1) := by decide +kernel
theorem d_82_40 : decode prog_7_method_13_code 40 = .ok (.bipush 94, 2) := by decide +kernel
theorem d_82_42 : decode prog_7_method_13_code 42 = .ok (.if_icmp .eq 9, 3) := by decide +kernel
theorem d_82_45 : decode prog_7_method_13_code 45 = .ok (.iload_n 2, 1) := by decide +kernel
theorem d_82_46 : decode prog_7_method_13_code 46 = .ok (.bipush 96, 2) := by decide +kernel
theorem d_82_48 : decode prog_7_method_13_code 48 = .ok (.if_icmp .ne 13, 3) := by decide +kernel
theorem d_82_51 : decode prog_7_method_13_code 51 = .ok (.aload_n 0, 1) := by decide +kernel
theorem d_82_52 : decode prog_7_method_13_code 52 = .ok (.getfield 23, 3) := by decide +kernel
theorem d_82_55 : decode prog_7_method_13_code 55 = .ok (.bipush 126, 2) := by decide +kernel
theorem d_82_57 : decode prog_7_method_13_code 57 = .ok (.invokevirtual 67, 3) := by decide +kernel
theorem d_82_60 : decode prog_7_method_13_code 60 = .ok (.pop, 1) := by decide +kernel
theorem d_82_61 : decode prog_7_method_13_code 61 = .ok (.return_, 1) := by decide +kernel
theorem d_83_0 : decode prog_7_method_20_code 0 = .ok (.aload_n 0, 1) := by decide +kernel
theorem d_83_1 : decode prog_7_method_20_code 1 = .ok (.getfield 23, 3) := by decide +kernel
theorem d_83_4 : decode prog_7_method_20_code 4 = .ok (.getfield 106, 3) := by decide +kernel
theorem d_83_7 : decode prog_7_method_20_code 7 = .ok (.iload_n 1, 1) := by decide +kernel
theorem d_83_8 : decode prog_7_method_20_code 8 = .ok (.isub, 1) := by decide +kernel
theorem d_83_9 : decode prog_7_method_20_code 9 = .ok (.istore_n 3, 1) := by decide +kernel
theorem d_83_10 : decode prog_7_method_20_code 10 = .ok (.aload_n 0, 1) := by decide +kernel
theorem d_83_11 : decode prog_7_method_20_code 11 = .ok (.getfield 23, 3) := by decide +kernel
theorem d_83_14 : decode prog_7_method_20_code 14 = .ok (.iload_n 1, 1) := by decide +kernel
theorem d_83_15 : decode prog_7_method_20_code 15 = .ok (.iload_n 3, 1) := by decide +kernel
theorem d_83_16 : decode prog_7_method_20_code 16 = .ok (.iload_n 2, 1) := by decide +kernel
theorem d_83_17 : decode prog_7_method_20_code 17 = .ok (.invokestatic 198, 3) := by decide +kernel
theorem d_83_20 : decode prog_7_method_20_code 20 = .ok (.istore 4, 2) := by decide +kernel
theorem d_83_22 : decode prog_7_method_20_code 22 = .ok (.iload 4, 2) := by decide +kernel
theorem d_83_24 : decode prog_7_method_20_code 24 = .ok (.ifCond .eq 19, 3) := by decide +kernel
theorem d_83_27 : decode prog_7_method_20_code 27 = .ok (.aload_n 0, 1) := by decide +kernel
theorem d_83_28 : decode prog_7_method_20_code 28 = .ok (.getfield 12, 3) := by decide +kernel
theorem d_83_31 : decode prog_7_method_20_code 31 = .ok (.aload_n 0, 1) := by decide +kernel
theorem d_83_32 : decode prog_7_method_20_code 32 = .ok (.getfield 23, 3) := by decide +kernel
theorem d_83_35 : decode prog_7_method_20_code 35 = .ok (.iload_n 1, 1) := by decide +kernel
theorem d_83_36 : decode prog_7_method_20_code 36 = .ok (.iload_n 3, 1) := by decide +kernel
theorem d_83_37 : decode prog_7_method_20_code 37 = .ok (.invokevirtual 202, 3) := by decide +kernel
theorem d_83_40 : decode prog_7_method_20_code 40 = .ok (.goto 4, 3) := by decide +kernel
theorem d_83_43 : decode prog_7_method_20_code 43 = .ok (.iconst (-1), 1) := by decide +kernel
theorem d_83_44 : decode prog_7_method_20_code 44 = .ok (.istore 5, 2) := by decide +kernel
theorem d_83_46 : decode prog_7_method_20_code 46 = .ok (.aload_n 0, 1) := by decide +kernel
theorem d_83_47 : decode prog_7_method_20_code 47 = .ok (.bipush 34, 2) := by decide +kernel
theorem d_83_49 : decode prog_7_method_20_code 49 = .ok (.invokevirtual 60, 3) := by decide +kernel
theorem d_83_52 : decode prog_7_method_20_code 52 = .ok (.iload 5, 2) := by decide +kernel
theorem d_83_54 : decode prog_7_method_20_code 54 = .ok (.iconst (-1), 1) := by decide +kernel
theorem d_83_55 : decode prog_7_method_20_code 55 = .ok (.if_icmp .ne 11, 3) := by decide +kernel
theorem d_83_58 : decode prog_7_method_20_code 58 = .ok (.aload_n 0, 1) := by decide +kernel
theorem d_83_59 : decode prog_7_method_20_code 59 = .ok (.iload_n 1, 1) := by decide +kernel
theorem d_83_60 : decode prog_7_method_20_code 60 = .ok (.invokevirtual 206, 3) := by decide +kernel
theorem d_83_63 : decode prog_7_method_20_code 63 = .ok (.goto 9, 3) := by decide +kernel
theorem d_83_66 : decode prog_7_method_20_code 66 = .ok (.aload_n 0, 1) := by decide +kernel
theorem d_83_67 : decode prog_7_method_20_code 67 = .ok (.iload 5, 2) := by decide +kernel
theorem d_83_69 : decode prog_7_method_20_code 69 = .ok (.invokevirtual 209, 3) := by decide +kernel
theorem d_83_72 : decode prog_7_method_20_code 72 = .ok (.aload_n 0, 1) := by decide +kernel
theorem d_83_73 : decode prog_7_method_20_code 73 = .ok (.bipush 34, 2) := by decide +kernel
theorem d_83_75 : decode prog_7_method_20_code 75 = .ok (.invokevirtual 60, 3) := by decide +kernel
theorem d_83_78 : decode prog_7_method_20_code 78 = .ok (.iload 4, 2) := by decide +kernel
theorem d_83_80 : decode prog_7_method_20_code 80 = .ok (.ifCond .eq 21, 3) := by decide +kernel
theorem d_83_83 : decode prog_7_method_20_code 83 = .ok (.iload 5, 2) := by decide +kernel
theorem d_83_85 : decode prog_7_method_20_code 85 = .ok (.iconst (-1), 1) := by decide +kernel
theorem d_83_86 : decode prog_7_method_20_code 86 = .ok (.if_icmp .ne 15, 3) := by decide +kernel
theorem d_83_89 : decode prog_7_method_20_code 89 = .ok (.aload_n 0, 1) := by decide +kernel
theorem d_83_90 : decode prog_7_method_20_code 90 = .ok (.getfield 12, 3) := by decide +kernel
theorem d_83_93 : decode prog_7_method_20_code 93 = .ok (.iload_n 1, 1) := by decide +kernel
theorem d_83_94 : decode prog_7_method_20_code 94 = .ok (.iload_n 3, 1) := by decide +kernel
theorem d_83_95 : decode prog_7_method_20_code 95 = .ok (.invokevirtual 212, 3) := by decide +kernel
theorem d_83_98 : decode prog_7_method_20_code 98 = .ok (.goto 11, 3) := by decide +kernel
theorem d_83_101 : decode prog_7_method_20_code 101 = .ok (.aload_n 0, 1) := by decide +kernel
theorem d_83_102 : decode prog_7_method_20_code 102 = .ok (.getfield 23, 3) := by decide +kernel
theorem d_83_105 : decode prog_7_method_20_code 105 = .ok (.iload_n 1, 1) := by decide +kernel
theorem d_83_106 : decode prog_7_method_20_code 106 = .ok (.invokevirtual 41, 3) := by decide +kernel
theorem d_83_109 : decode prog_7_method_20_code 109 = .ok (.return_, 1) := by decide +kernel
theorem d_84_0 : decode prog_3_method_4_code 0 = .ok (.iconst 0, 1) := by decide +kernel
theorem d_84_1 : decode prog_3_method_4_code 1 = .ok (.istore 4, 2) := by decide +kernel
theorem d_84_3 : decode prog_3_method_4_code 3 = .ok (.iload 4, 2) := by decide +kernel
theorem d_84_5 : decode prog_3_method_4_code 5 = .ok (.aload_n 0, 1) := by decide +kernel
theorem d_84_6 : decode prog_3_method_4_code 6 = .ok (.getfield 18, 3) := by decide +kernel
theorem d_84_9 : decode prog_3_method_4_code 9 = .ok (.if_icmp .ge 40, 3) := by decide +kernel
theorem d_84_12 : decode prog_3_method_4_code 12 = .ok (.aload_n 0, 1) := by decide +kernel
theorem d_84_13 : decode prog_3_method_4_code 13 = .ok (.getfield 15, 3) := by decide +kernel
theorem d_84_16 : decode prog_3_method_4_code 16 = .ok (.iload 4, 2) := by decide +kernel
theorem d_84_18 : decode prog_3_method_4_code 18 = .ok (.iaload, 1) := by decide +kernel
theorem d_84_19 : decode prog_3_method_4_code 19 = .ok (.iload_n 3, 1) := by decide +kernel
theorem d_84_20 : decode prog_3_method_4_code 20 = .ok (.if_icmp .ne 23, 3) := by decide +kernel
theorem d_84_23 : decode prog_3_method_4_code 23 = .ok (.aload_n 1, 1) := by decide +kernel
theorem d_84_24 : decode prog_3_method_4_code 24 = .ok (.aload_n 0, 1) := by decide +kernel
theorem d_84_25 : decode prog_3_method_4_code 25 = .ok (.getfield 9, 3) := by decide +kernel
theorem d_84_28 : decode prog_3_method_4_code 28 = .ok (.iload 4, 2) := by decide +kernel
theorem d_84_30 : decode prog_3_method_4_code 30 = .ok (.iaload, 1) := by decide +kernel
theorem d_84_31 : decode prog_3_method_4_code 31 = .ok (.aload_n 1, 1) := by decide +kernel
theorem d_84_32 : decode prog_3_method_4_code 32 = .ok (.iload_n 2, 1) := by decide +kernel
theorem d_84_33 : decode prog_3_method_4_code 33 = .ok (.iload_n 3, 1) := by decide +kernel
theorem d_84_34 : decode prog_3_method_4_code 34 = .ok (.invokevirtual 25, 3) := by decide +kernel
theorem d_84_37 : decode prog_3_method_4_code 37 = .ok (.ifCond .eq 6, 3) := by decide +kernel
theorem d_84_40 : decode prog_3_method_4_code 40 = .ok (.iload 4, 2) := by decide +kernel
theorem d_84_42 : decode prog_3_method_4_code 42 = .ok (.ireturn, 1) := by decide +kernel
theorem d_84_43 : decode prog_3_method_4_code 43 = .ok (.iinc 4 1, 3) := by decide +kernel
theorem d_84_46 : decode prog_3_method_4_code 46 = .ok (.goto (-43), 3) := by decide +kernel
theorem d_84_49 : decode prog_3_method_4_code 49 = .ok (.iconst (-1), 1) := by decide +kernel
theorem d_84_50 : decode prog_3_method_4_code 50 = .ok (.ireturn, 1) := by decide +kernel
theorem d_85_0 : decode prog_7_method_21_code 0 = .ok (.iload_n 1, 1) := by decide +kernel
theorem d_85_1 : decode prog_7_method_21_code 1 = .ok (.istore_n 2, 1) := by decide +kernel
theorem d_85_2 : decode prog_7_method_21_code 2 = .ok (.iload_n 2, 1) := by decide +kernel
theorem d_85_3 : decode prog_7_method_21_code 3 = .ok (.aload_n 0, 1) := by decide +kernel
theorem d_85_4 : decode prog_7_method_21_code 4 = .ok (.getfield 23, 3) := by decide +kernel
theorem d_85_7 : decode prog_7_method_21_code 7 = .ok (.getfield 106, 3) := by decide +kernel
theorem d_85_10 : decode prog_7_method_21_code 10 = .ok (.if_icmp .ge 41, 3) := by decide +kernel
theorem d_85_13 : decode prog_7_method_21_code 13 = .ok (.aload_n 0, 1) := by decide +kernel
theorem d_85_14 : decode prog_7_method_21_code 14 = .ok (.getfield 23, 3) := by decide +kernel
theorem d_85_17 : decode prog_7_method_21_code 17 = .ok (.iload_n 2, 1) := by decide +kernel
theorem d_85_18 : decode prog_7_method_21_code 18 = .ok (.invokevirtual 176, 3) := by decide +kernel
theorem d_85_21 : decode prog_7_method_21_code 21 = .ok (.istore_n 3, 1) := by decide +kernel
theorem d_85_22 : decode prog_7_method_21_code 22 = .ok (.iload_n 3, 1) := by decide +kernel
theorem d_85_23 : decode prog_7_method_21_code 23 = .ok (.bipush 34, 2) := by decide +kernel
theorem d_85_25 : decode prog_7_method_21_code 25 = .ok (.if_icmp .eq 9, 3) := by decide +kernel
theorem d_85_28 : decode prog_7_method_21_code 28 = .ok (.iload_n 3, 1) := by decide +kernel
theorem d_85_29 : decode prog_7_method_21_code 29 = .ok (.bipush 92, 2) := by decide +kernel
theorem d_85_31 : decode prog_7_method_21_code 31 = .ok (.if_icmp .ne 9, 3) := by decide +kernel
theorem d_85_34 : decode prog_7_method_21_code 34 = .ok (.aload_n 0, 1) := by decide +kernel
theorem d_85_35 : decode prog_7_method_21_code 35 = .ok (.bipush 92, 2) := by decide +kernel
theorem d_85_37 : decode prog_7_method_21_code 37 = .ok (.invokevirtual 60, 3) := by decide +kernel
theorem d_85_40 : decode prog_7_method_21_code 40 = .ok (.aload_n 0, 1) := by decide +kernel
theorem d_85_41 : decode prog_7_method_21_code 41 = .ok (.iload_n 3, 1) := by decide +kernel
theorem d_85_42 : decode prog_7_method_21_code 42 = .ok (.invokevirtual 60, 3) := by decide +kernel
theorem d_85_45 : decode prog_7_method_21_code 45 = .ok (.iinc 2 1, 3) := by decide +kernel
theorem d_85_48 : decode prog_7_method_21_code 48 = .ok (.goto (-46), 3) := by decide +kernel
theorem d_85_51 : decode prog_7_method_21_code 51 = .ok (.return_, 1) := by decide +kernel
theorem d_86_0 : decode prog_7_method_22_code 0 = .ok (.aload_n 0, 1) := by decide +kernel
theorem d_86_1 : decode prog_7_method_22_code 1 = .ok (.bipush 94, 2) := by decide +kernel
theorem d_86_3 : decode prog_7_method_22_code 3 = .ok (.invokevirtual 60, 3) := by decide +kernel
theorem d_86_6 : decode prog_7_method_22_code 6 = .ok (.iload_n 1, 1) := by decide +kernel
theorem d_86_7 : decode prog_7_method_22_code 7 = .ok (.bipush 6, 2) := by decide +kernel
theorem d_86_9 : decode prog_7_method_22_code 9 = .ok (.if_icmp .lt 14, 3) := by decide +kernel
theorem d_86_12 : decode prog_7_method_22_code 12 = .ok (.aload_n 0, 1) := by decide +kernel
theorem d_86_13 : decode prog_7_method_22_code 13 = .ok (.bipush 48, 2) := by decide +kernel
theorem d_86_15 : decode prog_7_method_22_code 15 = .ok (.iload_n 1, 1) := by decide +kernel
theorem d_86_16 : decode prog_7_method_22_code 16 = .ok (.bipush 6, 2) := by decide +kernel
theorem d_86_18 : decode prog_7_method_22_code 18 = .ok (.idiv, 1) := by decide +kernel
theorem d_86_19 : decode prog_7_method_22_code 19 = .ok (.iadd, 1) := by decide +kernel
theorem d_86_20 : decode prog_7_method_22_code 20 = .ok (.invokevirtual 60, 3) := by decide +kernel
theorem d_86_23 : decode prog_7_method_22_code 23 = .ok (.aload_n 0, 1) := by decide +kernel
theorem d_86_24 : decode prog_7_method_22_code 24 = .ok (.bipush 48, 2) := by decide +kernel
theorem d_86_26 : decode prog_7_method_22_code 26 = .ok (.iload_n 1, 1) := by decide +kernel
theorem d_86_27 : decode prog_7_method_22_code 27 = .ok (.bipush 6, 2) := by decide +kernel
theorem d_86_29 : decode prog_7_method_22_code 29 = .ok (.irem, 1) := by decide +kernel
theorem d_86_30 : decode prog_7_method_22_code 30 = .ok (.iadd, 1) := by decide +kernel
theorem d_86_31 : decode prog_7_method_22_code 31 = .ok (.invokevirtual 60, 3) := by decide +kernel
theorem d_86_34 : decode prog_7_method_22_code 34 = .ok (.return_, 1) := by decide +kernel
theorem d_87_0 : decode prog_7_method_6_code 0 = .ok (.aload_n 0, 1) := by decide +kernel
theorem d_87_1 : decode prog_7_method_6_code 1 = .ok (.getfield 34, 3) := by decide +kernel
theorem d_87_4 : decode prog_7_method_6_code 4 = .ok (.getfield 44, 3) := by decide +kernel
theorem d_87_7 : decode prog_7_method_6_code 7 = .ok (.iload_n 1, 1) := by decide +kernel
theorem d_87_8 : decode prog_7_method_6_code 8 = .ok (.iaload, 1) := by decide +kernel
theorem d_87_9 : decode prog_7_method_6_code 9 = .ok (.tableswitch 106 8 12 #[35, 44, 55, 66, 97], 35) := by decide +kernel
theorem d_87_44 : decode prog_7_method_6_code 44 = .ok (.aload_n 0, 1) := by decide +kernel
theorem d_87_45 : decode prog_7_method_6_code 45 = .ok (.iload_n 1, 1) := by decide +kernel
theorem d_87_46 : decode prog_7_method_6_code 46 = .ok (.iload_n 3, 1) := by decide +kernel
theorem d_87_47 : decode prog_7_method_6_code 47 = .ok (.invokevirtual 74, 3) := by decide +kernel
theorem d_87_50 : decode prog_7_method_6_code 50 = .ok (.goto 71, 3) := by decide +kernel
theorem d_87_53 : decode prog_7_method_6_code 53 = .ok (.aload_n 0, 1) := by decide +kernel
theorem d_87_54 : decode prog_7_method_6_code 54 = .ok (.ldc 78, 2) := by decide +kernel
theorem d_87_56 : decode prog_7_method_6_code 56 = .ok (.iload_n 1, 1) := by decide +kernel
theorem d_87_57 : decode prog_7_method_6_code 57 = .ok (.iload_n 3, 1) := by decide +kernel
theorem d_87_58 : decode prog_7_method_6_code 58 = .ok (.invokevirtual 80, 3) := by decide +kernel
theorem d_87_61 : decode prog_7_method_6_code 61 = .ok (.goto 60, 3) := by decide +kernel
theorem d_87_64 : decode prog_7_method_6_code 64 = .ok (.aload_n 0, 1) := by decide +kernel
theorem d_87_65 : decode prog_7_method_6_code 65 = .ok (.ldc 84, 2) := by decide +kernel
theorem d_87_67 : decode prog_7_method_6_code 67 = .ok (.iload_n 1, 1) := by decide +kernel
theorem d_87_68 : decode prog_7_method_6_code 68 = .ok (.iload_n 3, 1) := by decide +kernel
theorem d_87_69 : decode prog_7_method_6_code 69 = .ok (.invokevirtual 80, 3) := by decide +kernel
theorem d_87_72 : decode prog_7_method_6_code 72 = .ok (.goto 49, 3) := by decide +kernel
theorem d_87_75 : decode prog_7_method_6_code 75 = .ok (.aload_n 0, 1) := by decide +kernel
theorem d_87_76 : decode prog_7_method_6_code 76 = .ok (.getfield 34, 3) := by decide +kernel
theorem d_87_79 : decode prog_7_method_6_code 79 = .ok (.iload_n 1, 1) := by decide +kernel
theorem d_87_80 : decode prog_7_method_6_code 80 = .ok (.invokevirtual 86, 3) := by decide +kernel
theorem d_87_83 : decode prog_7_method_6_code 83 = .ok (.ifCond .eq 12, 3) := by decide +kernel
theorem d_87_86 : decode prog_7_method_6_code 86 = .ok (.aload_n 0, 1) := by decide +kernel
theorem d_87_87 : decode prog_7_method_6_code 87 = .ok (.iload_n 1, 1) := by decide +kernel
theorem d_87_88 : decode prog_7_method_6_code 88 = .ok (.iload_n 3, 1) := by decide +kernel
theorem d_87_89 : decode prog_7_method_6_code 89 = .ok (.invokevirtual 89, 3) := by decide +kernel
theorem d_87_92 : decode prog_7_method_6_code 92 = .ok (.goto 29, 3) := by decide +kernel
theorem d_87_95 : decode prog_7_method_6_code 95 = .ok (.aload_n 0, 1) := by decide +kernel
theorem d_87_96 : decode prog_7_method_6_code 96 = .ok (.ldc 92, 2) := by decide +kernel
theorem d_87_98 : decode prog_7_method_6_code 98 = .ok (.iload_n 1, 1) := by decide +kernel
theorem d_87_99 : decode prog_7_method_6_code 99 = .ok (.iload_n 3, 1) := by decide +kernel
theorem d_87_100 : decode prog_7_method_6_code 100 = .ok (.invokevirtual 80, 3) := by decide +kernel
theorem d_87_103 : decode prog_7_method_6_code 103 = .ok (.goto 18, 3) := by decide +kernel
theorem d_87_106 : decode prog_7_method_6_code 106 = .ok (.aload_n 0, 1) := by decide +kernel
theorem d_87_107 : decode prog_7_method_6_code 107 = .ok (.iload_n 1, 1) := by decide +kernel
theorem d_87_108 : decode prog_7_method_6_code 108 = .ok (.iload_n 3, 1) := by decide +kernel
theorem d_87_109 : decode prog_7_method_6_code 109 = .ok (.invokevirtual 94, 3) := by decide +kernel
theorem d_87_112 : decode prog_7_method_6_code 112 = .ok (.goto 9, 3) := by decide +kernel
theorem d_87_115 : decode prog_7_method_6_code 115 = .ok (.aload_n 0, 1) := by decide +kernel
theorem d_87_116 : decode prog_7_method_6_code 116 = .ok (.iload_n 1, 1) := by decide +kernel
theorem d_87_117 : decode prog_7_method_6_code 117 = .ok (.iload_n 2, 1) := by decide +kernel
theorem d_87_118 : decode prog_7_method_6_code 118 = .ok (.invokevirtual 56, 3) := by decide +kernel
theorem d_87_121 : decode prog_7_method_6_code 121 = .ok (.return_, 1) := by decide +kernel
theorem d_88_0 : decode prog_7_method_7_code 0 = .ok (.aload_n 0, 1) := by decide +kernel
theorem d_88_1 : decode prog_7_method_7_code 1 = .ok (.iload_n 2, 1) := by decide +kernel
theorem d_88_2 : decode prog_7_method_7_code 2 = .ok (.invokevirtual 97, 3) := by decide +kernel
theorem d_88_5 : decode prog_7_method_7_code 5 = .ok (.iload_n 1, 1) := by decide +kernel
theorem d_88_6 : decode prog_7_method_7_code 6 = .ok (.iconst 1, 1) := by decide +kernel
theorem d_88_7 : decode prog_7_method_7_code 7 = .ok (.iadd, 1) := by decide +kernel
theorem d_88_8 : decode prog_7_method_7_code 8 = .ok (.istore_n 3, 1) := by decide +kernel
theorem d_88_9 : decode prog_7_method_7_code 9 = .ok (.iconst 0, 1) := by decide +kernel
theorem d_88_10 : decode prog_7_method_7_code 10 = .ok (.istore 4, 2) := by decide +kernel
theorem d_88_12 : decode prog_7_method_7_code 12 = .ok (.iload 4, 2) := by decide +kernel
theorem d_88_14 : decode prog_7_method_7_code 14 = .ok (.aload_n 0, 1) := by decide +kernel
theorem d_88_15 : decode prog_7_method_7_code 15 = .ok (.getfield 34, 3) := by decide +kernel
theorem d_88_18 : decode prog_7_method_7_code 18 = .ok (.getfield 100, 3) := by decide +kernel
theorem d_88_21 : decode prog_7_method_7_code 21 = .ok (.iload_n 1, 1) := by decide +kernel
theorem d_88_22 : decode prog_7_method_7_code 22 = .ok (.iaload, 1) := by decide +kernel
theorem d_88_23 : decode prog_7_method_7_code 23 = .ok (.if_icmp .ge 39, 3) := by decide +kernel
theorem d_88_26 : decode prog_7_method_7_code 26 = .ok (.iload 4, 2) := by decide +kernel
theorem d_88_28 : decode prog_7_method_7_code 28 = .ok (.ifCond .le 9, 3) := by decide +kernel
theorem d_88_31 : decode prog_7_method_7_code 31 = .ok (.aload_n 0, 1) := by decide +kernel
theorem d_88_32 : decode prog_7_method_7_code 32 = .ok (.bipush 44, 2) := by decide +kernel
theorem d_88_34 : decode prog_7_method_7_code 34 = .ok (.invokevirtual 60, 3) := by decide +kernel
theorem d_88_37 : decode prog_7_method_7_code 37 = .ok (.aload_n 0, 1) := by decide +kernel
theorem d_88_38 : decode prog_7_method_7_code 38 = .ok (.iload_n 3, 1) := by decide +kernel
theorem d_88_39 : decode prog_7_method_7_code 39 = .ok (.iconst 0, 1) := by decide +kernel
theorem d_88_40 : decode prog_7_method_7_code 40 = .ok (.iload_n 2, 1) := by decide +kernel
theorem d_88_41 : decode prog_7_method_7_code 41 = .ok (.iconst 1, 1) := by decide +kernel
theorem d_88_42 : decode prog_7_method_7_code 42 = .ok (.iadd, 1) := by decide +kernel
theorem d_88_43 : decode prog_7_method_7_code 43 = .ok (.invokevirtual 63, 3) := by decide +kernel
theorem d_88_46 : decode prog_7_method_7_code 46 = .ok (.aload_n 0, 1) := by decide +kernel
theorem d_88_47 : decode prog_7_method_7_code 47 = .ok (.getfield 34, 3) := by decide +kernel
theorem d_88_50 : decode prog_7_method_7_code 50 = .ok (.getfield 103, 3) := by decide +kernel
theorem d_88_53 : decode prog_7_method_7_code 53 = .ok (.iload_n 3, 1) := by decide +kernel
theorem d_88_54 : decode prog_7_method_7_code 54 = .ok (.iaload, 1) := by decide +kernel
theorem d_88_55 : decode prog_7_method_7_code 55 = .ok (.istore_n 3, 1) := by decide +kernel
theorem d_88_56 : decode prog_7_method_7_code 56 = .ok (.iinc 4 1, 3) := by decide +kernel
theorem d_88_59 : decode prog_7_method_7_code 59 = .ok (.goto (-47), 3) := by decide +kernel
theorem d_88_62 : decode prog_7_method_7_code 62 = .ok (.aload_n 0, 1) := by decide +kernel
theorem d_88_63 : decode prog_7_method_7_code 63 = .ok (.bipush 93, 2) := by decide +kernel
theorem d_88_65 : decode prog_7_method_7_code 65 = .ok (.invokevirtual 60, 3) := by decide +kernel
theorem d_88_68 : decode prog_7_method_7_code 68 = .ok (.return_, 1) := by decide +kernel
theorem d_89_0 : decode prog_7_method_5_code 0 = .ok (.iload_n 1, 1) := by decide +kernel
theorem d_89_1 : decode prog_7_method_5_code 1 = .ok (.bipush 8, 2) := by decide +kernel
theorem d_89_3 : decode prog_7_method_5_code 3 = .ok (.if_icmp .lt 11, 3) := by decide +kernel
theorem d_89_6 : decode prog_7_method_5_code 6 = .ok (.new 71, 3) := by decide +kernel
theorem d_89_9 : decode prog_7_method_5_code 9 = .ok (.dup, 1) := by decide +kernel
theorem d_89_10 : decode prog_7_method_5_code 10 = .ok (.invokespecial 73, 3) := by decide +kernel
theorem d_89_13 : decode prog_7_method_5_code 13 = .ok (.athrow, 1) := by decide +kernel
theorem d_89_14 : decode prog_7_method_5_code 14 = .ok (.aload_n 0, 1) := by decide +kernel
theorem d_89_15 : decode prog_7_method_5_code 15 = .ok (.bipush 91, 2) := by decide +kernel
theorem d_89_17 : decode prog_7_method_5_code 17 = .ok (.invokevirtual 60, 3) := by decide +kernel
theorem d_89_20 : decode prog_7_method_5_code 20 = .ok (.return_, 1) := by decide +kernel
theorem d_90_0 : decode prog_7_method_8_code 0 = .ok (.aload_n 0, 1) := by decide +kernel
theorem d_90_1 : decode prog_7_method_8_code 1 = .ok (.iload_n 3, 1) := by decide +kernel
theorem d_90_2 : decode prog_7_method_8_code 2 = .ok (.invokevirtual 97, 3) := by decide +kernel
theorem d_90_5 : decode prog_7_method_8_code 5 = .ok (.aload_n 0, 1) := by decide +kernel
theorem d_90_6 : decode prog_7_method_8_code 6 = .ok (.getfield 23, 3) := by decide +kernel
theorem d_90_9 : decode prog_7_method_8_code 9 = .ok (.getfield 106, 3) := by decide +kernel
theorem d_90_12 : decode prog_7_method_8_code 12 = .ok (.istore 4, 2) := by decide +kernel
theorem d_90_14 : decode prog_7_method_8_code 14 = .ok (.aload_n 0, 1) := by decide +kernel
theorem d_90_15 : decode prog_7_method_8_code 15 = .ok (.aload_n 1, 1) := by decide +kernel
theorem d_90_16 : decode prog_7_method_8_code 16 = .ok (.invokevirtual 110, 3) := by decide +kernel
theorem d_90_19 : decode prog_7_method_8_code 19 = .ok (.aload_n 0, 1) := by decide +kernel
theorem d_90_20 : decode prog_7_method_8_code 20 = .ok (.iload 4, 2) := by decide +kernel
theorem d_90_22 : decode prog_7_method_8_code 22 = .ok (.iconst 0, 1) := by decide +kernel
theorem d_90_23 : decode prog_7_method_8_code 23 = .ok (.invokevirtual 113, 3) := by decide +kernel
theorem d_90_26 : decode prog_7_method_8_code 26 = .ok (.aload_n 0, 1) := by decide +kernel
theorem d_90_27 : decode prog_7_method_8_code 27 = .ok (.bipush 44, 2) := by decide +kernel
theorem d_90_29 : decode prog_7_method_8_code 29 = .ok (.invokevirtual 60, 3) := by decide +kernel
theorem d_90_32 : decode prog_7_method_8_code 32 = .ok (.aload_n 0, 1) := by decide +kernel
theorem d_90_33 : decode prog_7_method_8_code 33 = .ok (.iload_n 2, 1) := by decide +kernel
theorem d_90_34 : decode prog_7_method_8_code 34 = .ok (.iload_n 3, 1) := by decide +kernel
theorem d_90_35 : decode prog_7_method_8_code 35 = .ok (.iconst 1, 1) := by decide +kernel
theorem d_90_36 : decode prog_7_method_8_code 36 = .ok (.iadd, 1) := by decide +kernel
theorem d_90_37 : decode prog_7_method_8_code 37 = .ok (.invokevirtual 74, 3) := by decide +kernel
theorem d_90_40 : decode prog_7_method_8_code 40 = .ok (.aload_n 0, 1) := by decide +kernel
theorem d_90_41 : decode prog_7_method_8_code 41 = .ok (.bipush 93, 2) := by decide +kernel
theorem d_90_43 : decode prog_7_method_8_code 43 = .ok (.invokevirtual 60, 3) := by decide +kernel
theorem d_90_46 : decode prog_7_method_8_code 46 = .ok (.return_, 1) := by decide +kernel
theorem d_91_0 : decode prog_6_method_10_code 0 = .ok (.iload_n 1, 1) := by decide +kernel
theorem d_91_1 : decode prog_6_method_10_code 1 = .ok (.iconst 1, 1) := by decide +kernel
theorem d_91_2 : decode prog_6_method_10_code 2 = .ok (.iadd, 1) := by decide +kernel
theorem d_91_3 : decode prog_6_method_10_code 3 = .ok (.istore_n 2, 1) := by decide +kernel
theorem d_91_4 : decode prog_6_method_10_code 4 = .ok (.iconst 0, 1) := by decide +kernel
theorem d_91_5 : decode prog_6_method_10_code 5 = .ok (.istore_n 3, 1) := by decide +kernel
theorem d_91_6 : decode prog_6_method_10_code 6 = .ok (.iload_n 3, 1) := by decide +kernel
theorem d_91_7 : decode prog_6_method_10_code 7 = .ok (.aload_n 0, 1) := by decide +kernel
theorem d_91_8 : decode prog_6_method_10_code 8 = .ok (.getfield 25, 3) := by decide +kernel
theorem d_91_11 : decode prog_6_method_10_code 11 = .ok (.iload_n 1, 1) := by decide +kernel
theorem d_91_12 : decode prog_6_method_10_code 12 = .ok (.iaload, 1) := by decide +kernel
theorem d_91_13 : decode prog_6_method_10_code 13 = .ok (.if_icmp .ge 29, 3) := by decide +kernel
theorem d_91_16 : decode prog_6_method_10_code 16 = .ok (.aload_n 0, 1) := by decide +kernel
theorem d_91_17 : decode prog_6_method_10_code 17 = .ok (.getfield 9, 3) := by decide +kernel
theorem d_91_20 : decode prog_6_method_10_code 20 = .ok (.iload_n 2, 1) := by decide +kernel
theorem d_91_21 : decode prog_6_method_10_code 21 = .ok (.iaload, 1) := by decide +kernel
theorem d_91_22 : decode prog_6_method_10_code 22 = .ok (.bipush 7, 2) := by decide +kernel
theorem d_91_24 : decode prog_6_method_10_code 24 = .ok (.if_icmp .le 5, 3) := by decide +kernel
theorem d_91_27 : decode prog_6_method_10_code 27 = .ok (.iconst 0, 1) := by decide +kernel
theorem d_91_28 : decode prog_6_method_10_code 28 = .ok (.ireturn, 1) := by decide +kernel
theorem d_91_29 : decode prog_6_method_10_code 29 = .ok (.aload_n 0, 1) := by decide +kernel
theorem d_91_30 : decode prog_6_method_10_code 30 = .ok (.iload_n 2, 1) := by decide +kernel
theorem d_91_31 : decode prog_6_method_10_code 31 = .ok (.iconst 1, 1) := by decide +kernel
theorem d_91_32 : decode prog_6_method_10_code 32 = .ok (.invokevirtual 47, 3) := by decide +kernel
theorem d_91_35 : decode prog_6_method_10_code 35 = .ok (.istore_n 2, 1) := by decide +kernel
theorem d_91_36 : decode prog_6_method_10_code 36 = .ok (.iinc 3 2, 3) := by decide +kernel
theorem d_91_39 : decode prog_6_method_10_code 39 = .ok (.goto (-33), 3) := by decide +kernel
theorem d_91_42 : decode prog_6_method_10_code 42 = .ok (.iconst 1, 1) := by decide +kernel
theorem d_91_43 : decode prog_6_method_10_code 43 = .ok (.ireturn, 1) := by decide +kernel
theorem d_92_0 : decode prog_7_method_9_code 0 = .ok (.aload_n 0, 1) := by decide +kernel
theorem d_92_1 : decode prog_7_method_9_code 1 = .ok (.iload_n 2, 1) := by decide +kernel
theorem d_92_2 : decode prog_7_method_9_code 2 = .ok (.invokevirtual 97, 3) := by decide +kernel
theorem d_92_5 : decode prog_7_method_9_code 5 = .ok (.aload_n 0, 1) := by decide +kernel
theorem d_92_6 : decode prog_7_method_9_code 6 = .ok (.ldc 116, 2) := by decide +kernel
theorem d_92_8 : decode prog_7_method_9_code 8 = .ok (.invokevirtual 52, 3) := by decide +kernel
theorem d_92_11 : decode prog_7_method_9_code 11 = .ok (.iload_n 1, 1) := by decide +kernel
theorem d_92_12 : decode prog_7_method_9_code 12 = .ok (.iconst 1, 1) := by decide +kernel
theorem d_92_13 : decode prog_7_method_9_code 13 = .ok (.iadd, 1) := by decide +kernel
theorem d_92_14 : decode prog_7_method_9_code 14 = .ok (.istore_n 3, 1) := by decide +kernel
theorem d_92_15 : decode prog_7_method_9_code 15 = .ok (.iconst 0, 1) := by decide +kernel
theorem d_92_16 : decode prog_7_method_9_code 16 = .ok (.istore 4, 2) := by decide +kernel
theorem d_92_18 : decode prog_7_method_9_code 18 = .ok (.iload 4, 2) := by decide +kernel
theorem d_92_20 : decode prog_7_method_9_code 20 = .ok (.aload_n 0, 1) := by decide +kernel
theorem d_92_21 : decode prog_7_method_9_code 21 = .ok (.getfield 34, 3) := by decide +kernel
theorem d_92_24 : decode prog_7_method_9_code 24 = .ok (.getfield 100, 3) := by decide +kernel
theorem d_92_27 : decode prog_7_method_9_code 27 = .ok (.iload_n 1, 1) := by decide +kernel
theorem d_92_28 : decode prog_7_method_9_code 28 = .ok (.iaload, 1) := by decide +kernel
theorem d_92_29 : decode prog_7_method_9_code 29 = .ok (.if_icmp .ge 45, 3) := by decide +kernel
theorem d_92_32 : decode prog_7_method_9_code 32 = .ok (.aload_n 0, 1) := by decide +kernel
theorem d_92_33 : decode prog_7_method_9_code 33 = .ok (.bipush 44, 2) := by decide +kernel
theorem d_92_35 : decode prog_7_method_9_code 35 = .ok (.invokevirtual 60, 3) := by decide +kernel
theorem d_92_38 : decode prog_7_method_9_code 38 = .ok (.aload_n 0, 1) := by decide +kernel
theorem d_92_39 : decode prog_7_method_9_code 39 = .ok (.iload_n 3, 1) := by decide +kernel
theorem d_92_40 : decode prog_7_method_9_code 40 = .ok (.iload 4, 2) := by decide +kernel
theorem d_92_42 : decode prog_7_method_9_code 42 = .ok (.iconst 2, 1) := by decide +kernel
theorem d_92_43 : decode prog_7_method_9_code 43 = .ok (.irem, 1) := by decide +kernel
theorem d_92_44 : decode prog_7_method_9_code 44 = .ok (.ifCond .ne 7, 3) := by decide +kernel
theorem d_92_47 : decode prog_7_method_9_code 47 = .ok (.iconst 1, 1) := by decide +kernel
theorem d_92_48 : decode prog_7_method_9_code 48 = .ok (.goto 4, 3) := by decide +kernel
theorem d_92_51 : decode prog_7_method_9_code 51 = .ok (.iconst 0, 1) := by decide +kernel
theorem d_92_52 : decode prog_7_method_9_code 52 = .ok (.iload_n 2, 1) := by decide +kernel
theorem d_92_53 : decode prog_7_method_9_code 53 = .ok (.iconst 1, 1) := by decide +kernel
theorem d_92_54 : decode prog_7_method_9_code 54 = .ok (.iadd, 1) := by decide +kernel
theorem d_92_55 : decode prog_7_method_9_code 55 = .ok (.invokevirtual 63, 3) := by decide +kernel
theorem d_92_58 : decode prog_7_method_9_code 58 = .ok (.aload_n 0, 1) := by decide +kernel
theorem d_92_59 : decode prog_7_method_9_code 59 = .ok (.getfield 34, 3) := by decide +kernel
theorem d_92_62 : decode prog_7_method_9_code 62 = .ok (.getfield 103, 3) := by decide +kernel
theorem d_92_65 : decode prog_7_method_9_code 65 = .ok (.iload_n 3, 1) := by decide +kernel
theorem d_92_66 : decode prog_7_method_9_code 66 = .ok (.iaload, 1) := by decide +kernel
theorem d_92_67 : decode prog_7_method_9_code 67 = .ok (.istore_n 3, 1) := by decide +kernel
theorem d_92_68 : decode prog_7_method_9_code 68 = .ok (.iinc 4 1, 3) := by decide +kernel
theorem d_92_71 : decode prog_7_method_9_code 71 = .ok (.goto (-53), 3) := by decide +kernel
theorem d_92_74 : decode prog_7_method_9_code 74 = .ok (.aload_n 0, 1) := by decide +kernel
theorem d_92_75 : decode prog_7_method_9_code 75 = .ok (.bipush 93, 2) := by decide +kernel
theorem d_92_77 : decode prog_7_method_9_code 77 = .ok (.invokevirtual 60, 3) := by decide +kernel
theorem d_92_80 : decode prog_7_method_9_code 80 = .ok (.return_, 1) := by decide +kernel
theorem d_93_0 : decode prog_7_method_10_code 0 = .ok (.aload_n 0, 1) := by decide +kernel
theorem d_93_1 : decode prog_7_method_10_code 1 = .ok (.iload_n 2, 1) := by decide +kernel
theorem d_93_2 : decode prog_7_method_10_code 2 = .ok (.invokevirtual 97, 3) := by decide +kernel
theorem d_93_5 : decode prog_7_method_10_code 5 = .ok (.aload_n 0, 1) := by decide +kernel
theorem d_93_6 : decode prog_7_method_10_code 6 = .ok (.getfield 23, 3) := by decide +kernel
theorem d_93_9 : decode prog_7_method_10_code 9 = .ok (.getfield 106, 3) := by decide +kernel
theorem d_93_12 : decode prog_7_method_10_code 12 = .ok (.istore_n 3, 1) := by decide +kernel
theorem d_93_13 : decode prog_7_method_10_code 13 = .ok (.aload_n 0, 1) := by decide +kernel
theorem d_93_14 : decode prog_7_method_10_code 14 = .ok (.ldc 118, 2) := by decide +kernel
theorem d_93_16 : decode prog_7_method_10_code 16 = .ok (.invokevirtual 110, 3) := by decide +kernel
theorem d_93_19 : decode prog_7_method_10_code 19 = .ok (.aload_n 0, 1) := by decide +kernel
theorem d_93_20 : decode prog_7_method_10_code 20 = .ok (.iload_n 1, 1) := by decide +kernel
theorem d_93_21 : decode prog_7_method_10_code 21 = .ok (.invokevirtual 120, 3) := by decide +kernel
theorem d_93_24 : decode prog_7_method_10_code 24 = .ok (.aload_n 0, 1) := by decide +kernel
theorem d_93_25 : decode prog_7_method_10_code 25 = .ok (.iload_n 3, 1) := by decide +kernel
theorem d_93_26 : decode prog_7_method_10_code 26 = .ok (.iconst 0, 1) := by decide +kernel
theorem d_93_27 : decode prog_7_method_10_code 27 = .ok (.invokevirtual 113, 3) := by decide +kernel
theorem d_93_30 : decode prog_7_method_10_code 30 = .ok (.aload_n 0, 1) := by decide +kernel
theorem d_93_31 : decode prog_7_method_10_code 31 = .ok (.bipush 44, 2) := by decide +kernel
theorem d_93_33 : decode prog_7_method_10_code 33 = .ok (.invokevirtual 60, 3) := by decide +kernel
theorem d_93_36 : decode prog_7_method_10_code 36 = .ok (.aload_n 0, 1) := by decide +kernel
theorem d_93_37 : decode prog_7_method_10_code 37 = .ok (.iload_n 1, 1) := by decide +kernel
theorem d_93_38 : decode prog_7_method_10_code 38 = .ok (.iconst 1, 1) := by decide +kernel
theorem d_93_39 : decode prog_7_method_10_code 39 = .ok (.iadd, 1) := by decide +kernel
theorem d_93_40 : decode prog_7_method_10_code 40 = .ok (.iconst 0, 1) := by decide +kernel
theorem d_93_41 : decode prog_7_method_10_code 41 = .ok (.iload_n 2, 1) := by decide +kernel
theorem d_93_42 : decode prog_7_method_10_code 42 = .ok (.iconst 1, 1) := by decide +kernel
theorem d_93_43 : decode prog_7_method_10_code 43 = .ok (.iadd, 1) := by decide +kernel
theorem d_93_44 : decode prog_7_method_10_code 44 = .ok (.invokevirtual 63, 3) := by decide +kernel
theorem d_93_47 : decode prog_7_method_10_code 47 = .ok (.aload_n 0, 1) := by decide +kernel
theorem d_93_48 : decode prog_7_method_10_code 48 = .ok (.bipush 93, 2) := by decide +kernel
theorem d_93_50 : decode prog_7_method_10_code 50 = .ok (.invokevirtual 60, 3) := by decide +kernel
theorem d_93_53 : decode prog_7_method_10_code 53 = .ok (.return_, 1) := by decide +kernel
theorem d_94_0 : decode prog_7_method_3_code 0 = .ok (.aload_n 0, 1) := by decide +kernel
theorem d_94_1 : decode prog_7_method_3_code 1 = .ok (.getfield 31, 3) := by decide +kernel
theorem d_94_4 : decode prog_7_method_3_code 4 = .ok (.astore_n 2, 1) := by decide +kernel
theorem d_94_5 : decode prog_7_method_3_code 5 = .ok (.aload_n 0, 1) := by decide +kernel
theorem d_94_6 : decode prog_7_method_3_code 6 = .ok (.aload_n 1, 1) := by decide +kernel
theorem d_94_7 : decode prog_7_method_3_code 7 = .ok (.putfield 31, 3) := by decide +kernel
theorem d_94_10 : decode prog_7_method_3_code 10 = .ok (.aload_n 2, 1) := by decide +kernel
theorem d_94_11 : decode prog_7_method_3_code 11 = .ok (.areturn, 1) := by decide +kernel
theorem d_95_0 : decode method_5_code 0 = .ok (.aload_n 2, 1) := by decide +kernel
theorem d_95_1 : decode method_5_code 1 = .ok (.iconst 0, 1) := by decide +kernel
theorem d_95_2 : decode method_5_code 2 = .ok (.aload_n 0, 1) := by decide +kernel
theorem d_95_3 : decode method_5_code 3 = .ok (.iload_n 1, 1) := by decide +kernel
theorem d_95_4 : decode method_5_code 4 = .ok (.invokevirtual 24, 3) := by decide +kernel
theorem d_95_7 : decode method_5_code 7 = .ok (.i2l, 1) := by decide +kernel
theorem d_95_8 : decode method_5_code 8 = .ok (.lastore, 1) := by decide +kernel
theorem d_95_9 : decode method_5_code 9 = .ok (.goto 6, 3) := by decide +kernel
theorem d_95_12 : decode method_5_code 12 = .ok (.astore_n 3, 1) := by decide +kernel
theorem d_95_13 : decode method_5_code 13 = .ok (.iconst 1, 1) := by decide +kernel
theorem d_95_14 : decode method_5_code 14 = .ok (.ireturn, 1) := by decide +kernel
theorem d_95_15 : decode method_5_code 15 = .ok (.iconst 0, 1) := by decide +kernel
theorem d_95_16 : decode method_5_code 16 = .ok (.ireturn, 1) := by decide +kernel
theorem d_96_0 : decode prog_1_method_9_code 0 = .ok (.iload_n 1, 1) := by decide +kernel
theorem d_96_1 : decode prog_1_method_9_code 1 = .ok (.invokestatic 54, 3) := by decide +kernel
theorem d_96_4 : decode prog_1_method_9_code 4 = .ok (.aload_n 0, 1) := by decide +kernel
theorem d_96_5 : decode prog_1_method_9_code 5 = .ok (.getfield 12, 3) := by decide +kernel
theorem d_96_8 : decode prog_1_method_9_code 8 = .ok (.iload_n 1, 1) := by decide +kernel
theorem d_96_9 : decode prog_1_method_9_code 9 = .ok (.aaload, 1) := by decide +kernel
theorem d_96_10 : decode prog_1_method_9_code 10 = .ok (.getfield 65, 3) := by decide +kernel
theorem d_96_13 : decode prog_1_method_9_code 13 = .ok (.ireturn, 1) := by decide +kernel
theorem d_97_0 : decode method_6_code 0 = .ok (.aload_n 3, 1) := by decide +kernel
theorem d_97_1 : decode method_6_code 1 = .ok (.iconst 0, 1) := by decide +kernel
theorem d_97_2 : decode method_6_code 2 = .ok (.aload_n 0, 1) := by decide +kernel
theorem d_97_3 : decode method_6_code 3 = .ok (.iload_n 1, 1) := by decide +kernel
theorem d_97_4 : decode method_6_code 4 = .ok (.iload_n 2, 1) := by decide +kernel
theorem d_97_5 : decode method_6_code 5 = .ok (.invokevirtual 27, 3) := by decide +kernel
theorem d_97_8 : decode method_6_code 8 = .ok (.i2l, 1) := by decide +kernel
theorem d_97_9 : decode method_6_code 9 = .ok (.lastore, 1) := by decide +kernel
theorem d_97_10 : decode method_6_code 10 = .ok (.goto 7, 3) := by decide +kernel
theorem d_97_13 : decode method_6_code 13 = .ok (.astore 4, 2) := by decide +kernel
theorem d_97_15 : decode method_6_code 15 = .ok (.iconst 1, 1) := by decide +kernel
theorem d_97_16 : decode method_6_code 16 = .ok (.ireturn, 1) := by decide +kernel
theorem d_97_17 : decode method_6_code 17 = .ok (.iconst 0, 1) := by decide +kernel
theorem d_97_18 : decode method_6_code 18 = .ok (.ireturn, 1) := by decide +kernel
theorem d_98_0 : decode prog_1_method_10_code 0 = .ok (.aload_n 0, 1) := by decide +kernel
theorem d_98_1 : decode prog_1_method_10_code 1 = .ok (.iload_n 1, 1) := by decide +kernel
theorem d_98_2 : decode prog_1_method_10_code 2 = .ok (.iload_n 2, 1) := by decide +kernel
theorem d_98_3 : decode prog_1_method_10_code 3 = .ok (.invokevirtual 79, 3) := by decide +kernel
theorem d_98_6 : decode prog_1_method_10_code 6 = .ok (.aload_n 0, 1) := by decide +kernel
theorem d_98_7 : decode prog_1_method_10_code 7 = .ok (.getfield 12, 3) := by decide +kernel
theorem d_98_10 : decode prog_1_method_10_code 10 = .ok (.iload_n 1, 1) := by decide +kernel
theorem d_98_11 : decode prog_1_method_10_code 11 = .ok (.aaload, 1) := by decide +kernel
theorem d_98_12 : decode prog_1_method_10_code 12 = .ok (.getfield 83, 3) := by decide +kernel
theorem d_98_15 : decode prog_1_method_10_code 15 = .ok (.iload_n 2, 1) := by decide +kernel
theorem d_98_16 : decode prog_1_method_10_code 16 = .ok (.iaload, 1) := by decide +kernel
theorem d_98_17 : decode prog_1_method_10_code 17 = .ok (.ireturn, 1) := by decide +kernel
theorem d_99_0 : decode prog_1_method_18_code 0 = .ok (.iload_n 1, 1) := by decide +kernel
theorem d_99_1 : decode prog_1_method_18_code 1 = .ok (.invokestatic 54, 3) := by decide +kernel
theorem d_99_4 : decode prog_1_method_18_code 4 = .ok (.iload_n 2, 1) := by decide +kernel
theorem d_99_5 : decode prog_1_method_18_code 5 = .ok (.ifCond .lt 16, 3) := by decide +kernel
theorem d_99_8 : decode prog_1_method_18_code 8 = .ok (.iload_n 2, 1) := by decide +kernel
theorem d_99_9 : decode prog_1_method_18_code 9 = .ok (.aload_n 0, 1) := by decide +kernel
theorem d_99_10 : decode prog_1_method_18_code 10 = .ok (.getfield 12, 3) := by decide +kernel
theorem d_99_13 : decode prog_1_method_18_code 13 = .ok (.iload_n 1, 1) := by decide +kernel
theorem d_99_14 : decode prog_1_method_18_code 14 = .ok (.aaload, 1) := by decide +kernel
theorem d_99_15 : decode prog_1_method_18_code 15 = .ok (.getfield 65, 3) := by decide +kernel
theorem d_99_18 : decode prog_1_method_18_code 18 = .ok (.if_icmp .lt 11, 3) := by decide +kernel
theorem d_99_21 : decode prog_1_method_18_code 21 = .ok (.new 110, 3) := by decide +kernel
theorem d_99_24 : decode prog_1_method_18_code 24 = .ok (.dup, 1) := by decide +kernel
theorem d_99_25 : decode prog_1_method_18_code 25 = .ok (.invokespecial 112, 3) := by decide +kernel
theorem d_99_28 : decode prog_1_method_18_code 28 = .ok (.athrow, 1) := by decide +kernel
theorem d_99_29 : decode prog_1_method_18_code 29 = .ok (.return_, 1) := by decide +kernel
theorem d_100_0 : decode method_7_code 0 = .ok (.aload_n 3, 1) := by decide +kernel
theorem d_100_1 : decode method_7_code 1 = .ok (.iconst 0, 1) := by decide +kernel
theorem d_100_2 : decode method_7_code 2 = .ok (.aload_n 0, 1) := by decide +kernel
theorem d_100_3 : decode method_7_code 3 = .ok (.iload_n 1, 1) := by decide +kernel
theorem d_100_4 : decode method_7_code 4 = .ok (.iload_n 2, 1) := by decide +kernel
theorem d_100_5 : decode method_7_code 5 = .ok (.invokevirtual 31, 3) := by decide +kernel
theorem d_100_8 : decode method_7_code 8 = .ok (.i2l, 1) := by decide +kernel
theorem d_100_9 : decode method_7_code 9 = .ok (.lastore, 1) := by decide +kernel
theorem d_100_10 : decode method_7_code 10 = .ok (.goto 7, 3) := by decide +kernel
theorem d_100_13 : decode method_7_code 13 = .ok (.astore 4, 2) := by decide +kernel
theorem d_100_15 : decode method_7_code 15 = .ok (.iconst 1, 1) := by decide +kernel
theorem d_100_16 : decode method_7_code 16 = .ok (.ireturn, 1) := by decide +kernel
theorem d_100_17 : decode method_7_code 17 = .ok (.iconst 0, 1) := by decide +kernel
theorem d_100_18 : decode method_7_code 18 = .ok (.ireturn, 1) := by decide +kernel
theorem d_101_0 : decode prog_1_method_11_code 0 = .ok (.aload_n 0, 1) := by decide +kernel
theorem d_101_1 : decode prog_1_method_11_code 1 = .ok (.iload_n 1, 1) := by decide +kernel
theorem d_101_2 : decode prog_1_method_11_code 2 = .ok (.iload_n 2, 1) := by decide +kernel
theorem d_101_3 : decode prog_1_method_11_code 3 = .ok (.invokevirtual 79, 3) := by decide +kernel
theorem d_101_6 : decode prog_1_method_11_code 6 = .ok (.aload_n 0, 1) := by decide +kernel
theorem d_101_7 : decode prog_1_method_11_code 7 = .ok (.getfield 12, 3) := by decide +kernel
theorem d_101_10 : decode prog_1_method_11_code 10 = .ok (.iload_n 1, 1) := by decide +kernel
theorem d_101_11 : decode prog_1_method_11_code 11 = .ok (.aaload, 1) := by decide +kernel
theorem d_101_12 : decode prog_1_method_11_code 12 = .ok (.astore_n 3, 1) := by decide +kernel
theorem d_101_13 : decode prog_1_method_11_code 13 = .ok (.aload_n 3, 1) := by decide +kernel
theorem d_101_14 : decode prog_1_method_11_code 14 = .ok (.getfield 83, 3) := by decide +kernel
theorem d_101_17 : decode prog_1_method_11_code 17 = .ok (.iload_n 2, 1) := by decide +kernel
theorem d_101_18 : decode prog_1_method_11_code 18 = .ok (.iaload, 1) := by decide +kernel
theorem d_101_19 : decode prog_1_method_11_code 19 = .ok (.bipush 8, 2) := by decide +kernel
theorem d_101_21 : decode prog_1_method_11_code 21 = .ok (.if_icmp .lt 12, 3) := by decide +kernel
theorem d_101_24 : decode prog_1_method_11_code 24 = .ok (.aload_n 3, 1) := by decide +kernel
theorem d_101_25 : decode prog_1_method_11_code 25 = .ok (.getfield 87, 3) := by decide +kernel
theorem d_101_28 : decode prog_1_method_11_code 28 = .ok (.iload_n 2, 1) := by decide +kernel
theorem d_101_29 : decode prog_1_method_11_code 29 = .ok (.iaload, 1) := by decide +kernel
theorem d_101_30 : decode prog_1_method_11_code 30 = .ok (.goto 9, 3) := by decide +kernel
theorem d_101_33 : decode prog_1_method_11_code 33 = .ok (.aload_n 3, 1) := by decide +kernel
theorem d_101_34 : decode prog_1_method_11_code 34 = .ok (.getfield 90, 3) := by decide +kernel
theorem d_101_37 : decode prog_1_method_11_code 37 = .ok (.iload_n 2, 1) := by decide +kernel
theorem d_101_38 : decode prog_1_method_11_code 38 = .ok (.iaload, 1) := by decide +kernel
theorem d_101_39 : decode prog_1_method_11_code 39 = .ok (.ireturn, 1) := by decide +kernel
theorem d_102_0 : decode method_8_code 0 = .ok (.aload_n 3, 1) := by decide +kernel
theorem d_102_1 : decode method_8_code 1 = .ok (.iconst 0, 1) := by decide +kernel
theorem d_102_2 : decode method_8_code 2 = .ok (.aload_n 0, 1) := by decide +kernel
theorem d_102_3 : decode method_8_code 3 = .ok (.iload_n 1, 1) := by decide +kernel
theorem d_102_4 : decode method_8_code 4 = .ok (.iload_n 2, 1) := by decide +kernel
theorem d_102_5 : decode method_8_code 5 = .ok (.invokevirtual 34, 3) := by decide +kernel
theorem d_102_8 : decode method_8_code 8 = .ok (.lastore, 1) := by decide +kernel
theorem d_102_9 : decode method_8_code 9 = .ok (.goto 7, 3) := by decide +kernel
theorem d_102_12 : decode method_8_code 12 = .ok (.astore 4, 2) := by decide +kernel
theorem d_102_14 : decode method_8_code 14 = .ok (.iconst 1, 1) := by decide +kernel
theorem d_102_15 : decode method_8_code 15 = .ok (.ireturn, 1) := by decide +kernel
theorem d_102_16 : decode method_8_code 16 = .ok (.iconst 0, 1) := by decide +kernel
theorem d_102_17 : decode method_8_code 17 = .ok (.ireturn, 1) := by decide +kernel
theorem d_103_0 : decode prog_1_method_12_code 0 = .ok (.aload_n 0, 1) := by decide +kernel
theorem d_103_1 : decode prog_1_method_12_code 1 = .ok (.iload_n 1, 1) := by decide +kernel
theorem d_103_2 : decode prog_1_method_12_code 2 = .ok (.iload_n 2, 1) := by decide +kernel
theorem d_103_3 : decode prog_1_method_12_code 3 = .ok (.invokevirtual 79, 3) := by decide +kernel
theorem d_103_6 : decode prog_1_method_12_code 6 = .ok (.aload_n 0, 1) := by decide +kernel
theorem d_103_7 : decode prog_1_method_12_code 7 = .ok (.getfield 12, 3) := by decide +kernel
theorem d_103_10 : decode prog_1_method_12_code 10 = .ok (.iload_n 1, 1) := by decide +kernel
theorem d_103_11 : decode prog_1_method_12_code 11 = .ok (.aaload, 1) := by decide +kernel
theorem d_103_12 : decode prog_1_method_12_code 12 = .ok (.getfield 93, 3) := by decide +kernel
theorem d_103_15 : decode prog_1_method_12_code 15 = .ok (.iload_n 2, 1) := by decide +kernel
theorem d_103_16 : decode prog_1_method_12_code 16 = .ok (.laload, 1) := by decide +kernel
theorem d_103_17 : decode prog_1_method_12_code 17 = .ok (.lreturn, 1) := by decide +kernel
theorem d_104_0 : decode method_9_code 0 = .ok (.aload 4, 2) := by decide +kernel
theorem d_104_2 : decode method_9_code 2 = .ok (.iconst 0, 1) := by decide +kernel
theorem d_104_3 : decode method_9_code 3 = .ok (.aload_n 0, 1) := by decide +kernel
theorem d_104_4 : decode method_9_code 4 = .ok (.iload_n 1, 1) := by decide +kernel
theorem d_104_5 : decode method_9_code 5 = .ok (.iload_n 2, 1) := by decide +kernel
theorem d_104_6 : decode method_9_code 6 = .ok (.iload_n 3, 1) := by decide +kernel
theorem d_104_7 : decode method_9_code 7 = .ok (.invokevirtual 38, 3) := by decide +kernel
theorem d_104_10 : decode method_9_code 10 = .ok (.i2l, 1) := by decide +kernel
theorem d_104_11 : decode method_9_code 11 = .ok (.lastore, 1) := by decide +kernel
theorem d_104_12 : decode method_9_code 12 = .ok (.goto 7, 3) := by decide +kernel
theorem d_104_15 : decode method_9_code 15 = .ok (.astore 5, 2) := by decide +kernel
theorem d_104_17 : decode method_9_code 17 = .ok (.iconst 1, 1) := by decide +kernel
theorem d_104_18 : decode method_9_code 18 = .ok (.ireturn, 1) := by decide +kernel
theorem d_104_19 : decode method_9_code 19 = .ok (.iconst 0, 1) := by decide +kernel
theorem d_104_20 : decode method_9_code 20 = .ok (.ireturn, 1) := by decide +kernel
theorem d_105_0 : decode prog_1_method_13_code 0 = .ok (.aload_n 0, 1) := by decide +kernel
theorem d_105_1 : decode prog_1_method_13_code 1 = .ok (.iload_n 1, 1) := by decide +kernel
theorem d_105_2 : decode prog_1_method_13_code 2 = .ok (.iload_n 2, 1) := by decide +kernel
theorem d_105_3 : decode prog_1_method_13_code 3 = .ok (.invokevirtual 79, 3) := by decide +kernel
theorem d_105_6 : decode prog_1_method_13_code 6 = .ok (.aload_n 0, 1) := by decide +kernel
theorem d_105_7 : decode prog_1_method_13_code 7 = .ok (.getfield 12, 3) := by decide +kernel
theorem d_105_10 : decode prog_1_method_13_code 10 = .ok (.iload_n 1, 1) := by decide +kernel
theorem d_105_11 : decode prog_1_method_13_code 11 = .ok (.aaload, 1) := by decide +kernel
theorem d_105_12 : decode prog_1_method_13_code 12 = .ok (.astore 4, 2) := by decide +kernel
theorem d_105_14 : decode prog_1_method_13_code 14 = .ok (.iload_n 3, 1) := by decide +kernel
theorem d_105_15 : decode prog_1_method_13_code 15 = .ok (.ifCond .lt 14, 3) := by decide +kernel
theorem d_105_18 : decode prog_1_method_13_code 18 = .ok (.iload_n 3, 1) := by decide +kernel
theorem d_105_19 : decode prog_1_method_13_code 19 = .ok (.aload 4, 2) := by decide +kernel
theorem d_105_21 : decode prog_1_method_13_code 21 = .ok (.getfield 90, 3) := by decide +kernel
theorem d_105_24 : decode prog_1_method_13_code 24 = .ok (.iload_n 2, 1) := by decide +kernel
theorem d_105_25 : decode prog_1_method_13_code 25 = .ok (.iaload, 1) := by decide +kernel
theorem d_105_26 : decode prog_1_method_13_code 26 = .ok (.if_icmp .lt 5, 3) := by decide +kernel
theorem d_105_29 : decode prog_1_method_13_code 29 = .ok (.iconst (-1), 1) := by decide +kernel
theorem d_105_30 : decode prog_1_method_13_code 30 = .ok (.ireturn, 1) := by decide +kernel
theorem d_105_31 : decode prog_1_method_13_code 31 = .ok (.aload 4, 2) := by decide +kernel
theorem d_105_33 : decode prog_1_method_13_code 33 = .ok (.getfield 97, 3) := by decide +kernel
theorem d_105_36 : decode prog_1_method_13_code 36 = .ok (.aload 4, 2) := by decide +kernel
theorem d_105_38 : decode prog_1_method_13_code 38 = .ok (.getfield 100, 3) := by decide +kernel
theorem d_105_41 : decode prog_1_method_13_code 41 = .ok (.iload_n 2, 1) := by decide +kernel
theorem d_105_42 : decode prog_1_method_13_code 42 = .ok (.iaload, 1) := by decide +kernel
theorem d_105_43 : decode prog_1_method_13_code 43 = .ok (.iload_n 3, 1) := by decide +kernel
theorem d_105_44 : decode prog_1_method_13_code 44 = .ok (.iadd, 1) := by decide +kernel
theorem d_105_45 : decode prog_1_method_13_code 45 = .ok (.invokevirtual 50, 3) := by decide +kernel
theorem d_105_48 : decode prog_1_method_13_code 48 = .ok (.ireturn, 1) := by decide +kernel
theorem d_106_0 : decode method_10_code 0 = .ok (.aload_n 3, 1) := by decide +kernel
theorem d_106_1 : decode method_10_code 1 = .ok (.iconst 0, 1) := by decide +kernel
theorem d_106_2 : decode method_10_code 2 = .ok (.aload_n 0, 1) := by decide +kernel
theorem d_106_3 : decode method_10_code 3 = .ok (.iload_n 1, 1) := by decide +kernel
theorem d_106_4 : decode method_10_code 4 = .ok (.iload_n 2, 1) := by decide +kernel
theorem d_106_5 : decode method_10_code 5 = .ok (.invokevirtual 42, 3) := by decide +kernel
theorem d_106_8 : decode method_10_code 8 = .ok (.i2l, 1) := by decide +kernel
theorem d_106_9 : decode method_10_code 9 = .ok (.lastore, 1) := by decide +kernel
theorem d_106_10 : decode method_10_code 10 = .ok (.goto 7, 3) := by decide +kernel
theorem d_106_13 : decode method_10_code 13 = .ok (.astore 4, 2) := by decide +kernel
theorem d_106_15 : decode method_10_code 15 = .ok (.iconst 1, 1) := by decide +kernel
theorem d_106_16 : decode method_10_code 16 = .ok (.ireturn, 1) := by decide +kernel
theorem d_106_17 : decode method_10_code 17 = .ok (.iconst 0, 1) := by decide +kernel
theorem d_106_18 : decode method_10_code 18 = .ok (.ireturn, 1) := by decide +kernel
theorem d_107_0 : decode prog_1_method_14_code 0 = .ok (.aload_n 0, 1) := by decide +kernel
theorem d_107_1 : decode prog_1_method_14_code 1 = .ok (.iload_n 1, 1) := by decide +kernel
theorem d_107_2 : decode prog_1_method_14_code 2 = .ok (.iload_n 2, 1) := by decide +kernel
theorem d_107_3 : decode prog_1_method_14_code 3 = .ok (.invokevirtual 79, 3) := by decide +kernel
theorem d_107_6 : decode prog_1_method_14_code 6 = .ok (.aload_n 0, 1) := by decide +kernel
theorem d_107_7 : decode prog_1_method_14_code 7 = .ok (.getfield 12, 3) := by decide +kernel
theorem d_107_10 : decode prog_1_method_14_code 10 = .ok (.iload_n 1, 1) := by decide +kernel
theorem d_107_11 : decode prog_1_method_14_code 11 = .ok (.aaload, 1) := by decide +kernel
theorem d_107_12 : decode prog_1_method_14_code 12 = .ok (.iload_n 2, 1) := by decide +kernel
theorem d_107_13 : decode prog_1_method_14_code 13 = .ok (.invokevirtual 103, 3) := by decide +kernel
theorem d_107_16 : decode prog_1_method_14_code 16 = .ok (.aload_n 0, 1) := by decide +kernel
theorem d_107_17 : decode prog_1_method_14_code 17 = .ok (.getfield 12, 3) := by decide +kernel
theorem d_107_20 : decode prog_1_method_14_code 20 = .ok (.iload_n 1, 1) := by decide +kernel
theorem d_107_21 : decode prog_1_method_14_code 21 = .ok (.aaload, 1) := by decide +kernel
theorem d_107_22 : decode prog_1_method_14_code 22 = .ok (.getfield 65, 3) := by decide +kernel
theorem d_107_25 : decode prog_1_method_14_code 25 = .ok (.ireturn, 1) := by decide +kernel
theorem d_108_0 : decode prog_6_method_8_code 0 = .ok (.aload_n 0, 1) := by decide +kernel
theorem d_108_1 : decode prog_6_method_8_code 1 = .ok (.getfield 28, 3) := by decide +kernel
theorem d_108_4 : decode prog_6_method_8_code 4 = .ok (.iload_n 1, 1) := by decide +kernel
theorem d_108_5 : decode prog_6_method_8_code 5 = .ok (.iaload, 1) := by decide +kernel
theorem d_108_6 : decode prog_6_method_8_code 6 = .ok (.iload_n 1, 1) := by decide +kernel
theorem d_108_7 : decode prog_6_method_8_code 7 = .ok (.isub, 1) := by decide +kernel
theorem d_108_8 : decode prog_6_method_8_code 8 = .ok (.istore_n 2, 1) := by decide +kernel
theorem d_108_9 : decode prog_6_method_8_code 9 = .ok (.iconst 0, 1) := by decide +kernel
theorem d_108_10 : decode prog_6_method_8_code 10 = .ok (.istore_n 3, 1) := by decide +kernel
theorem d_108_11 : decode prog_6_method_8_code 11 = .ok (.iload_n 3, 1) := by decide +kernel
theorem d_108_12 : decode prog_6_method_8_code 12 = .ok (.iload_n 2, 1) := by decide +kernel
theorem d_108_13 : decode prog_6_method_8_code 13 = .ok (.if_icmp .ge 95, 3) := by decide +kernel
theorem d_108_16 : decode prog_6_method_8_code 16 = .ok (.aload_n 0, 1) := by decide +kernel
theorem d_108_17 : decode prog_6_method_8_code 17 = .ok (.getfield 9, 3) := by decide +kernel
theorem d_108_20 : decode prog_6_method_8_code 20 = .ok (.iload_n 3, 1) := by decide +kernel
theorem d_108_21 : decode prog_6_method_8_code 21 = .ok (.aload_n 0, 1) := by decide +kernel
theorem d_108_22 : decode prog_6_method_8_code 22 = .ok (.getfield 9, 3) := by decide +kernel
theorem d_108_25 : decode prog_6_method_8_code 25 = .ok (.iload_n 1, 1) := by decide +kernel
theorem d_108_26 : decode prog_6_method_8_code 26 = .ok (.iload_n 3, 1) := by decide +kernel
theorem d_108_27 : decode prog_6_method_8_code 27 = .ok (.iadd, 1) := by decide +kernel
theorem d_108_28 : decode prog_6_method_8_code 28 = .ok (.iaload, 1) := by decide +kernel
theorem d_108_29 : decode prog_6_method_8_code 29 = .ok (.iastore, 1) := by decide +kernel
theorem d_108_30 : decode prog_6_method_8_code 30 = .ok (.aload_n 0, 1) := by decide +kernel
theorem d_108_31 : decode prog_6_method_8_code 31 = .ok (.getfield 15, 3) := by decide +kernel
theorem d_108_34 : decode prog_6_method_8_code 34 = .ok (.iload_n 3, 1) := by decide +kernel
theorem d_108_35 : decode prog_6_method_8_code 35 = .ok (.aload_n 0, 1) := by decide +kernel
theorem d_108_36 : decode prog_6_method_8_code 36 = .ok (.getfield 15, 3) := by decide +kernel
theorem d_108_39 : decode prog_6_method_8_code 39 = .ok (.iload_n 1, 1) := by decide +kernel
theorem d_108_40 : decode prog_6_method_8_code 40 = .ok (.iload_n 3, 1) := by decide +kernel
theorem d_108_41 : decode prog_6_method_8_code 41 = .ok (.iadd, 1) := by decide +kernel
theorem d_108_42 : decode prog_6_method_8_code 42 = .ok (.laload, 1) := by decide +kernel
theorem d_108_43 : decode prog_6_method_8_code 43 = .ok (.lastore, 1) := by decide +kernel
theorem d_108_44 : decode prog_6_method_8_code 44 = .ok (.aload_n 0, 1) := by decide +kernel
theorem d_108_45 : decode prog_6_method_8_code 45 = .ok (.getfield 19, 3) := by decide +kernel
theorem d_108_48 : decode prog_6_method_8_code 48 = .ok (.iload_n 3, 1) := by decide +kernel
theorem d_108_49 : decode prog_6_method_8_code 49 = .ok (.aload_n 0, 1) := by decide +kernel
theorem d_108_50 : decode prog_6_method_8_code 50 = .ok (.getfield 19, 3) := by decide +kernel
theorem d_108_53 : decode prog_6_method_8_code 53 = .ok (.iload_n 1, 1) := by decide +kernel
theorem d_108_54 : decode prog_6_method_8_code 54 = .ok (.iload_n 3, 1) := by decide +kernel
theorem d_108_55 : decode prog_6_method_8_code 55 = .ok (.iadd, 1) := by decide +kernel
theorem d_108_56 : decode prog_6_method_8_code 56 = .ok (.iaload, 1) := by decide +kernel
theorem d_108_57 : decode prog_6_method_8_code 57 = .ok (.iastore, 1) := by decide +kernel
theorem d_108_58 : decode prog_6_method_8_code 58 = .ok (.aload_n 0, 1) := by decide +kernel
theorem d_108_59 : decode prog_6_method_8_code 59 = .ok (.getfield 22, 3) := by decide +kernel
theorem d_108_62 : decode prog_6_method_8_code 62 = .ok (.iload_n 3, 1) := by decide +kernel
theorem d_108_63 : decode prog_6_method_8_code 63 = .ok (.aload_n 0, 1) := by decide +kernel
theorem d_108_64 : decode prog_6_method_8_code 64 = .ok (.getfield 22, 3) := by decide +kernel
theorem d_108_67 : decode prog_6_method_8_code 67 = .ok (.iload_n 1, 1) := by decide +kernel
theorem d_108_68 : decode prog_6_method_8_code 68 = .ok (.iload_n 3, 1) := by decide +kernel
theorem d_108_69 : decode prog_6_method_8_code 69 = .ok (.iadd, 1) := by decide +kernel
theorem d_108_70 : decode prog_6_method_8_code 70 = .ok (.iaload, 1) := by decide +kernel
theorem d_108_71 : decode prog_6_method_8_code 71 = .ok (.iastore, 1) := by decide +kernel
theorem d_108_72 : decode prog_6_method_8_code 72 = .ok (.aload_n 0, 1) := by decide +kernel
theorem d_108_73 : decode prog_6_method_8_code 73 = .ok (.getfield 25, 3) := by decide +kernel
theorem d_108_76 : decode prog_6_method_8_code 76 = .ok (.iload_n 3, 1) := by decide +kernel
theorem d_108_77 : decode prog_6_method_8_code 77 = .ok (.aload_n 0, 1) := by decide +kernel
theorem d_108_78 : decode prog_6_method_8_code 78 = .ok (.getfield 25, 3) := by decide +kernel
theorem d_108_81 : decode prog_6_method_8_code 81 = .ok (.iload_n 1, 1) := by decide +kernel
theorem d_108_82 : decode prog_6_method_8_code 82 = .ok (.iload_n 3, 1) := by decide +kernel
theorem d_108_83 : decode prog_6_method_8_code 83 = .ok (.iadd, 1) := by decide +kernel
theorem d_108_84 : decode prog_6_method_8_code 84 = .ok (.iaload, 1) := by decide +kernel
theorem d_108_85 : decode prog_6_method_8_code 85 = .ok (.iastore, 1) := by decide +kernel
theorem d_108_86 : decode prog_6_method_8_code 86 = .ok (.aload_n 0, 1) := by decide +kernel
theorem d_108_87 : decode prog_6_method_8_code 87 = .ok (.getfield 28, 3) := by decide +kernel
theorem d_108_90 : decode prog_6_method_8_code 90 = .ok (.iload_n 3, 1) := by decide +kernel
theorem d_108_91 : decode prog_6_method_8_code 91 = .ok (.aload_n 0, 1) := by decide +kernel
theorem d_108_92 : decode prog_6_method_8_code 92 = .ok (.getfield 28, 3) := by decide +kernel
theorem d_108_95 : decode prog_6_method_8_code 95 = .ok (.iload_n 1, 1) := by decide +kernel
theorem d_108_96 : decode prog_6_method_8_code 96 = .ok (.iload_n 3, 1) := by decide +kernel
theorem d_108_97 : decode prog_6_method_8_code 97 = .ok (.iadd, 1) := by decide +kernel
theorem d_108_98 : decode prog_6_method_8_code 98 = .ok (.iaload, 1) := by decide +kernel
theorem d_108_99 : decode prog_6_method_8_code 99 = .ok (.iload_n 1, 1) := by decide +kernel
theorem d_108_100 : decode prog_6_method_8_code 100 = .ok (.isub, 1) := by decide +kernel
theorem d_108_101 : decode prog_6_method_8_code 101 = .ok (.iastore, 1) := by decide +kernel
theorem d_108_102 : decode prog_6_method_8_code 102 = .ok (.iinc 3 1, 3) := by decide +kernel
theorem d_108_105 : decode prog_6_method_8_code 105 = .ok (.goto (-94), 3) := by decide +kernel
theorem d_108_108 : decode prog_6_method_8_code 108 = .ok (.aload_n 0, 1) := by decide +kernel
theorem d_108_109 : decode prog_6_method_8_code 109 = .ok (.iload_n 2, 1) := by decide +kernel
theorem d_108_110 : decode prog_6_method_8_code 110 = .ok (.putfield 40, 3) := by decide +kernel
theorem d_108_113 : decode prog_6_method_8_code 113 = .ok (.return_, 1) := by decide +kernel
