/-! THE PURE PART, 4: the instructions of every method -/
theorem d_0_0 : decode prog_1_method_1_code 0 = .ok (.aload_n 0, 1) := by decide +kernel
theorem d_0_1 : decode prog_1_method_1_code 1 = .ok (.invokespecial 3, 3) := by decide +kernel
theorem d_0_4 : decode prog_1_method_1_code 4 = .ok (.aload_n 0, 1) := by decide +kernel
theorem d_0_5 : decode prog_1_method_1_code 5 = .ok (.iconst 2, 1) := by decide +kernel
theorem d_0_6 : decode prog_1_method_1_code 6 = .ok (.anewarray 9, 3) := by decide +kernel
theorem d_0_9 : decode prog_1_method_1_code 9 = .ok (.dup, 1) := by decide +kernel
theorem d_0_10 : decode prog_1_method_1_code 10 = .ok (.iconst 0, 1) := by decide +kernel
theorem d_0_11 : decode prog_1_method_1_code 11 = .ok (.new 9, 3) := by decide +kernel
theorem d_0_14 : decode prog_1_method_1_code 14 = .ok (.dup, 1) := by decide +kernel
theorem d_0_15 : decode prog_1_method_1_code 15 = .ok (.invokespecial 11, 3) := by decide +kernel
theorem d_0_18 : decode prog_1_method_1_code 18 = .ok (.aastore, 1) := by decide +kernel
theorem d_0_19 : decode prog_1_method_1_code 19 = .ok (.dup, 1) := by decide +kernel
theorem d_0_20 : decode prog_1_method_1_code 20 = .ok (.iconst 1, 1) := by decide +kernel
theorem d_0_21 : decode prog_1_method_1_code 21 = .ok (.new 9, 3) := by decide +kernel
theorem d_0_24 : decode prog_1_method_1_code 24 = .ok (.dup, 1) := by decide +kernel
theorem d_0_25 : decode prog_1_method_1_code 25 = .ok (.invokespecial 11, 3) := by decide +kernel
theorem d_0_28 : decode prog_1_method_1_code 28 = .ok (.aastore, 1) := by decide +kernel
theorem d_0_29 : decode prog_1_method_1_code 29 = .ok (.putfield 12, 3) := by decide +kernel
theorem d_0_32 : decode prog_1_method_1_code 32 = .ok (.aload_n 0, 1) := by decide +kernel
theorem d_0_33 : decode prog_1_method_1_code 33 = .ok (.new 16, 3) := by decide +kernel
theorem d_0_36 : decode prog_1_method_1_code 36 = .ok (.dup, 1) := by decide +kernel
theorem d_0_37 : decode prog_1_method_1_code 37 = .ok (.invokespecial 18, 3) := by decide +kernel
theorem d_0_40 : decode prog_1_method_1_code 40 = .ok (.putfield 19, 3) := by decide +kernel
theorem d_0_43 : decode prog_1_method_1_code 43 = .ok (.aload_n 0, 1) := by decide +kernel
theorem d_0_44 : decode prog_1_method_1_code 44 = .ok (.new 23, 3) := by decide +kernel
theorem d_0_47 : decode prog_1_method_1_code 47 = .ok (.dup, 1) := by decide +kernel
theorem d_0_48 : decode prog_1_method_1_code 48 = .ok (.invokespecial 25, 3) := by decide +kernel
theorem d_0_51 : decode prog_1_method_1_code 51 = .ok (.putfield 26, 3) := by decide +kernel
theorem d_0_54 : decode prog_1_method_1_code 54 = .ok (.aload_n 0, 1) := by decide +kernel
theorem d_0_55 : decode prog_1_method_1_code 55 = .ok (.new 30, 3) := by decide +kernel
theorem d_0_58 : decode prog_1_method_1_code 58 = .ok (.dup, 1) := by decide +kernel
theorem d_0_59 : decode prog_1_method_1_code 59 = .ok (.sipush 240, 3) := by decide +kernel
theorem d_0_62 : decode prog_1_method_1_code 62 = .ok (.invokespecial 32, 3) := by decide +kernel
theorem d_0_65 : decode prog_1_method_1_code 65 = .ok (.putfield 35, 3) := by decide +kernel
theorem d_0_68 : decode prog_1_method_1_code 68 = .ok (.return_, 1) := by decide +kernel
theorem d_1_0 : decode prog_6_method_1_code 0 = .ok (.aload_n 0, 1) := by decide +kernel
theorem d_1_1 : decode prog_6_method_1_code 1 = .ok (.invokespecial 3, 3) := by decide +kernel
theorem d_1_4 : decode prog_6_method_1_code 4 = .ok (.aload_n 0, 1) := by decide +kernel
theorem d_1_5 : decode prog_6_method_1_code 5 = .ok (.sipush 240, 3) := by decide +kernel
theorem d_1_8 : decode prog_6_method_1_code 8 = .ok (.newarray .int, 2) := by decide +kernel
theorem d_1_10 : decode prog_6_method_1_code 10 = .ok (.putfield 9, 3) := by decide +kernel
theorem d_1_13 : decode prog_6_method_1_code 13 = .ok (.aload_n 0, 1) := by decide +kernel
theorem d_1_14 : decode prog_6_method_1_code 14 = .ok (.sipush 240, 3) := by decide +kernel
theorem d_1_17 : decode prog_6_method_1_code 17 = .ok (.newarray .long, 2) := by decide +kernel
theorem d_1_19 : decode prog_6_method_1_code 19 = .ok (.putfield 15, 3) := by decide +kernel
theorem d_1_22 : decode prog_6_method_1_code 22 = .ok (.aload_n 0, 1) := by decide +kernel
theorem d_1_23 : decode prog_6_method_1_code 23 = .ok (.sipush 240, 3) := by decide +kernel
theorem d_1_26 : decode prog_6_method_1_code 26 = .ok (.newarray .int, 2) := by decide +kernel
theorem d_1_28 : decode prog_6_method_1_code 28 = .ok (.putfield 19, 3) := by decide +kernel
theorem d_1_31 : decode prog_6_method_1_code 31 = .ok (.aload_n 0, 1) := by decide +kernel
theorem d_1_32 : decode prog_6_method_1_code 32 = .ok (.sipush 240, 3) := by decide +kernel
theorem d_1_35 : decode prog_6_method_1_code 35 = .ok (.newarray .int, 2) := by decide +kernel
theorem d_1_37 : decode prog_6_method_1_code 37 = .ok (.putfield 22, 3) := by decide +kernel
theorem d_1_40 : decode prog_6_method_1_code 40 = .ok (.aload_n 0, 1) := by decide +kernel
theorem d_1_41 : decode prog_6_method_1_code 41 = .ok (.sipush 240, 3) := by decide +kernel
theorem d_1_44 : decode prog_6_method_1_code 44 = .ok (.newarray .int, 2) := by decide +kernel
theorem d_1_46 : decode prog_6_method_1_code 46 = .ok (.putfield 25, 3) := by decide +kernel
theorem d_1_49 : decode prog_6_method_1_code 49 = .ok (.aload_n 0, 1) := by decide +kernel
theorem d_1_50 : decode prog_6_method_1_code 50 = .ok (.sipush 240, 3) := by decide +kernel
theorem d_1_53 : decode prog_6_method_1_code 53 = .ok (.newarray .int, 2) := by decide +kernel
theorem d_1_55 : decode prog_6_method_1_code 55 = .ok (.putfield 28, 3) := by decide +kernel
theorem d_1_58 : decode prog_6_method_1_code 58 = .ok (.aload_n 0, 1) := by decide +kernel
theorem d_1_59 : decode prog_6_method_1_code 59 = .ok (.new 31, 3) := by decide +kernel
theorem d_1_62 : decode prog_6_method_1_code 62 = .ok (.dup, 1) := by decide +kernel
theorem d_1_63 : decode prog_6_method_1_code 63 = .ok (.sipush 240, 3) := by decide +kernel
theorem d_1_66 : decode prog_6_method_1_code 66 = .ok (.invokespecial 33, 3) := by decide +kernel
theorem d_1_69 : decode prog_6_method_1_code 69 = .ok (.putfield 36, 3) := by decide +kernel
theorem d_1_72 : decode prog_6_method_1_code 72 = .ok (.aload_n 0, 1) := by decide +kernel
theorem d_1_73 : decode prog_6_method_1_code 73 = .ok (.iconst 0, 1) := by decide +kernel
theorem d_1_74 : decode prog_6_method_1_code 74 = .ok (.putfield 40, 3) := by decide +kernel
theorem d_1_77 : decode prog_6_method_1_code 77 = .ok (.return_, 1) := by decide +kernel
theorem d_2_0 : decode prog_2_method_1_code 0 = .ok (.aload_n 0, 1) := by decide +kernel
theorem d_2_1 : decode prog_2_method_1_code 1 = .ok (.invokespecial 3, 3) := by decide +kernel
theorem d_2_4 : decode prog_2_method_1_code 4 = .ok (.aload_n 0, 1) := by decide +kernel
theorem d_2_5 : decode prog_2_method_1_code 5 = .ok (.iload_n 1, 1) := by decide +kernel
theorem d_2_6 : decode prog_2_method_1_code 6 = .ok (.newarray .char, 2) := by decide +kernel
theorem d_2_8 : decode prog_2_method_1_code 8 = .ok (.putfield 9, 3) := by decide +kernel
theorem d_2_11 : decode prog_2_method_1_code 11 = .ok (.aload_n 0, 1) := by decide +kernel
theorem d_2_12 : decode prog_2_method_1_code 12 = .ok (.iconst 0, 1) := by decide +kernel
theorem d_2_13 : decode prog_2_method_1_code 13 = .ok (.putfield 15, 3) := by decide +kernel
theorem d_2_16 : decode prog_2_method_1_code 16 = .ok (.return_, 1) := by decide +kernel
theorem d_3_0 : decode prog_5_method_1_code 0 = .ok (.aload_n 0, 1) := by decide +kernel
theorem d_3_1 : decode prog_5_method_1_code 1 = .ok (.invokespecial 3, 3) := by decide +kernel
theorem d_3_4 : decode prog_5_method_1_code 4 = .ok (.aload_n 0, 1) := by decide +kernel
theorem d_3_5 : decode prog_5_method_1_code 5 = .ok (.new 9, 3) := by decide +kernel
theorem d_3_8 : decode prog_5_method_1_code 8 = .ok (.dup, 1) := by decide +kernel
theorem d_3_9 : decode prog_5_method_1_code 9 = .ok (.invokespecial 11, 3) := by decide +kernel
theorem d_3_12 : decode prog_5_method_1_code 12 = .ok (.putfield 12, 3) := by decide +kernel
theorem d_3_15 : decode prog_5_method_1_code 15 = .ok (.aload_n 0, 1) := by decide +kernel
theorem d_3_16 : decode prog_5_method_1_code 16 = .ok (.new 18, 3) := by decide +kernel
theorem d_3_19 : decode prog_5_method_1_code 19 = .ok (.dup, 1) := by decide +kernel
theorem d_3_20 : decode prog_5_method_1_code 20 = .ok (.invokespecial 20, 3) := by decide +kernel
theorem d_3_23 : decode prog_5_method_1_code 23 = .ok (.putfield 21, 3) := by decide +kernel
theorem d_3_26 : decode prog_5_method_1_code 26 = .ok (.aload_n 0, 1) := by decide +kernel
theorem d_3_27 : decode prog_5_method_1_code 27 = .ok (.sipush 240, 3) := by decide +kernel
theorem d_3_30 : decode prog_5_method_1_code 30 = .ok (.newarray .int, 2) := by decide +kernel
theorem d_3_32 : decode prog_5_method_1_code 32 = .ok (.putfield 25, 3) := by decide +kernel
theorem d_3_35 : decode prog_5_method_1_code 35 = .ok (.aload_n 0, 1) := by decide +kernel
theorem d_3_36 : decode prog_5_method_1_code 36 = .ok (.new 29, 3) := by decide +kernel
theorem d_3_39 : decode prog_5_method_1_code 39 = .ok (.dup, 1) := by decide +kernel
theorem d_3_40 : decode prog_5_method_1_code 40 = .ok (.invokespecial 31, 3) := by decide +kernel
theorem d_3_43 : decode prog_5_method_1_code 43 = .ok (.putfield 32, 3) := by decide +kernel
theorem d_3_46 : decode prog_5_method_1_code 46 = .ok (.aload_n 0, 1) := by decide +kernel
theorem d_3_47 : decode prog_5_method_1_code 47 = .ok (.iconst (-1), 1) := by decide +kernel
theorem d_3_48 : decode prog_5_method_1_code 48 = .ok (.putfield 36, 3) := by decide +kernel
theorem d_3_51 : decode prog_5_method_1_code 51 = .ok (.return_, 1) := by decide +kernel
theorem d_4_0 : decode prog_3_method_1_code 0 = .ok (.aload_n 0, 1) := by decide +kernel
theorem d_4_1 : decode prog_3_method_1_code 1 = .ok (.invokespecial 3, 3) := by decide +kernel
theorem d_4_4 : decode prog_3_method_1_code 4 = .ok (.aload_n 0, 1) := by decide +kernel
theorem d_4_5 : decode prog_3_method_1_code 5 = .ok (.bipush 24, 2) := by decide +kernel
theorem d_4_7 : decode prog_3_method_1_code 7 = .ok (.newarray .int, 2) := by decide +kernel
theorem d_4_9 : decode prog_3_method_1_code 9 = .ok (.putfield 9, 3) := by decide +kernel
theorem d_4_12 : decode prog_3_method_1_code 12 = .ok (.aload_n 0, 1) := by decide +kernel
theorem d_4_13 : decode prog_3_method_1_code 13 = .ok (.bipush 24, 2) := by decide +kernel
theorem d_4_15 : decode prog_3_method_1_code 15 = .ok (.newarray .int, 2) := by decide +kernel
theorem d_4_17 : decode prog_3_method_1_code 17 = .ok (.putfield 15, 3) := by decide +kernel
theorem d_4_20 : decode prog_3_method_1_code 20 = .ok (.aload_n 0, 1) := by decide +kernel
theorem d_4_21 : decode prog_3_method_1_code 21 = .ok (.iconst 0, 1) := by decide +kernel
theorem d_4_22 : decode prog_3_method_1_code 22 = .ok (.putfield 18, 3) := by decide +kernel
theorem d_4_25 : decode prog_3_method_1_code 25 = .ok (.return_, 1) := by decide +kernel
theorem d_5_0 : decode prog_4_method_1_code 0 = .ok (.aload_n 0, 1) := by decide +kernel
theorem d_5_1 : decode prog_4_method_1_code 1 = .ok (.invokespecial 3, 3) := by decide +kernel
theorem d_5_4 : decode prog_4_method_1_code 4 = .ok (.return_, 1) := by decide +kernel
theorem d_6_0 : decode prog_7_method_1_code 0 = .ok (.aload_n 0, 1) := by decide +kernel
theorem d_6_1 : decode prog_7_method_1_code 1 = .ok (.invokespecial 3, 3) := by decide +kernel
theorem d_6_4 : decode prog_7_method_1_code 4 = .ok (.aload_n 0, 1) := by decide +kernel
theorem d_6_5 : decode prog_7_method_1_code 5 = .ok (.new 9, 3) := by decide +kernel
theorem d_6_8 : decode prog_7_method_1_code 8 = .ok (.dup, 1) := by decide +kernel
theorem d_6_9 : decode prog_7_method_1_code 9 = .ok (.invokespecial 11, 3) := by decide +kernel
theorem d_6_12 : decode prog_7_method_1_code 12 = .ok (.putfield 12, 3) := by decide +kernel
theorem d_6_15 : decode prog_7_method_1_code 15 = .ok (.aload_n 0, 1) := by decide +kernel
theorem d_6_16 : decode prog_7_method_1_code 16 = .ok (.new 18, 3) := by decide +kernel
theorem d_6_19 : decode prog_7_method_1_code 19 = .ok (.dup, 1) := by decide +kernel
theorem d_6_20 : decode prog_7_method_1_code 20 = .ok (.sipush 480, 3) := by decide +kernel
theorem d_6_23 : decode prog_7_method_1_code 23 = .ok (.invokespecial 20, 3) := by decide +kernel
theorem d_6_26 : decode prog_7_method_1_code 26 = .ok (.putfield 23, 3) := by decide +kernel
theorem d_6_29 : decode prog_7_method_1_code 29 = .ok (.aload_n 0, 1) := by decide +kernel
theorem d_6_30 : decode prog_7_method_1_code 30 = .ok (.bipush 20, 2) := by decide +kernel
theorem d_6_32 : decode prog_7_method_1_code 32 = .ok (.newarray .char, 2) := by decide +kernel
theorem d_6_34 : decode prog_7_method_1_code 34 = .ok (.putfield 27, 3) := by decide +kernel
theorem d_6_37 : decode prog_7_method_1_code 37 = .ok (.aload_n 0, 1) := by decide +kernel
theorem d_6_38 : decode prog_7_method_1_code 38 = .ok (.new 18, 3) := by decide +kernel
theorem d_6_41 : decode prog_7_method_1_code 41 = .ok (.dup, 1) := by decide +kernel
theorem d_6_42 : decode prog_7_method_1_code 42 = .ok (.sipush 240, 3) := by decide +kernel
theorem d_6_45 : decode prog_7_method_1_code 45 = .ok (.invokespecial 20, 3) := by decide +kernel
theorem d_6_48 : decode prog_7_method_1_code 48 = .ok (.putfield 31, 3) := by decide +kernel
theorem d_6_51 : decode prog_7_method_1_code 51 = .ok (.return_, 1) := by decide +kernel
theorem d_7_0 : decode prog_1_method_2_code 0 = .ok (.iconst 0, 1) := by decide +kernel
theorem d_7_1 : decode prog_1_method_2_code 1 = .ok (.istore_n 2, 1) := by decide +kernel
theorem d_7_2 : decode prog_1_method_2_code 2 = .ok (.bipush 24, 2) := by decide +kernel
theorem d_7_4 : decode prog_1_method_2_code 4 = .ok (.istore_n 3, 1) := by decide +kernel
theorem d_7_5 : decode prog_1_method_2_code 5 = .ok (.iload_n 3, 1) := by decide +kernel
theorem d_7_6 : decode prog_1_method_2_code 6 = .ok (.ifCond .lt 52, 3) := by decide +kernel
theorem d_7_9 : decode prog_1_method_2_code 9 = .ok (.iload_n 1, 1) := by decide +kernel
theorem d_7_10 : decode prog_1_method_2_code 10 = .ok (.iload_n 3, 1) := by decide +kernel
theorem d_7_11 : decode prog_1_method_2_code 11 = .ok (.iushr, 1) := by decide +kernel
theorem d_7_12 : decode prog_1_method_2_code 12 = .ok (.sipush 255, 3) := by decide +kernel
theorem d_7_15 : decode prog_1_method_2_code 15 = .ok (.iand, 1) := by decide +kernel
theorem d_7_16 : decode prog_1_method_2_code 16 = .ok (.istore 4, 2) := by decide +kernel
theorem d_7_18 : decode prog_1_method_2_code 18 = .ok (.iload 4, 2) := by decide +kernel
theorem d_7_20 : decode prog_1_method_2_code 20 = .ok (.ifCond .eq 19, 3) := by decide +kernel
theorem d_7_23 : decode prog_1_method_2_code 23 = .ok (.iload 4, 2) := by decide +kernel
theorem d_7_25 : decode prog_1_method_2_code 25 = .ok (.bipush 32, 2) := by decide +kernel
theorem d_7_27 : decode prog_1_method_2_code 27 = .ok (.if_icmp .lt 10, 3) := by decide +kernel
theorem d_7_30 : decode prog_1_method_2_code 30 = .ok (.iload 4, 2) := by decide +kernel
theorem d_7_32 : decode prog_1_method_2_code 32 = .ok (.bipush 126, 2) := by decide +kernel
theorem d_7_34 : decode prog_1_method_2_code 34 = .ok (.if_icmp .le 5, 3) := by decide +kernel
theorem d_7_37 : decode prog_1_method_2_code 37 = .ok (.iconst 0, 1) := by decide +kernel
theorem d_7_38 : decode prog_1_method_2_code 38 = .ok (.ireturn, 1) := by decide +kernel
theorem d_7_39 : decode prog_1_method_2_code 39 = .ok (.iload_n 2, 1) := by decide +kernel
theorem d_7_40 : decode prog_1_method_2_code 40 = .ok (.iload 4, 2) := by decide +kernel
theorem d_7_42 : decode prog_1_method_2_code 42 = .ok (.ifCond .eq 7, 3) := by decide +kernel
theorem d_7_45 : decode prog_1_method_2_code 45 = .ok (.iconst 1, 1) := by decide +kernel
theorem d_7_46 : decode prog_1_method_2_code 46 = .ok (.goto 4, 3) := by decide +kernel
theorem d_7_49 : decode prog_1_method_2_code 49 = .ok (.iconst 0, 1) := by decide +kernel
theorem d_7_50 : decode prog_1_method_2_code 50 = .ok (.iadd, 1) := by decide +kernel
theorem d_7_51 : decode prog_1_method_2_code 51 = .ok (.istore_n 2, 1) := by decide +kernel
theorem d_7_52 : decode prog_1_method_2_code 52 = .ok (.iinc 3 (-8), 3) := by decide +kernel
theorem d_7_55 : decode prog_1_method_2_code 55 = .ok (.goto (-50), 3) := by decide +kernel
theorem d_7_58 : decode prog_1_method_2_code 58 = .ok (.iload_n 2, 1) := by decide +kernel
theorem d_7_59 : decode prog_1_method_2_code 59 = .ok (.sipush 240, 3) := by decide +kernel
theorem d_7_62 : decode prog_1_method_2_code 62 = .ok (.aload_n 0, 1) := by decide +kernel
theorem d_7_63 : decode prog_1_method_2_code 63 = .ok (.getfield 35, 3) := by decide +kernel
theorem d_7_66 : decode prog_1_method_2_code 66 = .ok (.getfield 39, 3) := by decide +kernel
theorem d_7_69 : decode prog_1_method_2_code 69 = .ok (.isub, 1) := by decide +kernel
theorem d_7_70 : decode prog_1_method_2_code 70 = .ok (.if_icmp .le 5, 3) := by decide +kernel
theorem d_7_73 : decode prog_1_method_2_code 73 = .ok (.iconst 0, 1) := by decide +kernel
theorem d_7_74 : decode prog_1_method_2_code 74 = .ok (.ireturn, 1) := by decide +kernel
theorem d_7_75 : decode prog_1_method_2_code 75 = .ok (.bipush 24, 2) := by decide +kernel
theorem d_7_77 : decode prog_1_method_2_code 77 = .ok (.istore_n 3, 1) := by decide +kernel
theorem d_7_78 : decode prog_1_method_2_code 78 = .ok (.iload_n 3, 1) := by decide +kernel
theorem d_7_79 : decode prog_1_method_2_code 79 = .ok (.ifCond .lt 33, 3) := by decide +kernel
theorem d_7_82 : decode prog_1_method_2_code 82 = .ok (.iload_n 1, 1) := by decide +kernel
theorem d_7_83 : decode prog_1_method_2_code 83 = .ok (.iload_n 3, 1) := by decide +kernel
theorem d_7_84 : decode prog_1_method_2_code 84 = .ok (.iushr, 1) := by decide +kernel
theorem d_7_85 : decode prog_1_method_2_code 85 = .ok (.sipush 255, 3) := by decide +kernel
theorem d_7_88 : decode prog_1_method_2_code 88 = .ok (.iand, 1) := by decide +kernel
theorem d_7_89 : decode prog_1_method_2_code 89 = .ok (.istore 4, 2) := by decide +kernel
theorem d_7_91 : decode prog_1_method_2_code 91 = .ok (.iload 4, 2) := by decide +kernel
theorem d_7_93 : decode prog_1_method_2_code 93 = .ok (.ifCond .eq 13, 3) := by decide +kernel
theorem d_7_96 : decode prog_1_method_2_code 96 = .ok (.aload_n 0, 1) := by decide +kernel
theorem d_7_97 : decode prog_1_method_2_code 97 = .ok (.getfield 35, 3) := by decide +kernel
theorem d_7_100 : decode prog_1_method_2_code 100 = .ok (.iload 4, 2) := by decide +kernel
theorem d_7_102 : decode prog_1_method_2_code 102 = .ok (.invokevirtual 43, 3) := by decide +kernel
theorem d_7_105 : decode prog_1_method_2_code 105 = .ok (.pop, 1) := by decide +kernel
theorem d_7_106 : decode prog_1_method_2_code 106 = .ok (.iinc 3 (-8), 3) := by decide +kernel
theorem d_7_109 : decode prog_1_method_2_code 109 = .ok (.goto (-31), 3) := by decide +kernel
theorem d_7_112 : decode prog_1_method_2_code 112 = .ok (.iconst 1, 1) := by decide +kernel
theorem d_7_113 : decode prog_1_method_2_code 113 = .ok (.ireturn, 1) := by decide +kernel
theorem d_8_0 : decode prog_2_method_2_code 0 = .ok (.aload_n 0, 1) := by decide +kernel
theorem d_8_1 : decode prog_2_method_2_code 1 = .ok (.getfield 15, 3) := by decide +kernel
theorem d_8_4 : decode prog_2_method_2_code 4 = .ok (.aload_n 0, 1) := by decide +kernel
theorem d_8_5 : decode prog_2_method_2_code 5 = .ok (.getfield 9, 3) := by decide +kernel
theorem d_8_8 : decode prog_2_method_2_code 8 = .ok (.arraylength, 1) := by decide +kernel
theorem d_8_9 : decode prog_2_method_2_code 9 = .ok (.if_icmp .lt 5, 3) := by decide +kernel
theorem d_8_12 : decode prog_2_method_2_code 12 = .ok (.iconst 0, 1) := by decide +kernel
theorem d_8_13 : decode prog_2_method_2_code 13 = .ok (.ireturn, 1) := by decide +kernel
theorem d_8_14 : decode prog_2_method_2_code 14 = .ok (.aload_n 0, 1) := by decide +kernel
theorem d_8_15 : decode prog_2_method_2_code 15 = .ok (.getfield 9, 3) := by decide +kernel
theorem d_8_18 : decode prog_2_method_2_code 18 = .ok (.aload_n 0, 1) := by decide +kernel
theorem d_8_19 : decode prog_2_method_2_code 19 = .ok (.getfield 15, 3) := by decide +kernel
theorem d_8_22 : decode prog_2_method_2_code 22 = .ok (.iload_n 1, 1) := by decide +kernel
theorem d_8_23 : decode prog_2_method_2_code 23 = .ok (.i2c, 1) := by decide +kernel
theorem d_8_24 : decode prog_2_method_2_code 24 = .ok (.castore, 1) := by decide +kernel
theorem d_8_25 : decode prog_2_method_2_code 25 = .ok (.aload_n 0, 1) := by decide +kernel
theorem d_8_26 : decode prog_2_method_2_code 26 = .ok (.dup, 1) := by decide +kernel
theorem d_8_27 : decode prog_2_method_2_code 27 = .ok (.getfield 15, 3) := by decide +kernel
theorem d_8_30 : decode prog_2_method_2_code 30 = .ok (.iconst 1, 1) := by decide +kernel
theorem d_8_31 : decode prog_2_method_2_code 31 = .ok (.iadd, 1) := by decide +kernel
theorem d_8_32 : decode prog_2_method_2_code 32 = .ok (.putfield 15, 3) := by decide +kernel
theorem d_8_35 : decode prog_2_method_2_code 35 = .ok (.iconst 1, 1) := by decide +kernel
theorem d_8_36 : decode prog_2_method_2_code 36 = .ok (.ireturn, 1) := by decide +kernel
theorem d_9_0 : decode prog_1_method_3_code 0 = .ok (.aload_n 0, 1) := by decide +kernel
theorem d_9_1 : decode prog_1_method_3_code 1 = .ok (.getfield 35, 3) := by decide +kernel
theorem d_9_4 : decode prog_1_method_3_code 4 = .ok (.iconst 0, 1) := by decide +kernel
theorem d_9_5 : decode prog_1_method_3_code 5 = .ok (.invokevirtual 47, 3) := by decide +kernel
theorem d_9_8 : decode prog_1_method_3_code 8 = .ok (.return_, 1) := by decide +kernel
theorem d_10_0 : decode prog_2_method_4_code 0 = .ok (.aload_n 0, 1) := by decide +kernel
theorem d_10_1 : decode prog_2_method_4_code 1 = .ok (.iload_n 1, 1) := by decide +kernel
theorem d_10_2 : decode prog_2_method_4_code 2 = .ok (.putfield 15, 3) := by decide +kernel
theorem d_10_5 : decode prog_2_method_4_code 5 = .ok (.return_, 1) := by decide +kernel
theorem d_11_0 : decode prog_1_method_4_code 0 = .ok (.aload_n 0, 1) := by decide +kernel
theorem d_11_1 : decode prog_1_method_4_code 1 = .ok (.getfield 35, 3) := by decide +kernel
theorem d_11_4 : decode prog_1_method_4_code 4 = .ok (.getfield 39, 3) := by decide +kernel
theorem d_11_7 : decode prog_1_method_4_code 7 = .ok (.ireturn, 1) := by decide +kernel
theorem d_12_0 : decode prog_1_method_5_code 0 = .ok (.aload_n 0, 1) := by decide +kernel
theorem d_12_1 : decode prog_1_method_5_code 1 = .ok (.getfield 35, 3) := by decide +kernel
theorem d_12_4 : decode prog_1_method_5_code 4 = .ok (.iload_n 1, 1) := by decide +kernel
theorem d_12_5 : decode prog_1_method_5_code 5 = .ok (.invokevirtual 50, 3) := by decide +kernel
theorem d_12_8 : decode prog_1_method_5_code 8 = .ok (.ireturn, 1) := by decide +kernel
theorem d_13_0 : decode prog_2_method_3_code 0 = .ok (.iload_n 1, 1) := by decide +kernel
theorem d_13_1 : decode prog_2_method_3_code 1 = .ok (.ifCond .lt 20, 3) := by decide +kernel
theorem d_13_4 : decode prog_2_method_3_code 4 = .ok (.iload_n 1, 1) := by decide +kernel
theorem d_13_5 : decode prog_2_method_3_code 5 = .ok (.aload_n 0, 1) := by decide +kernel
theorem d_13_6 : decode prog_2_method_3_code 6 = .ok (.getfield 15, 3) := by decide +kernel
theorem d_13_9 : decode prog_2_method_3_code 9 = .ok (.if_icmp .ge 12, 3) := by decide +kernel
theorem d_13_12 : decode prog_2_method_3_code 12 = .ok (.aload_n 0, 1) := by decide +kernel
theorem d_13_13 : decode prog_2_method_3_code 13 = .ok (.getfield 9, 3) := by decide +kernel
theorem d_13_16 : decode prog_2_method_3_code 16 = .ok (.iload_n 1, 1) := by decide +kernel
theorem d_13_17 : decode prog_2_method_3_code 17 = .ok (.caload, 1) := by decide +kernel
theorem d_13_18 : decode prog_2_method_3_code 18 = .ok (.goto 4, 3) := by decide +kernel
theorem d_13_21 : decode prog_2_method_3_code 21 = .ok (.iconst (-1), 1) := by decide +kernel
theorem d_13_22 : decode prog_2_method_3_code 22 = .ok (.ireturn, 1) := by decide +kernel
theorem d_14_0 : decode prog_1_method_7_code 0 = .ok (.aload_n 0, 1) := by decide +kernel
theorem d_14_1 : decode prog_1_method_7_code 1 = .ok (.getfield 19, 3) := by decide +kernel
theorem d_14_4 : decode prog_1_method_7_code 4 = .ok (.getfield 66, 3) := by decide +kernel
theorem d_14_7 : decode prog_1_method_7_code 7 = .ok (.ireturn, 1) := by decide +kernel
theorem d_15_0 : decode prog_1_method_15_code 0 = .ok (.aload_n 0, 1) := by decide +kernel
theorem d_15_1 : decode prog_1_method_15_code 1 = .ok (.getfield 12, 3) := by decide +kernel
theorem d_15_4 : decode prog_1_method_15_code 4 = .ok (.iconst 0, 1) := by decide +kernel
theorem d_15_5 : decode prog_1_method_15_code 5 = .ok (.aaload, 1) := by decide +kernel
theorem d_15_6 : decode prog_1_method_15_code 6 = .ok (.getfield 65, 3) := by decide +kernel
theorem d_15_9 : decode prog_1_method_15_code 9 = .ok (.ifCond .eq 15, 3) := by decide +kernel
theorem d_15_12 : decode prog_1_method_15_code 12 = .ok (.aload_n 0, 1) := by decide +kernel
theorem d_15_13 : decode prog_1_method_15_code 13 = .ok (.getfield 12, 3) := by decide +kernel
theorem d_15_16 : decode prog_1_method_15_code 16 = .ok (.iconst 1, 1) := by decide +kernel
theorem d_15_17 : decode prog_1_method_15_code 17 = .ok (.aaload, 1) := by decide +kernel
theorem d_15_18 : decode prog_1_method_15_code 18 = .ok (.getfield 65, 3) := by decide +kernel
theorem d_15_21 : decode prog_1_method_15_code 21 = .ok (.ifCond .ne 30, 3) := by decide +kernel
theorem d_15_24 : decode prog_1_method_15_code 24 = .ok (.aload_n 0, 1) := by decide +kernel
theorem d_15_25 : decode prog_1_method_15_code 25 = .ok (.getfield 12, 3) := by decide +kernel
theorem d_15_28 : decode prog_1_method_15_code 28 = .ok (.iconst 0, 1) := by decide +kernel
theorem d_15_29 : decode prog_1_method_15_code 29 = .ok (.aaload, 1) := by decide +kernel
theorem d_15_30 : decode prog_1_method_15_code 30 = .ok (.getfield 65, 3) := by decide +kernel
theorem d_15_33 : decode prog_1_method_15_code 33 = .ok (.aload_n 0, 1) := by decide +kernel
theorem d_15_34 : decode prog_1_method_15_code 34 = .ok (.getfield 12, 3) := by decide +kernel
theorem d_15_37 : decode prog_1_method_15_code 37 = .ok (.iconst 1, 1) := by decide +kernel
theorem d_15_38 : decode prog_1_method_15_code 38 = .ok (.aaload, 1) := by decide +kernel
theorem d_15_39 : decode prog_1_method_15_code 39 = .ok (.getfield 65, 3) := by decide +kernel
theorem d_15_42 : decode prog_1_method_15_code 42 = .ok (.if_icmp .ne 7, 3) := by decide +kernel
theorem d_15_45 : decode prog_1_method_15_code 45 = .ok (.iconst 1, 1) := by decide +kernel
theorem d_15_46 : decode prog_1_method_15_code 46 = .ok (.goto 4, 3) := by decide +kernel
theorem d_15_49 : decode prog_1_method_15_code 49 = .ok (.iconst 0, 1) := by decide +kernel
theorem d_15_50 : decode prog_1_method_15_code 50 = .ok (.ireturn, 1) := by decide +kernel
theorem d_15_51 : decode prog_1_method_15_code 51 = .ok (.aload_n 0, 1) := by decide +kernel
theorem d_15_52 : decode prog_1_method_15_code 52 = .ok (.getfield 12, 3) := by decide +kernel
theorem d_15_55 : decode prog_1_method_15_code 55 = .ok (.iconst 0, 1) := by decide +kernel
theorem d_15_56 : decode prog_1_method_15_code 56 = .ok (.aaload, 1) := by decide +kernel
theorem d_15_57 : decode prog_1_method_15_code 57 = .ok (.iconst 0, 1) := by decide +kernel
theorem d_15_58 : decode prog_1_method_15_code 58 = .ok (.aload_n 0, 1) := by decide +kernel
theorem d_15_59 : decode prog_1_method_15_code 59 = .ok (.getfield 12, 3) := by decide +kernel
theorem d_15_62 : decode prog_1_method_15_code 62 = .ok (.iconst 1, 1) := by decide +kernel
theorem d_15_63 : decode prog_1_method_15_code 63 = .ok (.aaload, 1) := by decide +kernel
theorem d_15_64 : decode prog_1_method_15_code 64 = .ok (.iconst 0, 1) := by decide +kernel
theorem d_15_65 : decode prog_1_method_15_code 65 = .ok (.iconst 0, 1) := by decide +kernel
theorem d_15_66 : decode prog_1_method_15_code 66 = .ok (.invokestatic 106, 3) := by decide +kernel
theorem d_15_69 : decode prog_1_method_15_code 69 = .ok (.ireturn, 1) := by decide +kernel
theorem d_16_0 : decode prog_6_method_11_code 0 = .ok (.iload 4, 2) := by decide +kernel
theorem d_16_2 : decode prog_6_method_11_code 2 = .ok (.bipush 10, 2) := by decide +kernel
theorem d_16_4 : decode prog_6_method_11_code 4 = .ok (.if_icmp .ge 96, 3) := by decide +kernel
theorem d_16_7 : decode prog_6_method_11_code 7 = .ok (.aload_n 0, 1) := by decide +kernel
theorem d_16_8 : decode prog_6_method_11_code 8 = .ok (.getfield 9, 3) := by decide +kernel
theorem d_16_11 : decode prog_6_method_11_code 11 = .ok (.iload_n 1, 1) := by decide +kernel
theorem d_16_12 : decode prog_6_method_11_code 12 = .ok (.iaload, 1) := by decide +kernel
theorem d_16_13 : decode prog_6_method_11_code 13 = .ok (.aload_n 2, 1) := by decide +kernel
theorem d_16_14 : decode prog_6_method_11_code 14 = .ok (.getfield 9, 3) := by decide +kernel
theorem d_16_17 : decode prog_6_method_11_code 17 = .ok (.iload_n 3, 1) := by decide +kernel
theorem d_16_18 : decode prog_6_method_11_code 18 = .ok (.iaload, 1) := by decide +kernel
theorem d_16_19 : decode prog_6_method_11_code 19 = .ok (.if_icmp .ne 81, 3) := by decide +kernel
theorem d_16_22 : decode prog_6_method_11_code 22 = .ok (.aload_n 0, 1) := by decide +kernel
theorem d_16_23 : decode prog_6_method_11_code 23 = .ok (.getfield 15, 3) := by decide +kernel
theorem d_16_26 : decode prog_6_method_11_code 26 = .ok (.iload_n 1, 1) := by decide +kernel
theorem d_16_27 : decode prog_6_method_11_code 27 = .ok (.laload, 1) := by decide +kernel
theorem d_16_28 : decode prog_6_method_11_code 28 = .ok (.aload_n 2, 1) := by decide +kernel
theorem d_16_29 : decode prog_6_method_11_code 29 = .ok (.getfield 15, 3) := by decide +kernel
theorem d_16_32 : decode prog_6_method_11_code 32 = .ok (.iload_n 3, 1) := by decide +kernel
theorem d_16_33 : decode prog_6_method_11_code 33 = .ok (.laload, 1) := by decide +kernel
theorem d_16_34 : decode prog_6_method_11_code 34 = .ok (.lcmp, 1) := by decide +kernel
theorem d_16_35 : decode prog_6_method_11_code 35 = .ok (.ifCond .ne 65, 3) := by decide +kernel
theorem d_16_38 : decode prog_6_method_11_code 38 = .ok (.aload_n 0, 1) := by decide +kernel
theorem d_16_39 : decode prog_6_method_11_code 39 = .ok (.getfield 25, 3) := by decide +kernel
theorem d_16_42 : decode prog_6_method_11_code 42 = .ok (.iload_n 1, 1) := by decide +kernel
theorem d_16_43 : decode prog_6_method_11_code 43 = .ok (.iaload, 1) := by decide +kernel
theorem d_16_44 : decode prog_6_method_11_code 44 = .ok (.aload_n 2, 1) := by decide +kernel
theorem d_16_45 : decode prog_6_method_11_code 45 = .ok (.getfield 25, 3) := by decide +kernel
theorem d_16_48 : decode prog_6_method_11_code 48 = .ok (.iload_n 3, 1) := by decide +kernel
theorem d_16_49 : decode prog_6_method_11_code 49 = .ok (.iaload, 1) := by decide +kernel
theorem d_16_50 : decode prog_6_method_11_code 50 = .ok (.if_icmp .ne 50, 3) := by decide +kernel
theorem d_16_53 : decode prog_6_method_11_code 53 = .ok (.aload_n 0, 1) := by decide +kernel
theorem d_16_54 : decode prog_6_method_11_code 54 = .ok (.getfield 22, 3) := by decide +kernel
theorem d_16_57 : decode prog_6_method_11_code 57 = .ok (.iload_n 1, 1) := by decide +kernel
theorem d_16_58 : decode prog_6_method_11_code 58 = .ok (.iaload, 1) := by decide +kernel
theorem d_16_59 : decode prog_6_method_11_code 59 = .ok (.aload_n 2, 1) := by decide +kernel
theorem d_16_60 : decode prog_6_method_11_code 60 = .ok (.getfield 22, 3) := by decide +kernel
theorem d_16_63 : decode prog_6_method_11_code 63 = .ok (.iload_n 3, 1) := by decide +kernel
theorem d_16_64 : decode prog_6_method_11_code 64 = .ok (.iaload, 1) := by decide +kernel
theorem d_16_65 : decode prog_6_method_11_code 65 = .ok (.if_icmp .ne 35, 3) := by decide +kernel
theorem d_16_68 : decode prog_6_method_11_code 68 = .ok (.aload_n 0, 1) := by decide +kernel
theorem d_16_69 : decode prog_6_method_11_code 69 = .ok (.getfield 36, 3) := by decide +kernel
theorem d_16_72 : decode prog_6_method_11_code 72 = .ok (.aload_n 0, 1) := by decide +kernel
theorem d_16_73 : decode prog_6_method_11_code 73 = .ok (.getfield 19, 3) := by decide +kernel
theorem d_16_76 : decode prog_6_method_11_code 76 = .ok (.iload_n 1, 1) := by decide +kernel
theorem d_16_77 : decode prog_6_method_11_code 77 = .ok (.iaload, 1) := by decide +kernel
theorem d_16_78 : decode prog_6_method_11_code 78 = .ok (.aload_n 2, 1) := by decide +kernel
theorem d_16_79 : decode prog_6_method_11_code 79 = .ok (.getfield 36, 3) := by decide +kernel
theorem d_16_82 : decode prog_6_method_11_code 82 = .ok (.aload_n 2, 1) := by decide +kernel
theorem d_16_83 : decode prog_6_method_11_code 83 = .ok (.getfield 19, 3) := by decide +kernel
theorem d_16_86 : decode prog_6_method_11_code 86 = .ok (.iload_n 3, 1) := by decide +kernel
theorem d_16_87 : decode prog_6_method_11_code 87 = .ok (.iaload, 1) := by decide +kernel
theorem d_16_88 : decode prog_6_method_11_code 88 = .ok (.aload_n 0, 1) := by decide +kernel
theorem d_16_89 : decode prog_6_method_11_code 89 = .ok (.getfield 22, 3) := by decide +kernel
theorem d_16_92 : decode prog_6_method_11_code 92 = .ok (.iload_n 1, 1) := by decide +kernel
theorem d_16_93 : decode prog_6_method_11_code 93 = .ok (.iaload, 1) := by decide +kernel
theorem d_16_94 : decode prog_6_method_11_code 94 = .ok (.invokevirtual 51, 3) := by decide +kernel
theorem d_16_97 : decode prog_6_method_11_code 97 = .ok (.ifCond .ne 5, 3) := by decide +kernel
theorem d_16_100 : decode prog_6_method_11_code 100 = .ok (.iconst 0, 1) := by decide +kernel
theorem d_16_101 : decode prog_6_method_11_code 101 = .ok (.ireturn, 1) := by decide +kernel
theorem d_16_102 : decode prog_6_method_11_code 102 = .ok (.aload_n 0, 1) := by decide +kernel
theorem d_16_103 : decode prog_6_method_11_code 103 = .ok (.getfield 9, 3) := by decide +kernel
theorem d_16_106 : decode prog_6_method_11_code 106 = .ok (.iload_n 1, 1) := by decide +kernel
theorem d_16_107 : decode prog_6_method_11_code 107 = .ok (.iaload, 1) := by decide +kernel
theorem d_16_108 : decode prog_6_method_11_code 108 = .ok (.bipush 10, 2) := by decide +kernel
theorem d_16_110 : decode prog_6_method_11_code 110 = .ok (.if_icmp .ne 16, 3) := by decide +kernel
theorem d_16_113 : decode prog_6_method_11_code 113 = .ok (.aload_n 0, 1) := by decide +kernel
theorem d_16_114 : decode prog_6_method_11_code 114 = .ok (.iload_n 1, 1) := by decide +kernel
theorem d_16_115 : decode prog_6_method_11_code 115 = .ok (.aload_n 2, 1) := by decide +kernel
theorem d_16_116 : decode prog_6_method_11_code 116 = .ok (.iload_n 3, 1) := by decide +kernel
theorem d_16_117 : decode prog_6_method_11_code 117 = .ok (.iconst 0, 1) := by decide +kernel
theorem d_16_118 : decode prog_6_method_11_code 118 = .ok (.iload 4, 2) := by decide +kernel
theorem d_16_120 : decode prog_6_method_11_code 120 = .ok (.iconst 1, 1) := by decide +kernel
theorem d_16_121 : decode prog_6_method_11_code 121 = .ok (.iadd, 1) := by decide +kernel
theorem d_16_122 : decode prog_6_method_11_code 122 = .ok (.invokestatic 55, 3) := by decide +kernel
theorem d_16_125 : decode prog_6_method_11_code 125 = .ok (.ireturn, 1) := by decide +kernel
theorem d_16_126 : decode prog_6_method_11_code 126 = .ok (.aload_n 0, 1) := by decide +kernel
theorem d_16_127 : decode prog_6_method_11_code 127 = .ok (.getfield 9, 3) := by decide +kernel
theorem d_16_130 : decode prog_6_method_11_code 130 = .ok (.iload_n 1, 1) := by decide +kernel
theorem d_16_131 : decode prog_6_method_11_code 131 = .ok (.iaload, 1) := by decide +kernel
theorem d_16_132 : decode prog_6_method_11_code 132 = .ok (.bipush 11, 2) := by decide +kernel
theorem d_16_134 : decode prog_6_method_11_code 134 = .ok (.if_icmp .ne 16, 3) := by decide +kernel
theorem d_16_137 : decode prog_6_method_11_code 137 = .ok (.aload_n 0, 1) := by decide +kernel
theorem d_16_138 : decode prog_6_method_11_code 138 = .ok (.iload_n 1, 1) := by decide +kernel
theorem d_16_139 : decode prog_6_method_11_code 139 = .ok (.aload_n 2, 1) := by decide +kernel
theorem d_16_140 : decode prog_6_method_11_code 140 = .ok (.iload_n 3, 1) := by decide +kernel
theorem d_16_141 : decode prog_6_method_11_code 141 = .ok (.iconst 1, 1) := by decide +kernel
theorem d_16_142 : decode prog_6_method_11_code 142 = .ok (.iload 4, 2) := by decide +kernel
theorem d_16_144 : decode prog_6_method_11_code 144 = .ok (.iconst 1, 1) := by decide +kernel
theorem d_16_145 : decode prog_6_method_11_code 145 = .ok (.iadd, 1) := by decide +kernel
theorem d_16_146 : decode prog_6_method_11_code 146 = .ok (.invokestatic 55, 3) := by decide +kernel
theorem d_16_149 : decode prog_6_method_11_code 149 = .ok (.ireturn, 1) := by decide +kernel
theorem d_16_150 : decode prog_6_method_11_code 150 = .ok (.aload_n 0, 1) := by decide +kernel
theorem d_16_151 : decode prog_6_method_11_code 151 = .ok (.iload_n 1, 1) := by decide +kernel
theorem d_16_152 : decode prog_6_method_11_code 152 = .ok (.aload_n 2, 1) := by decide +kernel
theorem d_16_153 : decode prog_6_method_11_code 153 = .ok (.iload_n 3, 1) := by decide +kernel
theorem d_16_154 : decode prog_6_method_11_code 154 = .ok (.iload 4, 2) := by decide +kernel
theorem d_16_156 : decode prog_6_method_11_code 156 = .ok (.iconst 1, 1) := by decide +kernel
theorem d_16_157 : decode prog_6_method_11_code 157 = .ok (.iadd, 1) := by decide +kernel
theorem d_16_158 : decode prog_6_method_11_code 158 = .ok (.invokestatic 59, 3) := by decide +kernel
theorem d_16_161 : decode prog_6_method_11_code 161 = .ok (.ireturn, 1) := by decide +kernel
theorem d_17_0 : decode prog_2_method_6_code 0 = .ok (.aload_n 0, 1) := by decide +kernel
theorem d_17_1 : decode prog_2_method_6_code 1 = .ok (.iload_n 1, 1) := by decide +kernel
theorem d_17_2 : decode prog_2_method_6_code 2 = .ok (.iload 4, 2) := by decide +kernel
theorem d_17_4 : decode prog_2_method_6_code 4 = .ok (.invokevirtual 19, 3) := by decide +kernel
theorem d_17_7 : decode prog_2_method_6_code 7 = .ok (.ifCond .eq 13, 3) := by decide +kernel
theorem d_17_10 : decode prog_2_method_6_code 10 = .ok (.aload_n 2, 1) := by decide +kernel
theorem d_17_11 : decode prog_2_method_6_code 11 = .ok (.iload_n 3, 1) := by decide +kernel
theorem d_17_12 : decode prog_2_method_6_code 12 = .ok (.iload 4, 2) := by decide +kernel
theorem d_17_14 : decode prog_2_method_6_code 14 = .ok (.invokevirtual 19, 3) := by decide +kernel
theorem d_17_17 : decode prog_2_method_6_code 17 = .ok (.ifCond .ne 5, 3) := by decide +kernel
theorem d_17_20 : decode prog_2_method_6_code 20 = .ok (.iconst 0, 1) := by decide +kernel
theorem d_17_21 : decode prog_2_method_6_code 21 = .ok (.ireturn, 1) := by decide +kernel
theorem d_17_22 : decode prog_2_method_6_code 22 = .ok (.iconst 0, 1) := by decide +kernel
theorem d_17_23 : decode prog_2_method_6_code 23 = .ok (.istore 5, 2) := by decide +kernel
theorem d_17_25 : decode prog_2_method_6_code 25 = .ok (.iload 5, 2) := by decide +kernel
theorem d_17_27 : decode prog_2_method_6_code 27 = .ok (.iload 4, 2) := by decide +kernel
theorem d_17_29 : decode prog_2_method_6_code 29 = .ok (.if_icmp .ge 32, 3) := by decide +kernel
theorem d_17_32 : decode prog_2_method_6_code 32 = .ok (.aload_n 0, 1) := by decide +kernel
theorem d_17_33 : decode prog_2_method_6_code 33 = .ok (.getfield 9, 3) := by decide +kernel
theorem d_17_36 : decode prog_2_method_6_code 36 = .ok (.iload_n 1, 1) := by decide +kernel
theorem d_17_37 : decode prog_2_method_6_code 37 = .ok (.iload 5, 2) := by decide +kernel
theorem d_17_39 : decode prog_2_method_6_code 39 = .ok (.iadd, 1) := by decide +kernel
theorem d_17_40 : decode prog_2_method_6_code 40 = .ok (.caload, 1) := by decide +kernel
theorem d_17_41 : decode prog_2_method_6_code 41 = .ok (.aload_n 2, 1) := by decide +kernel
theorem d_17_42 : decode prog_2_method_6_code 42 = .ok (.getfield 9, 3) := by decide +kernel
theorem d_17_45 : decode prog_2_method_6_code 45 = .ok (.iload_n 3, 1) := by decide +kernel
theorem d_17_46 : decode prog_2_method_6_code 46 = .ok (.iload 5, 2) := by decide +kernel
theorem d_17_48 : decode prog_2_method_6_code 48 = .ok (.iadd, 1) := by decide +kernel
theorem d_17_49 : decode prog_2_method_6_code 49 = .ok (.caload, 1) := by decide +kernel
theorem d_17_50 : decode prog_2_method_6_code 50 = .ok (.if_icmp .eq 5, 3) := by decide +kernel
theorem d_17_53 : decode prog_2_method_6_code 53 = .ok (.iconst 0, 1) := by decide +kernel
theorem d_17_54 : decode prog_2_method_6_code 54 = .ok (.ireturn, 1) := by decide +kernel
theorem d_17_55 : decode prog_2_method_6_code 55 = .ok (.iinc 5 1, 3) := by decide +kernel
theorem d_17_58 : decode prog_2_method_6_code 58 = .ok (.goto (-33), 3) := by decide +kernel
theorem d_17_61 : decode prog_2_method_6_code 61 = .ok (.iconst 1, 1) := by decide +kernel
theorem d_17_62 : decode prog_2_method_6_code 62 = .ok (.ireturn, 1) := by decide +kernel
theorem d_18_0 : decode prog_2_method_5_code 0 = .ok (.iload_n 1, 1) := by decide +kernel
theorem d_18_1 : decode prog_2_method_5_code 1 = .ok (.ifCond .lt 17, 3) := by decide +kernel
theorem d_18_4 : decode prog_2_method_5_code 4 = .ok (.iload_n 1, 1) := by decide +kernel
theorem d_18_5 : decode prog_2_method_5_code 5 = .ok (.aload_n 0, 1) := by decide +kernel
theorem d_18_6 : decode prog_2_method_5_code 6 = .ok (.getfield 15, 3) := by decide +kernel
theorem d_18_9 : decode prog_2_method_5_code 9 = .ok (.iload_n 2, 1) := by decide +kernel
theorem d_18_10 : decode prog_2_method_5_code 10 = .ok (.isub, 1) := by decide +kernel
theorem d_18_11 : decode prog_2_method_5_code 11 = .ok (.if_icmp .gt 7, 3) := by decide +kernel
theorem d_18_14 : decode prog_2_method_5_code 14 = .ok (.iconst 1, 1) := by decide +kernel
theorem d_18_15 : decode prog_2_method_5_code 15 = .ok (.goto 4, 3) := by decide +kernel
theorem d_18_18 : decode prog_2_method_5_code 18 = .ok (.iconst 0, 1) := by decide +kernel
theorem d_18_19 : decode prog_2_method_5_code 19 = .ok (.ireturn, 1) := by decide +kernel
theorem d_19_0 : decode prog_6_method_13_code 0 = .ok (.iload 4, 2) := by decide +kernel
theorem d_19_2 : decode prog_6_method_13_code 2 = .ok (.ifCond .eq 7, 3) := by decide +kernel
theorem d_19_5 : decode prog_6_method_13_code 5 = .ok (.iconst 2, 1) := by decide +kernel
theorem d_19_6 : decode prog_6_method_13_code 6 = .ok (.goto 4, 3) := by decide +kernel
theorem d_19_9 : decode prog_6_method_13_code 9 = .ok (.iconst 1, 1) := by decide +kernel
theorem d_19_10 : decode prog_6_method_13_code 10 = .ok (.istore 6, 2) := by decide +kernel
theorem d_19_12 : decode prog_6_method_13_code 12 = .ok (.iload_n 1, 1) := by decide +kernel
theorem d_19_13 : decode prog_6_method_13_code 13 = .ok (.iconst 1, 1) := by decide +kernel
theorem d_19_14 : decode prog_6_method_13_code 14 = .ok (.iadd, 1) := by decide +kernel
theorem d_19_15 : decode prog_6_method_13_code 15 = .ok (.istore 7, 2) := by decide +kernel
theorem d_19_17 : decode prog_6_method_13_code 17 = .ok (.iconst 0, 1) := by decide +kernel
theorem d_19_18 : decode prog_6_method_13_code 18 = .ok (.istore 8, 2) := by decide +kernel
theorem d_19_20 : decode prog_6_method_13_code 20 = .ok (.iload 8, 2) := by decide +kernel
theorem d_19_22 : decode prog_6_method_13_code 22 = .ok (.aload_n 0, 1) := by decide +kernel
theorem d_19_23 : decode prog_6_method_13_code 23 = .ok (.getfield 25, 3) := by decide +kernel
theorem d_19_26 : decode prog_6_method_13_code 26 = .ok (.iload_n 1, 1) := by decide +kernel
theorem d_19_27 : decode prog_6_method_13_code 27 = .ok (.iaload, 1) := by decide +kernel
theorem d_19_28 : decode prog_6_method_13_code 28 = .ok (.if_icmp .ge 120, 3) := by decide +kernel
theorem d_19_31 : decode prog_6_method_13_code 31 = .ok (.iload_n 3, 1) := by decide +kernel
theorem d_19_32 : decode prog_6_method_13_code 32 = .ok (.iconst 1, 1) := by decide +kernel
theorem d_19_33 : decode prog_6_method_13_code 33 = .ok (.iadd, 1) := by decide +kernel
theorem d_19_34 : decode prog_6_method_13_code 34 = .ok (.istore 9, 2) := by decide +kernel
theorem d_19_36 : decode prog_6_method_13_code 36 = .ok (.iconst 0, 1) := by decide +kernel
theorem d_19_37 : decode prog_6_method_13_code 37 = .ok (.istore 10, 2) := by decide +kernel
theorem d_19_39 : decode prog_6_method_13_code 39 = .ok (.iload 10, 2) := by decide +kernel
theorem d_19_41 : decode prog_6_method_13_code 41 = .ok (.aload_n 2, 1) := by decide +kernel
theorem d_19_42 : decode prog_6_method_13_code 42 = .ok (.getfield 25, 3) := by decide +kernel
theorem d_19_45 : decode prog_6_method_13_code 45 = .ok (.iload_n 3, 1) := by decide +kernel
theorem d_19_46 : decode prog_6_method_13_code 46 = .ok (.iaload, 1) := by decide +kernel
theorem d_19_47 : decode prog_6_method_13_code 47 = .ok (.if_icmp .ge 37, 3) := by decide +kernel
theorem d_19_50 : decode prog_6_method_13_code 50 = .ok (.aload_n 0, 1) := by decide +kernel
theorem d_19_51 : decode prog_6_method_13_code 51 = .ok (.iload 7, 2) := by decide +kernel
theorem d_19_53 : decode prog_6_method_13_code 53 = .ok (.aload_n 2, 1) := by decide +kernel
theorem d_19_54 : decode prog_6_method_13_code 54 = .ok (.iload 9, 2) := by decide +kernel
theorem d_19_56 : decode prog_6_method_13_code 56 = .ok (.iload 5, 2) := by decide +kernel
theorem d_19_58 : decode prog_6_method_13_code 58 = .ok (.invokestatic 63, 3) := by decide +kernel
theorem d_19_61 : decode prog_6_method_13_code 61 = .ok (.ifCond .ne 23, 3) := by decide +kernel
theorem d_19_64 : decode prog_6_method_13_code 64 = .ok (.aload_n 2, 1) := by decide +kernel
theorem d_19_65 : decode prog_6_method_13_code 65 = .ok (.iload 9, 2) := by decide +kernel
theorem d_19_67 : decode prog_6_method_13_code 67 = .ok (.iload 4, 2) := by decide +kernel
theorem d_19_69 : decode prog_6_method_13_code 69 = .ok (.invokevirtual 47, 3) := by decide +kernel
theorem d_19_72 : decode prog_6_method_13_code 72 = .ok (.istore 9, 2) := by decide +kernel
theorem d_19_74 : decode prog_6_method_13_code 74 = .ok (.iload 10, 2) := by decide +kernel
theorem d_19_76 : decode prog_6_method_13_code 76 = .ok (.iload 6, 2) := by decide +kernel
theorem d_19_78 : decode prog_6_method_13_code 78 = .ok (.iadd, 1) := by decide +kernel
theorem d_19_79 : decode prog_6_method_13_code 79 = .ok (.istore 10, 2) := by decide +kernel
theorem d_19_81 : decode prog_6_method_13_code 81 = .ok (.goto (-42), 3) := by decide +kernel
theorem d_19_84 : decode prog_6_method_13_code 84 = .ok (.iload 10, 2) := by decide +kernel
theorem d_19_86 : decode prog_6_method_13_code 86 = .ok (.aload_n 2, 1) := by decide +kernel
theorem d_19_87 : decode prog_6_method_13_code 87 = .ok (.getfield 25, 3) := by decide +kernel
theorem d_19_90 : decode prog_6_method_13_code 90 = .ok (.iload_n 3, 1) := by decide +kernel
theorem d_19_91 : decode prog_6_method_13_code 91 = .ok (.iaload, 1) := by decide +kernel
theorem d_19_92 : decode prog_6_method_13_code 92 = .ok (.if_icmp .lt 5, 3) := by decide +kernel
theorem d_19_95 : decode prog_6_method_13_code 95 = .ok (.iconst 0, 1) := by decide +kernel
theorem d_19_96 : decode prog_6_method_13_code 96 = .ok (.ireturn, 1) := by decide +kernel
theorem d_19_97 : decode prog_6_method_13_code 97 = .ok (.iload 4, 2) := by decide +kernel
theorem d_19_99 : decode prog_6_method_13_code 99 = .ok (.ifCond .eq 29, 3) := by decide +kernel
theorem d_19_102 : decode prog_6_method_13_code 102 = .ok (.aload_n 0, 1) := by decide +kernel
theorem d_19_103 : decode prog_6_method_13_code 103 = .ok (.aload_n 0, 1) := by decide +kernel
theorem d_19_104 : decode prog_6_method_13_code 104 = .ok (.getfield 28, 3) := by decide +kernel
theorem d_19_107 : decode prog_6_method_13_code 107 = .ok (.iload 7, 2) := by decide +kernel
theorem d_19_109 : decode prog_6_method_13_code 109 = .ok (.iaload, 1) := by decide +kernel
theorem d_19_110 : decode prog_6_method_13_code 110 = .ok (.aload_n 2, 1) := by decide +kernel
theorem d_19_111 : decode prog_6_method_13_code 111 = .ok (.aload_n 2, 1) := by decide +kernel
theorem d_19_112 : decode prog_6_method_13_code 112 = .ok (.getfield 28, 3) := by decide +kernel
theorem d_19_115 : decode prog_6_method_13_code 115 = .ok (.iload 9, 2) := by decide +kernel
theorem d_19_117 : decode prog_6_method_13_code 117 = .ok (.iaload, 1) := by decide +kernel
theorem d_19_118 : decode prog_6_method_13_code 118 = .ok (.iload 5, 2) := by decide +kernel
theorem d_19_120 : decode prog_6_method_13_code 120 = .ok (.invokestatic 63, 3) := by decide +kernel
theorem d_19_123 : decode prog_6_method_13_code 123 = .ok (.ifCond .ne 5, 3) := by decide +kernel
theorem d_19_126 : decode prog_6_method_13_code 126 = .ok (.iconst 0, 1) := by decide +kernel
theorem d_19_127 : decode prog_6_method_13_code 127 = .ok (.ireturn, 1) := by decide +kernel
theorem d_19_128 : decode prog_6_method_13_code 128 = .ok (.aload_n 0, 1) := by decide +kernel
theorem d_19_129 : decode prog_6_method_13_code 129 = .ok (.iload 7, 2) := by decide +kernel
theorem d_19_131 : decode prog_6_method_13_code 131 = .ok (.iload 4, 2) := by decide +kernel
theorem d_19_133 : decode prog_6_method_13_code 133 = .ok (.invokevirtual 47, 3) := by decide +kernel
theorem d_19_136 : decode prog_6_method_13_code 136 = .ok (.istore 7, 2) := by decide +kernel
theorem d_19_138 : decode prog_6_method_13_code 138 = .ok (.iload 8, 2) := by decide +kernel
theorem d_19_140 : decode prog_6_method_13_code 140 = .ok (.iload 6, 2) := by decide +kernel
theorem d_19_142 : decode prog_6_method_13_code 142 = .ok (.iadd, 1) := by decide +kernel
theorem d_19_143 : decode prog_6_method_13_code 143 = .ok (.istore 8, 2) := by decide +kernel
theorem d_19_145 : decode prog_6_method_13_code 145 = .ok (.goto (-125), 3) := by decide +kernel
theorem d_19_148 : decode prog_6_method_13_code 148 = .ok (.iconst 1, 1) := by decide +kernel
theorem d_19_149 : decode prog_6_method_13_code 149 = .ok (.ireturn, 1) := by decide +kernel
theorem d_20_0 : decode prog_6_method_9_code 0 = .ok (.iload_n 2, 1) := by decide +kernel
theorem d_20_1 : decode prog_6_method_9_code 1 = .ok (.ifCond .eq 17, 3) := by decide +kernel
theorem d_20_4 : decode prog_6_method_9_code 4 = .ok (.aload_n 0, 1) := by decide +kernel
theorem d_20_5 : decode prog_6_method_9_code 5 = .ok (.getfield 28, 3) := by decide +kernel
theorem d_20_8 : decode prog_6_method_9_code 8 = .ok (.aload_n 0, 1) := by decide +kernel
theorem d_20_9 : decode prog_6_method_9_code 9 = .ok (.getfield 28, 3) := by decide +kernel
theorem d_20_12 : decode prog_6_method_9_code 12 = .ok (.iload_n 1, 1) := by decide +kernel
theorem d_20_13 : decode prog_6_method_9_code 13 = .ok (.iaload, 1) := by decide +kernel
theorem d_20_14 : decode prog_6_method_9_code 14 = .ok (.iaload, 1) := by decide +kernel
theorem d_20_15 : decode prog_6_method_9_code 15 = .ok (.goto 9, 3) := by decide +kernel
theorem d_20_18 : decode prog_6_method_9_code 18 = .ok (.aload_n 0, 1) := by decide +kernel
theorem d_20_19 : decode prog_6_method_9_code 19 = .ok (.getfield 28, 3) := by decide +kernel
theorem d_20_22 : decode prog_6_method_9_code 22 = .ok (.iload_n 1, 1) := by decide +kernel
theorem d_20_23 : decode prog_6_method_9_code 23 = .ok (.iaload, 1) := by decide +kernel
theorem d_20_24 : decode prog_6_method_9_code 24 = .ok (.ireturn, 1) := by decide +kernel
theorem d_21_0 : decode prog_6_method_12_code 0 = .ok (.iload_n 1, 1) := by decide +kernel
theorem d_21_1 : decode prog_6_method_12_code 1 = .ok (.iconst 1, 1) := by decide +kernel
theorem d_21_2 : decode prog_6_method_12_code 2 = .ok (.iadd, 1) := by decide +kernel
theorem d_21_3 : decode prog_6_method_12_code 3 = .ok (.istore 5, 2) := by decide +kernel
theorem d_21_5 : decode prog_6_method_12_code 5 = .ok (.iload_n 3, 1) := by decide +kernel
theorem d_21_6 : decode prog_6_method_12_code 6 = .ok (.iconst 1, 1) := by decide +kernel
theorem d_21_7 : decode prog_6_method_12_code 7 = .ok (.iadd, 1) := by decide +kernel
theorem d_21_8 : decode prog_6_method_12_code 8 = .ok (.istore 6, 2) := by decide +kernel
theorem d_21_10 : decode prog_6_method_12_code 10 = .ok (.iconst 0, 1) := by decide +kernel
theorem d_21_11 : decode prog_6_method_12_code 11 = .ok (.istore 7, 2) := by decide +kernel
theorem d_21_13 : decode prog_6_method_12_code 13 = .ok (.iload 7, 2) := by decide +kernel
theorem d_21_15 : decode prog_6_method_12_code 15 = .ok (.aload_n 0, 1) := by decide +kernel
theorem d_21_16 : decode prog_6_method_12_code 16 = .ok (.getfield 25, 3) := by decide +kernel
theorem d_21_19 : decode prog_6_method_12_code 19 = .ok (.iload_n 1, 1) := by decide +kernel
theorem d_21_20 : decode prog_6_method_12_code 20 = .ok (.iaload, 1) := by decide +kernel
theorem d_21_21 : decode prog_6_method_12_code 21 = .ok (.if_icmp .ge 43, 3) := by decide +kernel
theorem d_21_24 : decode prog_6_method_12_code 24 = .ok (.aload_n 0, 1) := by decide +kernel
theorem d_21_25 : decode prog_6_method_12_code 25 = .ok (.iload 5, 2) := by decide +kernel
theorem d_21_27 : decode prog_6_method_12_code 27 = .ok (.aload_n 2, 1) := by decide +kernel
theorem d_21_28 : decode prog_6_method_12_code 28 = .ok (.iload 6, 2) := by decide +kernel
theorem d_21_30 : decode prog_6_method_12_code 30 = .ok (.iload 4, 2) := by decide +kernel
theorem d_21_32 : decode prog_6_method_12_code 32 = .ok (.invokestatic 63, 3) := by decide +kernel
theorem d_21_35 : decode prog_6_method_12_code 35 = .ok (.ifCond .ne 5, 3) := by decide +kernel
theorem d_21_38 : decode prog_6_method_12_code 38 = .ok (.iconst 0, 1) := by decide +kernel
theorem d_21_39 : decode prog_6_method_12_code 39 = .ok (.ireturn, 1) := by decide +kernel
theorem d_21_40 : decode prog_6_method_12_code 40 = .ok (.aload_n 0, 1) := by decide +kernel
theorem d_21_41 : decode prog_6_method_12_code 41 = .ok (.getfield 28, 3) := by decide +kernel
theorem d_21_44 : decode prog_6_method_12_code 44 = .ok (.iload 5, 2) := by decide +kernel
theorem d_21_46 : decode prog_6_method_12_code 46 = .ok (.iaload, 1) := by decide +kernel
theorem d_21_47 : decode prog_6_method_12_code 47 = .ok (.istore 5, 2) := by decide +kernel
theorem d_21_49 : decode prog_6_method_12_code 49 = .ok (.aload_n 2, 1) := by decide +kernel
theorem d_21_50 : decode prog_6_method_12_code 50 = .ok (.getfield 28, 3) := by decide +kernel
theorem d_21_53 : decode prog_6_method_12_code 53 = .ok (.iload 6, 2) := by decide +kernel
theorem d_21_55 : decode prog_6_method_12_code 55 = .ok (.iaload, 1) := by decide +kernel
theorem d_21_56 : decode prog_6_method_12_code 56 = .ok (.istore 6, 2) := by decide +kernel
theorem d_21_58 : decode prog_6_method_12_code 58 = .ok (.iinc 7 1, 3) := by decide +kernel
theorem d_21_61 : decode prog_6_method_12_code 61 = .ok (.goto (-48), 3) := by decide +kernel
theorem d_21_64 : decode prog_6_method_12_code 64 = .ok (.iconst 1, 1) := by decide +kernel
theorem d_21_65 : decode prog_6_method_12_code 65 = .ok (.ireturn, 1) := by decide +kernel
theorem d_22_0 : decode prog_1_method_16_code 0 = .ok (.aload_n 0, 1) := by decide +kernel
theorem d_22_1 : decode prog_1_method_16_code 1 = .ok (.getfield 12, 3) := by decide +kernel
theorem d_22_4 : decode prog_1_method_16_code 4 = .ok (.iconst 0, 1) := by decide +kernel
theorem d_22_5 : decode prog_1_method_16_code 5 = .ok (.aaload, 1) := by decide +kernel
theorem d_22_6 : decode prog_1_method_16_code 6 = .ok (.astore_n 1, 1) := by decide +kernel
theorem d_22_7 : decode prog_1_method_16_code 7 = .ok (.aload_n 0, 1) := by decide +kernel
theorem d_22_8 : decode prog_1_method_16_code 8 = .ok (.getfield 12, 3) := by decide +kernel
theorem d_22_11 : decode prog_1_method_16_code 11 = .ok (.iconst 0, 1) := by decide +kernel
theorem d_22_12 : decode prog_1_method_16_code 12 = .ok (.aload_n 0, 1) := by decide +kernel
theorem d_22_13 : decode prog_1_method_16_code 13 = .ok (.getfield 12, 3) := by decide +kernel
theorem d_22_16 : decode prog_1_method_16_code 16 = .ok (.iconst 1, 1) := by decide +kernel
theorem d_22_17 : decode prog_1_method_16_code 17 = .ok (.aaload, 1) := by decide +kernel
theorem d_22_18 : decode prog_1_method_16_code 18 = .ok (.aastore, 1) := by decide +kernel
theorem d_22_19 : decode prog_1_method_16_code 19 = .ok (.aload_n 0, 1) := by decide +kernel
theorem d_22_20 : decode prog_1_method_16_code 20 = .ok (.getfield 12, 3) := by decide +kernel
theorem d_22_23 : decode prog_1_method_16_code 23 = .ok (.iconst 1, 1) := by decide +kernel
theorem d_22_24 : decode prog_1_method_16_code 24 = .ok (.aload_n 1, 1) := by decide +kernel
theorem d_22_25 : decode prog_1_method_16_code 25 = .ok (.aastore, 1) := by decide +kernel
theorem d_22_26 : decode prog_1_method_16_code 26 = .ok (.return_, 1) := by decide +kernel
theorem d_23_0 : decode method_3_code 0 = .ok (.aload_n 2, 1) := by decide +kernel
theorem d_23_1 : decode method_3_code 1 = .ok (.iconst 0, 1) := by decide +kernel
theorem d_23_2 : decode method_3_code 2 = .ok (.aload_n 0, 1) := by decide +kernel
theorem d_23_3 : decode method_3_code 3 = .ok (.iload_n 1, 1) := by decide +kernel
theorem d_23_4 : decode method_3_code 4 = .ok (.invokevirtual 7, 3) := by decide +kernel
theorem d_23_7 : decode method_3_code 7 = .ok (.i2l, 1) := by decide +kernel
theorem d_23_8 : decode method_3_code 8 = .ok (.lastore, 1) := by decide +kernel
theorem d_23_9 : decode method_3_code 9 = .ok (.goto 9, 3) := by decide +kernel
theorem d_23_12 : decode method_3_code 12 = .ok (.astore_n 3, 1) := by decide +kernel
theorem d_23_13 : decode method_3_code 13 = .ok (.iconst 1, 1) := by decide +kernel
theorem d_23_14 : decode method_3_code 14 = .ok (.ireturn, 1) := by decide +kernel
theorem d_23_15 : decode method_3_code 15 = .ok (.astore_n 3, 1) := by decide +kernel
theorem d_23_16 : decode method_3_code 16 = .ok (.iconst 2, 1) := by decide +kernel
theorem d_23_17 : decode method_3_code 17 = .ok (.ireturn, 1) := by decide +kernel
theorem d_23_18 : decode method_3_code 18 = .ok (.iconst 0, 1) := by decide +kernel
theorem d_23_19 : decode method_3_code 19 = .ok (.ireturn, 1) := by decide +kernel
theorem d_24_0 : decode prog_1_method_6_code 0 = .ok (.iload_n 1, 1) := by decide +kernel
theorem d_24_1 : decode prog_1_method_6_code 1 = .ok (.invokestatic 54, 3) := by decide +kernel
theorem d_24_4 : decode prog_1_method_6_code 4 = .ok (.aload_n 0, 1) := by decide +kernel
theorem d_24_5 : decode prog_1_method_6_code 5 = .ok (.getfield 19, 3) := by decide +kernel
theorem d_24_8 : decode prog_1_method_6_code 8 = .ok (.aload_n 0, 1) := by decide +kernel
theorem d_24_9 : decode prog_1_method_6_code 9 = .ok (.getfield 35, 3) := by decide +kernel
theorem d_24_12 : decode prog_1_method_6_code 12 = .ok (.invokevirtual 57, 3) := by decide +kernel
theorem d_24_15 : decode prog_1_method_6_code 15 = .ok (.aload_n 0, 1) := by decide +kernel
theorem d_24_16 : decode prog_1_method_6_code 16 = .ok (.getfield 12, 3) := by decide +kernel
theorem d_24_19 : decode prog_1_method_6_code 19 = .ok (.iload_n 1, 1) := by decide +kernel
theorem d_24_20 : decode prog_1_method_6_code 20 = .ok (.aload_n 0, 1) := by decide +kernel
theorem d_24_21 : decode prog_1_method_6_code 21 = .ok (.getfield 19, 3) := by decide +kernel
theorem d_24_24 : decode prog_1_method_6_code 24 = .ok (.aload_n 0, 1) := by decide +kernel
theorem d_24_25 : decode prog_1_method_6_code 25 = .ok (.getfield 12, 3) := by decide +kernel
theorem d_24_28 : decode prog_1_method_6_code 28 = .ok (.iload_n 1, 1) := by decide +kernel
theorem d_24_29 : decode prog_1_method_6_code 29 = .ok (.aaload, 1) := by decide +kernel
theorem d_24_30 : decode prog_1_method_6_code 30 = .ok (.invokevirtual 61, 3) := by decide +kernel
theorem d_24_33 : decode prog_1_method_6_code 33 = .ok (.aastore, 1) := by decide +kernel
theorem d_24_34 : decode prog_1_method_6_code 34 = .ok (.aload_n 0, 1) := by decide +kernel
theorem d_24_35 : decode prog_1_method_6_code 35 = .ok (.getfield 12, 3) := by decide +kernel
theorem d_24_38 : decode prog_1_method_6_code 38 = .ok (.iload_n 1, 1) := by decide +kernel
theorem d_24_39 : decode prog_1_method_6_code 39 = .ok (.aaload, 1) := by decide +kernel
theorem d_24_40 : decode prog_1_method_6_code 40 = .ok (.getfield 65, 3) := by decide +kernel
theorem d_24_43 : decode prog_1_method_6_code 43 = .ok (.ireturn, 1) := by decide +kernel
theorem d_25_0 : decode prog_1_method_17_code 0 = .ok (.iload_n 0, 1) := by decide +kernel
theorem d_25_1 : decode prog_1_method_17_code 1 = .ok (.ifCond .eq 16, 3) := by decide +kernel
theorem d_25_4 : decode prog_1_method_17_code 4 = .ok (.iload_n 0, 1) := by decide +kernel
theorem d_25_5 : decode prog_1_method_17_code 5 = .ok (.iconst 1, 1) := by decide +kernel
theorem d_25_6 : decode prog_1_method_17_code 6 = .ok (.if_icmp .eq 11, 3) := by decide +kernel
theorem d_25_9 : decode prog_1_method_17_code 9 = .ok (.new 110, 3) := by decide +kernel
theorem d_25_12 : decode prog_1_method_17_code 12 = .ok (.dup, 1) := by decide +kernel
theorem d_25_13 : decode prog_1_method_17_code 13 = .ok (.invokespecial 112, 3) := by decide +kernel
theorem d_25_16 : decode prog_1_method_17_code 16 = .ok (.athrow, 1) := by decide +kernel
theorem d_25_17 : decode prog_1_method_17_code 17 = .ok (.return_, 1) := by decide +kernel
theorem d_26_0 : decode prog_5_method_2_code 0 = .ok (.aload_n 0, 1) := by decide +kernel
theorem d_26_1 : decode prog_5_method_2_code 1 = .ok (.aload_n 1, 1) := by decide +kernel
theorem d_26_2 : decode prog_5_method_2_code 2 = .ok (.putfield 40, 3) := by decide +kernel
theorem d_26_5 : decode prog_5_method_2_code 5 = .ok (.aload_n 0, 1) := by decide +kernel
theorem d_26_6 : decode prog_5_method_2_code 6 = .ok (.iconst 0, 1) := by decide +kernel
theorem d_26_7 : decode prog_5_method_2_code 7 = .ok (.putfield 44, 3) := by decide +kernel
theorem d_26_10 : decode prog_5_method_2_code 10 = .ok (.aload_n 0, 1) := by decide +kernel
theorem d_26_11 : decode prog_5_method_2_code 11 = .ok (.iconst (-1), 1) := by decide +kernel
theorem d_26_12 : decode prog_5_method_2_code 12 = .ok (.putfield 36, 3) := by decide +kernel
theorem d_26_15 : decode prog_5_method_2_code 15 = .ok (.aload_n 0, 1) := by decide +kernel
theorem d_26_16 : decode prog_5_method_2_code 16 = .ok (.getfield 12, 3) := by decide +kernel
theorem d_26_19 : decode prog_5_method_2_code 19 = .ok (.invokevirtual 47, 3) := by decide +kernel
theorem d_26_22 : decode prog_5_method_2_code 22 = .ok (.aload_n 0, 1) := by decide +kernel
theorem d_26_23 : decode prog_5_method_2_code 23 = .ok (.getfield 32, 3) := by decide +kernel
theorem d_26_26 : decode prog_5_method_2_code 26 = .ok (.invokevirtual 50, 3) := by decide +kernel
theorem d_26_29 : decode prog_5_method_2_code 29 = .ok (.aload_n 0, 1) := by decide +kernel
theorem d_26_30 : decode prog_5_method_2_code 30 = .ok (.iconst 0, 1) := by decide +kernel
theorem d_26_31 : decode prog_5_method_2_code 31 = .ok (.iconst 0, 1) := by decide +kernel
theorem d_26_32 : decode prog_5_method_2_code 32 = .ok (.invokevirtual 53, 3) := by decide +kernel
theorem d_26_35 : decode prog_5_method_2_code 35 = .ok (.aload_n 0, 1) := by decide +kernel
theorem d_26_36 : decode prog_5_method_2_code 36 = .ok (.invokevirtual 57, 3) := by decide +kernel
theorem d_26_39 : decode prog_5_method_2_code 39 = .ok (.aload_n 0, 1) := by decide +kernel
theorem d_26_40 : decode prog_5_method_2_code 40 = .ok (.getfield 44, 3) := by decide +kernel
theorem d_26_43 : decode prog_5_method_2_code 43 = .ok (.aload_n 0, 1) := by decide +kernel
theorem d_26_44 : decode prog_5_method_2_code 44 = .ok (.getfield 40, 3) := by decide +kernel
theorem d_26_47 : decode prog_5_method_2_code 47 = .ok (.getfield 60, 3) := by decide +kernel
theorem d_26_50 : decode prog_5_method_2_code 50 = .ok (.if_icmp .ge 11, 3) := by decide +kernel
theorem d_26_53 : decode prog_5_method_2_code 53 = .ok (.aload_n 0, 1) := by decide +kernel
theorem d_26_54 : decode prog_5_method_2_code 54 = .ok (.aload_n 0, 1) := by decide +kernel
theorem d_26_55 : decode prog_5_method_2_code 55 = .ok (.getfield 44, 3) := by decide +kernel
theorem d_26_58 : decode prog_5_method_2_code 58 = .ok (.invokevirtual 65, 3) := by decide +kernel
theorem d_26_61 : decode prog_5_method_2_code 61 = .ok (.return_, 1) := by decide +kernel
theorem d_27_0 : decode prog_3_method_2_code 0 = .ok (.aload_n 0, 1) := by decide +kernel
theorem d_27_1 : decode prog_3_method_2_code 1 = .ok (.iconst 0, 1) := by decide +kernel
theorem d_27_2 : decode prog_3_method_2_code 2 = .ok (.putfield 18, 3) := by decide +kernel
theorem d_27_5 : decode prog_3_method_2_code 5 = .ok (.return_, 1) := by decide +kernel
theorem d_28_0 : decode prog_6_method_2_code 0 = .ok (.aload_n 0, 1) := by decide +kernel
theorem d_28_1 : decode prog_6_method_2_code 1 = .ok (.iconst 0, 1) := by decide +kernel
theorem d_28_2 : decode prog_6_method_2_code 2 = .ok (.putfield 40, 3) := by decide +kernel
theorem d_28_5 : decode prog_6_method_2_code 5 = .ok (.aload_n 0, 1) := by decide +kernel
theorem d_28_6 : decode prog_6_method_2_code 6 = .ok (.getfield 36, 3) := by decide +kernel
theorem d_28_9 : decode prog_6_method_2_code 9 = .ok (.iconst 0, 1) := by decide +kernel
theorem d_28_10 : decode prog_6_method_2_code 10 = .ok (.invokevirtual 44, 3) := by decide +kernel
theorem d_28_13 : decode prog_6_method_2_code 13 = .ok (.return_, 1) := by decide +kernel
theorem d_29_0 : decode prog_5_method_8_code 0 = .ok (.aload_n 0, 1) := by decide +kernel
theorem d_29_1 : decode prog_5_method_8_code 1 = .ok (.invokevirtual 57, 3) := by decide +kernel
theorem d_29_4 : decode prog_5_method_8_code 4 = .ok (.aload_n 0, 1) := by decide +kernel
theorem d_29_5 : decode prog_5_method_8_code 5 = .ok (.getfield 40, 3) := by decide +kernel
theorem d_29_8 : decode prog_5_method_8_code 8 = .ok (.aload_n 0, 1) := by decide +kernel
theorem d_29_9 : decode prog_5_method_8_code 9 = .ok (.getfield 44, 3) := by decide +kernel
theorem d_29_12 : decode prog_5_method_8_code 12 = .ok (.invokevirtual 72, 3) := by decide +kernel
theorem d_29_15 : decode prog_5_method_8_code 15 = .ok (.istore_n 3, 1) := by decide +kernel
theorem d_29_16 : decode prog_5_method_8_code 16 = .ok (.iload_n 3, 1) := by decide +kernel
theorem d_29_17 : decode prog_5_method_8_code 17 = .ok (.bipush 91, 2) := by decide +kernel
theorem d_29_19 : decode prog_5_method_8_code 19 = .ok (.if_icmp .ne 11, 3) := by decide +kernel
theorem d_29_22 : decode prog_5_method_8_code 22 = .ok (.aload_n 0, 1) := by decide +kernel
theorem d_29_23 : decode prog_5_method_8_code 23 = .ok (.iload_n 2, 1) := by decide +kernel
theorem d_29_24 : decode prog_5_method_8_code 24 = .ok (.invokevirtual 84, 3) := by decide +kernel
theorem d_29_27 : decode prog_5_method_8_code 27 = .ok (.goto 46, 3) := by decide +kernel
theorem d_29_30 : decode prog_5_method_8_code 30 = .ok (.iload_n 3, 1) := by decide +kernel
theorem d_29_31 : decode prog_5_method_8_code 31 = .ok (.bipush 34, 2) := by decide +kernel
theorem d_29_33 : decode prog_5_method_8_code 33 = .ok (.if_icmp .ne 15, 3) := by decide +kernel
theorem d_29_36 : decode prog_5_method_8_code 36 = .ok (.aload_n 0, 1) := by decide +kernel
theorem d_29_37 : decode prog_5_method_8_code 37 = .ok (.iload_n 1, 1) := by decide +kernel
theorem d_29_38 : decode prog_5_method_8_code 38 = .ok (.invokevirtual 87, 3) := by decide +kernel
theorem d_29_41 : decode prog_5_method_8_code 41 = .ok (.aload_n 0, 1) := by decide +kernel
theorem d_29_42 : decode prog_5_method_8_code 42 = .ok (.invokevirtual 91, 3) := by decide +kernel
theorem d_29_45 : decode prog_5_method_8_code 45 = .ok (.goto 28, 3) := by decide +kernel
theorem d_29_48 : decode prog_5_method_8_code 48 = .ok (.iload_n 3, 1) := by decide +kernel
theorem d_29_49 : decode prog_5_method_8_code 49 = .ok (.bipush 45, 2) := by decide +kernel
theorem d_29_51 : decode prog_5_method_8_code 51 = .ok (.if_icmp .eq 10, 3) := by decide +kernel
theorem d_29_54 : decode prog_5_method_8_code 54 = .ok (.iload_n 3, 1) := by decide +kernel
theorem d_29_55 : decode prog_5_method_8_code 55 = .ok (.invokestatic 94, 3) := by decide +kernel
theorem d_29_58 : decode prog_5_method_8_code 58 = .ok (.ifCond .eq 10, 3) := by decide +kernel
theorem d_29_61 : decode prog_5_method_8_code 61 = .ok (.aload_n 0, 1) := by decide +kernel
theorem d_29_62 : decode prog_5_method_8_code 62 = .ok (.invokevirtual 98, 3) := by decide +kernel
theorem d_29_65 : decode prog_5_method_8_code 65 = .ok (.goto 8, 3) := by decide +kernel
theorem d_29_68 : decode prog_5_method_8_code 68 = .ok (.aload_n 0, 1) := by decide +kernel
theorem d_29_69 : decode prog_5_method_8_code 69 = .ok (.iload_n 3, 1) := by decide +kernel
theorem d_29_70 : decode prog_5_method_8_code 70 = .ok (.invokevirtual 101, 3) := by decide +kernel
theorem d_29_73 : decode prog_5_method_8_code 73 = .ok (.return_, 1) := by decide +kernel
theorem d_30_0 : decode prog_5_method_5_code 0 = .ok (.aload_n 0, 1) := by decide +kernel
theorem d_30_1 : decode prog_5_method_5_code 1 = .ok (.getfield 44, 3) := by decide +kernel
theorem d_30_4 : decode prog_5_method_5_code 4 = .ok (.aload_n 0, 1) := by decide +kernel
theorem d_30_5 : decode prog_5_method_5_code 5 = .ok (.getfield 40, 3) := by decide +kernel
theorem d_30_8 : decode prog_5_method_5_code 8 = .ok (.getfield 60, 3) := by decide +kernel
theorem d_30_11 : decode prog_5_method_5_code 11 = .ok (.if_icmp .ge 32, 3) := by decide +kernel
theorem d_30_14 : decode prog_5_method_5_code 14 = .ok (.aload_n 0, 1) := by decide +kernel
theorem d_30_15 : decode prog_5_method_5_code 15 = .ok (.getfield 40, 3) := by decide +kernel
theorem d_30_18 : decode prog_5_method_5_code 18 = .ok (.aload_n 0, 1) := by decide +kernel
theorem d_30_19 : decode prog_5_method_5_code 19 = .ok (.getfield 44, 3) := by decide +kernel
theorem d_30_22 : decode prog_5_method_5_code 22 = .ok (.invokevirtual 72, 3) := by decide +kernel
theorem d_30_25 : decode prog_5_method_5_code 25 = .ok (.bipush 32, 2) := by decide +kernel
theorem d_30_27 : decode prog_5_method_5_code 27 = .ok (.if_icmp .ne 16, 3) := by decide +kernel
theorem d_30_30 : decode prog_5_method_5_code 30 = .ok (.aload_n 0, 1) := by decide +kernel
theorem d_30_31 : decode prog_5_method_5_code 31 = .ok (.dup, 1) := by decide +kernel
theorem d_30_32 : decode prog_5_method_5_code 32 = .ok (.getfield 44, 3) := by decide +kernel
theorem d_30_35 : decode prog_5_method_5_code 35 = .ok (.iconst 1, 1) := by decide +kernel
theorem d_30_36 : decode prog_5_method_5_code 36 = .ok (.iadd, 1) := by decide +kernel
theorem d_30_37 : decode prog_5_method_5_code 37 = .ok (.putfield 44, 3) := by decide +kernel
theorem d_30_40 : decode prog_5_method_5_code 40 = .ok (.goto (-40), 3) := by decide +kernel
theorem d_30_43 : decode prog_5_method_5_code 43 = .ok (.return_, 1) := by decide +kernel
theorem d_31_0 : decode prog_5_method_22_code 0 = .ok (.aload_n 0, 1) := by decide +kernel
theorem d_31_1 : decode prog_5_method_22_code 1 = .ok (.getfield 44, 3) := by decide +kernel
theorem d_31_4 : decode prog_5_method_22_code 4 = .ok (.istore_n 2, 1) := by decide +kernel
theorem d_31_5 : decode prog_5_method_22_code 5 = .ok (.iload_n 1, 1) := by decide +kernel
theorem d_31_6 : decode prog_5_method_22_code 6 = .ok (.bipush 8, 2) := by decide +kernel
theorem d_31_8 : decode prog_5_method_22_code 8 = .ok (.if_icmp .lt 8, 3) := by decide +kernel
theorem d_31_11 : decode prog_5_method_22_code 11 = .ok (.aload_n 0, 1) := by decide +kernel
theorem d_31_12 : decode prog_5_method_22_code 12 = .ok (.iload_n 2, 1) := by decide +kernel
theorem d_31_13 : decode prog_5_method_22_code 13 = .ok (.invokevirtual 65, 3) := by decide +kernel
theorem d_31_16 : decode prog_5_method_22_code 16 = .ok (.aload_n 0, 1) := by decide +kernel
theorem d_31_17 : decode prog_5_method_22_code 17 = .ok (.dup, 1) := by decide +kernel
theorem d_31_18 : decode prog_5_method_22_code 18 = .ok (.getfield 44, 3) := by decide +kernel
theorem d_31_21 : decode prog_5_method_22_code 21 = .ok (.iconst 1, 1) := by decide +kernel
theorem d_31_22 : decode prog_5_method_22_code 22 = .ok (.iadd, 1) := by decide +kernel
theorem d_31_23 : decode prog_5_method_22_code 23 = .ok (.putfield 44, 3) := by decide +kernel
theorem d_31_26 : decode prog_5_method_22_code 26 = .ok (.aload_n 0, 1) := by decide +kernel
theorem d_31_27 : decode prog_5_method_22_code 27 = .ok (.invokevirtual 57, 3) := by decide +kernel
theorem d_31_30 : decode prog_5_method_22_code 30 = .ok (.aload_n 0, 1) := by decide +kernel
theorem d_31_31 : decode prog_5_method_22_code 31 = .ok (.bipush 8, 2) := by decide +kernel
theorem d_31_33 : decode prog_5_method_22_code 33 = .ok (.lconst 0, 1) := by decide +kernel
theorem d_31_34 : decode prog_5_method_22_code 34 = .ok (.iload_n 2, 1) := by decide +kernel
theorem d_31_35 : decode prog_5_method_22_code 35 = .ok (.invokevirtual 110, 3) := by decide +kernel
theorem d_31_38 : decode prog_5_method_22_code 38 = .ok (.istore_n 3, 1) := by decide +kernel
theorem d_31_39 : decode prog_5_method_22_code 39 = .ok (.aload_n 0, 1) := by decide +kernel
theorem d_31_40 : decode prog_5_method_22_code 40 = .ok (.getfield 40, 3) := by decide +kernel
theorem d_31_43 : decode prog_5_method_22_code 43 = .ok (.aload_n 0, 1) := by decide +kernel
theorem d_31_44 : decode prog_5_method_22_code 44 = .ok (.getfield 44, 3) := by decide +kernel
theorem d_31_47 : decode prog_5_method_22_code 47 = .ok (.invokevirtual 72, 3) := by decide +kernel
theorem d_31_50 : decode prog_5_method_22_code 50 = .ok (.istore 4, 2) := by decide +kernel
theorem d_31_52 : decode prog_5_method_22_code 52 = .ok (.iload 4, 2) := by decide +kernel
theorem d_31_54 : decode prog_5_method_22_code 54 = .ok (.bipush 93, 2) := by decide +kernel
theorem d_31_56 : decode prog_5_method_22_code 56 = .ok (.if_icmp .ne 16, 3) := by decide +kernel
theorem d_31_59 : decode prog_5_method_22_code 59 = .ok (.aload_n 0, 1) := by decide +kernel
theorem d_31_60 : decode prog_5_method_22_code 60 = .ok (.dup, 1) := by decide +kernel
theorem d_31_61 : decode prog_5_method_22_code 61 = .ok (.getfield 44, 3) := by decide +kernel
theorem d_31_64 : decode prog_5_method_22_code 64 = .ok (.iconst 1, 1) := by decide +kernel
theorem d_31_65 : decode prog_5_method_22_code 65 = .ok (.iadd, 1) := by decide +kernel
theorem d_31_66 : decode prog_5_method_22_code 66 = .ok (.putfield 44, 3) := by decide +kernel
theorem d_31_69 : decode prog_5_method_22_code 69 = .ok (.goto 120, 3) := by decide +kernel
theorem d_31_72 : decode prog_5_method_22_code 72 = .ok (.iload 4, 2) := by decide +kernel
theorem d_31_74 : decode prog_5_method_22_code 74 = .ok (.bipush 34, 2) := by decide +kernel
theorem d_31_76 : decode prog_5_method_22_code 76 = .ok (.if_icmp .eq 20, 3) := by decide +kernel
theorem d_31_79 : decode prog_5_method_22_code 79 = .ok (.aload_n 0, 1) := by decide +kernel
theorem d_31_80 : decode prog_5_method_22_code 80 = .ok (.iconst 0, 1) := by decide +kernel
theorem d_31_81 : decode prog_5_method_22_code 81 = .ok (.iload_n 1, 1) := by decide +kernel
theorem d_31_82 : decode prog_5_method_22_code 82 = .ok (.iconst 1, 1) := by decide +kernel
theorem d_31_83 : decode prog_5_method_22_code 83 = .ok (.iadd, 1) := by decide +kernel
theorem d_31_84 : decode prog_5_method_22_code 84 = .ok (.invokevirtual 53, 3) := by decide +kernel
theorem d_31_87 : decode prog_5_method_22_code 87 = .ok (.aload_n 0, 1) := by decide +kernel
theorem d_31_88 : decode prog_5_method_22_code 88 = .ok (.iload_n 3, 1) := by decide +kernel
theorem d_31_89 : decode prog_5_method_22_code 89 = .ok (.iload_n 1, 1) := by decide +kernel
theorem d_31_90 : decode prog_5_method_22_code 90 = .ok (.invokevirtual 210, 3) := by decide +kernel
theorem d_31_93 : decode prog_5_method_22_code 93 = .ok (.goto 96, 3) := by decide +kernel
theorem d_31_96 : decode prog_5_method_22_code 96 = .ok (.aload_n 0, 1) := by decide +kernel
theorem d_31_97 : decode prog_5_method_22_code 97 = .ok (.iconst 0, 1) := by decide +kernel
theorem d_31_98 : decode prog_5_method_22_code 98 = .ok (.invokevirtual 87, 3) := by decide +kernel
theorem d_31_101 : decode prog_5_method_22_code 101 = .ok (.aload_n 0, 1) := by decide +kernel
theorem d_31_102 : decode prog_5_method_22_code 102 = .ok (.getfield 32, 3) := by decide +kernel
theorem d_31_105 : decode prog_5_method_22_code 105 = .ok (.getfield 150, 3) := by decide +kernel
theorem d_31_108 : decode prog_5_method_22_code 108 = .ok (.aload_n 0, 1) := by decide +kernel
theorem d_31_109 : decode prog_5_method_22_code 109 = .ok (.getfield 153, 3) := by decide +kernel
theorem d_31_112 : decode prog_5_method_22_code 112 = .ok (.aload_n 0, 1) := by decide +kernel
theorem d_31_113 : decode prog_5_method_22_code 113 = .ok (.getfield 161, 3) := by decide +kernel
theorem d_31_116 : decode prog_5_method_22_code 116 = .ok (.ldc 213, 2) := by decide +kernel
theorem d_31_118 : decode prog_5_method_22_code 118 = .ok (.invokevirtual 215, 3) := by decide +kernel
theorem d_31_121 : decode prog_5_method_22_code 121 = .ok (.ifCond .eq 12, 3) := by decide +kernel
theorem d_31_124 : decode prog_5_method_22_code 124 = .ok (.aload_n 0, 1) := by decide +kernel
theorem d_31_125 : decode prog_5_method_22_code 125 = .ok (.iload_n 3, 1) := by decide +kernel
theorem d_31_126 : decode prog_5_method_22_code 126 = .ok (.iload_n 1, 1) := by decide +kernel
theorem d_31_127 : decode prog_5_method_22_code 127 = .ok (.invokevirtual 219, 3) := by decide +kernel
theorem d_31_130 : decode prog_5_method_22_code 130 = .ok (.goto 59, 3) := by decide +kernel
theorem d_31_133 : decode prog_5_method_22_code 133 = .ok (.aload_n 0, 1) := by decide +kernel
theorem d_31_134 : decode prog_5_method_22_code 134 = .ok (.iconst 0, 1) := by decide +kernel
theorem d_31_135 : decode prog_5_method_22_code 135 = .ok (.invokevirtual 178, 3) := by decide +kernel
theorem d_31_138 : decode prog_5_method_22_code 138 = .ok (.bipush 126, 2) := by decide +kernel
theorem d_31_140 : decode prog_5_method_22_code 140 = .ok (.if_icmp .ne 39, 3) := by decide +kernel
theorem d_31_143 : decode prog_5_method_22_code 143 = .ok (.aload_n 0, 1) := by decide +kernel
theorem d_31_144 : decode prog_5_method_22_code 144 = .ok (.iconst 1, 1) := by decide +kernel
theorem d_31_145 : decode prog_5_method_22_code 145 = .ok (.invokevirtual 178, 3) := by decide +kernel
theorem d_31_148 : decode prog_5_method_22_code 148 = .ok (.bipush 35, 2) := by decide +kernel
theorem d_31_150 : decode prog_5_method_22_code 150 = .ok (.if_icmp .ne 29, 3) := by decide +kernel
theorem d_31_153 : decode prog_5_method_22_code 153 = .ok (.aload_n 0, 1) := by decide +kernel
theorem d_31_154 : decode prog_5_method_22_code 154 = .ok (.aload_n 0, 1) := by decide +kernel
theorem d_31_155 : decode prog_5_method_22_code 155 = .ok (.getfield 161, 3) := by decide +kernel
theorem d_31_158 : decode prog_5_method_22_code 158 = .ok (.iconst 2, 1) := by decide +kernel
theorem d_31_159 : decode prog_5_method_22_code 159 = .ok (.if_icmp .le 7, 3) := by decide +kernel
theorem d_31_162 : decode prog_5_method_22_code 162 = .ok (.iconst 1, 1) := by decide +kernel
theorem d_31_163 : decode prog_5_method_22_code 163 = .ok (.goto 4, 3) := by decide +kernel
theorem d_31_166 : decode prog_5_method_22_code 166 = .ok (.iconst 0, 1) := by decide +kernel
theorem d_31_167 : decode prog_5_method_22_code 167 = .ok (.invokevirtual 188, 3) := by decide +kernel
theorem d_31_170 : decode prog_5_method_22_code 170 = .ok (.aload_n 0, 1) := by decide +kernel
theorem d_31_171 : decode prog_5_method_22_code 171 = .ok (.iload_n 3, 1) := by decide +kernel
theorem d_31_172 : decode prog_5_method_22_code 172 = .ok (.iload_n 1, 1) := by decide +kernel
theorem d_31_173 : decode prog_5_method_22_code 173 = .ok (.invokevirtual 222, 3) := by decide +kernel
theorem d_31_176 : decode prog_5_method_22_code 176 = .ok (.goto 13, 3) := by decide +kernel
theorem d_31_179 : decode prog_5_method_22_code 179 = .ok (.aload_n 0, 1) := by decide +kernel
theorem d_31_180 : decode prog_5_method_22_code 180 = .ok (.invokevirtual 91, 3) := by decide +kernel
theorem d_31_183 : decode prog_5_method_22_code 183 = .ok (.aload_n 0, 1) := by decide +kernel
theorem d_31_184 : decode prog_5_method_22_code 184 = .ok (.iload_n 3, 1) := by decide +kernel
theorem d_31_185 : decode prog_5_method_22_code 185 = .ok (.iload_n 1, 1) := by decide +kernel
theorem d_31_186 : decode prog_5_method_22_code 186 = .ok (.invokevirtual 210, 3) := by decide +kernel
theorem d_31_189 : decode prog_5_method_22_code 189 = .ok (.return_, 1) := by decide +kernel
theorem d_32_0 : decode prog_5_method_4_code 0 = .ok (.aload_n 0, 1) := by decide +kernel
theorem d_32_1 : decode prog_5_method_4_code 1 = .ok (.iload_n 1, 1) := by decide +kernel
theorem d_32_2 : decode prog_5_method_4_code 2 = .ok (.putfield 36, 3) := by decide +kernel
theorem d_32_5 : decode prog_5_method_4_code 5 = .ok (.new 69, 3) := by decide +kernel
theorem d_32_8 : decode prog_5_method_4_code 8 = .ok (.dup, 1) := by decide +kernel
theorem d_32_9 : decode prog_5_method_4_code 9 = .ok (.invokespecial 71, 3) := by decide +kernel
theorem d_32_12 : decode prog_5_method_4_code 12 = .ok (.athrow, 1) := by decide +kernel
theorem d_33_0 : decode prog_5_method_7_code 0 = .ok (.aload_n 0, 1) := by decide +kernel
theorem d_33_1 : decode prog_5_method_7_code 1 = .ok (.getfield 32, 3) := by decide +kernel
theorem d_33_4 : decode prog_5_method_7_code 4 = .ok (.invokevirtual 76, 3) := by decide +kernel
theorem d_33_7 : decode prog_5_method_7_code 7 = .ok (.ifCond .eq 9, 3) := by decide +kernel
theorem d_33_10 : decode prog_5_method_7_code 10 = .ok (.aload_n 0, 1) := by decide +kernel
theorem d_33_11 : decode prog_5_method_7_code 11 = .ok (.iload 4, 2) := by decide +kernel
theorem d_33_13 : decode prog_5_method_7_code 13 = .ok (.invokevirtual 65, 3) := by decide +kernel
theorem d_33_16 : decode prog_5_method_7_code 16 = .ok (.aload_n 0, 1) := by decide +kernel
theorem d_33_17 : decode prog_5_method_7_code 17 = .ok (.getfield 32, 3) := by decide +kernel
theorem d_33_20 : decode prog_5_method_7_code 20 = .ok (.iload_n 1, 1) := by decide +kernel
theorem d_33_21 : decode prog_5_method_7_code 21 = .ok (.lload_n 2, 1) := by decide +kernel
theorem d_33_22 : decode prog_5_method_7_code 22 = .ok (.invokevirtual 80, 3) := by decide +kernel
theorem d_33_25 : decode prog_5_method_7_code 25 = .ok (.istore 5, 2) := by decide +kernel
theorem d_33_27 : decode prog_5_method_7_code 27 = .ok (.aload_n 0, 1) := by decide +kernel
theorem d_33_28 : decode prog_5_method_7_code 28 = .ok (.getfield 25, 3) := by decide +kernel
theorem d_33_31 : decode prog_5_method_7_code 31 = .ok (.iload 5, 2) := by decide +kernel
theorem d_33_33 : decode prog_5_method_7_code 33 = .ok (.iload 4, 2) := by decide +kernel
theorem d_33_35 : decode prog_5_method_7_code 35 = .ok (.iastore, 1) := by decide +kernel
theorem d_33_36 : decode prog_5_method_7_code 36 = .ok (.iload 5, 2) := by decide +kernel
theorem d_33_38 : decode prog_5_method_7_code 38 = .ok (.ireturn, 1) := by decide +kernel
theorem d_34_0 : decode prog_6_method_3_code 0 = .ok (.aload_n 0, 1) := by decide +kernel
theorem d_34_1 : decode prog_6_method_3_code 1 = .ok (.getfield 40, 3) := by decide +kernel
theorem d_34_4 : decode prog_6_method_3_code 4 = .ok (.sipush 240, 3) := by decide +kernel
theorem d_34_7 : decode prog_6_method_3_code 7 = .ok (.if_icmp .lt 7, 3) := by decide +kernel
theorem d_34_10 : decode prog_6_method_3_code 10 = .ok (.iconst 1, 1) := by decide +kernel
theorem d_34_11 : decode prog_6_method_3_code 11 = .ok (.goto 4, 3) := by decide +kernel
theorem d_34_14 : decode prog_6_method_3_code 14 = .ok (.iconst 0, 1) := by decide +kernel
theorem d_34_15 : decode prog_6_method_3_code 15 = .ok (.ireturn, 1) := by decide +kernel
theorem d_35_0 : decode prog_6_method_4_code 0 = .ok (.aload_n 0, 1) := by decide +kernel
theorem d_35_1 : decode prog_6_method_4_code 1 = .ok (.getfield 40, 3) := by decide +kernel
theorem d_35_4 : decode prog_6_method_4_code 4 = .ok (.istore 4, 2) := by decide +kernel
theorem d_35_6 : decode prog_6_method_4_code 6 = .ok (.aload_n 0, 1) := by decide +kernel
theorem d_35_7 : decode prog_6_method_4_code 7 = .ok (.getfield 9, 3) := by decide +kernel
theorem d_35_10 : decode prog_6_method_4_code 10 = .ok (.iload 4, 2) := by decide +kernel
theorem d_35_12 : decode prog_6_method_4_code 12 = .ok (.iload_n 1, 1) := by decide +kernel
theorem d_35_13 : decode prog_6_method_4_code 13 = .ok (.iastore, 1) := by decide +kernel
theorem d_35_14 : decode prog_6_method_4_code 14 = .ok (.aload_n 0, 1) := by decide +kernel
theorem d_35_15 : decode prog_6_method_4_code 15 = .ok (.getfield 15, 3) := by decide +kernel
theorem d_35_18 : decode prog_6_method_4_code 18 = .ok (.iload 4, 2) := by decide +kernel
theorem d_35_20 : decode prog_6_method_4_code 20 = .ok (.lload_n 2, 1) := by decide +kernel
theorem d_35_21 : decode prog_6_method_4_code 21 = .ok (.lastore, 1) := by decide +kernel
theorem d_35_22 : decode prog_6_method_4_code 22 = .ok (.aload_n 0, 1) := by decide +kernel
theorem d_35_23 : decode prog_6_method_4_code 23 = .ok (.getfield 19, 3) := by decide +kernel
theorem d_35_26 : decode prog_6_method_4_code 26 = .ok (.iload 4, 2) := by decide +kernel
theorem d_35_28 : decode prog_6_method_4_code 28 = .ok (.iconst 0, 1) := by decide +kernel
theorem d_35_29 : decode prog_6_method_4_code 29 = .ok (.iastore, 1) := by decide +kernel
theorem d_35_30 : decode prog_6_method_4_code 30 = .ok (.aload_n 0, 1) := by decide +kernel
theorem d_35_31 : decode prog_6_method_4_code 31 = .ok (.getfield 22, 3) := by decide +kernel
theorem d_35_34 : decode prog_6_method_4_code 34 = .ok (.iload 4, 2) := by decide +kernel
theorem d_35_36 : decode prog_6_method_4_code 36 = .ok (.iconst 0, 1) := by decide +kernel
theorem d_35_37 : decode prog_6_method_4_code 37 = .ok (.iastore, 1) := by decide +kernel
theorem d_35_38 : decode prog_6_method_4_code 38 = .ok (.aload_n 0, 1) := by decide +kernel
theorem d_35_39 : decode prog_6_method_4_code 39 = .ok (.getfield 25, 3) := by decide +kernel
theorem d_35_42 : decode prog_6_method_4_code 42 = .ok (.iload 4, 2) := by decide +kernel
theorem d_35_44 : decode prog_6_method_4_code 44 = .ok (.iconst 0, 1) := by decide +kernel
theorem d_35_45 : decode prog_6_method_4_code 45 = .ok (.iastore, 1) := by decide +kernel
theorem d_35_46 : decode prog_6_method_4_code 46 = .ok (.aload_n 0, 1) := by decide +kernel
theorem d_35_47 : decode prog_6_method_4_code 47 = .ok (.getfield 28, 3) := by decide +kernel
theorem d_35_50 : decode prog_6_method_4_code 50 = .ok (.iload 4, 2) := by decide +kernel
theorem d_35_52 : decode prog_6_method_4_code 52 = .ok (.iload 4, 2) := by decide +kernel
theorem d_35_54 : decode prog_6_method_4_code 54 = .ok (.iconst 1, 1) := by decide +kernel
theorem d_35_55 : decode prog_6_method_4_code 55 = .ok (.iadd, 1) := by decide +kernel
theorem d_35_56 : decode prog_6_method_4_code 56 = .ok (.iastore, 1) := by decide +kernel
theorem d_35_57 : decode prog_6_method_4_code 57 = .ok (.aload_n 0, 1) := by decide +kernel
theorem d_35_58 : decode prog_6_method_4_code 58 = .ok (.dup, 1) := by decide +kernel
theorem d_35_59 : decode prog_6_method_4_code 59 = .ok (.getfield 40, 3) := by decide +kernel
theorem d_35_62 : decode prog_6_method_4_code 62 = .ok (.iconst 1, 1) := by decide +kernel
theorem d_35_63 : decode prog_6_method_4_code 63 = .ok (.iadd, 1) := by decide +kernel
theorem d_35_64 : decode prog_6_method_4_code 64 = .ok (.putfield 40, 3) := by decide +kernel
theorem d_35_67 : decode prog_6_method_4_code 67 = .ok (.iload 4, 2) := by decide +kernel
theorem d_35_69 : decode prog_6_method_4_code 69 = .ok (.ireturn, 1) := by decide +kernel
theorem d_36_0 : decode prog_5_method_24_code 0 = .ok (.iconst 1, 1) := by decide +kernel
theorem d_36_1 : decode prog_5_method_24_code 1 = .ok (.istore_n 3, 1) := by decide +kernel
theorem d_36_2 : decode prog_5_method_24_code 2 = .ok (.iload_n 3, 1) := by decide +kernel
theorem d_36_3 : decode prog_5_method_24_code 3 = .ok (.sipush 240, 3) := by decide +kernel
theorem d_36_6 : decode prog_5_method_24_code 6 = .ok (.if_icmp .ge 24, 3) := by decide +kernel
theorem d_36_9 : decode prog_5_method_24_code 9 = .ok (.aload_n 0, 1) := by decide +kernel
theorem d_36_10 : decode prog_5_method_24_code 10 = .ok (.invokevirtual 225, 3) := by decide +kernel
theorem d_36_13 : decode prog_5_method_24_code 13 = .ok (.ifCond .eq 17, 3) := by decide +kernel
theorem d_36_16 : decode prog_5_method_24_code 16 = .ok (.aload_n 0, 1) := by decide +kernel
theorem d_36_17 : decode prog_5_method_24_code 17 = .ok (.iconst 0, 1) := by decide +kernel
theorem d_36_18 : decode prog_5_method_24_code 18 = .ok (.iload_n 2, 1) := by decide +kernel
theorem d_36_19 : decode prog_5_method_24_code 19 = .ok (.iconst 1, 1) := by decide +kernel
theorem d_36_20 : decode prog_5_method_24_code 20 = .ok (.iadd, 1) := by decide +kernel
theorem d_36_21 : decode prog_5_method_24_code 21 = .ok (.invokevirtual 53, 3) := by decide +kernel
theorem d_36_24 : decode prog_5_method_24_code 24 = .ok (.iinc 3 1, 3) := by decide +kernel
theorem d_36_27 : decode prog_5_method_24_code 27 = .ok (.goto (-25), 3) := by decide +kernel
theorem d_36_30 : decode prog_5_method_24_code 30 = .ok (.aload_n 0, 1) := by decide +kernel
theorem d_36_31 : decode prog_5_method_24_code 31 = .ok (.getfield 32, 3) := by decide +kernel
theorem d_36_34 : decode prog_5_method_24_code 34 = .ok (.iload_n 1, 1) := by decide +kernel
theorem d_36_35 : decode prog_5_method_24_code 35 = .ok (.bipush 8, 2) := by decide +kernel
theorem d_36_37 : decode prog_5_method_24_code 37 = .ok (.iload_n 3, 1) := by decide +kernel
theorem d_36_38 : decode prog_5_method_24_code 38 = .ok (.invokevirtual 207, 3) := by decide +kernel
theorem d_36_41 : decode prog_5_method_24_code 41 = .ok (.return_, 1) := by decide +kernel
theorem d_37_0 : decode prog_5_method_23_code 0 = .ok (.aload_n 0, 1) := by decide +kernel
theorem d_37_1 : decode prog_5_method_23_code 1 = .ok (.invokevirtual 57, 3) := by decide +kernel
theorem d_37_4 : decode prog_5_method_23_code 4 = .ok (.aload_n 0, 1) := by decide +kernel
theorem d_37_5 : decode prog_5_method_23_code 5 = .ok (.getfield 40, 3) := by decide +kernel
theorem d_37_8 : decode prog_5_method_23_code 8 = .ok (.aload_n 0, 1) := by decide +kernel
theorem d_37_9 : decode prog_5_method_23_code 9 = .ok (.getfield 44, 3) := by decide +kernel
theorem d_37_12 : decode prog_5_method_23_code 12 = .ok (.invokevirtual 72, 3) := by decide +kernel
theorem d_37_15 : decode prog_5_method_23_code 15 = .ok (.bipush 93, 2) := by decide +kernel
theorem d_37_17 : decode prog_5_method_23_code 17 = .ok (.if_icmp .ne 15, 3) := by decide +kernel
theorem d_37_20 : decode prog_5_method_23_code 20 = .ok (.aload_n 0, 1) := by decide +kernel
theorem d_37_21 : decode prog_5_method_23_code 21 = .ok (.dup, 1) := by decide +kernel
theorem d_37_22 : decode prog_5_method_23_code 22 = .ok (.getfield 44, 3) := by decide +kernel
theorem d_37_25 : decode prog_5_method_23_code 25 = .ok (.iconst 1, 1) := by decide +kernel
theorem d_37_26 : decode prog_5_method_23_code 26 = .ok (.iadd, 1) := by decide +kernel
theorem d_37_27 : decode prog_5_method_23_code 27 = .ok (.putfield 44, 3) := by decide +kernel
theorem d_37_30 : decode prog_5_method_23_code 30 = .ok (.iconst 0, 1) := by decide +kernel
theorem d_37_31 : decode prog_5_method_23_code 31 = .ok (.ireturn, 1) := by decide +kernel
theorem d_37_32 : decode prog_5_method_23_code 32 = .ok (.aload_n 0, 1) := by decide +kernel
theorem d_37_33 : decode prog_5_method_23_code 33 = .ok (.bipush 44, 2) := by decide +kernel
theorem d_37_35 : decode prog_5_method_23_code 35 = .ok (.invokevirtual 128, 3) := by decide +kernel
theorem d_37_38 : decode prog_5_method_23_code 38 = .ok (.iconst 1, 1) := by decide +kernel
theorem d_37_39 : decode prog_5_method_23_code 39 = .ok (.ireturn, 1) := by decide +kernel
theorem d_38_0 : decode prog_5_method_6_code 0 = .ok (.aload_n 0, 1) := by decide +kernel
theorem d_38_1 : decode prog_5_method_6_code 1 = .ok (.getfield 40, 3) := by decide +kernel
theorem d_38_4 : decode prog_5_method_6_code 4 = .ok (.aload_n 0, 1) := by decide +kernel
theorem d_38_5 : decode prog_5_method_6_code 5 = .ok (.getfield 44, 3) := by decide +kernel
theorem d_38_8 : decode prog_5_method_6_code 8 = .ok (.invokevirtual 72, 3) := by decide +kernel
theorem d_38_11 : decode prog_5_method_6_code 11 = .ok (.iload_n 1, 1) := by decide +kernel
theorem d_38_12 : decode prog_5_method_6_code 12 = .ok (.if_icmp .eq 11, 3) := by decide +kernel
theorem d_38_15 : decode prog_5_method_6_code 15 = .ok (.aload_n 0, 1) := by decide +kernel
theorem d_38_16 : decode prog_5_method_6_code 16 = .ok (.aload_n 0, 1) := by decide +kernel
theorem d_38_17 : decode prog_5_method_6_code 17 = .ok (.getfield 44, 3) := by decide +kernel
theorem d_38_20 : decode prog_5_method_6_code 20 = .ok (.invokevirtual 65, 3) := by decide +kernel
theorem d_38_23 : decode prog_5_method_6_code 23 = .ok (.aload_n 0, 1) := by decide +kernel
theorem d_38_24 : decode prog_5_method_6_code 24 = .ok (.dup, 1) := by decide +kernel
theorem d_38_25 : decode prog_5_method_6_code 25 = .ok (.getfield 44, 3) := by decide +kernel
theorem d_38_28 : decode prog_5_method_6_code 28 = .ok (.iconst 1, 1) := by decide +kernel
theorem d_38_29 : decode prog_5_method_6_code 29 = .ok (.iadd, 1) := by decide +kernel
theorem d_38_30 : decode prog_5_method_6_code 30 = .ok (.putfield 44, 3) := by decide +kernel
theorem d_38_33 : decode prog_5_method_6_code 33 = .ok (.return_, 1) := by decide +kernel
theorem d_39_0 : decode prog_6_method_7_code 0 = .ok (.aload_n 0, 1) := by decide +kernel
theorem d_39_1 : decode prog_6_method_7_code 1 = .ok (.getfield 9, 3) := by decide +kernel
theorem d_39_4 : decode prog_6_method_7_code 4 = .ok (.iload_n 1, 1) := by decide +kernel
theorem d_39_5 : decode prog_6_method_7_code 5 = .ok (.iload_n 2, 1) := by decide +kernel
theorem d_39_6 : decode prog_6_method_7_code 6 = .ok (.iastore, 1) := by decide +kernel
theorem d_39_7 : decode prog_6_method_7_code 7 = .ok (.aload_n 0, 1) := by decide +kernel
theorem d_39_8 : decode prog_6_method_7_code 8 = .ok (.getfield 25, 3) := by decide +kernel
theorem d_39_11 : decode prog_6_method_7_code 11 = .ok (.iload_n 1, 1) := by decide +kernel
theorem d_39_12 : decode prog_6_method_7_code 12 = .ok (.iload_n 3, 1) := by decide +kernel
theorem d_39_13 : decode prog_6_method_7_code 13 = .ok (.iastore, 1) := by decide +kernel
theorem d_39_14 : decode prog_6_method_7_code 14 = .ok (.aload_n 0, 1) := by decide +kernel
theorem d_39_15 : decode prog_6_method_7_code 15 = .ok (.getfield 28, 3) := by decide +kernel
theorem d_39_18 : decode prog_6_method_7_code 18 = .ok (.iload_n 1, 1) := by decide +kernel
theorem d_39_19 : decode prog_6_method_7_code 19 = .ok (.aload_n 0, 1) := by decide +kernel
theorem d_39_20 : decode prog_6_method_7_code 20 = .ok (.getfield 40, 3) := by decide +kernel
theorem d_39_23 : decode prog_6_method_7_code 23 = .ok (.iastore, 1) := by decide +kernel
theorem d_39_24 : decode prog_6_method_7_code 24 = .ok (.return_, 1) := by decide +kernel
theorem d_40_0 : decode prog_5_method_12_code 0 = .ok (.aload_n 0, 1) := by decide +kernel
theorem d_40_1 : decode prog_5_method_12_code 1 = .ok (.aload_n 0, 1) := by decide +kernel
theorem d_40_2 : decode prog_5_method_12_code 2 = .ok (.getfield 44, 3) := by decide +kernel
theorem d_40_5 : decode prog_5_method_12_code 5 = .ok (.putfield 147, 3) := by decide +kernel
theorem d_40_8 : decode prog_5_method_12_code 8 = .ok (.aload_n 0, 1) := by decide +kernel
theorem d_40_9 : decode prog_5_method_12_code 9 = .ok (.aload_n 0, 1) := by decide +kernel
theorem d_40_10 : decode prog_5_method_12_code 10 = .ok (.getfield 32, 3) := by decide +kernel
theorem d_40_13 : decode prog_5_method_12_code 13 = .ok (.getfield 150, 3) := by decide +kernel
theorem d_40_16 : decode prog_5_method_12_code 16 = .ok (.getfield 60, 3) := by decide +kernel
theorem d_40_19 : decode prog_5_method_12_code 19 = .ok (.putfield 153, 3) := by decide +kernel
theorem d_40_22 : decode prog_5_method_12_code 22 = .ok (.aload_n 0, 1) := by decide +kernel
theorem d_40_23 : decode prog_5_method_12_code 23 = .ok (.dup, 1) := by decide +kernel
theorem d_40_24 : decode prog_5_method_12_code 24 = .ok (.getfield 44, 3) := by decide +kernel
theorem d_40_27 : decode prog_5_method_12_code 27 = .ok (.iconst 1, 1) := by decide +kernel
theorem d_40_28 : decode prog_5_method_12_code 28 = .ok (.iadd, 1) := by decide +kernel
theorem d_40_29 : decode prog_5_method_12_code 29 = .ok (.putfield 44, 3) := by decide +kernel
theorem d_40_32 : decode prog_5_method_12_code 32 = .ok (.aload_n 0, 1) := by decide +kernel
theorem d_40_33 : decode prog_5_method_12_code 33 = .ok (.getfield 44, 3) := by decide +kernel
theorem d_40_36 : decode prog_5_method_12_code 36 = .ok (.aload_n 0, 1) := by decide +kernel
theorem d_40_37 : decode prog_5_method_12_code 37 = .ok (.getfield 40, 3) := by decide +kernel
theorem d_40_40 : decode prog_5_method_12_code 40 = .ok (.getfield 60, 3) := by decide +kernel
theorem d_40_43 : decode prog_5_method_12_code 43 = .ok (.if_icmp .ge 95, 3) := by decide +kernel
theorem d_40_46 : decode prog_5_method_12_code 46 = .ok (.aload_n 0, 1) := by decide +kernel
theorem d_40_47 : decode prog_5_method_12_code 47 = .ok (.getfield 40, 3) := by decide +kernel
theorem d_40_50 : decode prog_5_method_12_code 50 = .ok (.aload_n 0, 1) := by decide +kernel
theorem d_40_51 : decode prog_5_method_12_code 51 = .ok (.getfield 44, 3) := by decide +kernel
theorem d_40_54 : decode prog_5_method_12_code 54 = .ok (.invokevirtual 72, 3) := by decide +kernel
theorem d_40_57 : decode prog_5_method_12_code 57 = .ok (.bipush 34, 2) := by decide +kernel
theorem d_40_59 : decode prog_5_method_12_code 59 = .ok (.if_icmp .eq 79, 3) := by decide +kernel
theorem d_40_62 : decode prog_5_method_12_code 62 = .ok (.aload_n 0, 1) := by decide +kernel
theorem d_40_63 : decode prog_5_method_12_code 63 = .ok (.getfield 40, 3) := by decide +kernel
theorem d_40_66 : decode prog_5_method_12_code 66 = .ok (.aload_n 0, 1) := by decide +kernel
theorem d_40_67 : decode prog_5_method_12_code 67 = .ok (.getfield 44, 3) := by decide +kernel
theorem d_40_70 : decode prog_5_method_12_code 70 = .ok (.invokevirtual 72, 3) := by decide +kernel
theorem d_40_73 : decode prog_5_method_12_code 73 = .ok (.bipush 92, 2) := by decide +kernel
theorem d_40_75 : decode prog_5_method_12_code 75 = .ok (.if_icmp .ne 28, 3) := by decide +kernel
theorem d_40_78 : decode prog_5_method_12_code 78 = .ok (.aload_n 0, 1) := by decide +kernel
theorem d_40_79 : decode prog_5_method_12_code 79 = .ok (.dup, 1) := by decide +kernel
theorem d_40_80 : decode prog_5_method_12_code 80 = .ok (.getfield 44, 3) := by decide +kernel
theorem d_40_83 : decode prog_5_method_12_code 83 = .ok (.iconst 1, 1) := by decide +kernel
theorem d_40_84 : decode prog_5_method_12_code 84 = .ok (.iadd, 1) := by decide +kernel
theorem d_40_85 : decode prog_5_method_12_code 85 = .ok (.putfield 44, 3) := by decide +kernel
theorem d_40_88 : decode prog_5_method_12_code 88 = .ok (.aload_n 0, 1) := by decide +kernel
theorem d_40_89 : decode prog_5_method_12_code 89 = .ok (.aload_n 0, 1) := by decide +kernel
theorem d_40_90 : decode prog_5_method_12_code 90 = .ok (.getfield 40, 3) := by decide +kernel
theorem d_40_93 : decode prog_5_method_12_code 93 = .ok (.aload_n 0, 1) := by decide +kernel
theorem d_40_94 : decode prog_5_method_12_code 94 = .ok (.getfield 44, 3) := by decide +kernel
theorem d_40_97 : decode prog_5_method_12_code 97 = .ok (.invokevirtual 72, 3) := by decide +kernel
theorem d_40_100 : decode prog_5_method_12_code 100 = .ok (.invokevirtual 156, 3) := by decide +kernel
theorem d_40_103 : decode prog_5_method_12_code 103 = .ok (.aload_n 0, 1) := by decide +kernel
theorem d_40_104 : decode prog_5_method_12_code 104 = .ok (.getfield 32, 3) := by decide +kernel
theorem d_40_107 : decode prog_5_method_12_code 107 = .ok (.getfield 150, 3) := by decide +kernel
theorem d_40_110 : decode prog_5_method_12_code 110 = .ok (.aload_n 0, 1) := by decide +kernel
theorem d_40_111 : decode prog_5_method_12_code 111 = .ok (.getfield 40, 3) := by decide +kernel
theorem d_40_114 : decode prog_5_method_12_code 114 = .ok (.aload_n 0, 1) := by decide +kernel
theorem d_40_115 : decode prog_5_method_12_code 115 = .ok (.getfield 44, 3) := by decide +kernel
theorem d_40_118 : decode prog_5_method_12_code 118 = .ok (.invokevirtual 72, 3) := by decide +kernel
theorem d_40_121 : decode prog_5_method_12_code 121 = .ok (.invokevirtual 159, 3) := by decide +kernel
theorem d_40_124 : decode prog_5_method_12_code 124 = .ok (.pop, 1) := by decide +kernel
theorem d_40_125 : decode prog_5_method_12_code 125 = .ok (.aload_n 0, 1) := by decide +kernel
theorem d_40_126 : decode prog_5_method_12_code 126 = .ok (.dup, 1) := by decide +kernel
theorem d_40_127 : decode prog_5_method_12_code 127 = .ok (.getfield 44, 3) := by decide +kernel
theorem d_40_130 : decode prog_5_method_12_code 130 = .ok (.iconst 1, 1) := by decide +kernel
theorem d_40_131 : decode prog_5_method_12_code 131 = .ok (.iadd, 1) := by decide +kernel
theorem d_40_132 : decode prog_5_method_12_code 132 = .ok (.putfield 44, 3) := by decide +kernel
theorem d_40_135 : decode prog_5_method_12_code 135 = .ok (.goto (-103), 3) := by decide +kernel
theorem d_40_138 : decode prog_5_method_12_code 138 = .ok (.aload_n 0, 1) := by decide +kernel
theorem d_40_139 : decode prog_5_method_12_code 139 = .ok (.bipush 34, 2) := by decide +kernel
theorem d_40_141 : decode prog_5_method_12_code 141 = .ok (.invokevirtual 128, 3) := by decide +kernel
theorem d_40_144 : decode prog_5_method_12_code 144 = .ok (.aload_n 0, 1) := by decide +kernel
theorem d_40_145 : decode prog_5_method_12_code 145 = .ok (.aload_n 0, 1) := by decide +kernel
theorem d_40_146 : decode prog_5_method_12_code 146 = .ok (.getfield 32, 3) := by decide +kernel
theorem d_40_149 : decode prog_5_method_12_code 149 = .ok (.getfield 150, 3) := by decide +kernel
theorem d_40_152 : decode prog_5_method_12_code 152 = .ok (.getfield 60, 3) := by decide +kernel
theorem d_40_155 : decode prog_5_method_12_code 155 = .ok (.aload_n 0, 1) := by decide +kernel
theorem d_40_156 : decode prog_5_method_12_code 156 = .ok (.getfield 153, 3) := by decide +kernel
theorem d_40_159 : decode prog_5_method_12_code 159 = .ok (.isub, 1) := by decide +kernel
theorem d_40_160 : decode prog_5_method_12_code 160 = .ok (.putfield 161, 3) := by decide +kernel
theorem d_40_163 : decode prog_5_method_12_code 163 = .ok (.aload_n 0, 1) := by decide +kernel
theorem d_40_164 : decode prog_5_method_12_code 164 = .ok (.invokevirtual 164, 3) := by decide +kernel
theorem d_40_167 : decode prog_5_method_12_code 167 = .ok (.istore_n 2, 1) := by decide +kernel
theorem d_40_168 : decode prog_5_method_12_code 168 = .ok (.iload_n 2, 1) := by decide +kernel
theorem d_40_169 : decode prog_5_method_12_code 169 = .ok (.iconst (-1), 1) := by decide +kernel
theorem d_40_170 : decode prog_5_method_12_code 170 = .ok (.if_icmp .eq 11, 3) := by decide +kernel
theorem d_40_173 : decode prog_5_method_12_code 173 = .ok (.aload_n 0, 1) := by decide +kernel
theorem d_40_174 : decode prog_5_method_12_code 174 = .ok (.iload_n 2, 1) := by decide +kernel
theorem d_40_175 : decode prog_5_method_12_code 175 = .ok (.invokevirtual 167, 3) := by decide +kernel
theorem d_40_178 : decode prog_5_method_12_code 178 = .ok (.goto 40, 3) := by decide +kernel
theorem d_40_181 : decode prog_5_method_12_code 181 = .ok (.aload_n 0, 1) := by decide +kernel
theorem d_40_182 : decode prog_5_method_12_code 182 = .ok (.getfield 32, 3) := by decide +kernel
theorem d_40_185 : decode prog_5_method_12_code 185 = .ok (.getfield 150, 3) := by decide +kernel
theorem d_40_188 : decode prog_5_method_12_code 188 = .ok (.aload_n 0, 1) := by decide +kernel
theorem d_40_189 : decode prog_5_method_12_code 189 = .ok (.getfield 153, 3) := by decide +kernel
theorem d_40_192 : decode prog_5_method_12_code 192 = .ok (.aload_n 0, 1) := by decide +kernel
theorem d_40_193 : decode prog_5_method_12_code 193 = .ok (.getfield 161, 3) := by decide +kernel
theorem d_40_196 : decode prog_5_method_12_code 196 = .ok (.iload_n 1, 1) := by decide +kernel
theorem d_40_197 : decode prog_5_method_12_code 197 = .ok (.invokestatic 170, 3) := by decide +kernel
theorem d_40_200 : decode prog_5_method_12_code 200 = .ok (.ifCond .eq 18, 3) := by decide +kernel
theorem d_40_203 : decode prog_5_method_12_code 203 = .ok (.aload_n 0, 1) := by decide +kernel
theorem d_40_204 : decode prog_5_method_12_code 204 = .ok (.getfield 12, 3) := by decide +kernel
theorem d_40_207 : decode prog_5_method_12_code 207 = .ok (.aload_n 0, 1) := by decide +kernel
theorem d_40_208 : decode prog_5_method_12_code 208 = .ok (.getfield 153, 3) := by decide +kernel
theorem d_40_211 : decode prog_5_method_12_code 211 = .ok (.aload_n 0, 1) := by decide +kernel
theorem d_40_212 : decode prog_5_method_12_code 212 = .ok (.getfield 161, 3) := by decide +kernel
theorem d_40_215 : decode prog_5_method_12_code 215 = .ok (.invokevirtual 174, 3) := by decide +kernel
theorem d_40_218 : decode prog_5_method_12_code 218 = .ok (.return_, 1) := by decide +kernel
theorem d_41_0 : decode prog_5_method_13_code 0 = .ok (.iload_n 1, 1) := by decide +kernel
theorem d_41_1 : decode prog_5_method_13_code 1 = .ok (.bipush 34, 2) := by decide +kernel
theorem d_41_3 : decode prog_5_method_13_code 3 = .ok (.if_icmp .eq 23, 3) := by decide +kernel
theorem d_41_6 : decode prog_5_method_13_code 6 = .ok (.iload_n 1, 1) := by decide +kernel
theorem d_41_7 : decode prog_5_method_13_code 7 = .ok (.bipush 92, 2) := by decide +kernel
theorem d_41_9 : decode prog_5_method_13_code 9 = .ok (.if_icmp .eq 17, 3) := by decide +kernel
theorem d_41_12 : decode prog_5_method_13_code 12 = .ok (.iload_n 1, 1) := by decide +kernel
theorem d_41_13 : decode prog_5_method_13_code 13 = .ok (.bipush 47, 2) := by decide +kernel
theorem d_41_15 : decode prog_5_method_13_code 15 = .ok (.if_icmp .eq 11, 3) := by decide +kernel
theorem d_41_18 : decode prog_5_method_13_code 18 = .ok (.aload_n 0, 1) := by decide +kernel
theorem d_41_19 : decode prog_5_method_13_code 19 = .ok (.aload_n 0, 1) := by decide +kernel
theorem d_41_20 : decode prog_5_method_13_code 20 = .ok (.getfield 44, 3) := by decide +kernel
theorem d_41_23 : decode prog_5_method_13_code 23 = .ok (.invokevirtual 65, 3) := by decide +kernel
theorem d_41_26 : decode prog_5_method_13_code 26 = .ok (.return_, 1) := by decide +kernel
theorem d_42_0 : decode prog_5_method_14_code 0 = .ok (.aload_n 0, 1) := by decide +kernel
theorem d_42_1 : decode prog_5_method_14_code 1 = .ok (.iconst 1, 1) := by decide +kernel
theorem d_42_2 : decode prog_5_method_14_code 2 = .ok (.invokevirtual 178, 3) := by decide +kernel
theorem d_42_5 : decode prog_5_method_14_code 5 = .ok (.bipush 48, 2) := by decide +kernel
theorem d_42_7 : decode prog_5_method_14_code 7 = .ok (.isub, 1) := by decide +kernel
theorem d_42_8 : decode prog_5_method_14_code 8 = .ok (.istore_n 1, 1) := by decide +kernel
theorem d_42_9 : decode prog_5_method_14_code 9 = .ok (.aload_n 0, 1) := by decide +kernel
theorem d_42_10 : decode prog_5_method_14_code 10 = .ok (.iconst 2, 1) := by decide +kernel
theorem d_42_11 : decode prog_5_method_14_code 11 = .ok (.invokevirtual 178, 3) := by decide +kernel
theorem d_42_14 : decode prog_5_method_14_code 14 = .ok (.bipush 48, 2) := by decide +kernel
theorem d_42_16 : decode prog_5_method_14_code 16 = .ok (.isub, 1) := by decide +kernel
theorem d_42_17 : decode prog_5_method_14_code 17 = .ok (.istore_n 2, 1) := by decide +kernel
theorem d_42_18 : decode prog_5_method_14_code 18 = .ok (.aload_n 0, 1) := by decide +kernel
theorem d_42_19 : decode prog_5_method_14_code 19 = .ok (.iconst 0, 1) := by decide +kernel
theorem d_42_20 : decode prog_5_method_14_code 20 = .ok (.invokevirtual 178, 3) := by decide +kernel
theorem d_42_23 : decode prog_5_method_14_code 23 = .ok (.bipush 94, 2) := by decide +kernel
theorem d_42_25 : decode prog_5_method_14_code 25 = .ok (.if_icmp .ne 13, 3) := by decide +kernel
theorem d_42_28 : decode prog_5_method_14_code 28 = .ok (.iload_n 1, 1) := by decide +kernel
theorem d_42_29 : decode prog_5_method_14_code 29 = .ok (.ifCond .lt 9, 3) := by decide +kernel
theorem d_42_32 : decode prog_5_method_14_code 32 = .ok (.iload_n 1, 1) := by decide +kernel
theorem d_42_33 : decode prog_5_method_14_code 33 = .ok (.bipush 6, 2) := by decide +kernel
theorem d_42_35 : decode prog_5_method_14_code 35 = .ok (.if_icmp .lt 5, 3) := by decide +kernel
theorem d_42_38 : decode prog_5_method_14_code 38 = .ok (.iconst (-1), 1) := by decide +kernel
theorem d_42_39 : decode prog_5_method_14_code 39 = .ok (.ireturn, 1) := by decide +kernel
theorem d_42_40 : decode prog_5_method_14_code 40 = .ok (.aload_n 0, 1) := by decide +kernel
theorem d_42_41 : decode prog_5_method_14_code 41 = .ok (.getfield 161, 3) := by decide +kernel
theorem d_42_44 : decode prog_5_method_14_code 44 = .ok (.iconst 2, 1) := by decide +kernel
theorem d_42_45 : decode prog_5_method_14_code 45 = .ok (.if_icmp .ne 5, 3) := by decide +kernel
theorem d_42_48 : decode prog_5_method_14_code 48 = .ok (.iload_n 1, 1) := by decide +kernel
theorem d_42_49 : decode prog_5_method_14_code 49 = .ok (.ireturn, 1) := by decide +kernel
theorem d_42_50 : decode prog_5_method_14_code 50 = .ok (.aload_n 0, 1) := by decide +kernel
theorem d_42_51 : decode prog_5_method_14_code 51 = .ok (.getfield 161, 3) := by decide +kernel
theorem d_42_54 : decode prog_5_method_14_code 54 = .ok (.iconst 3, 1) := by decide +kernel
theorem d_42_55 : decode prog_5_method_14_code 55 = .ok (.if_icmp .ne 17, 3) := by decide +kernel
theorem d_42_58 : decode prog_5_method_14_code 58 = .ok (.iload_n 2, 1) := by decide +kernel
theorem d_42_59 : decode prog_5_method_14_code 59 = .ok (.ifCond .lt 13, 3) := by decide +kernel
theorem d_42_62 : decode prog_5_method_14_code 62 = .ok (.iload_n 2, 1) := by decide +kernel
theorem d_42_63 : decode prog_5_method_14_code 63 = .ok (.bipush 6, 2) := by decide +kernel
theorem d_42_65 : decode prog_5_method_14_code 65 = .ok (.if_icmp .ge 7, 3) := by decide +kernel
theorem d_42_68 : decode prog_5_method_14_code 68 = .ok (.iconst 1, 1) := by decide +kernel
theorem d_42_69 : decode prog_5_method_14_code 69 = .ok (.goto 4, 3) := by decide +kernel
theorem d_42_72 : decode prog_5_method_14_code 72 = .ok (.iconst 0, 1) := by decide +kernel
theorem d_42_73 : decode prog_5_method_14_code 73 = .ok (.istore_n 3, 1) := by decide +kernel
theorem d_42_74 : decode prog_5_method_14_code 74 = .ok (.iload_n 3, 1) := by decide +kernel
theorem d_42_75 : decode prog_5_method_14_code 75 = .ok (.ifCond .eq 12, 3) := by decide +kernel
theorem d_42_78 : decode prog_5_method_14_code 78 = .ok (.bipush 6, 2) := by decide +kernel
theorem d_42_80 : decode prog_5_method_14_code 80 = .ok (.iload_n 1, 1) := by decide +kernel
theorem d_42_81 : decode prog_5_method_14_code 81 = .ok (.imul, 1) := by decide +kernel
theorem d_42_82 : decode prog_5_method_14_code 82 = .ok (.iload_n 2, 1) := by decide +kernel
theorem d_42_83 : decode prog_5_method_14_code 83 = .ok (.iadd, 1) := by decide +kernel
theorem d_42_84 : decode prog_5_method_14_code 84 = .ok (.goto 4, 3) := by decide +kernel
theorem d_42_87 : decode prog_5_method_14_code 87 = .ok (.iconst (-1), 1) := by decide +kernel
theorem d_42_88 : decode prog_5_method_14_code 88 = .ok (.ireturn, 1) := by decide +kernel
theorem d_43_0 : decode prog_5_method_16_code 0 = .ok (.iload_n 1, 1) := by decide +kernel
theorem d_43_1 : decode prog_5_method_16_code 1 = .ok (.aload_n 0, 1) := by decide +kernel
theorem d_43_2 : decode prog_5_method_16_code 2 = .ok (.getfield 161, 3) := by decide +kernel
theorem d_43_5 : decode prog_5_method_16_code 5 = .ok (.if_icmp .ge 22, 3) := by decide +kernel
theorem d_43_8 : decode prog_5_method_16_code 8 = .ok (.aload_n 0, 1) := by decide +kernel
theorem d_43_9 : decode prog_5_method_16_code 9 = .ok (.getfield 32, 3) := by decide +kernel
theorem d_43_12 : decode prog_5_method_16_code 12 = .ok (.getfield 150, 3) := by decide +kernel
theorem d_43_15 : decode prog_5_method_16_code 15 = .ok (.aload_n 0, 1) := by decide +kernel
theorem d_43_16 : decode prog_5_method_16_code 16 = .ok (.getfield 153, 3) := by decide +kernel
theorem d_43_19 : decode prog_5_method_16_code 19 = .ok (.iload_n 1, 1) := by decide +kernel
theorem d_43_20 : decode prog_5_method_16_code 20 = .ok (.iadd, 1) := by decide +kernel
theorem d_43_21 : decode prog_5_method_16_code 21 = .ok (.invokevirtual 72, 3) := by decide +kernel
theorem d_43_24 : decode prog_5_method_16_code 24 = .ok (.goto 4, 3) := by decide +kernel
theorem d_43_27 : decode prog_5_method_16_code 27 = .ok (.iconst (-1), 1) := by decide +kernel
theorem d_43_28 : decode prog_5_method_16_code 28 = .ok (.ireturn, 1) := by decide +kernel
theorem d_44_0 : decode prog_5_method_15_code 0 = .ok (.iload_n 1, 1) := by decide +kernel
theorem d_44_1 : decode prog_5_method_15_code 1 = .ok (.aload_n 0, 1) := by decide +kernel
theorem d_44_2 : decode prog_5_method_15_code 2 = .ok (.getfield 12, 3) := by decide +kernel
theorem d_44_5 : decode prog_5_method_15_code 5 = .ok (.getfield 181, 3) := by decide +kernel
theorem d_44_8 : decode prog_5_method_15_code 8 = .ok (.if_icmp .lt 11, 3) := by decide +kernel
theorem d_44_11 : decode prog_5_method_15_code 11 = .ok (.aload_n 0, 1) := by decide +kernel
theorem d_44_12 : decode prog_5_method_15_code 12 = .ok (.aload_n 0, 1) := by decide +kernel
theorem d_44_13 : decode prog_5_method_15_code 13 = .ok (.getfield 147, 3) := by decide +kernel
theorem d_44_16 : decode prog_5_method_15_code 16 = .ok (.invokevirtual 65, 3) := by decide +kernel
theorem d_44_19 : decode prog_5_method_15_code 19 = .ok (.aload_n 0, 1) := by decide +kernel
theorem d_44_20 : decode prog_5_method_15_code 20 = .ok (.aload_n 0, 1) := by decide +kernel
theorem d_44_21 : decode prog_5_method_15_code 21 = .ok (.getfield 12, 3) := by decide +kernel
theorem d_44_24 : decode prog_5_method_15_code 24 = .ok (.getfield 182, 3) := by decide +kernel
theorem d_44_27 : decode prog_5_method_15_code 27 = .ok (.iload_n 1, 1) := by decide +kernel
theorem d_44_28 : decode prog_5_method_15_code 28 = .ok (.iaload, 1) := by decide +kernel
theorem d_44_29 : decode prog_5_method_15_code 29 = .ok (.putfield 153, 3) := by decide +kernel
theorem d_44_32 : decode prog_5_method_15_code 32 = .ok (.aload_n 0, 1) := by decide +kernel
theorem d_44_33 : decode prog_5_method_15_code 33 = .ok (.aload_n 0, 1) := by decide +kernel
theorem d_44_34 : decode prog_5_method_15_code 34 = .ok (.getfield 12, 3) := by decide +kernel
theorem d_44_37 : decode prog_5_method_15_code 37 = .ok (.getfield 185, 3) := by decide +kernel
theorem d_44_40 : decode prog_5_method_15_code 40 = .ok (.iload_n 1, 1) := by decide +kernel
theorem d_44_41 : decode prog_5_method_15_code 41 = .ok (.iaload, 1) := by decide +kernel
theorem d_44_42 : decode prog_5_method_15_code 42 = .ok (.putfield 161, 3) := by decide +kernel
theorem d_44_45 : decode prog_5_method_15_code 45 = .ok (.return_, 1) := by decide +kernel
theorem d_45_0 : decode prog_3_method_5_code 0 = .ok (.iload_n 2, 1) := by decide +kernel
theorem d_45_1 : decode prog_3_method_5_code 1 = .ok (.iconst 3, 1) := by decide +kernel
theorem d_45_2 : decode prog_3_method_5_code 2 = .ok (.if_icmp .gt 5, 3) := by decide +kernel
theorem d_45_5 : decode prog_3_method_5_code 5 = .ok (.iconst 0, 1) := by decide +kernel
theorem d_45_6 : decode prog_3_method_5_code 6 = .ok (.ireturn, 1) := by decide +kernel
theorem d_45_7 : decode prog_3_method_5_code 7 = .ok (.aload_n 0, 1) := by decide +kernel
theorem d_45_8 : decode prog_3_method_5_code 8 = .ok (.iload_n 1, 1) := by decide +kernel
theorem d_45_9 : decode prog_3_method_5_code 9 = .ok (.iconst 1, 1) := by decide +kernel
theorem d_45_10 : decode prog_3_method_5_code 10 = .ok (.iadd, 1) := by decide +kernel
theorem d_45_11 : decode prog_3_method_5_code 11 = .ok (.invokevirtual 31, 3) := by decide +kernel
theorem d_45_14 : decode prog_3_method_5_code 14 = .ok (.istore 4, 2) := by decide +kernel
theorem d_45_16 : decode prog_3_method_5_code 16 = .ok (.iload_n 3, 1) := by decide +kernel
theorem d_45_17 : decode prog_3_method_5_code 17 = .ok (.ifCond .ne 34, 3) := by decide +kernel
theorem d_45_20 : decode prog_3_method_5_code 20 = .ok (.aload_n 0, 1) := by decide +kernel
theorem d_45_21 : decode prog_3_method_5_code 21 = .ok (.iload_n 1, 1) := by decide +kernel
theorem d_45_22 : decode prog_3_method_5_code 22 = .ok (.invokevirtual 31, 3) := by decide +kernel
theorem d_45_25 : decode prog_3_method_5_code 25 = .ok (.bipush 126, 2) := by decide +kernel
theorem d_45_27 : decode prog_3_method_5_code 27 = .ok (.if_icmp .ne 28, 3) := by decide +kernel
theorem d_45_30 : decode prog_3_method_5_code 30 = .ok (.iload 4, 2) := by decide +kernel
theorem d_45_32 : decode prog_3_method_5_code 32 = .ok (.bipush 58, 2) := by decide +kernel
theorem d_45_34 : decode prog_3_method_5_code 34 = .ok (.if_icmp .eq 17, 3) := by decide +kernel
theorem d_45_37 : decode prog_3_method_5_code 37 = .ok (.iload 4, 2) := by decide +kernel
theorem d_45_39 : decode prog_3_method_5_code 39 = .ok (.bipush 36, 2) := by decide +kernel
theorem d_45_41 : decode prog_3_method_5_code 41 = .ok (.if_icmp .eq 10, 3) := by decide +kernel
theorem d_45_44 : decode prog_3_method_5_code 44 = .ok (.iload 4, 2) := by decide +kernel
theorem d_45_46 : decode prog_3_method_5_code 46 = .ok (.bipush 35, 2) := by decide +kernel
theorem d_45_48 : decode prog_3_method_5_code 48 = .ok (.if_icmp .ne 7, 3) := by decide +kernel
theorem d_45_51 : decode prog_3_method_5_code 51 = .ok (.iconst 1, 1) := by decide +kernel
theorem d_45_52 : decode prog_3_method_5_code 52 = .ok (.goto 4, 3) := by decide +kernel
theorem d_45_55 : decode prog_3_method_5_code 55 = .ok (.iconst 0, 1) := by decide +kernel
theorem d_45_56 : decode prog_3_method_5_code 56 = .ok (.ireturn, 1) := by decide +kernel
theorem d_46_0 : decode prog_3_method_3_code 0 = .ok (.aload_n 0, 1) := by decide +kernel
theorem d_46_1 : decode prog_3_method_3_code 1 = .ok (.getfield 18, 3) := by decide +kernel
theorem d_46_4 : decode prog_3_method_3_code 4 = .ok (.bipush 24, 2) := by decide +kernel
theorem d_46_6 : decode prog_3_method_3_code 6 = .ok (.if_icmp .lt 7, 3) := by decide +kernel
theorem d_46_9 : decode prog_3_method_3_code 9 = .ok (.aload_n 0, 1) := by decide +kernel
theorem d_46_10 : decode prog_3_method_3_code 10 = .ok (.invokevirtual 22, 3) := by decide +kernel
theorem d_46_13 : decode prog_3_method_3_code 13 = .ok (.aload_n 0, 1) := by decide +kernel
theorem d_46_14 : decode prog_3_method_3_code 14 = .ok (.getfield 9, 3) := by decide +kernel
theorem d_46_17 : decode prog_3_method_3_code 17 = .ok (.aload_n 0, 1) := by decide +kernel
theorem d_46_18 : decode prog_3_method_3_code 18 = .ok (.getfield 18, 3) := by decide +kernel
theorem d_46_21 : decode prog_3_method_3_code 21 = .ok (.iload_n 1, 1) := by decide +kernel
theorem d_46_22 : decode prog_3_method_3_code 22 = .ok (.iastore, 1) := by decide +kernel
theorem d_46_23 : decode prog_3_method_3_code 23 = .ok (.aload_n 0, 1) := by decide +kernel
theorem d_46_24 : decode prog_3_method_3_code 24 = .ok (.getfield 15, 3) := by decide +kernel
theorem d_46_27 : decode prog_3_method_3_code 27 = .ok (.aload_n 0, 1) := by decide +kernel
theorem d_46_28 : decode prog_3_method_3_code 28 = .ok (.getfield 18, 3) := by decide +kernel
theorem d_46_31 : decode prog_3_method_3_code 31 = .ok (.iload_n 2, 1) := by decide +kernel
theorem d_46_32 : decode prog_3_method_3_code 32 = .ok (.iastore, 1) := by decide +kernel
theorem d_46_33 : decode prog_3_method_3_code 33 = .ok (.aload_n 0, 1) := by decide +kernel
theorem d_46_34 : decode prog_3_method_3_code 34 = .ok (.dup, 1) := by decide +kernel
theorem d_46_35 : decode prog_3_method_3_code 35 = .ok (.getfield 18, 3) := by decide +kernel
theorem d_46_38 : decode prog_3_method_3_code 38 = .ok (.iconst 1, 1) := by decide +kernel
theorem d_46_39 : decode prog_3_method_3_code 39 = .ok (.iadd, 1) := by decide +kernel
theorem d_46_40 : decode prog_3_method_3_code 40 = .ok (.putfield 18, 3) := by decide +kernel
theorem d_46_43 : decode prog_3_method_3_code 43 = .ok (.return_, 1) := by decide +kernel
theorem d_47_0 : decode prog_2_method_7_code 0 = .ok (.iload_n 2, 1) := by decide +kernel
theorem d_47_1 : decode prog_2_method_7_code 1 = .ok (.aload_n 3, 1) := by decide +kernel
theorem d_47_2 : decode prog_2_method_7_code 2 = .ok (.invokevirtual 23, 3) := by decide +kernel
theorem d_47_5 : decode prog_2_method_7_code 5 = .ok (.if_icmp .eq 5, 3) := by decide +kernel
theorem d_47_8 : decode prog_2_method_7_code 8 = .ok (.iconst 0, 1) := by decide +kernel
theorem d_47_9 : decode prog_2_method_7_code 9 = .ok (.ireturn, 1) := by decide +kernel
theorem d_47_10 : decode prog_2_method_7_code 10 = .ok (.iconst 0, 1) := by decide +kernel
theorem d_47_11 : decode prog_2_method_7_code 11 = .ok (.istore 4, 2) := by decide +kernel
theorem d_47_13 : decode prog_2_method_7_code 13 = .ok (.iload 4, 2) := by decide +kernel
theorem d_47_15 : decode prog_2_method_7_code 15 = .ok (.iload_n 2, 1) := by decide +kernel
theorem d_47_16 : decode prog_2_method_7_code 16 = .ok (.if_icmp .ge 28, 3) := by decide +kernel
theorem d_47_19 : decode prog_2_method_7_code 19 = .ok (.aload_n 0, 1) := by decide +kernel
theorem d_47_20 : decode prog_2_method_7_code 20 = .ok (.iload_n 1, 1) := by decide +kernel
theorem d_47_21 : decode prog_2_method_7_code 21 = .ok (.iload 4, 2) := by decide +kernel
theorem d_47_23 : decode prog_2_method_7_code 23 = .ok (.iadd, 1) := by decide +kernel
theorem d_47_24 : decode prog_2_method_7_code 24 = .ok (.invokevirtual 29, 3) := by decide +kernel
theorem d_47_27 : decode prog_2_method_7_code 27 = .ok (.aload_n 3, 1) := by decide +kernel
theorem d_47_28 : decode prog_2_method_7_code 28 = .ok (.iload 4, 2) := by decide +kernel
theorem d_47_30 : decode prog_2_method_7_code 30 = .ok (.invokevirtual 33, 3) := by decide +kernel
theorem d_47_33 : decode prog_2_method_7_code 33 = .ok (.if_icmp .eq 5, 3) := by decide +kernel
theorem d_47_36 : decode prog_2_method_7_code 36 = .ok (.iconst 0, 1) := by decide +kernel
theorem d_47_37 : decode prog_2_method_7_code 37 = .ok (.ireturn, 1) := by decide +kernel
theorem d_47_38 : decode prog_2_method_7_code 38 = .ok (.iinc 4 1, 3) := by decide +kernel
theorem d_47_41 : decode prog_2_method_7_code 41 = .ok (.goto (-28), 3) := by decide +kernel
theorem d_47_44 : decode prog_2_method_7_code 44 = .ok (.iconst 1, 1) := by decide +kernel
theorem d_47_45 : decode prog_2_method_7_code 45 = .ok (.ireturn, 1) := by decide +kernel
