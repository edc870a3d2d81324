/-! String.length, String.charAt: words and decode rows -/
abbrev jy_len : MethodName := ⟨"java/lang/String", "length", "()I"⟩
abbrev jb_len : ByteArray := prog_15_method_54_code
theorem jc_len : Cond.code jy_len jb_len 1 (some FieldType.int) ∈ x_tbl := (x_t2 (List.mem_of_getElem? (i := 224) rfl) rfl)
theorem ji_len : Cond.instanceMethod jy_len ∈ x_tbl := (x_t2 (List.mem_of_getElem? (i := 222) rfl) rfl)
theorem jse_len : Cond.selects jy_len.cls jy_len jy_len ∈ x_tbl := (x_t2 (List.mem_of_getElem? (i := 223) rfl) rfl)
theorem jd_len_0 : decode jb_len 0 = .ok (.aload_n 0, 1) := by decide +kernel
theorem jd_len_1 : decode jb_len 1 = .ok (.getfield 9, 3) := by decide +kernel
theorem jd_len_4 : decode jb_len 4 = .ok (.arraylength, 1) := by decide +kernel
theorem jd_len_5 : decode jb_len 5 = .ok (.aload_n 0, 1) := by decide +kernel
theorem jd_len_6 : decode jb_len 6 = .ok (.invokevirtual 335, 3) := by decide +kernel
theorem jd_len_9 : decode jb_len 9 = .ok (.ishr, 1) := by decide +kernel
theorem jd_len_10 : decode jb_len 10 = .ok (.ireturn, 1) := by decide +kernel
abbrev jy_coder : MethodName := ⟨"java/lang/String", "coder", "()B"⟩
abbrev jb_coder : ByteArray := prog_15_method_152_code
theorem jc_coder : Cond.code jy_coder jb_coder 1 (some FieldType.byte) ∈ x_tbl := (x_t2 (List.mem_of_getElem? (i := 228) rfl) rfl)
theorem ji_coder : Cond.instanceMethod jy_coder ∈ x_tbl := (x_t2 (List.mem_of_getElem? (i := 226) rfl) rfl)
theorem jse_coder : Cond.selects jy_coder.cls jy_coder jy_coder ∈ x_tbl := (x_t2 (List.mem_of_getElem? (i := 227) rfl) rfl)
theorem jd_coder_0 : decode jb_coder 0 = .ok (.getstatic 38, 3) := by decide +kernel
theorem jd_coder_3 : decode jb_coder 3 = .ok (.ifCond .eq 10, 3) := by decide +kernel
theorem jd_coder_6 : decode jb_coder 6 = .ok (.aload_n 0, 1) := by decide +kernel
theorem jd_coder_7 : decode jb_coder 7 = .ok (.getfield 15, 3) := by decide +kernel
theorem jd_coder_10 : decode jb_coder 10 = .ok (.goto 4, 3) := by decide +kernel
theorem jd_coder_13 : decode jb_coder 13 = .ok (.iconst 1, 1) := by decide +kernel
theorem jd_coder_14 : decode jb_coder 14 = .ok (.ireturn, 1) := by decide +kernel
abbrev jy_charAt : MethodName := ⟨"java/lang/String", "charAt", "(I)C"⟩
abbrev jb_charAt : ByteArray := prog_15_method_56_code
theorem jc_charAt : Cond.code jy_charAt jb_charAt 2 (some FieldType.char) ∈ x_tbl := (x_t2 (List.mem_of_getElem? (i := 235) rfl) rfl)
theorem ji_charAt : Cond.instanceMethod jy_charAt ∈ x_tbl := (x_t2 (List.mem_of_getElem? (i := 233) rfl) rfl)
theorem jse_charAt : Cond.selects jy_charAt.cls jy_charAt jy_charAt ∈ x_tbl := (x_t2 (List.mem_of_getElem? (i := 234) rfl) rfl)
theorem jd_charAt_0 : decode jb_charAt 0 = .ok (.aload_n 0, 1) := by decide +kernel
theorem jd_charAt_1 : decode jb_charAt 1 = .ok (.invokevirtual 492, 3) := by decide +kernel
theorem jd_charAt_4 : decode jb_charAt 4 = .ok (.ifCond .eq 12, 3) := by decide +kernel
theorem jd_charAt_7 : decode jb_charAt 7 = .ok (.aload_n 0, 1) := by decide +kernel
theorem jd_charAt_8 : decode jb_charAt 8 = .ok (.getfield 9, 3) := by decide +kernel
theorem jd_charAt_11 : decode jb_charAt 11 = .ok (.iload_n 1, 1) := by decide +kernel
theorem jd_charAt_12 : decode jb_charAt 12 = .ok (.invokestatic 495, 3) := by decide +kernel
theorem jd_charAt_15 : decode jb_charAt 15 = .ok (.ireturn, 1) := by decide +kernel
theorem jd_charAt_16 : decode jb_charAt 16 = .ok (.aload_n 0, 1) := by decide +kernel
theorem jd_charAt_17 : decode jb_charAt 17 = .ok (.getfield 9, 3) := by decide +kernel
theorem jd_charAt_20 : decode jb_charAt 20 = .ok (.iload_n 1, 1) := by decide +kernel
theorem jd_charAt_21 : decode jb_charAt 21 = .ok (.invokestatic 498, 3) := by decide +kernel
theorem jd_charAt_24 : decode jb_charAt 24 = .ok (.ireturn, 1) := by decide +kernel
abbrev jy_lat : MethodName := ⟨"java/lang/String", "isLatin1", "()Z"⟩
abbrev jb_lat : ByteArray := prog_15_method_154_code
theorem jc_lat : Cond.code jy_lat jb_lat 1 (some FieldType.boolean) ∈ x_tbl := (x_t2 (List.mem_of_getElem? (i := 239) rfl) rfl)
theorem ji_lat : Cond.instanceMethod jy_lat ∈ x_tbl := (x_t2 (List.mem_of_getElem? (i := 237) rfl) rfl)
theorem jse_lat : Cond.selects jy_lat.cls jy_lat jy_lat ∈ x_tbl := (x_t2 (List.mem_of_getElem? (i := 238) rfl) rfl)
theorem jd_lat_0 : decode jb_lat 0 = .ok (.getstatic 38, 3) := by decide +kernel
theorem jd_lat_3 : decode jb_lat 3 = .ok (.ifCond .eq 14, 3) := by decide +kernel
theorem jd_lat_6 : decode jb_lat 6 = .ok (.aload_n 0, 1) := by decide +kernel
theorem jd_lat_7 : decode jb_lat 7 = .ok (.getfield 15, 3) := by decide +kernel
theorem jd_lat_10 : decode jb_lat 10 = .ok (.ifCond .ne 7, 3) := by decide +kernel
theorem jd_lat_13 : decode jb_lat 13 = .ok (.iconst 1, 1) := by decide +kernel
theorem jd_lat_14 : decode jb_lat 14 = .ok (.goto 4, 3) := by decide +kernel
theorem jd_lat_17 : decode jb_lat 17 = .ok (.iconst 0, 1) := by decide +kernel
theorem jd_lat_18 : decode jb_lat 18 = .ok (.ireturn, 1) := by decide +kernel
abbrev jy_lca : MethodName := ⟨"java/lang/StringLatin1", "charAt", "([BI)C"⟩
abbrev jb_lca : ByteArray := prog_16_method_2_code
theorem jc_lca : Cond.code jy_lca jb_lca 2 (some FieldType.char) ∈ x_tbl := (x_t3 (List.mem_of_getElem? (i := 2) rfl) rfl)
theorem js_lca : Cond.static jy_lca ∈ x_tbl := (x_t3 (List.mem_of_getElem? (i := 1) rfl) rfl)
theorem jd_lca_0 : decode jb_lca 0 = .ok (.iload_n 1, 1) := by decide +kernel
theorem jd_lca_1 : decode jb_lca 1 = .ok (.aload_n 0, 1) := by decide +kernel
theorem jd_lca_2 : decode jb_lca 2 = .ok (.arraylength, 1) := by decide +kernel
theorem jd_lca_3 : decode jb_lca 3 = .ok (.invokestatic 9, 3) := by decide +kernel
theorem jd_lca_6 : decode jb_lca 6 = .ok (.aload_n 0, 1) := by decide +kernel
theorem jd_lca_7 : decode jb_lca 7 = .ok (.iload_n 1, 1) := by decide +kernel
theorem jd_lca_8 : decode jb_lca 8 = .ok (.baload, 1) := by decide +kernel
theorem jd_lca_9 : decode jb_lca 9 = .ok (.sipush 255, 3) := by decide +kernel
theorem jd_lca_12 : decode jb_lca 12 = .ok (.iand, 1) := by decide +kernel
theorem jd_lca_13 : decode jb_lca 13 = .ok (.i2c, 1) := by decide +kernel
theorem jd_lca_14 : decode jb_lca 14 = .ok (.ireturn, 1) := by decide +kernel
abbrev jy_chk : MethodName := ⟨"java/lang/String", "checkIndex", "(II)V"⟩
abbrev jb_chk : ByteArray := prog_15_method_155_code
theorem jc_chk : Cond.code jy_chk jb_chk 2 none ∈ x_tbl := (x_t3 (List.mem_of_getElem? (i := 5) rfl) rfl)
theorem js_chk : Cond.static jy_chk ∈ x_tbl := (x_t3 (List.mem_of_getElem? (i := 4) rfl) rfl)
theorem jd_chk_0 : decode jb_chk 0 = .ok (.iload_n 0, 1) := by decide +kernel
theorem jd_chk_1 : decode jb_chk 1 = .ok (.iload_n 1, 1) := by decide +kernel
theorem jd_chk_2 : decode jb_chk 2 = .ok (.getstatic 1053, 3) := by decide +kernel
theorem jd_chk_5 : decode jb_chk 5 = .ok (.invokestatic 1059, 3) := by decide +kernel
theorem jd_chk_8 : decode jb_chk 8 = .ok (.pop, 1) := by decide +kernel
theorem jd_chk_9 : decode jb_chk 9 = .ok (.return_, 1) := by decide +kernel
abbrev jy_pre : MethodName := ⟨"jdk/internal/util/Preconditions", "checkIndex", "(IILjava/util/function/BiFunction;)I"⟩
abbrev jb_pre : ByteArray := prog_20_method_11_code
theorem jc_pre : Cond.code jy_pre jb_pre 3 (some FieldType.int) ∈ x_tbl := (x_t3 (List.mem_of_getElem? (i := 10) rfl) rfl)
theorem js_pre : Cond.static jy_pre ∈ x_tbl := (x_t3 (List.mem_of_getElem? (i := 9) rfl) rfl)
theorem jd_pre_0 : decode jb_pre 0 = .ok (.iload_n 0, 1) := by decide +kernel
theorem jd_pre_1 : decode jb_pre 1 = .ok (.ifCond .lt 8, 3) := by decide +kernel
theorem jd_pre_4 : decode jb_pre 4 = .ok (.iload_n 0, 1) := by decide +kernel
theorem jd_pre_5 : decode jb_pre 5 = .ok (.iload_n 1, 1) := by decide +kernel
theorem jd_pre_6 : decode jb_pre 6 = .ok (.if_icmp .lt 10, 3) := by decide +kernel
theorem jd_pre_9 : decode jb_pre 9 = .ok (.aload_n 2, 1) := by decide +kernel
theorem jd_pre_10 : decode jb_pre 10 = .ok (.iload_n 0, 1) := by decide +kernel
theorem jd_pre_11 : decode jb_pre 11 = .ok (.iload_n 1, 1) := by decide +kernel
theorem jd_pre_12 : decode jb_pre 12 = .ok (.invokestatic 95, 3) := by decide +kernel
theorem jd_pre_15 : decode jb_pre 15 = .ok (.athrow, 1) := by decide +kernel
theorem jd_pre_16 : decode jb_pre 16 = .ok (.iload_n 0, 1) := by decide +kernel
theorem jd_pre_17 : decode jb_pre 17 = .ok (.ireturn, 1) := by decide +kernel
theorem jl_val : (Cond.fieldLink "java/lang/String" (9 : Nat) "java/lang/String" "value" "[B") ∈ x_tbl := (x_t6 (List.mem_of_getElem? (i := 36) rfl) rfl)
theorem jl_cod : (Cond.fieldLink "java/lang/String" (15 : Nat) "java/lang/String" "coder" "B") ∈ x_tbl := (x_t6 (List.mem_of_getElem? (i := 37) rfl) rfl)
theorem jl_com : (Cond.fieldLink "java/lang/String" (38 : Nat) "java/lang/String" "COMPACT_STRINGS" "Z") ∈ x_tbl := (x_t2 (List.mem_of_getElem? (i := 229) rfl) rfl)
theorem jl_fmt : (Cond.fieldLink "java/lang/String" (1053 : Nat) "jdk/internal/util/Preconditions" "SIOOBE_FORMATTER" "Ljava/util/function/BiFunction;") ∈ x_tbl := (x_t3 (List.mem_of_getElem? (i := 6) rfl) rfl)
theorem jm_coder : Cond.methodLink "java/lang/String" 335 jy_coder ∈ x_tbl := (x_t2 (List.mem_of_getElem? (i := 225) rfl) rfl)
theorem jm_lat : Cond.methodLink "java/lang/String" 492 jy_lat ∈ x_tbl := (x_t2 (List.mem_of_getElem? (i := 236) rfl) rfl)
theorem jm_lca : Cond.methodLink "java/lang/String" 495 jy_lca ∈ x_tbl := (x_t3 (List.mem_of_getElem? (i := 0) rfl) rfl)
theorem jm_chk : Cond.methodLink "java/lang/StringLatin1" 9 jy_chk ∈ x_tbl := (x_t3 (List.mem_of_getElem? (i := 3) rfl) rfl)
theorem jm_pre : Cond.methodLink "java/lang/String" 1059 jy_pre ∈ x_tbl := (x_t3 (List.mem_of_getElem? (i := 8) rfl) rfl)
theorem jn_S : Cond.initialized "java/lang/String" ∈ x_tbl := (x_t1 (List.mem_of_getElem? (i := 14) rfl) rfl)
theorem jn_SL : Cond.initialized "java/lang/StringLatin1" ∈ x_tbl := (x_t1 (List.mem_of_getElem? (i := 15) rfl) rfl)
theorem jn_PC : Cond.initialized "jdk/internal/util/Preconditions" ∈ x_tbl := (x_t1 (List.mem_of_getElem? (i := 16) rfl) rfl)
