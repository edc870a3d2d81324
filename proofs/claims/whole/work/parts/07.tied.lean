/-! the tables of the interpreter, tied to the words of the Statement -/
theorem zk_w0 : ∀ w ∈ u_ws zN0 zT0 4, w ∈ x_tbl := by
  show ∀ w ∈ ([u_lay zN0 zT0 0, u_lay zN0 zT0 1, u_lay zN0 zT0 2, u_lay zN0 zT0 3] : List Cond), w ∈ x_tbl
  exact List.forall_mem_cons.mpr ⟨(x_t1 (List.mem_of_getElem? (i := 206) rfl) rfl), List.forall_mem_cons.mpr ⟨(x_t1 (List.mem_of_getElem? (i := 208) rfl) rfl), List.forall_mem_cons.mpr ⟨(x_t1 (List.mem_of_getElem? (i := 210) rfl) rfl), List.forall_mem_cons.mpr ⟨(x_t1 (List.mem_of_getElem? (i := 212) rfl) rfl), fun _ h => absurd h List.not_mem_nil⟩⟩⟩⟩
theorem zk_0 : z_cok 0 := ⟨zN0, zT0, 4, rfl, zk_w0, by decide +kernel, by decide +kernel, by decide +kernel, rfl, by decide +kernel, by decide +kernel, (x_t1 (List.mem_of_getElem? (i := 21) rfl) rfl), (x_t1 (List.mem_of_getElem? (i := 1) rfl) rfl)⟩
theorem zk_w1 : ∀ w ∈ u_ws zN1 zT1 2, w ∈ x_tbl := by
  show ∀ w ∈ ([u_lay zN1 zT1 0, u_lay zN1 zT1 1] : List Cond), w ∈ x_tbl
  exact List.forall_mem_cons.mpr ⟨(x_t1 (List.mem_of_getElem? (i := 46) rfl) rfl), List.forall_mem_cons.mpr ⟨(x_t1 (List.mem_of_getElem? (i := 48) rfl) rfl), fun _ h => absurd h List.not_mem_nil⟩⟩
theorem zk_1 : z_cok 1 := ⟨zN1, zT1, 2, rfl, zk_w1, by decide +kernel, by decide +kernel, by decide +kernel, rfl, by decide +kernel, by decide +kernel, (x_t1 (List.mem_of_getElem? (i := 36) rfl) rfl), (x_t1 (List.mem_of_getElem? (i := 3) rfl) rfl)⟩
theorem zk_w2 : ∀ w ∈ u_ws zN2 zT2 8, w ∈ x_tbl := by
  show ∀ w ∈ ([u_lay zN2 zT2 0, u_lay zN2 zT2 1, u_lay zN2 zT2 2, u_lay zN2 zT2 3, u_lay zN2 zT2 4, u_lay zN2 zT2 5, u_lay zN2 zT2 6, u_lay zN2 zT2 7] : List Cond), w ∈ x_tbl
  exact List.forall_mem_cons.mpr ⟨(x_t1 (List.mem_of_getElem? (i := 79) rfl) rfl), List.forall_mem_cons.mpr ⟨(x_t1 (List.mem_of_getElem? (i := 81) rfl) rfl), List.forall_mem_cons.mpr ⟨(x_t1 (List.mem_of_getElem? (i := 83) rfl) rfl), List.forall_mem_cons.mpr ⟨(x_t1 (List.mem_of_getElem? (i := 85) rfl) rfl), List.forall_mem_cons.mpr ⟨(x_t1 (List.mem_of_getElem? (i := 87) rfl) rfl), List.forall_mem_cons.mpr ⟨(x_t1 (List.mem_of_getElem? (i := 89) rfl) rfl), List.forall_mem_cons.mpr ⟨(x_t1 (List.mem_of_getElem? (i := 91) rfl) rfl), List.forall_mem_cons.mpr ⟨(x_t1 (List.mem_of_getElem? (i := 93) rfl) rfl), fun _ h => absurd h List.not_mem_nil⟩⟩⟩⟩⟩⟩⟩⟩
theorem zk_2 : z_cok 2 := ⟨zN2, zT2, 8, rfl, zk_w2, by decide +kernel, by decide +kernel, by decide +kernel, rfl, by decide +kernel, by decide +kernel, (x_t1 (List.mem_of_getElem? (i := 30) rfl) rfl), (x_t1 (List.mem_of_getElem? (i := 2) rfl) rfl)⟩
theorem zk_w3 : ∀ w ∈ u_ws zN3 zT3 3, w ∈ x_tbl := by
  show ∀ w ∈ ([u_lay zN3 zT3 0, u_lay zN3 zT3 1, u_lay zN3 zT3 2] : List Cond), w ∈ x_tbl
  exact List.forall_mem_cons.mpr ⟨(x_t1 (List.mem_of_getElem? (i := 114) rfl) rfl), List.forall_mem_cons.mpr ⟨(x_t1 (List.mem_of_getElem? (i := 116) rfl) rfl), List.forall_mem_cons.mpr ⟨(x_t1 (List.mem_of_getElem? (i := 118) rfl) rfl), fun _ h => absurd h List.not_mem_nil⟩⟩⟩
theorem zk_3 : z_cok 3 := ⟨zN3, zT3, 3, rfl, zk_w3, by decide +kernel, by decide +kernel, by decide +kernel, rfl, by decide +kernel, by decide +kernel, (x_t1 (List.mem_of_getElem? (i := 103) rfl) rfl), (x_t1 (List.mem_of_getElem? (i := 5) rfl) rfl)⟩
theorem zk_w4 : ∀ w ∈ u_ws zN4 zT4 3, w ∈ x_tbl := by
  show ∀ w ∈ ([u_lay zN4 zT4 0, u_lay zN4 zT4 1, u_lay zN4 zT4 2] : List Cond), w ∈ x_tbl
  exact List.forall_mem_cons.mpr ⟨(x_t1 (List.mem_of_getElem? (i := 133) rfl) rfl), List.forall_mem_cons.mpr ⟨(x_t1 (List.mem_of_getElem? (i := 135) rfl) rfl), List.forall_mem_cons.mpr ⟨(x_t1 (List.mem_of_getElem? (i := 137) rfl) rfl), fun _ h => absurd h List.not_mem_nil⟩⟩⟩
theorem zk_4 : z_cok 4 := ⟨zN4, zT4, 3, rfl, zk_w4, by decide +kernel, by decide +kernel, by decide +kernel, rfl, by decide +kernel, by decide +kernel, (x_t1 (List.mem_of_getElem? (i := 122) rfl) rfl), (x_t1 (List.mem_of_getElem? (i := 6) rfl) rfl)⟩
theorem zk_w5 : ∀ w ∈ u_ws zN5 zT5 10, w ∈ x_tbl := by
  show ∀ w ∈ ([u_lay zN5 zT5 0, u_lay zN5 zT5 1, u_lay zN5 zT5 2, u_lay zN5 zT5 3, u_lay zN5 zT5 4, u_lay zN5 zT5 5, u_lay zN5 zT5 6, u_lay zN5 zT5 7, u_lay zN5 zT5 8, u_lay zN5 zT5 9] : List Cond), w ∈ x_tbl
  exact List.forall_mem_cons.mpr ⟨(x_t1 (List.mem_of_getElem? (i := 153) rfl) rfl), List.forall_mem_cons.mpr ⟨(x_t1 (List.mem_of_getElem? (i := 155) rfl) rfl), List.forall_mem_cons.mpr ⟨(x_t1 (List.mem_of_getElem? (i := 157) rfl) rfl), List.forall_mem_cons.mpr ⟨(x_t1 (List.mem_of_getElem? (i := 159) rfl) rfl), List.forall_mem_cons.mpr ⟨(x_t1 (List.mem_of_getElem? (i := 161) rfl) rfl), List.forall_mem_cons.mpr ⟨(x_t1 (List.mem_of_getElem? (i := 163) rfl) rfl), List.forall_mem_cons.mpr ⟨(x_t1 (List.mem_of_getElem? (i := 165) rfl) rfl), List.forall_mem_cons.mpr ⟨(x_t1 (List.mem_of_getElem? (i := 167) rfl) rfl), List.forall_mem_cons.mpr ⟨(x_t1 (List.mem_of_getElem? (i := 169) rfl) rfl), List.forall_mem_cons.mpr ⟨(x_t1 (List.mem_of_getElem? (i := 171) rfl) rfl), fun _ h => absurd h List.not_mem_nil⟩⟩⟩⟩⟩⟩⟩⟩⟩⟩
theorem zk_5 : z_cok 5 := ⟨zN5, zT5, 10, rfl, zk_w5, by decide +kernel, by decide +kernel, by decide +kernel, rfl, by decide +kernel, by decide +kernel, (x_t1 (List.mem_of_getElem? (i := 97) rfl) rfl), (x_t1 (List.mem_of_getElem? (i := 4) rfl) rfl)⟩
theorem zk_w6 : ∀ w ∈ u_ws zN6 zT6 5, w ∈ x_tbl := by
  show ∀ w ∈ ([u_lay zN6 zT6 0, u_lay zN6 zT6 1, u_lay zN6 zT6 2, u_lay zN6 zT6 3, u_lay zN6 zT6 4] : List Cond), w ∈ x_tbl
  exact List.forall_mem_cons.mpr ⟨(x_t1 (List.mem_of_getElem? (i := 189) rfl) rfl), List.forall_mem_cons.mpr ⟨(x_t1 (List.mem_of_getElem? (i := 191) rfl) rfl), List.forall_mem_cons.mpr ⟨(x_t1 (List.mem_of_getElem? (i := 193) rfl) rfl), List.forall_mem_cons.mpr ⟨(x_t1 (List.mem_of_getElem? (i := 195) rfl) rfl), List.forall_mem_cons.mpr ⟨(x_t1 (List.mem_of_getElem? (i := 197) rfl) rfl), fun _ h => absurd h List.not_mem_nil⟩⟩⟩⟩⟩
theorem zk_6 : z_cok 6 := ⟨zN6, zT6, 5, rfl, zk_w6, by decide +kernel, by decide +kernel, by decide +kernel, rfl, by decide +kernel, by decide +kernel, (x_t1 (List.mem_of_getElem? (i := 175) rfl) rfl), (x_t1 (List.mem_of_getElem? (i := 7) rfl) rfl)⟩
theorem zk_w7 : ∀ w ∈ u_ws zN7 zT7 43, w ∈ x_tbl := by
  show ∀ w ∈ ([u_lay zN7 zT7 0, u_lay zN7 zT7 1, u_lay zN7 zT7 2, u_lay zN7 zT7 3, u_lay zN7 zT7 4, u_lay zN7 zT7 5, u_lay zN7 zT7 6, u_lay zN7 zT7 7, u_lay zN7 zT7 8, u_lay zN7 zT7 9, u_lay zN7 zT7 10, u_lay zN7 zT7 11, u_lay zN7 zT7 12, u_lay zN7 zT7 13, u_lay zN7 zT7 14, u_lay zN7 zT7 15, u_lay zN7 zT7 16, u_lay zN7 zT7 17, u_lay zN7 zT7 18, u_lay zN7 zT7 19, u_lay zN7 zT7 20, u_lay zN7 zT7 21, u_lay zN7 zT7 22, u_lay zN7 zT7 23, u_lay zN7 zT7 24, u_lay zN7 zT7 25, u_lay zN7 zT7 26, u_lay zN7 zT7 27, u_lay zN7 zT7 28, u_lay zN7 zT7 29, u_lay zN7 zT7 30, u_lay zN7 zT7 31, u_lay zN7 zT7 32, u_lay zN7 zT7 33, u_lay zN7 zT7 34, u_lay zN7 zT7 35, u_lay zN7 zT7 36, u_lay zN7 zT7 37, u_lay zN7 zT7 38, u_lay zN7 zT7 39, u_lay zN7 zT7 40, u_lay zN7 zT7 41, u_lay zN7 zT7 42] : List Cond), w ∈ x_tbl
  exact List.forall_mem_cons.mpr ⟨(x_t4 (List.mem_of_getElem? (i := 146) rfl) rfl), List.forall_mem_cons.mpr ⟨(x_t4 (List.mem_of_getElem? (i := 148) rfl) rfl), List.forall_mem_cons.mpr ⟨(x_t4 (List.mem_of_getElem? (i := 150) rfl) rfl), List.forall_mem_cons.mpr ⟨(x_t4 (List.mem_of_getElem? (i := 152) rfl) rfl), List.forall_mem_cons.mpr ⟨(x_t4 (List.mem_of_getElem? (i := 154) rfl) rfl), List.forall_mem_cons.mpr ⟨(x_t4 (List.mem_of_getElem? (i := 156) rfl) rfl), List.forall_mem_cons.mpr ⟨(x_t4 (List.mem_of_getElem? (i := 158) rfl) rfl), List.forall_mem_cons.mpr ⟨(x_t4 (List.mem_of_getElem? (i := 160) rfl) rfl), List.forall_mem_cons.mpr ⟨(x_t4 (List.mem_of_getElem? (i := 162) rfl) rfl), List.forall_mem_cons.mpr ⟨(x_t4 (List.mem_of_getElem? (i := 164) rfl) rfl), List.forall_mem_cons.mpr ⟨(x_t4 (List.mem_of_getElem? (i := 166) rfl) rfl), List.forall_mem_cons.mpr ⟨(x_t4 (List.mem_of_getElem? (i := 168) rfl) rfl), List.forall_mem_cons.mpr ⟨(x_t4 (List.mem_of_getElem? (i := 170) rfl) rfl), List.forall_mem_cons.mpr ⟨(x_t4 (List.mem_of_getElem? (i := 172) rfl) rfl), List.forall_mem_cons.mpr ⟨(x_t4 (List.mem_of_getElem? (i := 174) rfl) rfl), List.forall_mem_cons.mpr ⟨(x_t4 (List.mem_of_getElem? (i := 176) rfl) rfl), List.forall_mem_cons.mpr ⟨(x_t4 (List.mem_of_getElem? (i := 178) rfl) rfl), List.forall_mem_cons.mpr ⟨(x_t4 (List.mem_of_getElem? (i := 180) rfl) rfl), List.forall_mem_cons.mpr ⟨(x_t4 (List.mem_of_getElem? (i := 182) rfl) rfl), List.forall_mem_cons.mpr ⟨(x_t4 (List.mem_of_getElem? (i := 184) rfl) rfl), List.forall_mem_cons.mpr ⟨(x_t4 (List.mem_of_getElem? (i := 186) rfl) rfl), List.forall_mem_cons.mpr ⟨(x_t4 (List.mem_of_getElem? (i := 188) rfl) rfl), List.forall_mem_cons.mpr ⟨(x_t4 (List.mem_of_getElem? (i := 190) rfl) rfl), List.forall_mem_cons.mpr ⟨(x_t4 (List.mem_of_getElem? (i := 192) rfl) rfl), List.forall_mem_cons.mpr ⟨(x_t4 (List.mem_of_getElem? (i := 194) rfl) rfl), List.forall_mem_cons.mpr ⟨(x_t4 (List.mem_of_getElem? (i := 196) rfl) rfl), List.forall_mem_cons.mpr ⟨(x_t4 (List.mem_of_getElem? (i := 198) rfl) rfl), List.forall_mem_cons.mpr ⟨(x_t4 (List.mem_of_getElem? (i := 200) rfl) rfl), List.forall_mem_cons.mpr ⟨(x_t4 (List.mem_of_getElem? (i := 202) rfl) rfl), List.forall_mem_cons.mpr ⟨(x_t4 (List.mem_of_getElem? (i := 204) rfl) rfl), List.forall_mem_cons.mpr ⟨(x_t4 (List.mem_of_getElem? (i := 206) rfl) rfl), List.forall_mem_cons.mpr ⟨(x_t4 (List.mem_of_getElem? (i := 208) rfl) rfl), List.forall_mem_cons.mpr ⟨(x_t4 (List.mem_of_getElem? (i := 210) rfl) rfl), List.forall_mem_cons.mpr ⟨(x_t4 (List.mem_of_getElem? (i := 212) rfl) rfl), List.forall_mem_cons.mpr ⟨(x_t4 (List.mem_of_getElem? (i := 214) rfl) rfl), List.forall_mem_cons.mpr ⟨(x_t4 (List.mem_of_getElem? (i := 216) rfl) rfl), List.forall_mem_cons.mpr ⟨(x_t4 (List.mem_of_getElem? (i := 218) rfl) rfl), List.forall_mem_cons.mpr ⟨(x_t4 (List.mem_of_getElem? (i := 220) rfl) rfl), List.forall_mem_cons.mpr ⟨(x_t4 (List.mem_of_getElem? (i := 222) rfl) rfl), List.forall_mem_cons.mpr ⟨(x_t4 (List.mem_of_getElem? (i := 224) rfl) rfl), List.forall_mem_cons.mpr ⟨(x_t4 (List.mem_of_getElem? (i := 226) rfl) rfl), List.forall_mem_cons.mpr ⟨(x_t4 (List.mem_of_getElem? (i := 228) rfl) rfl), List.forall_mem_cons.mpr ⟨(x_t4 (List.mem_of_getElem? (i := 230) rfl) rfl), fun _ h => absurd h List.not_mem_nil⟩⟩⟩⟩⟩⟩⟩⟩⟩⟩⟩⟩⟩⟩⟩⟩⟩⟩⟩⟩⟩⟩⟩⟩⟩⟩⟩⟩⟩⟩⟩⟩⟩⟩⟩⟩⟩⟩⟩⟩⟩⟩⟩
theorem zk_7 : z_cok 7 := ⟨zN7, zT7, 43, rfl, zk_w7, by decide +kernel, by decide +kernel, by decide +kernel, rfl, by decide +kernel, by decide +kernel, (x_t4 (List.mem_of_getElem? (i := 98) rfl) rfl), (x_t1 (List.mem_of_getElem? (i := 8) rfl) rfl)⟩
theorem zo_f_0_0 : z_fok 0 39 1 1 := ⟨zk_1, fun C T N h => by cases h; exact ⟨by decide, Or.inr ⟨Or.inr trivial, _, (x_n1 (List.mem_of_getElem? (i := 44) rfl) rfl)⟩⟩⟩
theorem zo_f_0_1 : z_fok 0 83 2 0 := ⟨zk_2, fun C T N h => by cases h; exact ⟨by decide, Or.inr ⟨Or.inr trivial, _, (x_n1 (List.mem_of_getElem? (i := 56) rfl) rfl)⟩⟩⟩
theorem zo_f_0_2 : z_fok 0 93 2 1 := ⟨zk_2, fun C T N h => by cases h; exact ⟨by decide, Or.inr ⟨Or.inr trivial, _, (x_n1 (List.mem_of_getElem? (i := 60) rfl) rfl)⟩⟩⟩
theorem zo_f_0_3 : z_fok 0 100 2 2 := ⟨zk_2, fun C T N h => by cases h; exact ⟨by decide, Or.inr ⟨Or.inr trivial, _, (x_n1 (List.mem_of_getElem? (i := 63) rfl) rfl)⟩⟩⟩
theorem zo_f_0_4 : z_fok 0 90 2 3 := ⟨zk_2, fun C T N h => by cases h; exact ⟨by decide, Or.inr ⟨Or.inr trivial, _, (x_n1 (List.mem_of_getElem? (i := 65) rfl) rfl)⟩⟩⟩
theorem zo_f_0_5 : z_fok 0 87 2 4 := ⟨zk_2, fun C T N h => by cases h; exact ⟨by decide, Or.inr ⟨Or.inr trivial, _, (x_n1 (List.mem_of_getElem? (i := 69) rfl) rfl)⟩⟩⟩
theorem zo_f_0_6 : z_fok 0 97 2 6 := ⟨zk_2, fun C T N h => by cases h; exact ⟨by decide, Or.inr ⟨Or.inr trivial, _, (x_n1 (List.mem_of_getElem? (i := 76) rfl) rfl)⟩⟩⟩
theorem zo_f_0_7 : z_fok 0 65 2 7 := ⟨zk_2, fun C T N h => by cases h; exact ⟨by decide, Or.inr ⟨Or.inr trivial, _, (x_n1 (List.mem_of_getElem? (i := 78) rfl) rfl)⟩⟩⟩
theorem zo_f_0_8 : z_fok 0 66 5 6 := ⟨zk_5, fun C T N h => by cases h; exact ⟨by decide, Or.inr ⟨Or.inr trivial, _, (x_n1 (List.mem_of_getElem? (i := 149) rfl) rfl)⟩⟩⟩
theorem zo_f_0_9 : z_fok 0 12 0 0 := ⟨zk_0, fun C T N h => by cases h; exact ⟨by decide, Or.inl (x_t1 (List.mem_of_getElem? (i := 202) rfl) rfl)⟩⟩
theorem zo_f_0_10 : z_fok 0 19 0 1 := ⟨zk_0, fun C T N h => by cases h; exact ⟨by decide, Or.inl (x_t1 (List.mem_of_getElem? (i := 203) rfl) rfl)⟩⟩
theorem zo_f_0_11 : z_fok 0 26 0 2 := ⟨zk_0, fun C T N h => by cases h; exact ⟨by decide, Or.inl (x_t1 (List.mem_of_getElem? (i := 204) rfl) rfl)⟩⟩
theorem zo_f_0_12 : z_fok 0 35 0 3 := ⟨zk_0, fun C T N h => by cases h; exact ⟨by decide, Or.inl (x_t1 (List.mem_of_getElem? (i := 205) rfl) rfl)⟩⟩
theorem zo_f_1_0 : z_fok 1 9 1 0 := ⟨zk_1, fun C T N h => by cases h; exact ⟨by decide, Or.inl (x_t1 (List.mem_of_getElem? (i := 41) rfl) rfl)⟩⟩
theorem zo_f_1_1 : z_fok 1 15 1 1 := ⟨zk_1, fun C T N h => by cases h; exact ⟨by decide, Or.inl (x_t1 (List.mem_of_getElem? (i := 42) rfl) rfl)⟩⟩
theorem zo_f_2_0 : z_fok 2 9 2 0 := ⟨zk_2, fun C T N h => by cases h; exact ⟨by decide, Or.inl (x_t1 (List.mem_of_getElem? (i := 54) rfl) rfl)⟩⟩
theorem zo_f_2_1 : z_fok 2 15 2 1 := ⟨zk_2, fun C T N h => by cases h; exact ⟨by decide, Or.inl (x_t1 (List.mem_of_getElem? (i := 58) rfl) rfl)⟩⟩
theorem zo_f_2_2 : z_fok 2 19 2 2 := ⟨zk_2, fun C T N h => by cases h; exact ⟨by decide, Or.inl (x_t1 (List.mem_of_getElem? (i := 61) rfl) rfl)⟩⟩
theorem zo_f_2_3 : z_fok 2 22 2 3 := ⟨zk_2, fun C T N h => by cases h; exact ⟨by decide, Or.inl (x_t1 (List.mem_of_getElem? (i := 64) rfl) rfl)⟩⟩
theorem zo_f_2_4 : z_fok 2 25 2 4 := ⟨zk_2, fun C T N h => by cases h; exact ⟨by decide, Or.inl (x_t1 (List.mem_of_getElem? (i := 67) rfl) rfl)⟩⟩
theorem zo_f_2_5 : z_fok 2 28 2 5 := ⟨zk_2, fun C T N h => by cases h; exact ⟨by decide, Or.inl (x_t1 (List.mem_of_getElem? (i := 71) rfl) rfl)⟩⟩
theorem zo_f_2_6 : z_fok 2 36 2 6 := ⟨zk_2, fun C T N h => by cases h; exact ⟨by decide, Or.inl (x_t1 (List.mem_of_getElem? (i := 73) rfl) rfl)⟩⟩
theorem zo_f_2_7 : z_fok 2 40 2 7 := ⟨zk_2, fun C T N h => by cases h; exact ⟨by decide, Or.inl (x_t1 (List.mem_of_getElem? (i := 77) rfl) rfl)⟩⟩
theorem zo_f_3_0 : z_fok 3 9 3 0 := ⟨zk_3, fun C T N h => by cases h; exact ⟨by decide, Or.inl (x_t1 (List.mem_of_getElem? (i := 108) rfl) rfl)⟩⟩
theorem zo_f_3_1 : z_fok 3 15 3 1 := ⟨zk_3, fun C T N h => by cases h; exact ⟨by decide, Or.inl (x_t1 (List.mem_of_getElem? (i := 110) rfl) rfl)⟩⟩
theorem zo_f_3_2 : z_fok 3 18 3 2 := ⟨zk_3, fun C T N h => by cases h; exact ⟨by decide, Or.inl (x_t1 (List.mem_of_getElem? (i := 112) rfl) rfl)⟩⟩
theorem zo_f_4_0 : z_fok 4 21 4 0 := ⟨zk_4, fun C T N h => by cases h; exact ⟨by decide, Or.inl (x_t1 (List.mem_of_getElem? (i := 127) rfl) rfl)⟩⟩
theorem zo_f_4_1 : z_fok 4 15 4 1 := ⟨zk_4, fun C T N h => by cases h; exact ⟨by decide, Or.inl (x_t1 (List.mem_of_getElem? (i := 129) rfl) rfl)⟩⟩
theorem zo_f_4_2 : z_fok 4 25 4 2 := ⟨zk_4, fun C T N h => by cases h; exact ⟨by decide, Or.inl (x_t1 (List.mem_of_getElem? (i := 131) rfl) rfl)⟩⟩
theorem zo_f_5_0 : z_fok 5 60 1 1 := ⟨zk_1, fun C T N h => by cases h; exact ⟨by decide, Or.inr ⟨Or.inr trivial, _, (x_n1 (List.mem_of_getElem? (i := 43) rfl) rfl)⟩⟩⟩
theorem zo_f_5_1 : z_fok 5 241 2 0 := ⟨zk_2, fun C T N h => by cases h; exact ⟨by decide, Or.inr ⟨Or.inr trivial, _, (x_n1 (List.mem_of_getElem? (i := 57) rfl) rfl)⟩⟩⟩
theorem zo_f_5_2 : z_fok 5 252 2 4 := ⟨zk_2, fun C T N h => by cases h; exact ⟨by decide, Or.inr ⟨Or.inr trivial, _, (x_n1 (List.mem_of_getElem? (i := 70) rfl) rfl)⟩⟩⟩
theorem zo_f_5_3 : z_fok 5 150 2 6 := ⟨zk_2, fun C T N h => by cases h; exact ⟨by decide, Or.inr ⟨Or.inr trivial, _, (x_n1 (List.mem_of_getElem? (i := 74) rfl) rfl)⟩⟩⟩
theorem zo_f_5_4 : z_fok 5 182 3 0 := ⟨zk_3, fun C T N h => by cases h; exact ⟨by decide, Or.inr ⟨Or.inr trivial, _, (x_n1 (List.mem_of_getElem? (i := 109) rfl) rfl)⟩⟩⟩
theorem zo_f_5_5 : z_fok 5 185 3 1 := ⟨zk_3, fun C T N h => by cases h; exact ⟨by decide, Or.inr ⟨Or.inr trivial, _, (x_n1 (List.mem_of_getElem? (i := 111) rfl) rfl)⟩⟩⟩
theorem zo_f_5_6 : z_fok 5 181 3 2 := ⟨zk_3, fun C T N h => by cases h; exact ⟨by decide, Or.inr ⟨Or.inr trivial, _, (x_n1 (List.mem_of_getElem? (i := 113) rfl) rfl)⟩⟩⟩
theorem zo_f_5_7 : z_fok 5 143 4 0 := ⟨zk_4, fun C T N h => by cases h; exact ⟨by decide, Or.inr ⟨Or.inr trivial, _, (x_n1 (List.mem_of_getElem? (i := 128) rfl) rfl)⟩⟩⟩
theorem zo_f_5_8 : z_fok 5 136 4 1 := ⟨zk_4, fun C T N h => by cases h; exact ⟨by decide, Or.inr ⟨Or.inr trivial, _, (x_n1 (List.mem_of_getElem? (i := 130) rfl) rfl)⟩⟩⟩
theorem zo_f_5_9 : z_fok 5 139 4 2 := ⟨zk_4, fun C T N h => by cases h; exact ⟨by decide, Or.inr ⟨Or.inr trivial, _, (x_n1 (List.mem_of_getElem? (i := 132) rfl) rfl)⟩⟩⟩
theorem zo_f_5_10 : z_fok 5 12 5 0 := ⟨zk_5, fun C T N h => by cases h; exact ⟨by decide, Or.inl (x_t1 (List.mem_of_getElem? (i := 142) rfl) rfl)⟩⟩
theorem zo_f_5_11 : z_fok 5 21 5 1 := ⟨zk_5, fun C T N h => by cases h; exact ⟨by decide, Or.inl (x_t1 (List.mem_of_getElem? (i := 143) rfl) rfl)⟩⟩
theorem zo_f_5_12 : z_fok 5 25 5 2 := ⟨zk_5, fun C T N h => by cases h; exact ⟨by decide, Or.inl (x_t1 (List.mem_of_getElem? (i := 144) rfl) rfl)⟩⟩
theorem zo_f_5_13 : z_fok 5 40 5 3 := ⟨zk_5, fun C T N h => by cases h; exact ⟨by decide, Or.inl (x_t1 (List.mem_of_getElem? (i := 145) rfl) rfl)⟩⟩
theorem zo_f_5_14 : z_fok 5 32 5 4 := ⟨zk_5, fun C T N h => by cases h; exact ⟨by decide, Or.inl (x_t1 (List.mem_of_getElem? (i := 146) rfl) rfl)⟩⟩
theorem zo_f_5_15 : z_fok 5 44 5 5 := ⟨zk_5, fun C T N h => by cases h; exact ⟨by decide, Or.inl (x_t1 (List.mem_of_getElem? (i := 147) rfl) rfl)⟩⟩
theorem zo_f_5_16 : z_fok 5 36 5 6 := ⟨zk_5, fun C T N h => by cases h; exact ⟨by decide, Or.inl (x_t1 (List.mem_of_getElem? (i := 148) rfl) rfl)⟩⟩
theorem zo_f_5_17 : z_fok 5 147 5 7 := ⟨zk_5, fun C T N h => by cases h; exact ⟨by decide, Or.inl (x_t1 (List.mem_of_getElem? (i := 150) rfl) rfl)⟩⟩
theorem zo_f_5_18 : z_fok 5 153 5 8 := ⟨zk_5, fun C T N h => by cases h; exact ⟨by decide, Or.inl (x_t1 (List.mem_of_getElem? (i := 151) rfl) rfl)⟩⟩
theorem zo_f_5_19 : z_fok 5 161 5 9 := ⟨zk_5, fun C T N h => by cases h; exact ⟨by decide, Or.inl (x_t1 (List.mem_of_getElem? (i := 152) rfl) rfl)⟩⟩
theorem zo_f_6_0 : z_fok 6 106 1 1 := ⟨zk_1, fun C T N h => by cases h; exact ⟨by decide, Or.inr ⟨Or.inr trivial, _, (x_n1 (List.mem_of_getElem? (i := 45) rfl) rfl)⟩⟩⟩
theorem zo_f_6_1 : z_fok 6 44 2 0 := ⟨zk_2, fun C T N h => by cases h; exact ⟨by decide, Or.inr ⟨Or.inr trivial, _, (x_n1 (List.mem_of_getElem? (i := 55) rfl) rfl)⟩⟩⟩
theorem zo_f_6_2 : z_fok 6 123 2 1 := ⟨zk_2, fun C T N h => by cases h; exact ⟨by decide, Or.inr ⟨Or.inr trivial, _, (x_n1 (List.mem_of_getElem? (i := 59) rfl) rfl)⟩⟩⟩
theorem zo_f_6_3 : z_fok 6 173 2 2 := ⟨zk_2, fun C T N h => by cases h; exact ⟨by decide, Or.inr ⟨Or.inr trivial, _, (x_n1 (List.mem_of_getElem? (i := 62) rfl) rfl)⟩⟩⟩
theorem zo_f_6_4 : z_fok 6 167 2 3 := ⟨zk_2, fun C T N h => by cases h; exact ⟨by decide, Or.inr ⟨Or.inr trivial, _, (x_n1 (List.mem_of_getElem? (i := 66) rfl) rfl)⟩⟩⟩
theorem zo_f_6_5 : z_fok 6 100 2 4 := ⟨zk_2, fun C T N h => by cases h; exact ⟨by decide, Or.inr ⟨Or.inr trivial, _, (x_n1 (List.mem_of_getElem? (i := 68) rfl) rfl)⟩⟩⟩
theorem zo_f_6_6 : z_fok 6 103 2 5 := ⟨zk_2, fun C T N h => by cases h; exact ⟨by decide, Or.inr ⟨Or.inr trivial, _, (x_n1 (List.mem_of_getElem? (i := 72) rfl) rfl)⟩⟩⟩
theorem zo_f_6_7 : z_fok 6 170 2 6 := ⟨zk_2, fun C T N h => by cases h; exact ⟨by decide, Or.inr ⟨Or.inr trivial, _, (x_n1 (List.mem_of_getElem? (i := 75) rfl) rfl)⟩⟩⟩
theorem zo_f_6_8 : z_fok 6 12 6 0 := ⟨zk_6, fun C T N h => by cases h; exact ⟨by decide, Or.inl (x_t1 (List.mem_of_getElem? (i := 184) rfl) rfl)⟩⟩
theorem zo_f_6_9 : z_fok 6 23 6 1 := ⟨zk_6, fun C T N h => by cases h; exact ⟨by decide, Or.inl (x_t1 (List.mem_of_getElem? (i := 185) rfl) rfl)⟩⟩
theorem zo_f_6_10 : z_fok 6 27 6 2 := ⟨zk_6, fun C T N h => by cases h; exact ⟨by decide, Or.inl (x_t1 (List.mem_of_getElem? (i := 186) rfl) rfl)⟩⟩
theorem zo_f_6_11 : z_fok 6 31 6 3 := ⟨zk_6, fun C T N h => by cases h; exact ⟨by decide, Or.inl (x_t1 (List.mem_of_getElem? (i := 187) rfl) rfl)⟩⟩
theorem zo_f_6_12 : z_fok 6 34 6 4 := ⟨zk_6, fun C T N h => by cases h; exact ⟨by decide, Or.inl (x_t1 (List.mem_of_getElem? (i := 188) rfl) rfl)⟩⟩
theorem zo_f_7_0 : z_fok 7 94 7 0 := ⟨zk_7, fun C T N h => by cases h; exact ⟨by decide, Or.inl (x_t4 (List.mem_of_getElem? (i := 103) rfl) rfl)⟩⟩
theorem zo_f_7_1 : z_fok 7 9 7 1 := ⟨zk_7, fun C T N h => by cases h; exact ⟨by decide, Or.inl (x_t4 (List.mem_of_getElem? (i := 104) rfl) rfl)⟩⟩
theorem zo_f_7_2 : z_fok 7 13 7 2 := ⟨zk_7, fun C T N h => by cases h; exact ⟨by decide, Or.inl (x_t4 (List.mem_of_getElem? (i := 105) rfl) rfl)⟩⟩
theorem zo_f_7_3 : z_fok 7 97 7 3 := ⟨zk_7, fun C T N h => by cases h; exact ⟨by decide, Or.inl (x_t4 (List.mem_of_getElem? (i := 106) rfl) rfl)⟩⟩
theorem zo_f_7_4 : z_fok 7 239 7 4 := ⟨zk_7, fun C T N h => by cases h; exact ⟨by decide, Or.inl (x_t4 (List.mem_of_getElem? (i := 107) rfl) rfl)⟩⟩
theorem zo_f_7_5 : z_fok 7 17 7 5 := ⟨zk_7, fun C T N h => by cases h; exact ⟨by decide, Or.inl (x_t4 (List.mem_of_getElem? (i := 108) rfl) rfl)⟩⟩
theorem zo_f_7_6 : z_fok 7 20 7 6 := ⟨zk_7, fun C T N h => by cases h; exact ⟨by decide, Or.inl (x_t4 (List.mem_of_getElem? (i := 109) rfl) rfl)⟩⟩
theorem zo_f_7_7 : z_fok 7 23 7 7 := ⟨zk_7, fun C T N h => by cases h; exact ⟨by decide, Or.inl (x_t4 (List.mem_of_getElem? (i := 110) rfl) rfl)⟩⟩
theorem zo_f_7_8 : z_fok 7 27 7 8 := ⟨zk_7, fun C T N h => by cases h; exact ⟨by decide, Or.inl (x_t4 (List.mem_of_getElem? (i := 111) rfl) rfl)⟩⟩
theorem zo_f_7_9 : z_fok 7 30 7 9 := ⟨zk_7, fun C T N h => by cases h; exact ⟨by decide, Or.inl (x_t4 (List.mem_of_getElem? (i := 112) rfl) rfl)⟩⟩
theorem zo_f_7_10 : z_fok 7 33 7 10 := ⟨zk_7, fun C T N h => by cases h; exact ⟨by decide, Or.inl (x_t4 (List.mem_of_getElem? (i := 113) rfl) rfl)⟩⟩
theorem zo_f_7_11 : z_fok 7 36 7 11 := ⟨zk_7, fun C T N h => by cases h; exact ⟨by decide, Or.inl (x_t4 (List.mem_of_getElem? (i := 114) rfl) rfl)⟩⟩
theorem zo_f_7_12 : z_fok 7 39 7 12 := ⟨zk_7, fun C T N h => by cases h; exact ⟨by decide, Or.inl (x_t4 (List.mem_of_getElem? (i := 115) rfl) rfl)⟩⟩
theorem zo_f_7_13 : z_fok 7 42 7 13 := ⟨zk_7, fun C T N h => by cases h; exact ⟨by decide, Or.inl (x_t4 (List.mem_of_getElem? (i := 116) rfl) rfl)⟩⟩
theorem zo_f_7_14 : z_fok 7 45 7 14 := ⟨zk_7, fun C T N h => by cases h; exact ⟨by decide, Or.inl (x_t4 (List.mem_of_getElem? (i := 117) rfl) rfl)⟩⟩
theorem zo_f_7_15 : z_fok 7 103 7 15 := ⟨zk_7, fun C T N h => by cases h; exact ⟨by decide, Or.inl (x_t4 (List.mem_of_getElem? (i := 118) rfl) rfl)⟩⟩
theorem zo_f_7_16 : z_fok 7 100 7 16 := ⟨zk_7, fun C T N h => by cases h; exact ⟨by decide, Or.inl (x_t4 (List.mem_of_getElem? (i := 119) rfl) rfl)⟩⟩
theorem zo_f_7_17 : z_fok 7 121 7 17 := ⟨zk_7, fun C T N h => by cases h; exact ⟨by decide, Or.inl (x_t4 (List.mem_of_getElem? (i := 120) rfl) rfl)⟩⟩
theorem zo_f_7_18 : z_fok 7 150 7 18 := ⟨zk_7, fun C T N h => by cases h; exact ⟨by decide, Or.inl (x_t4 (List.mem_of_getElem? (i := 121) rfl) rfl)⟩⟩
theorem zo_f_7_19 : z_fok 7 162 7 19 := ⟨zk_7, fun C T N h => by cases h; exact ⟨by decide, Or.inl (x_t4 (List.mem_of_getElem? (i := 122) rfl) rfl)⟩⟩
theorem zo_f_7_20 : z_fok 7 48 7 20 := ⟨zk_7, fun C T N h => by cases h; exact ⟨by decide, Or.inl (x_t4 (List.mem_of_getElem? (i := 123) rfl) rfl)⟩⟩
theorem zo_f_7_21 : z_fok 7 51 7 21 := ⟨zk_7, fun C T N h => by cases h; exact ⟨by decide, Or.inl (x_t4 (List.mem_of_getElem? (i := 124) rfl) rfl)⟩⟩
theorem zo_f_7_22 : z_fok 7 54 7 22 := ⟨zk_7, fun C T N h => by cases h; exact ⟨by decide, Or.inl (x_t4 (List.mem_of_getElem? (i := 125) rfl) rfl)⟩⟩
theorem zo_f_7_23 : z_fok 7 57 7 23 := ⟨zk_7, fun C T N h => by cases h; exact ⟨by decide, Or.inl (x_t4 (List.mem_of_getElem? (i := 126) rfl) rfl)⟩⟩
theorem zo_f_7_24 : z_fok 7 147 7 24 := ⟨zk_7, fun C T N h => by cases h; exact ⟨by decide, Or.inl (x_t4 (List.mem_of_getElem? (i := 127) rfl) rfl)⟩⟩
theorem zo_f_7_25 : z_fok 7 144 7 25 := ⟨zk_7, fun C T N h => by cases h; exact ⟨by decide, Or.inl (x_t4 (List.mem_of_getElem? (i := 128) rfl) rfl)⟩⟩
theorem zo_f_7_26 : z_fok 7 159 7 26 := ⟨zk_7, fun C T N h => by cases h; exact ⟨by decide, Or.inl (x_t4 (List.mem_of_getElem? (i := 129) rfl) rfl)⟩⟩
theorem zo_f_7_27 : z_fok 7 60 7 27 := ⟨zk_7, fun C T N h => by cases h; exact ⟨by decide, Or.inl (x_t4 (List.mem_of_getElem? (i := 130) rfl) rfl)⟩⟩
theorem zo_f_7_28 : z_fok 7 63 7 28 := ⟨zk_7, fun C T N h => by cases h; exact ⟨by decide, Or.inl (x_t4 (List.mem_of_getElem? (i := 131) rfl) rfl)⟩⟩
theorem zo_f_7_29 : z_fok 7 66 7 29 := ⟨zk_7, fun C T N h => by cases h; exact ⟨by decide, Or.inl (x_t4 (List.mem_of_getElem? (i := 132) rfl) rfl)⟩⟩
theorem zo_f_7_30 : z_fok 7 256 7 30 := ⟨zk_7, fun C T N h => by cases h; exact ⟨by decide, Or.inl (x_t4 (List.mem_of_getElem? (i := 133) rfl) rfl)⟩⟩
theorem zo_f_7_31 : z_fok 7 259 7 31 := ⟨zk_7, fun C T N h => by cases h; exact ⟨by decide, Or.inl (x_t4 (List.mem_of_getElem? (i := 134) rfl) rfl)⟩⟩
theorem zo_f_7_32 : z_fok 7 265 7 32 := ⟨zk_7, fun C T N h => by cases h; exact ⟨by decide, Or.inl (x_t4 (List.mem_of_getElem? (i := 135) rfl) rfl)⟩⟩
theorem zo_f_7_33 : z_fok 7 325 7 33 := ⟨zk_7, fun C T N h => by cases h; exact ⟨by decide, Or.inl (x_t4 (List.mem_of_getElem? (i := 136) rfl) rfl)⟩⟩
theorem zo_f_7_34 : z_fok 7 69 7 34 := ⟨zk_7, fun C T N h => by cases h; exact ⟨by decide, Or.inl (x_t4 (List.mem_of_getElem? (i := 137) rfl) rfl)⟩⟩
theorem zo_f_7_35 : z_fok 7 72 7 35 := ⟨zk_7, fun C T N h => by cases h; exact ⟨by decide, Or.inl (x_t4 (List.mem_of_getElem? (i := 138) rfl) rfl)⟩⟩
theorem zo_f_7_36 : z_fok 7 75 7 36 := ⟨zk_7, fun C T N h => by cases h; exact ⟨by decide, Or.inl (x_t4 (List.mem_of_getElem? (i := 139) rfl) rfl)⟩⟩
theorem zo_f_7_37 : z_fok 7 79 7 37 := ⟨zk_7, fun C T N h => by cases h; exact ⟨by decide, Or.inl (x_t4 (List.mem_of_getElem? (i := 140) rfl) rfl)⟩⟩
theorem zo_f_7_38 : z_fok 7 82 7 38 := ⟨zk_7, fun C T N h => by cases h; exact ⟨by decide, Or.inl (x_t4 (List.mem_of_getElem? (i := 141) rfl) rfl)⟩⟩
theorem zo_f_7_39 : z_fok 7 85 7 39 := ⟨zk_7, fun C T N h => by cases h; exact ⟨by decide, Or.inl (x_t4 (List.mem_of_getElem? (i := 142) rfl) rfl)⟩⟩
theorem zo_f_7_40 : z_fok 7 88 7 40 := ⟨zk_7, fun C T N h => by cases h; exact ⟨by decide, Or.inl (x_t4 (List.mem_of_getElem? (i := 143) rfl) rfl)⟩⟩
theorem zo_f_7_41 : z_fok 7 268 7 41 := ⟨zk_7, fun C T N h => by cases h; exact ⟨by decide, Or.inl (x_t4 (List.mem_of_getElem? (i := 144) rfl) rfl)⟩⟩
theorem zo_f_7_42 : z_fok 7 91 7 42 := ⟨zk_7, fun C T N h => by cases h; exact ⟨by decide, Or.inl (x_t4 (List.mem_of_getElem? (i := 145) rfl) rfl)⟩⟩
theorem zo_f_r0 : ∀ q ∈ (zl_f.getD 0 []), (fun o (q : Nat × (Nat × Nat)) => z_fok o q.1 q.2.1 q.2.2) 0 q := List.forall_mem_cons.mpr ⟨zo_f_0_0, List.forall_mem_cons.mpr ⟨zo_f_0_1, List.forall_mem_cons.mpr ⟨zo_f_0_2, List.forall_mem_cons.mpr ⟨zo_f_0_3, List.forall_mem_cons.mpr ⟨zo_f_0_4, List.forall_mem_cons.mpr ⟨zo_f_0_5, List.forall_mem_cons.mpr ⟨zo_f_0_6, List.forall_mem_cons.mpr ⟨zo_f_0_7, List.forall_mem_cons.mpr ⟨zo_f_0_8, List.forall_mem_cons.mpr ⟨zo_f_0_9, List.forall_mem_cons.mpr ⟨zo_f_0_10, List.forall_mem_cons.mpr ⟨zo_f_0_11, List.forall_mem_cons.mpr ⟨zo_f_0_12, fun _ h => absurd h List.not_mem_nil⟩⟩⟩⟩⟩⟩⟩⟩⟩⟩⟩⟩⟩
theorem zo_f_r1 : ∀ q ∈ (zl_f.getD 1 []), (fun o (q : Nat × (Nat × Nat)) => z_fok o q.1 q.2.1 q.2.2) 1 q := List.forall_mem_cons.mpr ⟨zo_f_1_0, List.forall_mem_cons.mpr ⟨zo_f_1_1, fun _ h => absurd h List.not_mem_nil⟩⟩
theorem zo_f_r2 : ∀ q ∈ (zl_f.getD 2 []), (fun o (q : Nat × (Nat × Nat)) => z_fok o q.1 q.2.1 q.2.2) 2 q := List.forall_mem_cons.mpr ⟨zo_f_2_0, List.forall_mem_cons.mpr ⟨zo_f_2_1, List.forall_mem_cons.mpr ⟨zo_f_2_2, List.forall_mem_cons.mpr ⟨zo_f_2_3, List.forall_mem_cons.mpr ⟨zo_f_2_4, List.forall_mem_cons.mpr ⟨zo_f_2_5, List.forall_mem_cons.mpr ⟨zo_f_2_6, List.forall_mem_cons.mpr ⟨zo_f_2_7, fun _ h => absurd h List.not_mem_nil⟩⟩⟩⟩⟩⟩⟩⟩
theorem zo_f_r3 : ∀ q ∈ (zl_f.getD 3 []), (fun o (q : Nat × (Nat × Nat)) => z_fok o q.1 q.2.1 q.2.2) 3 q := List.forall_mem_cons.mpr ⟨zo_f_3_0, List.forall_mem_cons.mpr ⟨zo_f_3_1, List.forall_mem_cons.mpr ⟨zo_f_3_2, fun _ h => absurd h List.not_mem_nil⟩⟩⟩
theorem zo_f_r4 : ∀ q ∈ (zl_f.getD 4 []), (fun o (q : Nat × (Nat × Nat)) => z_fok o q.1 q.2.1 q.2.2) 4 q := List.forall_mem_cons.mpr ⟨zo_f_4_0, List.forall_mem_cons.mpr ⟨zo_f_4_1, List.forall_mem_cons.mpr ⟨zo_f_4_2, fun _ h => absurd h List.not_mem_nil⟩⟩⟩
theorem zo_f_r5 : ∀ q ∈ (zl_f.getD 5 []), (fun o (q : Nat × (Nat × Nat)) => z_fok o q.1 q.2.1 q.2.2) 5 q := List.forall_mem_cons.mpr ⟨zo_f_5_0, List.forall_mem_cons.mpr ⟨zo_f_5_1, List.forall_mem_cons.mpr ⟨zo_f_5_2, List.forall_mem_cons.mpr ⟨zo_f_5_3, List.forall_mem_cons.mpr ⟨zo_f_5_4, List.forall_mem_cons.mpr ⟨zo_f_5_5, List.forall_mem_cons.mpr ⟨zo_f_5_6, List.forall_mem_cons.mpr ⟨zo_f_5_7, List.forall_mem_cons.mpr ⟨zo_f_5_8, List.forall_mem_cons.mpr ⟨zo_f_5_9, List.forall_mem_cons.mpr ⟨zo_f_5_10, List.forall_mem_cons.mpr ⟨zo_f_5_11, List.forall_mem_cons.mpr ⟨zo_f_5_12, List.forall_mem_cons.mpr ⟨zo_f_5_13, List.forall_mem_cons.mpr ⟨zo_f_5_14, List.forall_mem_cons.mpr ⟨zo_f_5_15, List.forall_mem_cons.mpr ⟨zo_f_5_16, List.forall_mem_cons.mpr ⟨zo_f_5_17, List.forall_mem_cons.mpr ⟨zo_f_5_18, List.forall_mem_cons.mpr ⟨zo_f_5_19, fun _ h => absurd h List.not_mem_nil⟩⟩⟩⟩⟩⟩⟩⟩⟩⟩⟩⟩⟩⟩⟩⟩⟩⟩⟩⟩
theorem zo_f_r6 : ∀ q ∈ (zl_f.getD 6 []), (fun o (q : Nat × (Nat × Nat)) => z_fok o q.1 q.2.1 q.2.2) 6 q := List.forall_mem_cons.mpr ⟨zo_f_6_0, List.forall_mem_cons.mpr ⟨zo_f_6_1, List.forall_mem_cons.mpr ⟨zo_f_6_2, List.forall_mem_cons.mpr ⟨zo_f_6_3, List.forall_mem_cons.mpr ⟨zo_f_6_4, List.forall_mem_cons.mpr ⟨zo_f_6_5, List.forall_mem_cons.mpr ⟨zo_f_6_6, List.forall_mem_cons.mpr ⟨zo_f_6_7, List.forall_mem_cons.mpr ⟨zo_f_6_8, List.forall_mem_cons.mpr ⟨zo_f_6_9, List.forall_mem_cons.mpr ⟨zo_f_6_10, List.forall_mem_cons.mpr ⟨zo_f_6_11, List.forall_mem_cons.mpr ⟨zo_f_6_12, fun _ h => absurd h List.not_mem_nil⟩⟩⟩⟩⟩⟩⟩⟩⟩⟩⟩⟩⟩
theorem zo_f_r7 : ∀ q ∈ (zl_f.getD 7 []), (fun o (q : Nat × (Nat × Nat)) => z_fok o q.1 q.2.1 q.2.2) 7 q := List.forall_mem_cons.mpr ⟨zo_f_7_0, List.forall_mem_cons.mpr ⟨zo_f_7_1, List.forall_mem_cons.mpr ⟨zo_f_7_2, List.forall_mem_cons.mpr ⟨zo_f_7_3, List.forall_mem_cons.mpr ⟨zo_f_7_4, List.forall_mem_cons.mpr ⟨zo_f_7_5, List.forall_mem_cons.mpr ⟨zo_f_7_6, List.forall_mem_cons.mpr ⟨zo_f_7_7, List.forall_mem_cons.mpr ⟨zo_f_7_8, List.forall_mem_cons.mpr ⟨zo_f_7_9, List.forall_mem_cons.mpr ⟨zo_f_7_10, List.forall_mem_cons.mpr ⟨zo_f_7_11, List.forall_mem_cons.mpr ⟨zo_f_7_12, List.forall_mem_cons.mpr ⟨zo_f_7_13, List.forall_mem_cons.mpr ⟨zo_f_7_14, List.forall_mem_cons.mpr ⟨zo_f_7_15, List.forall_mem_cons.mpr ⟨zo_f_7_16, List.forall_mem_cons.mpr ⟨zo_f_7_17, List.forall_mem_cons.mpr ⟨zo_f_7_18, List.forall_mem_cons.mpr ⟨zo_f_7_19, List.forall_mem_cons.mpr ⟨zo_f_7_20, List.forall_mem_cons.mpr ⟨zo_f_7_21, List.forall_mem_cons.mpr ⟨zo_f_7_22, List.forall_mem_cons.mpr ⟨zo_f_7_23, List.forall_mem_cons.mpr ⟨zo_f_7_24, List.forall_mem_cons.mpr ⟨zo_f_7_25, List.forall_mem_cons.mpr ⟨zo_f_7_26, List.forall_mem_cons.mpr ⟨zo_f_7_27, List.forall_mem_cons.mpr ⟨zo_f_7_28, List.forall_mem_cons.mpr ⟨zo_f_7_29, List.forall_mem_cons.mpr ⟨zo_f_7_30, List.forall_mem_cons.mpr ⟨zo_f_7_31, List.forall_mem_cons.mpr ⟨zo_f_7_32, List.forall_mem_cons.mpr ⟨zo_f_7_33, List.forall_mem_cons.mpr ⟨zo_f_7_34, List.forall_mem_cons.mpr ⟨zo_f_7_35, List.forall_mem_cons.mpr ⟨zo_f_7_36, List.forall_mem_cons.mpr ⟨zo_f_7_37, List.forall_mem_cons.mpr ⟨zo_f_7_38, List.forall_mem_cons.mpr ⟨zo_f_7_39, List.forall_mem_cons.mpr ⟨zo_f_7_40, List.forall_mem_cons.mpr ⟨zo_f_7_41, List.forall_mem_cons.mpr ⟨zo_f_7_42, fun _ h => absurd h List.not_mem_nil⟩⟩⟩⟩⟩⟩⟩⟩⟩⟩⟩⟩⟩⟩⟩⟩⟩⟩⟩⟩⟩⟩⟩⟩⟩⟩⟩⟩⟩⟩⟩⟩⟩⟩⟩⟩⟩⟩⟩⟩⟩⟩⟩
theorem zo_f_r8 : ∀ q ∈ (zl_f.getD 8 []), (fun o (q : Nat × (Nat × Nat)) => z_fok o q.1 q.2.1 q.2.2) 8 q := fun _ h => absurd h List.not_mem_nil
theorem zo_f_all : ∀ o r, zl_f[o]? = some r → ∀ q ∈ r, (fun o (q : Nat × (Nat × Nat)) => z_fok o q.1 q.2.1 q.2.2) o q := by
  intro o r hr
  match o, hr with
  | 0, hr => cases hr; exact zo_f_r0
  | 1, hr => cases hr; exact zo_f_r1
  | 2, hr => cases hr; exact zo_f_r2
  | 3, hr => cases hr; exact zo_f_r3
  | 4, hr => cases hr; exact zo_f_r4
  | 5, hr => cases hr; exact zo_f_r5
  | 6, hr => cases hr; exact zo_f_r6
  | 7, hr => cases hr; exact zo_f_r7
  | 8, hr => cases hr; exact zo_f_r8
  | n + 9, hr => cases hr
theorem ok_f : ∀ o i ci k, zt_f o i = some (ci, k) → z_fok o i ci k := fun o i ci k h => z_row_in h zo_f_all
theorem zo_n_0_0 : z_cok 2 ∧ ∀ (C : String) (T : u_T) (N : Nat), classes[2]? = some (C, T, N) → Cond.classLink (zt_cn 0) 9 C ∈ x_tbl := ⟨zk_2, fun C T N h => by cases h; exact (x_t1 (List.mem_of_getElem? (i := 28) rfl) rfl)⟩
theorem zo_n_0_1 : z_cok 5 ∧ ∀ (C : String) (T : u_T) (N : Nat), classes[5]? = some (C, T, N) → Cond.classLink (zt_cn 0) 16 C ∈ x_tbl := ⟨zk_5, fun C T N h => by cases h; exact (x_t1 (List.mem_of_getElem? (i := 96) rfl) rfl)⟩
theorem zo_n_0_2 : z_cok 6 ∧ ∀ (C : String) (T : u_T) (N : Nat), classes[6]? = some (C, T, N) → Cond.classLink (zt_cn 0) 23 C ∈ x_tbl := ⟨zk_6, fun C T N h => by cases h; exact (x_t1 (List.mem_of_getElem? (i := 174) rfl) rfl)⟩
theorem zo_n_0_3 : z_cok 1 ∧ ∀ (C : String) (T : u_T) (N : Nat), classes[1]? = some (C, T, N) → Cond.classLink (zt_cn 0) 30 C ∈ x_tbl := ⟨zk_1, fun C T N h => by cases h; exact (x_t1 (List.mem_of_getElem? (i := 200) rfl) rfl)⟩
theorem zo_n_2_0 : z_cok 1 ∧ ∀ (C : String) (T : u_T) (N : Nat), classes[1]? = some (C, T, N) → Cond.classLink (zt_cn 2) 31 C ∈ x_tbl := ⟨zk_1, fun C T N h => by cases h; exact (x_t1 (List.mem_of_getElem? (i := 35) rfl) rfl)⟩
theorem zo_n_5_0 : z_cok 3 ∧ ∀ (C : String) (T : u_T) (N : Nat), classes[3]? = some (C, T, N) → Cond.classLink (zt_cn 5) 9 C ∈ x_tbl := ⟨zk_3, fun C T N h => by cases h; exact (x_t1 (List.mem_of_getElem? (i := 102) rfl) rfl)⟩
theorem zo_n_5_1 : z_cok 4 ∧ ∀ (C : String) (T : u_T) (N : Nat), classes[4]? = some (C, T, N) → Cond.classLink (zt_cn 5) 18 C ∈ x_tbl := ⟨zk_4, fun C T N h => by cases h; exact (x_t1 (List.mem_of_getElem? (i := 121) rfl) rfl)⟩
theorem zo_n_5_2 : z_cok 2 ∧ ∀ (C : String) (T : u_T) (N : Nat), classes[2]? = some (C, T, N) → Cond.classLink (zt_cn 5) 29 C ∈ x_tbl := ⟨zk_2, fun C T N h => by cases h; exact (x_t1 (List.mem_of_getElem? (i := 140) rfl) rfl)⟩
theorem zo_n_6_0 : z_cok 3 ∧ ∀ (C : String) (T : u_T) (N : Nat), classes[3]? = some (C, T, N) → Cond.classLink (zt_cn 6) 9 C ∈ x_tbl := ⟨zk_3, fun C T N h => by cases h; exact (x_t1 (List.mem_of_getElem? (i := 180) rfl) rfl)⟩
theorem zo_n_6_1 : z_cok 1 ∧ ∀ (C : String) (T : u_T) (N : Nat), classes[1]? = some (C, T, N) → Cond.classLink (zt_cn 6) 18 C ∈ x_tbl := ⟨zk_1, fun C T N h => by cases h; exact (x_t1 (List.mem_of_getElem? (i := 182) rfl) rfl)⟩
theorem zo_n_8_0 : z_cok 0 ∧ ∀ (C : String) (T : u_T) (N : Nat), classes[0]? = some (C, T, N) → Cond.classLink (zt_cn 8) 8 C ∈ x_tbl := ⟨zk_0, fun C T N h => by cases h; exact (x_t1 (List.mem_of_getElem? (i := 20) rfl) rfl)⟩
theorem zo_n_8_1 : z_cok 7 ∧ ∀ (C : String) (T : u_T) (N : Nat), classes[7]? = some (C, T, N) → Cond.classLink (zt_cn 8) 46 C ∈ x_tbl := ⟨zk_7, fun C T N h => by cases h; exact (x_t4 (List.mem_of_getElem? (i := 97) rfl) rfl)⟩
theorem zo_n_r0 : ∀ q ∈ (zl_n.getD 0 []), (fun o (q : Nat × Nat) => z_cok q.2 ∧ ∀ (C : String) (T : u_T) (N : Nat), classes[q.2]? = some (C, T, N) → Cond.classLink (zt_cn o) q.1 C ∈ x_tbl) 0 q := List.forall_mem_cons.mpr ⟨zo_n_0_0, List.forall_mem_cons.mpr ⟨zo_n_0_1, List.forall_mem_cons.mpr ⟨zo_n_0_2, List.forall_mem_cons.mpr ⟨zo_n_0_3, fun _ h => absurd h List.not_mem_nil⟩⟩⟩⟩
theorem zo_n_r1 : ∀ q ∈ (zl_n.getD 1 []), (fun o (q : Nat × Nat) => z_cok q.2 ∧ ∀ (C : String) (T : u_T) (N : Nat), classes[q.2]? = some (C, T, N) → Cond.classLink (zt_cn o) q.1 C ∈ x_tbl) 1 q := fun _ h => absurd h List.not_mem_nil
theorem zo_n_r2 : ∀ q ∈ (zl_n.getD 2 []), (fun o (q : Nat × Nat) => z_cok q.2 ∧ ∀ (C : String) (T : u_T) (N : Nat), classes[q.2]? = some (C, T, N) → Cond.classLink (zt_cn o) q.1 C ∈ x_tbl) 2 q := List.forall_mem_cons.mpr ⟨zo_n_2_0, fun _ h => absurd h List.not_mem_nil⟩
theorem zo_n_r3 : ∀ q ∈ (zl_n.getD 3 []), (fun o (q : Nat × Nat) => z_cok q.2 ∧ ∀ (C : String) (T : u_T) (N : Nat), classes[q.2]? = some (C, T, N) → Cond.classLink (zt_cn o) q.1 C ∈ x_tbl) 3 q := fun _ h => absurd h List.not_mem_nil
theorem zo_n_r4 : ∀ q ∈ (zl_n.getD 4 []), (fun o (q : Nat × Nat) => z_cok q.2 ∧ ∀ (C : String) (T : u_T) (N : Nat), classes[q.2]? = some (C, T, N) → Cond.classLink (zt_cn o) q.1 C ∈ x_tbl) 4 q := fun _ h => absurd h List.not_mem_nil
theorem zo_n_r5 : ∀ q ∈ (zl_n.getD 5 []), (fun o (q : Nat × Nat) => z_cok q.2 ∧ ∀ (C : String) (T : u_T) (N : Nat), classes[q.2]? = some (C, T, N) → Cond.classLink (zt_cn o) q.1 C ∈ x_tbl) 5 q := List.forall_mem_cons.mpr ⟨zo_n_5_0, List.forall_mem_cons.mpr ⟨zo_n_5_1, List.forall_mem_cons.mpr ⟨zo_n_5_2, fun _ h => absurd h List.not_mem_nil⟩⟩⟩
theorem zo_n_r6 : ∀ q ∈ (zl_n.getD 6 []), (fun o (q : Nat × Nat) => z_cok q.2 ∧ ∀ (C : String) (T : u_T) (N : Nat), classes[q.2]? = some (C, T, N) → Cond.classLink (zt_cn o) q.1 C ∈ x_tbl) 6 q := List.forall_mem_cons.mpr ⟨zo_n_6_0, List.forall_mem_cons.mpr ⟨zo_n_6_1, fun _ h => absurd h List.not_mem_nil⟩⟩
theorem zo_n_r7 : ∀ q ∈ (zl_n.getD 7 []), (fun o (q : Nat × Nat) => z_cok q.2 ∧ ∀ (C : String) (T : u_T) (N : Nat), classes[q.2]? = some (C, T, N) → Cond.classLink (zt_cn o) q.1 C ∈ x_tbl) 7 q := fun _ h => absurd h List.not_mem_nil
theorem zo_n_r8 : ∀ q ∈ (zl_n.getD 8 []), (fun o (q : Nat × Nat) => z_cok q.2 ∧ ∀ (C : String) (T : u_T) (N : Nat), classes[q.2]? = some (C, T, N) → Cond.classLink (zt_cn o) q.1 C ∈ x_tbl) 8 q := List.forall_mem_cons.mpr ⟨zo_n_8_0, List.forall_mem_cons.mpr ⟨zo_n_8_1, fun _ h => absurd h List.not_mem_nil⟩⟩
theorem zo_n_all : ∀ o r, zl_n[o]? = some r → ∀ q ∈ r, (fun o (q : Nat × Nat) => z_cok q.2 ∧ ∀ (C : String) (T : u_T) (N : Nat), classes[q.2]? = some (C, T, N) → Cond.classLink (zt_cn o) q.1 C ∈ x_tbl) o q := by
  intro o r hr
  match o, hr with
  | 0, hr => cases hr; exact zo_n_r0
  | 1, hr => cases hr; exact zo_n_r1
  | 2, hr => cases hr; exact zo_n_r2
  | 3, hr => cases hr; exact zo_n_r3
  | 4, hr => cases hr; exact zo_n_r4
  | 5, hr => cases hr; exact zo_n_r5
  | 6, hr => cases hr; exact zo_n_r6
  | 7, hr => cases hr; exact zo_n_r7
  | 8, hr => cases hr; exact zo_n_r8
  | n + 9, hr => cases hr
theorem ok_n : ∀ o i ci, zt_n o i = some ci → z_cok ci ∧ ∀ (C : String) (T : u_T) (N : Nat), classes[ci]? = some (C, T, N) → Cond.classLink (zt_cn o) i C ∈ x_tbl := fun o i ci h => z_row_in h zo_n_all
theorem zo_a_0_0 : Cond.classLink (zt_cn 0) 9 zt_treeN ∈ x_tbl := (x_t1 (List.mem_of_getElem? (i := 28) rfl) rfl)
theorem zo_a_r0 : ∀ q ∈ (zl_a.getD 0 []), (fun o (q : Nat × Bool) => Cond.classLink (zt_cn o) q.1 zt_treeN ∈ x_tbl) 0 q := List.forall_mem_cons.mpr ⟨zo_a_0_0, fun _ h => absurd h List.not_mem_nil⟩
theorem zo_a_r1 : ∀ q ∈ (zl_a.getD 1 []), (fun o (q : Nat × Bool) => Cond.classLink (zt_cn o) q.1 zt_treeN ∈ x_tbl) 1 q := fun _ h => absurd h List.not_mem_nil
theorem zo_a_r2 : ∀ q ∈ (zl_a.getD 2 []), (fun o (q : Nat × Bool) => Cond.classLink (zt_cn o) q.1 zt_treeN ∈ x_tbl) 2 q := fun _ h => absurd h List.not_mem_nil
theorem zo_a_r3 : ∀ q ∈ (zl_a.getD 3 []), (fun o (q : Nat × Bool) => Cond.classLink (zt_cn o) q.1 zt_treeN ∈ x_tbl) 3 q := fun _ h => absurd h List.not_mem_nil
theorem zo_a_r4 : ∀ q ∈ (zl_a.getD 4 []), (fun o (q : Nat × Bool) => Cond.classLink (zt_cn o) q.1 zt_treeN ∈ x_tbl) 4 q := fun _ h => absurd h List.not_mem_nil
theorem zo_a_r5 : ∀ q ∈ (zl_a.getD 5 []), (fun o (q : Nat × Bool) => Cond.classLink (zt_cn o) q.1 zt_treeN ∈ x_tbl) 5 q := fun _ h => absurd h List.not_mem_nil
theorem zo_a_r6 : ∀ q ∈ (zl_a.getD 6 []), (fun o (q : Nat × Bool) => Cond.classLink (zt_cn o) q.1 zt_treeN ∈ x_tbl) 6 q := fun _ h => absurd h List.not_mem_nil
theorem zo_a_r7 : ∀ q ∈ (zl_a.getD 7 []), (fun o (q : Nat × Bool) => Cond.classLink (zt_cn o) q.1 zt_treeN ∈ x_tbl) 7 q := fun _ h => absurd h List.not_mem_nil
theorem zo_a_r8 : ∀ q ∈ (zl_a.getD 8 []), (fun o (q : Nat × Bool) => Cond.classLink (zt_cn o) q.1 zt_treeN ∈ x_tbl) 8 q := fun _ h => absurd h List.not_mem_nil
theorem zo_a_all : ∀ o r, zl_a[o]? = some r → ∀ q ∈ r, (fun o (q : Nat × Bool) => Cond.classLink (zt_cn o) q.1 zt_treeN ∈ x_tbl) o q := by
  intro o r hr
  match o, hr with
  | 0, hr => cases hr; exact zo_a_r0
  | 1, hr => cases hr; exact zo_a_r1
  | 2, hr => cases hr; exact zo_a_r2
  | 3, hr => cases hr; exact zo_a_r3
  | 4, hr => cases hr; exact zo_a_r4
  | 5, hr => cases hr; exact zo_a_r5
  | 6, hr => cases hr; exact zo_a_r6
  | 7, hr => cases hr; exact zo_a_r7
  | 8, hr => cases hr; exact zo_a_r8
  | n + 9, hr => cases hr
theorem ok_a : ∀ o i, zt_a o i = true → Cond.classLink (zt_cn o) i zt_treeN ∈ x_tbl := fun o i h => by
  obtain ⟨v, hv⟩ := Option.isSome_iff_exists.mp h
  exact z_row_in (P := fun o (q : Nat × Bool) => Cond.classLink (zt_cn o) q.1 zt_treeN ∈ x_tbl) hv zo_a_all
theorem zo_o_0_0 : Cond.methodLink (zt_cn 0) 3 objectInit ∈ x_tbl := (x_t1 (List.mem_of_getElem? (i := 25) rfl) rfl)
theorem zo_o_1_0 : Cond.methodLink (zt_cn 1) 3 objectInit ∈ x_tbl := (x_t1 (List.mem_of_getElem? (i := 40) rfl) rfl)
theorem zo_o_2_0 : Cond.methodLink (zt_cn 2) 3 objectInit ∈ x_tbl := (x_t1 (List.mem_of_getElem? (i := 34) rfl) rfl)
theorem zo_o_3_0 : Cond.methodLink (zt_cn 3) 3 objectInit ∈ x_tbl := (x_t1 (List.mem_of_getElem? (i := 107) rfl) rfl)
theorem zo_o_4_0 : Cond.methodLink (zt_cn 4) 3 objectInit ∈ x_tbl := (x_t1 (List.mem_of_getElem? (i := 126) rfl) rfl)
theorem zo_o_5_0 : Cond.methodLink (zt_cn 5) 3 objectInit ∈ x_tbl := (x_t1 (List.mem_of_getElem? (i := 101) rfl) rfl)
theorem zo_o_6_0 : Cond.methodLink (zt_cn 6) 3 objectInit ∈ x_tbl := (x_t1 (List.mem_of_getElem? (i := 179) rfl) rfl)
theorem zo_o_7_0 : Cond.methodLink (zt_cn 7) 1 objectInit ∈ x_tbl := (x_t4 (List.mem_of_getElem? (i := 102) rfl) rfl)
theorem zo_o_r0 : ∀ q ∈ (zl_o.getD 0 []), (fun o (q : Nat × Bool) => Cond.methodLink (zt_cn o) q.1 objectInit ∈ x_tbl) 0 q := List.forall_mem_cons.mpr ⟨zo_o_0_0, fun _ h => absurd h List.not_mem_nil⟩
theorem zo_o_r1 : ∀ q ∈ (zl_o.getD 1 []), (fun o (q : Nat × Bool) => Cond.methodLink (zt_cn o) q.1 objectInit ∈ x_tbl) 1 q := List.forall_mem_cons.mpr ⟨zo_o_1_0, fun _ h => absurd h List.not_mem_nil⟩
theorem zo_o_r2 : ∀ q ∈ (zl_o.getD 2 []), (fun o (q : Nat × Bool) => Cond.methodLink (zt_cn o) q.1 objectInit ∈ x_tbl) 2 q := List.forall_mem_cons.mpr ⟨zo_o_2_0, fun _ h => absurd h List.not_mem_nil⟩
theorem zo_o_r3 : ∀ q ∈ (zl_o.getD 3 []), (fun o (q : Nat × Bool) => Cond.methodLink (zt_cn o) q.1 objectInit ∈ x_tbl) 3 q := List.forall_mem_cons.mpr ⟨zo_o_3_0, fun _ h => absurd h List.not_mem_nil⟩
theorem zo_o_r4 : ∀ q ∈ (zl_o.getD 4 []), (fun o (q : Nat × Bool) => Cond.methodLink (zt_cn o) q.1 objectInit ∈ x_tbl) 4 q := List.forall_mem_cons.mpr ⟨zo_o_4_0, fun _ h => absurd h List.not_mem_nil⟩
theorem zo_o_r5 : ∀ q ∈ (zl_o.getD 5 []), (fun o (q : Nat × Bool) => Cond.methodLink (zt_cn o) q.1 objectInit ∈ x_tbl) 5 q := List.forall_mem_cons.mpr ⟨zo_o_5_0, fun _ h => absurd h List.not_mem_nil⟩
theorem zo_o_r6 : ∀ q ∈ (zl_o.getD 6 []), (fun o (q : Nat × Bool) => Cond.methodLink (zt_cn o) q.1 objectInit ∈ x_tbl) 6 q := List.forall_mem_cons.mpr ⟨zo_o_6_0, fun _ h => absurd h List.not_mem_nil⟩
theorem zo_o_r7 : ∀ q ∈ (zl_o.getD 7 []), (fun o (q : Nat × Bool) => Cond.methodLink (zt_cn o) q.1 objectInit ∈ x_tbl) 7 q := List.forall_mem_cons.mpr ⟨zo_o_7_0, fun _ h => absurd h List.not_mem_nil⟩
theorem zo_o_r8 : ∀ q ∈ (zl_o.getD 8 []), (fun o (q : Nat × Bool) => Cond.methodLink (zt_cn o) q.1 objectInit ∈ x_tbl) 8 q := fun _ h => absurd h List.not_mem_nil
theorem zo_o_all : ∀ o r, zl_o[o]? = some r → ∀ q ∈ r, (fun o (q : Nat × Bool) => Cond.methodLink (zt_cn o) q.1 objectInit ∈ x_tbl) o q := by
  intro o r hr
  match o, hr with
  | 0, hr => cases hr; exact zo_o_r0
  | 1, hr => cases hr; exact zo_o_r1
  | 2, hr => cases hr; exact zo_o_r2
  | 3, hr => cases hr; exact zo_o_r3
  | 4, hr => cases hr; exact zo_o_r4
  | 5, hr => cases hr; exact zo_o_r5
  | 6, hr => cases hr; exact zo_o_r6
  | 7, hr => cases hr; exact zo_o_r7
  | 8, hr => cases hr; exact zo_o_r8
  | n + 9, hr => cases hr
theorem ok_o : ∀ o i, zt_o o i = true → Cond.methodLink (zt_cn o) i objectInit ∈ x_tbl := fun o i h => by
  obtain ⟨v, hv⟩ := Option.isSome_iff_exists.mp h
  exact z_row_in (P := fun o (q : Nat × Bool) => Cond.methodLink (zt_cn o) q.1 objectInit ∈ x_tbl) hv zo_o_all
theorem ok_t : ∃ T N, classes[zt_tree]? = some (zt_treeN, T, N) := ⟨zT2, _, rfl⟩
theorem ok_A : Cond.arrayClass .int ∈ x_tbl ∧ Cond.arrayClass .long ∈ x_tbl ∧ Cond.arrayClass .char ∈ x_tbl ∧ Cond.arrayClass .boolean ∈ x_tbl := ⟨(x_t1 (List.mem_of_getElem? (i := 51) rfl) rfl), (x_t1 (List.mem_of_getElem? (i := 52) rfl) rfl), (x_t1 (List.mem_of_getElem? (i := 53) rfl) rfl), (x_t4 (List.mem_of_getElem? (i := 233) rfl) rfl)⟩
theorem ok_oi : Cond.instanceMethod objectInit ∈ x_tbl ∧ Cond.code objectInit ⟨#[0xb1]⟩ 1 none ∈ x_tbl := ⟨(x_t1 (List.mem_of_getElem? (i := 26) rfl) rfl), (x_t1 (List.mem_of_getElem? (i := 27) rfl) rfl)⟩
theorem zo_l_4_0 : Cond.constantLong (zt_cn 4) 39 (-922337203685477580) ∈ x_tbl := (x_t3 (List.mem_of_getElem? (i := 92) rfl) rfl)
theorem zo_l_4_1 : Cond.constantLong (zt_cn 4) 41 (8) ∈ x_tbl := (x_t3 (List.mem_of_getElem? (i := 93) rfl) rfl)
theorem zo_l_4_2 : Cond.constantLong (zt_cn 4) 43 (10) ∈ x_tbl := (x_t3 (List.mem_of_getElem? (i := 94) rfl) rfl)
theorem zo_l_4_3 : Cond.constantLong (zt_cn 4) 37 (-9223372036854775808) ∈ x_tbl := (x_t3 (List.mem_of_getElem? (i := 95) rfl) rfl)
theorem zo_l_6_0 : Cond.constantLong (zt_cn 6) 127 (-9007199254740992) ∈ x_tbl := (x_t3 (List.mem_of_getElem? (i := 187) rfl) rfl)
theorem zo_l_6_1 : Cond.constantLong (zt_cn 6) 129 (9007199254740992) ∈ x_tbl := (x_t3 (List.mem_of_getElem? (i := 188) rfl) rfl)
theorem zo_l_6_2 : Cond.constantLong (zt_cn 6) 194 (48) ∈ x_tbl := (x_t3 (List.mem_of_getElem? (i := 200) rfl) rfl)
theorem zo_l_6_3 : Cond.constantLong (zt_cn 6) 196 (10) ∈ x_tbl := (x_t3 (List.mem_of_getElem? (i := 201) rfl) rfl)
theorem zo_l_7_0 : Cond.constantLong (zt_cn 7) 128 (-922337203685477580) ∈ x_tbl := (x_t5 (List.mem_of_getElem? (i := 122) rfl) rfl)
theorem zo_l_7_1 : Cond.constantLong (zt_cn 7) 142 (10) ∈ x_tbl := (x_t5 (List.mem_of_getElem? (i := 123) rfl) rfl)
theorem zo_l_7_2 : Cond.constantLong (zt_cn 7) 302 (-9007199254740992) ∈ x_tbl := (x_t5 (List.mem_of_getElem? (i := 207) rfl) rfl)
theorem zo_l_7_3 : Cond.constantLong (zt_cn 7) 304 (9007199254740992) ∈ x_tbl := (x_t5 (List.mem_of_getElem? (i := 208) rfl) rfl)
theorem zo_l_r0 : ∀ q ∈ (zl_l.getD 0 []), (fun o (q : Nat × Int64) => Cond.constantLong (zt_cn o) q.1 q.2 ∈ x_tbl) 0 q := fun _ h => absurd h List.not_mem_nil
theorem zo_l_r1 : ∀ q ∈ (zl_l.getD 1 []), (fun o (q : Nat × Int64) => Cond.constantLong (zt_cn o) q.1 q.2 ∈ x_tbl) 1 q := fun _ h => absurd h List.not_mem_nil
theorem zo_l_r2 : ∀ q ∈ (zl_l.getD 2 []), (fun o (q : Nat × Int64) => Cond.constantLong (zt_cn o) q.1 q.2 ∈ x_tbl) 2 q := fun _ h => absurd h List.not_mem_nil
theorem zo_l_r3 : ∀ q ∈ (zl_l.getD 3 []), (fun o (q : Nat × Int64) => Cond.constantLong (zt_cn o) q.1 q.2 ∈ x_tbl) 3 q := fun _ h => absurd h List.not_mem_nil
theorem zo_l_r4 : ∀ q ∈ (zl_l.getD 4 []), (fun o (q : Nat × Int64) => Cond.constantLong (zt_cn o) q.1 q.2 ∈ x_tbl) 4 q := List.forall_mem_cons.mpr ⟨zo_l_4_0, List.forall_mem_cons.mpr ⟨zo_l_4_1, List.forall_mem_cons.mpr ⟨zo_l_4_2, List.forall_mem_cons.mpr ⟨zo_l_4_3, fun _ h => absurd h List.not_mem_nil⟩⟩⟩⟩
theorem zo_l_r5 : ∀ q ∈ (zl_l.getD 5 []), (fun o (q : Nat × Int64) => Cond.constantLong (zt_cn o) q.1 q.2 ∈ x_tbl) 5 q := fun _ h => absurd h List.not_mem_nil
theorem zo_l_r6 : ∀ q ∈ (zl_l.getD 6 []), (fun o (q : Nat × Int64) => Cond.constantLong (zt_cn o) q.1 q.2 ∈ x_tbl) 6 q := List.forall_mem_cons.mpr ⟨zo_l_6_0, List.forall_mem_cons.mpr ⟨zo_l_6_1, List.forall_mem_cons.mpr ⟨zo_l_6_2, List.forall_mem_cons.mpr ⟨zo_l_6_3, fun _ h => absurd h List.not_mem_nil⟩⟩⟩⟩
theorem zo_l_r7 : ∀ q ∈ (zl_l.getD 7 []), (fun o (q : Nat × Int64) => Cond.constantLong (zt_cn o) q.1 q.2 ∈ x_tbl) 7 q := List.forall_mem_cons.mpr ⟨zo_l_7_0, List.forall_mem_cons.mpr ⟨zo_l_7_1, List.forall_mem_cons.mpr ⟨zo_l_7_2, List.forall_mem_cons.mpr ⟨zo_l_7_3, fun _ h => absurd h List.not_mem_nil⟩⟩⟩⟩
theorem zo_l_r8 : ∀ q ∈ (zl_l.getD 8 []), (fun o (q : Nat × Int64) => Cond.constantLong (zt_cn o) q.1 q.2 ∈ x_tbl) 8 q := fun _ h => absurd h List.not_mem_nil
theorem zo_l_all : ∀ o r, zl_l[o]? = some r → ∀ q ∈ r, (fun o (q : Nat × Int64) => Cond.constantLong (zt_cn o) q.1 q.2 ∈ x_tbl) o q := by
  intro o r hr
  match o, hr with
  | 0, hr => cases hr; exact zo_l_r0
  | 1, hr => cases hr; exact zo_l_r1
  | 2, hr => cases hr; exact zo_l_r2
  | 3, hr => cases hr; exact zo_l_r3
  | 4, hr => cases hr; exact zo_l_r4
  | 5, hr => cases hr; exact zo_l_r5
  | 6, hr => cases hr; exact zo_l_r6
  | 7, hr => cases hr; exact zo_l_r7
  | 8, hr => cases hr; exact zo_l_r8
  | n + 9, hr => cases hr
theorem ok_l : ∀ o i x, zt_l o i = some x → Cond.constantLong (zt_cn o) i x ∈ x_tbl := fun o i x h => z_row_in (P := fun o (q : Nat × Int64) => Cond.constantLong (zt_cn o) q.1 q.2 ∈ x_tbl) h zo_l_all
theorem zo_i_r0 : ∀ q ∈ (zl_i.getD 0 []), (fun o (q : Nat × Int32) => Cond.constant (zt_cn o) q.1 q.2 ∈ x_tbl) 0 q := fun _ h => absurd h List.not_mem_nil
theorem zo_i_r1 : ∀ q ∈ (zl_i.getD 1 []), (fun o (q : Nat × Int32) => Cond.constant (zt_cn o) q.1 q.2 ∈ x_tbl) 1 q := fun _ h => absurd h List.not_mem_nil
theorem zo_i_r2 : ∀ q ∈ (zl_i.getD 2 []), (fun o (q : Nat × Int32) => Cond.constant (zt_cn o) q.1 q.2 ∈ x_tbl) 2 q := fun _ h => absurd h List.not_mem_nil
theorem zo_i_r3 : ∀ q ∈ (zl_i.getD 3 []), (fun o (q : Nat × Int32) => Cond.constant (zt_cn o) q.1 q.2 ∈ x_tbl) 3 q := fun _ h => absurd h List.not_mem_nil
theorem zo_i_r4 : ∀ q ∈ (zl_i.getD 4 []), (fun o (q : Nat × Int32) => Cond.constant (zt_cn o) q.1 q.2 ∈ x_tbl) 4 q := fun _ h => absurd h List.not_mem_nil
theorem zo_i_r5 : ∀ q ∈ (zl_i.getD 5 []), (fun o (q : Nat × Int32) => Cond.constant (zt_cn o) q.1 q.2 ∈ x_tbl) 5 q := fun _ h => absurd h List.not_mem_nil
theorem zo_i_r6 : ∀ q ∈ (zl_i.getD 6 []), (fun o (q : Nat × Int32) => Cond.constant (zt_cn o) q.1 q.2 ∈ x_tbl) 6 q := fun _ h => absurd h List.not_mem_nil
theorem zo_i_r7 : ∀ q ∈ (zl_i.getD 7 []), (fun o (q : Nat × Int32) => Cond.constant (zt_cn o) q.1 q.2 ∈ x_tbl) 7 q := fun _ h => absurd h List.not_mem_nil
theorem zo_i_r8 : ∀ q ∈ (zl_i.getD 8 []), (fun o (q : Nat × Int32) => Cond.constant (zt_cn o) q.1 q.2 ∈ x_tbl) 8 q := fun _ h => absurd h List.not_mem_nil
theorem zo_i_all : ∀ o r, zl_i[o]? = some r → ∀ q ∈ r, (fun o (q : Nat × Int32) => Cond.constant (zt_cn o) q.1 q.2 ∈ x_tbl) o q := by
  intro o r hr
  match o, hr with
  | 0, hr => cases hr; exact zo_i_r0
  | 1, hr => cases hr; exact zo_i_r1
  | 2, hr => cases hr; exact zo_i_r2
  | 3, hr => cases hr; exact zo_i_r3
  | 4, hr => cases hr; exact zo_i_r4
  | 5, hr => cases hr; exact zo_i_r5
  | 6, hr => cases hr; exact zo_i_r6
  | 7, hr => cases hr; exact zo_i_r7
  | 8, hr => cases hr; exact zo_i_r8
  | n + 9, hr => cases hr
theorem ok_i : ∀ o i x, zt_i o i = some x → Cond.constant (zt_cn o) i x ∈ x_tbl := fun o i x h => z_row_in (P := fun o (q : Nat × Int32) => Cond.constant (zt_cn o) q.1 q.2 ∈ x_tbl) h zo_i_all
theorem zo_x_0_0 : z_xok 0 110 0 112 := ⟨"java/lang/IndexOutOfBoundsException", rfl, by
  show ∀ a ∈ (Bundle.throwableAtoms ++ Bundle.chain0Atoms "java/lang/IndexOutOfBoundsException" x_up ++ _ : List Cond), _
  exact List.forall_mem_cons.mpr ⟨Or.inl (x_t1 (List.mem_of_getElem? (i := 9) rfl) rfl), List.forall_mem_cons.mpr ⟨Or.inl (x_t2 (List.mem_of_getElem? (i := 71) rfl) rfl), List.forall_mem_cons.mpr ⟨Or.inl (x_t2 (List.mem_of_getElem? (i := 80) rfl) rfl), List.forall_mem_cons.mpr ⟨Or.inl (x_t2 (List.mem_of_getElem? (i := 85) rfl) rfl), List.forall_mem_cons.mpr ⟨Or.inl (x_t2 (List.mem_of_getElem? (i := 88) rfl) rfl), List.forall_mem_cons.mpr ⟨Or.inl (x_t2 (List.mem_of_getElem? (i := 90) rfl) rfl), List.forall_mem_cons.mpr ⟨Or.inl (x_t2 (List.mem_of_getElem? (i := 72) rfl) rfl), List.forall_mem_cons.mpr ⟨Or.inl (x_t2 (List.mem_of_getElem? (i := 73) rfl) rfl), List.forall_mem_cons.mpr ⟨Or.inl (x_t1 (List.mem_of_getElem? (i := 26) rfl) rfl), List.forall_mem_cons.mpr ⟨Or.inl (x_t1 (List.mem_of_getElem? (i := 27) rfl) rfl), List.forall_mem_cons.mpr ⟨Or.inl (x_t2 (List.mem_of_getElem? (i := 74) rfl) rfl), List.forall_mem_cons.mpr ⟨Or.inl (x_t2 (List.mem_of_getElem? (i := 79) rfl) rfl), List.forall_mem_cons.mpr ⟨Or.inl (x_t2 (List.mem_of_getElem? (i := 86) rfl) rfl), List.forall_mem_cons.mpr ⟨Or.inl (x_t2 (List.mem_of_getElem? (i := 102) rfl) rfl), List.forall_mem_cons.mpr ⟨Or.inl (x_t2 (List.mem_of_getElem? (i := 61) rfl) rfl), List.forall_mem_cons.mpr ⟨Or.inl (x_t2 (List.mem_of_getElem? (i := 103) rfl) rfl), List.forall_mem_cons.mpr ⟨Or.inl (x_t2 (List.mem_of_getElem? (i := 63) rfl) rfl), List.forall_mem_cons.mpr ⟨Or.inl (x_t2 (List.mem_of_getElem? (i := 104) rfl) rfl), List.forall_mem_cons.mpr ⟨Or.inl (x_t2 (List.mem_of_getElem? (i := 65) rfl) rfl), List.forall_mem_cons.mpr ⟨Or.inl (x_t2 (List.mem_of_getElem? (i := 75) rfl) rfl), List.forall_mem_cons.mpr ⟨Or.inr (Or.inr (Or.inr (Or.inr (Or.inl rfl)))), List.forall_mem_cons.mpr ⟨Or.inl (x_t2 (List.mem_of_getElem? (i := 77) rfl) rfl), List.forall_mem_cons.mpr ⟨Or.inr (Or.inr (Or.inr (Or.inr (Or.inr rfl)))), List.forall_mem_cons.mpr ⟨Or.inl (x_t2 (List.mem_of_getElem? (i := 67) rfl) rfl), List.forall_mem_cons.mpr ⟨Or.inl (x_t2 (List.mem_of_getElem? (i := 92) rfl) rfl), List.forall_mem_cons.mpr ⟨Or.inl (x_t2 (List.mem_of_getElem? (i := 93) rfl) rfl), List.forall_mem_cons.mpr ⟨Or.inl (x_t2 (List.mem_of_getElem? (i := 94) rfl) rfl), List.forall_mem_cons.mpr ⟨Or.inl (x_t2 (List.mem_of_getElem? (i := 95) rfl) rfl), List.forall_mem_cons.mpr ⟨Or.inr (Or.inl (x_n2 (List.mem_of_getElem? (i := 52) rfl) rfl)), List.forall_mem_cons.mpr ⟨Or.inl (x_t2 (List.mem_of_getElem? (i := 95) rfl) rfl), List.forall_mem_cons.mpr ⟨Or.inl (x_t2 (List.mem_of_getElem? (i := 96) rfl) rfl), List.forall_mem_cons.mpr ⟨Or.inl (x_t2 (List.mem_of_getElem? (i := 97) rfl) rfl), List.forall_mem_cons.mpr ⟨Or.inl (x_t2 (List.mem_of_getElem? (i := 98) rfl) rfl), List.forall_mem_cons.mpr ⟨Or.inr (Or.inl (x_n2 (List.mem_of_getElem? (i := 54) rfl) rfl)), List.forall_mem_cons.mpr ⟨Or.inl (x_t2 (List.mem_of_getElem? (i := 98) rfl) rfl), List.forall_mem_cons.mpr ⟨Or.inl (x_t2 (List.mem_of_getElem? (i := 99) rfl) rfl), List.forall_mem_cons.mpr ⟨Or.inl (x_t2 (List.mem_of_getElem? (i := 100) rfl) rfl), List.forall_mem_cons.mpr ⟨Or.inl (x_t2 (List.mem_of_getElem? (i := 72) rfl) rfl), List.forall_mem_cons.mpr ⟨Or.inr (Or.inl (x_n2 (List.mem_of_getElem? (i := 56) rfl) rfl)), List.forall_mem_cons.mpr ⟨Or.inl (x_t2 (List.mem_of_getElem? (i := 91) rfl) rfl), List.forall_mem_cons.mpr ⟨Or.inl (x_t2 (List.mem_of_getElem? (i := 50) rfl) rfl), List.forall_mem_cons.mpr ⟨Or.inr (Or.inl (x_n2 (List.mem_of_getElem? (i := 51) rfl) rfl)), List.forall_mem_cons.mpr ⟨Or.inl (x_t2 (List.mem_of_getElem? (i := 58) rfl) rfl), List.forall_mem_cons.mpr ⟨Or.inl (x_t2 (List.mem_of_getElem? (i := 59) rfl) rfl), List.forall_mem_cons.mpr ⟨Or.inl (x_t2 (List.mem_of_getElem? (i := 60) rfl) rfl), List.forall_mem_cons.mpr ⟨Or.inl (x_t2 (List.mem_of_getElem? (i := 62) rfl) rfl), List.forall_mem_cons.mpr ⟨Or.inl (x_t2 (List.mem_of_getElem? (i := 64) rfl) rfl), List.forall_mem_cons.mpr ⟨Or.inl (x_t2 (List.mem_of_getElem? (i := 66) rfl) rfl), List.forall_mem_cons.mpr ⟨Or.inr (Or.inr (Or.inl rfl)), List.forall_mem_cons.mpr ⟨Or.inr (Or.inr (Or.inr (Or.inl rfl))), List.forall_mem_cons.mpr ⟨Or.inl (x_t2 (List.mem_of_getElem? (i := 70) rfl) rfl), List.forall_mem_cons.mpr ⟨Or.inl (x_t2 (List.mem_of_getElem? (i := 69) rfl) rfl), List.forall_mem_cons.mpr ⟨Or.inl (x_t2 (List.mem_of_getElem? (i := 68) rfl) rfl), fun _ h => absurd h List.not_mem_nil⟩⟩⟩⟩⟩⟩⟩⟩⟩⟩⟩⟩⟩⟩⟩⟩⟩⟩⟩⟩⟩⟩⟩⟩⟩⟩⟩⟩⟩⟩⟩⟩⟩⟩⟩⟩⟩⟩⟩⟩⟩⟩⟩⟩⟩⟩⟩⟩⟩⟩⟩⟩⟩, (x_t2 (List.mem_of_getElem? (i := 49) rfl) rfl), (x_t2 (List.mem_of_getElem? (i := 50) rfl) rfl), (x_t1 (List.mem_of_getElem? (i := 12) rfl) rfl)⟩
theorem zo_x_0_1 : z_xok 0 69 2 71 := ⟨"java/lang/IllegalStateException", rfl, by
  show ∀ a ∈ (Bundle.throwableAtoms ++ Bundle.chain0Atoms "java/lang/IllegalStateException" x_up ++ _ : List Cond), _
  exact List.forall_mem_cons.mpr ⟨Or.inl (x_t1 (List.mem_of_getElem? (i := 9) rfl) rfl), List.forall_mem_cons.mpr ⟨Or.inl (x_t2 (List.mem_of_getElem? (i := 71) rfl) rfl), List.forall_mem_cons.mpr ⟨Or.inl (x_t2 (List.mem_of_getElem? (i := 80) rfl) rfl), List.forall_mem_cons.mpr ⟨Or.inl (x_t2 (List.mem_of_getElem? (i := 85) rfl) rfl), List.forall_mem_cons.mpr ⟨Or.inl (x_t2 (List.mem_of_getElem? (i := 88) rfl) rfl), List.forall_mem_cons.mpr ⟨Or.inl (x_t2 (List.mem_of_getElem? (i := 90) rfl) rfl), List.forall_mem_cons.mpr ⟨Or.inl (x_t2 (List.mem_of_getElem? (i := 72) rfl) rfl), List.forall_mem_cons.mpr ⟨Or.inl (x_t2 (List.mem_of_getElem? (i := 73) rfl) rfl), List.forall_mem_cons.mpr ⟨Or.inl (x_t1 (List.mem_of_getElem? (i := 26) rfl) rfl), List.forall_mem_cons.mpr ⟨Or.inl (x_t1 (List.mem_of_getElem? (i := 27) rfl) rfl), List.forall_mem_cons.mpr ⟨Or.inl (x_t2 (List.mem_of_getElem? (i := 74) rfl) rfl), List.forall_mem_cons.mpr ⟨Or.inl (x_t2 (List.mem_of_getElem? (i := 79) rfl) rfl), List.forall_mem_cons.mpr ⟨Or.inl (x_t2 (List.mem_of_getElem? (i := 86) rfl) rfl), List.forall_mem_cons.mpr ⟨Or.inl (x_t2 (List.mem_of_getElem? (i := 102) rfl) rfl), List.forall_mem_cons.mpr ⟨Or.inl (x_t2 (List.mem_of_getElem? (i := 61) rfl) rfl), List.forall_mem_cons.mpr ⟨Or.inl (x_t2 (List.mem_of_getElem? (i := 103) rfl) rfl), List.forall_mem_cons.mpr ⟨Or.inl (x_t2 (List.mem_of_getElem? (i := 63) rfl) rfl), List.forall_mem_cons.mpr ⟨Or.inl (x_t2 (List.mem_of_getElem? (i := 104) rfl) rfl), List.forall_mem_cons.mpr ⟨Or.inl (x_t2 (List.mem_of_getElem? (i := 65) rfl) rfl), List.forall_mem_cons.mpr ⟨Or.inl (x_t2 (List.mem_of_getElem? (i := 75) rfl) rfl), List.forall_mem_cons.mpr ⟨Or.inr (Or.inr (Or.inr (Or.inr (Or.inl rfl)))), List.forall_mem_cons.mpr ⟨Or.inl (x_t2 (List.mem_of_getElem? (i := 77) rfl) rfl), List.forall_mem_cons.mpr ⟨Or.inr (Or.inr (Or.inr (Or.inr (Or.inr rfl)))), List.forall_mem_cons.mpr ⟨Or.inl (x_t2 (List.mem_of_getElem? (i := 67) rfl) rfl), List.forall_mem_cons.mpr ⟨Or.inl (x_t3 (List.mem_of_getElem? (i := 145) rfl) rfl), List.forall_mem_cons.mpr ⟨Or.inl (x_t3 (List.mem_of_getElem? (i := 146) rfl) rfl), List.forall_mem_cons.mpr ⟨Or.inl (x_t3 (List.mem_of_getElem? (i := 147) rfl) rfl), List.forall_mem_cons.mpr ⟨Or.inl (x_t2 (List.mem_of_getElem? (i := 95) rfl) rfl), List.forall_mem_cons.mpr ⟨Or.inr (Or.inl (x_n2 (List.mem_of_getElem? (i := 52) rfl) rfl)), List.forall_mem_cons.mpr ⟨Or.inl (x_t2 (List.mem_of_getElem? (i := 95) rfl) rfl), List.forall_mem_cons.mpr ⟨Or.inl (x_t2 (List.mem_of_getElem? (i := 96) rfl) rfl), List.forall_mem_cons.mpr ⟨Or.inl (x_t2 (List.mem_of_getElem? (i := 97) rfl) rfl), List.forall_mem_cons.mpr ⟨Or.inl (x_t2 (List.mem_of_getElem? (i := 98) rfl) rfl), List.forall_mem_cons.mpr ⟨Or.inr (Or.inl (x_n2 (List.mem_of_getElem? (i := 54) rfl) rfl)), List.forall_mem_cons.mpr ⟨Or.inl (x_t2 (List.mem_of_getElem? (i := 98) rfl) rfl), List.forall_mem_cons.mpr ⟨Or.inl (x_t2 (List.mem_of_getElem? (i := 99) rfl) rfl), List.forall_mem_cons.mpr ⟨Or.inl (x_t2 (List.mem_of_getElem? (i := 100) rfl) rfl), List.forall_mem_cons.mpr ⟨Or.inl (x_t2 (List.mem_of_getElem? (i := 72) rfl) rfl), List.forall_mem_cons.mpr ⟨Or.inr (Or.inl (x_n2 (List.mem_of_getElem? (i := 56) rfl) rfl)), List.forall_mem_cons.mpr ⟨Or.inl (x_t3 (List.mem_of_getElem? (i := 144) rfl) rfl), List.forall_mem_cons.mpr ⟨Or.inl (x_t3 (List.mem_of_getElem? (i := 136) rfl) rfl), List.forall_mem_cons.mpr ⟨Or.inr (Or.inl (x_n3 (List.mem_of_getElem? (i := 137) rfl) rfl)), List.forall_mem_cons.mpr ⟨Or.inl (x_t3 (List.mem_of_getElem? (i := 138) rfl) rfl), List.forall_mem_cons.mpr ⟨Or.inl (x_t2 (List.mem_of_getElem? (i := 83) rfl) rfl), List.forall_mem_cons.mpr ⟨Or.inl (x_t3 (List.mem_of_getElem? (i := 139) rfl) rfl), List.forall_mem_cons.mpr ⟨Or.inl (x_t3 (List.mem_of_getElem? (i := 140) rfl) rfl), List.forall_mem_cons.mpr ⟨Or.inl (x_t3 (List.mem_of_getElem? (i := 141) rfl) rfl), List.forall_mem_cons.mpr ⟨Or.inl (x_t3 (List.mem_of_getElem? (i := 142) rfl) rfl), List.forall_mem_cons.mpr ⟨Or.inr (Or.inr (Or.inl rfl)), List.forall_mem_cons.mpr ⟨Or.inr (Or.inr (Or.inr (Or.inl rfl))), List.forall_mem_cons.mpr ⟨Or.inl (x_t2 (List.mem_of_getElem? (i := 70) rfl) rfl), List.forall_mem_cons.mpr ⟨Or.inl (x_t2 (List.mem_of_getElem? (i := 69) rfl) rfl), List.forall_mem_cons.mpr ⟨Or.inl (x_t3 (List.mem_of_getElem? (i := 143) rfl) rfl), fun _ h => absurd h List.not_mem_nil⟩⟩⟩⟩⟩⟩⟩⟩⟩⟩⟩⟩⟩⟩⟩⟩⟩⟩⟩⟩⟩⟩⟩⟩⟩⟩⟩⟩⟩⟩⟩⟩⟩⟩⟩⟩⟩⟩⟩⟩⟩⟩⟩⟩⟩⟩⟩⟩⟩⟩⟩⟩⟩, (x_t3 (List.mem_of_getElem? (i := 135) rfl) rfl), (x_t3 (List.mem_of_getElem? (i := 136) rfl) rfl), (x_t1 (List.mem_of_getElem? (i := 18) rfl) rfl)⟩
theorem zo_x_5_0 : z_xok 5 69 1 71 := ⟨"java/lang/IllegalArgumentException", rfl, by
  show ∀ a ∈ (Bundle.throwableAtoms ++ Bundle.chain0Atoms "java/lang/IllegalArgumentException" x_up ++ _ : List Cond), _
  exact List.forall_mem_cons.mpr ⟨Or.inl (x_t1 (List.mem_of_getElem? (i := 9) rfl) rfl), List.forall_mem_cons.mpr ⟨Or.inl (x_t2 (List.mem_of_getElem? (i := 71) rfl) rfl), List.forall_mem_cons.mpr ⟨Or.inl (x_t2 (List.mem_of_getElem? (i := 80) rfl) rfl), List.forall_mem_cons.mpr ⟨Or.inl (x_t2 (List.mem_of_getElem? (i := 85) rfl) rfl), List.forall_mem_cons.mpr ⟨Or.inl (x_t2 (List.mem_of_getElem? (i := 88) rfl) rfl), List.forall_mem_cons.mpr ⟨Or.inl (x_t2 (List.mem_of_getElem? (i := 90) rfl) rfl), List.forall_mem_cons.mpr ⟨Or.inl (x_t2 (List.mem_of_getElem? (i := 72) rfl) rfl), List.forall_mem_cons.mpr ⟨Or.inl (x_t2 (List.mem_of_getElem? (i := 73) rfl) rfl), List.forall_mem_cons.mpr ⟨Or.inl (x_t1 (List.mem_of_getElem? (i := 26) rfl) rfl), List.forall_mem_cons.mpr ⟨Or.inl (x_t1 (List.mem_of_getElem? (i := 27) rfl) rfl), List.forall_mem_cons.mpr ⟨Or.inl (x_t2 (List.mem_of_getElem? (i := 74) rfl) rfl), List.forall_mem_cons.mpr ⟨Or.inl (x_t2 (List.mem_of_getElem? (i := 79) rfl) rfl), List.forall_mem_cons.mpr ⟨Or.inl (x_t2 (List.mem_of_getElem? (i := 86) rfl) rfl), List.forall_mem_cons.mpr ⟨Or.inl (x_t2 (List.mem_of_getElem? (i := 102) rfl) rfl), List.forall_mem_cons.mpr ⟨Or.inl (x_t2 (List.mem_of_getElem? (i := 61) rfl) rfl), List.forall_mem_cons.mpr ⟨Or.inl (x_t2 (List.mem_of_getElem? (i := 103) rfl) rfl), List.forall_mem_cons.mpr ⟨Or.inl (x_t2 (List.mem_of_getElem? (i := 63) rfl) rfl), List.forall_mem_cons.mpr ⟨Or.inl (x_t2 (List.mem_of_getElem? (i := 104) rfl) rfl), List.forall_mem_cons.mpr ⟨Or.inl (x_t2 (List.mem_of_getElem? (i := 65) rfl) rfl), List.forall_mem_cons.mpr ⟨Or.inl (x_t2 (List.mem_of_getElem? (i := 75) rfl) rfl), List.forall_mem_cons.mpr ⟨Or.inr (Or.inr (Or.inr (Or.inr (Or.inl rfl)))), List.forall_mem_cons.mpr ⟨Or.inl (x_t2 (List.mem_of_getElem? (i := 77) rfl) rfl), List.forall_mem_cons.mpr ⟨Or.inr (Or.inr (Or.inr (Or.inr (Or.inr rfl)))), List.forall_mem_cons.mpr ⟨Or.inl (x_t2 (List.mem_of_getElem? (i := 67) rfl) rfl), List.forall_mem_cons.mpr ⟨Or.inl (x_t2 (List.mem_of_getElem? (i := 153) rfl) rfl), List.forall_mem_cons.mpr ⟨Or.inl (x_t2 (List.mem_of_getElem? (i := 154) rfl) rfl), List.forall_mem_cons.mpr ⟨Or.inl (x_t2 (List.mem_of_getElem? (i := 155) rfl) rfl), List.forall_mem_cons.mpr ⟨Or.inl (x_t2 (List.mem_of_getElem? (i := 95) rfl) rfl), List.forall_mem_cons.mpr ⟨Or.inr (Or.inl (x_n2 (List.mem_of_getElem? (i := 52) rfl) rfl)), List.forall_mem_cons.mpr ⟨Or.inl (x_t2 (List.mem_of_getElem? (i := 95) rfl) rfl), List.forall_mem_cons.mpr ⟨Or.inl (x_t2 (List.mem_of_getElem? (i := 96) rfl) rfl), List.forall_mem_cons.mpr ⟨Or.inl (x_t2 (List.mem_of_getElem? (i := 97) rfl) rfl), List.forall_mem_cons.mpr ⟨Or.inl (x_t2 (List.mem_of_getElem? (i := 98) rfl) rfl), List.forall_mem_cons.mpr ⟨Or.inr (Or.inl (x_n2 (List.mem_of_getElem? (i := 54) rfl) rfl)), List.forall_mem_cons.mpr ⟨Or.inl (x_t2 (List.mem_of_getElem? (i := 98) rfl) rfl), List.forall_mem_cons.mpr ⟨Or.inl (x_t2 (List.mem_of_getElem? (i := 99) rfl) rfl), List.forall_mem_cons.mpr ⟨Or.inl (x_t2 (List.mem_of_getElem? (i := 100) rfl) rfl), List.forall_mem_cons.mpr ⟨Or.inl (x_t2 (List.mem_of_getElem? (i := 72) rfl) rfl), List.forall_mem_cons.mpr ⟨Or.inr (Or.inl (x_n2 (List.mem_of_getElem? (i := 56) rfl) rfl)), List.forall_mem_cons.mpr ⟨Or.inl (x_t2 (List.mem_of_getElem? (i := 152) rfl) rfl), List.forall_mem_cons.mpr ⟨Or.inl (x_t2 (List.mem_of_getElem? (i := 144) rfl) rfl), List.forall_mem_cons.mpr ⟨Or.inr (Or.inl (x_n2 (List.mem_of_getElem? (i := 145) rfl) rfl)), List.forall_mem_cons.mpr ⟨Or.inl (x_t2 (List.mem_of_getElem? (i := 146) rfl) rfl), List.forall_mem_cons.mpr ⟨Or.inl (x_t2 (List.mem_of_getElem? (i := 82) rfl) rfl), List.forall_mem_cons.mpr ⟨Or.inl (x_t2 (List.mem_of_getElem? (i := 147) rfl) rfl), List.forall_mem_cons.mpr ⟨Or.inl (x_t2 (List.mem_of_getElem? (i := 148) rfl) rfl), List.forall_mem_cons.mpr ⟨Or.inl (x_t2 (List.mem_of_getElem? (i := 149) rfl) rfl), List.forall_mem_cons.mpr ⟨Or.inl (x_t2 (List.mem_of_getElem? (i := 150) rfl) rfl), List.forall_mem_cons.mpr ⟨Or.inr (Or.inr (Or.inl rfl)), List.forall_mem_cons.mpr ⟨Or.inr (Or.inr (Or.inr (Or.inl rfl))), List.forall_mem_cons.mpr ⟨Or.inl (x_t2 (List.mem_of_getElem? (i := 70) rfl) rfl), List.forall_mem_cons.mpr ⟨Or.inl (x_t2 (List.mem_of_getElem? (i := 69) rfl) rfl), List.forall_mem_cons.mpr ⟨Or.inl (x_t2 (List.mem_of_getElem? (i := 151) rfl) rfl), fun _ h => absurd h List.not_mem_nil⟩⟩⟩⟩⟩⟩⟩⟩⟩⟩⟩⟩⟩⟩⟩⟩⟩⟩⟩⟩⟩⟩⟩⟩⟩⟩⟩⟩⟩⟩⟩⟩⟩⟩⟩⟩⟩⟩⟩⟩⟩⟩⟩⟩⟩⟩⟩⟩⟩⟩⟩⟩⟩, (x_t2 (List.mem_of_getElem? (i := 143) rfl) rfl), (x_t2 (List.mem_of_getElem? (i := 144) rfl) rfl), (x_t1 (List.mem_of_getElem? (i := 13) rfl) rfl)⟩
theorem zo_x_6_0 : z_xok 6 71 3 73 := ⟨"java/lang/UnsupportedOperationException", rfl, by
  show ∀ a ∈ (Bundle.throwableAtoms ++ Bundle.chain0Atoms "java/lang/UnsupportedOperationException" x_up ++ _ : List Cond), _
  exact List.forall_mem_cons.mpr ⟨Or.inl (x_t1 (List.mem_of_getElem? (i := 9) rfl) rfl), List.forall_mem_cons.mpr ⟨Or.inl (x_t2 (List.mem_of_getElem? (i := 71) rfl) rfl), List.forall_mem_cons.mpr ⟨Or.inl (x_t2 (List.mem_of_getElem? (i := 80) rfl) rfl), List.forall_mem_cons.mpr ⟨Or.inl (x_t2 (List.mem_of_getElem? (i := 85) rfl) rfl), List.forall_mem_cons.mpr ⟨Or.inl (x_t2 (List.mem_of_getElem? (i := 88) rfl) rfl), List.forall_mem_cons.mpr ⟨Or.inl (x_t2 (List.mem_of_getElem? (i := 90) rfl) rfl), List.forall_mem_cons.mpr ⟨Or.inl (x_t2 (List.mem_of_getElem? (i := 72) rfl) rfl), List.forall_mem_cons.mpr ⟨Or.inl (x_t2 (List.mem_of_getElem? (i := 73) rfl) rfl), List.forall_mem_cons.mpr ⟨Or.inl (x_t1 (List.mem_of_getElem? (i := 26) rfl) rfl), List.forall_mem_cons.mpr ⟨Or.inl (x_t1 (List.mem_of_getElem? (i := 27) rfl) rfl), List.forall_mem_cons.mpr ⟨Or.inl (x_t2 (List.mem_of_getElem? (i := 74) rfl) rfl), List.forall_mem_cons.mpr ⟨Or.inl (x_t2 (List.mem_of_getElem? (i := 79) rfl) rfl), List.forall_mem_cons.mpr ⟨Or.inl (x_t2 (List.mem_of_getElem? (i := 86) rfl) rfl), List.forall_mem_cons.mpr ⟨Or.inl (x_t2 (List.mem_of_getElem? (i := 102) rfl) rfl), List.forall_mem_cons.mpr ⟨Or.inl (x_t2 (List.mem_of_getElem? (i := 61) rfl) rfl), List.forall_mem_cons.mpr ⟨Or.inl (x_t2 (List.mem_of_getElem? (i := 103) rfl) rfl), List.forall_mem_cons.mpr ⟨Or.inl (x_t2 (List.mem_of_getElem? (i := 63) rfl) rfl), List.forall_mem_cons.mpr ⟨Or.inl (x_t2 (List.mem_of_getElem? (i := 104) rfl) rfl), List.forall_mem_cons.mpr ⟨Or.inl (x_t2 (List.mem_of_getElem? (i := 65) rfl) rfl), List.forall_mem_cons.mpr ⟨Or.inl (x_t2 (List.mem_of_getElem? (i := 75) rfl) rfl), List.forall_mem_cons.mpr ⟨Or.inr (Or.inr (Or.inr (Or.inr (Or.inl rfl)))), List.forall_mem_cons.mpr ⟨Or.inl (x_t2 (List.mem_of_getElem? (i := 77) rfl) rfl), List.forall_mem_cons.mpr ⟨Or.inr (Or.inr (Or.inr (Or.inr (Or.inr rfl)))), List.forall_mem_cons.mpr ⟨Or.inl (x_t2 (List.mem_of_getElem? (i := 67) rfl) rfl), List.forall_mem_cons.mpr ⟨Or.inl (x_t3 (List.mem_of_getElem? (i := 178) rfl) rfl), List.forall_mem_cons.mpr ⟨Or.inl (x_t3 (List.mem_of_getElem? (i := 179) rfl) rfl), List.forall_mem_cons.mpr ⟨Or.inl (x_t3 (List.mem_of_getElem? (i := 180) rfl) rfl), List.forall_mem_cons.mpr ⟨Or.inl (x_t2 (List.mem_of_getElem? (i := 95) rfl) rfl), List.forall_mem_cons.mpr ⟨Or.inr (Or.inl (x_n2 (List.mem_of_getElem? (i := 52) rfl) rfl)), List.forall_mem_cons.mpr ⟨Or.inl (x_t2 (List.mem_of_getElem? (i := 95) rfl) rfl), List.forall_mem_cons.mpr ⟨Or.inl (x_t2 (List.mem_of_getElem? (i := 96) rfl) rfl), List.forall_mem_cons.mpr ⟨Or.inl (x_t2 (List.mem_of_getElem? (i := 97) rfl) rfl), List.forall_mem_cons.mpr ⟨Or.inl (x_t2 (List.mem_of_getElem? (i := 98) rfl) rfl), List.forall_mem_cons.mpr ⟨Or.inr (Or.inl (x_n2 (List.mem_of_getElem? (i := 54) rfl) rfl)), List.forall_mem_cons.mpr ⟨Or.inl (x_t2 (List.mem_of_getElem? (i := 98) rfl) rfl), List.forall_mem_cons.mpr ⟨Or.inl (x_t2 (List.mem_of_getElem? (i := 99) rfl) rfl), List.forall_mem_cons.mpr ⟨Or.inl (x_t2 (List.mem_of_getElem? (i := 100) rfl) rfl), List.forall_mem_cons.mpr ⟨Or.inl (x_t2 (List.mem_of_getElem? (i := 72) rfl) rfl), List.forall_mem_cons.mpr ⟨Or.inr (Or.inl (x_n2 (List.mem_of_getElem? (i := 56) rfl) rfl)), List.forall_mem_cons.mpr ⟨Or.inl (x_t3 (List.mem_of_getElem? (i := 177) rfl) rfl), List.forall_mem_cons.mpr ⟨Or.inl (x_t3 (List.mem_of_getElem? (i := 169) rfl) rfl), List.forall_mem_cons.mpr ⟨Or.inr (Or.inl (x_n3 (List.mem_of_getElem? (i := 170) rfl) rfl)), List.forall_mem_cons.mpr ⟨Or.inl (x_t3 (List.mem_of_getElem? (i := 171) rfl) rfl), List.forall_mem_cons.mpr ⟨Or.inl (x_t2 (List.mem_of_getElem? (i := 84) rfl) rfl), List.forall_mem_cons.mpr ⟨Or.inl (x_t3 (List.mem_of_getElem? (i := 172) rfl) rfl), List.forall_mem_cons.mpr ⟨Or.inl (x_t3 (List.mem_of_getElem? (i := 173) rfl) rfl), List.forall_mem_cons.mpr ⟨Or.inl (x_t3 (List.mem_of_getElem? (i := 174) rfl) rfl), List.forall_mem_cons.mpr ⟨Or.inl (x_t3 (List.mem_of_getElem? (i := 175) rfl) rfl), List.forall_mem_cons.mpr ⟨Or.inr (Or.inr (Or.inl rfl)), List.forall_mem_cons.mpr ⟨Or.inr (Or.inr (Or.inr (Or.inl rfl))), List.forall_mem_cons.mpr ⟨Or.inl (x_t2 (List.mem_of_getElem? (i := 70) rfl) rfl), List.forall_mem_cons.mpr ⟨Or.inl (x_t2 (List.mem_of_getElem? (i := 69) rfl) rfl), List.forall_mem_cons.mpr ⟨Or.inl (x_t3 (List.mem_of_getElem? (i := 176) rfl) rfl), fun _ h => absurd h List.not_mem_nil⟩⟩⟩⟩⟩⟩⟩⟩⟩⟩⟩⟩⟩⟩⟩⟩⟩⟩⟩⟩⟩⟩⟩⟩⟩⟩⟩⟩⟩⟩⟩⟩⟩⟩⟩⟩⟩⟩⟩⟩⟩⟩⟩⟩⟩⟩⟩⟩⟩⟩⟩⟩⟩, (x_t3 (List.mem_of_getElem? (i := 168) rfl) rfl), (x_t3 (List.mem_of_getElem? (i := 169) rfl) rfl), (x_t1 (List.mem_of_getElem? (i := 19) rfl) rfl)⟩
theorem zo_x_r0 : ∀ q ∈ (zl_x.getD 0 []), (fun o (q : Nat × (Nat × Nat)) => z_xok o q.1 q.2.1 q.2.2) 0 q := List.forall_mem_cons.mpr ⟨zo_x_0_0, List.forall_mem_cons.mpr ⟨zo_x_0_1, fun _ h => absurd h List.not_mem_nil⟩⟩
theorem zo_x_r1 : ∀ q ∈ (zl_x.getD 1 []), (fun o (q : Nat × (Nat × Nat)) => z_xok o q.1 q.2.1 q.2.2) 1 q := fun _ h => absurd h List.not_mem_nil
theorem zo_x_r2 : ∀ q ∈ (zl_x.getD 2 []), (fun o (q : Nat × (Nat × Nat)) => z_xok o q.1 q.2.1 q.2.2) 2 q := fun _ h => absurd h List.not_mem_nil
theorem zo_x_r3 : ∀ q ∈ (zl_x.getD 3 []), (fun o (q : Nat × (Nat × Nat)) => z_xok o q.1 q.2.1 q.2.2) 3 q := fun _ h => absurd h List.not_mem_nil
theorem zo_x_r4 : ∀ q ∈ (zl_x.getD 4 []), (fun o (q : Nat × (Nat × Nat)) => z_xok o q.1 q.2.1 q.2.2) 4 q := fun _ h => absurd h List.not_mem_nil
theorem zo_x_r5 : ∀ q ∈ (zl_x.getD 5 []), (fun o (q : Nat × (Nat × Nat)) => z_xok o q.1 q.2.1 q.2.2) 5 q := List.forall_mem_cons.mpr ⟨zo_x_5_0, fun _ h => absurd h List.not_mem_nil⟩
theorem zo_x_r6 : ∀ q ∈ (zl_x.getD 6 []), (fun o (q : Nat × (Nat × Nat)) => z_xok o q.1 q.2.1 q.2.2) 6 q := List.forall_mem_cons.mpr ⟨zo_x_6_0, fun _ h => absurd h List.not_mem_nil⟩
theorem zo_x_r7 : ∀ q ∈ (zl_x.getD 7 []), (fun o (q : Nat × (Nat × Nat)) => z_xok o q.1 q.2.1 q.2.2) 7 q := fun _ h => absurd h List.not_mem_nil
theorem zo_x_r8 : ∀ q ∈ (zl_x.getD 8 []), (fun o (q : Nat × (Nat × Nat)) => z_xok o q.1 q.2.1 q.2.2) 8 q := fun _ h => absurd h List.not_mem_nil
theorem zo_x_all : ∀ o r, zl_x[o]? = some r → ∀ q ∈ r, (fun o (q : Nat × (Nat × Nat)) => z_xok o q.1 q.2.1 q.2.2) o q := by
  intro o r hr
  match o, hr with
  | 0, hr => cases hr; exact zo_x_r0
  | 1, hr => cases hr; exact zo_x_r1
  | 2, hr => cases hr; exact zo_x_r2
  | 3, hr => cases hr; exact zo_x_r3
  | 4, hr => cases hr; exact zo_x_r4
  | 5, hr => cases hr; exact zo_x_r5
  | 6, hr => cases hr; exact zo_x_r6
  | 7, hr => cases hr; exact zo_x_r7
  | 8, hr => cases hr; exact zo_x_r8
  | n + 9, hr => cases hr
theorem ok_x : ∀ o i kd ic, zt_x o i = some (kd, ic) → z_xok o i kd ic := fun o i kd ic h => z_row_in (P := fun o (q : Nat × (Nat × Nat)) => z_xok o q.1 q.2.1 q.2.2) h zo_x_all
theorem zm_0 : z_mok 0 2 0 1 1 := ⟨none, x_Wc (x_t1 (List.mem_of_getElem? (i := 24) rfl) rfl), (x_t1 (List.mem_of_getElem? (i := 1) rfl) rfl), ⟨by decide +kernel, by decide +kernel, by decide +kernel⟩, fun h => absurd h (by decide), fun h => absurd h (by decide), fun _ => ⟨(x_t1 (List.mem_of_getElem? (i := 23) rfl) rfl), rfl, _, (x_t1 (List.mem_of_getElem? (i := 24) rfl) rfl)⟩, fun h => absurd h (by decide)⟩
theorem zm_1 : z_mok 1 2 2 1 1 := ⟨none, x_Wc (x_t1 (List.mem_of_getElem? (i := 33) rfl) rfl), (x_t1 (List.mem_of_getElem? (i := 2) rfl) rfl), ⟨by decide +kernel, by decide +kernel, by decide +kernel⟩, fun h => absurd h (by decide), fun h => absurd h (by decide), fun _ => ⟨(x_t1 (List.mem_of_getElem? (i := 32) rfl) rfl), rfl, _, (x_t1 (List.mem_of_getElem? (i := 33) rfl) rfl)⟩, fun h => absurd h (by decide)⟩
theorem zm_2 : z_mok 2 2 1 2 2 := ⟨none, x_Wc (x_t1 (List.mem_of_getElem? (i := 39) rfl) rfl), (x_t1 (List.mem_of_getElem? (i := 3) rfl) rfl), ⟨by decide +kernel, by decide +kernel, by decide +kernel⟩, fun h => absurd h (by decide), fun h => absurd h (by decide), fun _ => ⟨(x_t1 (List.mem_of_getElem? (i := 38) rfl) rfl), rfl, _, (x_t1 (List.mem_of_getElem? (i := 39) rfl) rfl)⟩, fun h => absurd h (by decide)⟩
theorem zm_3 : z_mok 3 2 5 1 1 := ⟨none, x_Wc (x_t1 (List.mem_of_getElem? (i := 100) rfl) rfl), (x_t1 (List.mem_of_getElem? (i := 4) rfl) rfl), ⟨by decide +kernel, by decide +kernel, by decide +kernel⟩, fun h => absurd h (by decide), fun h => absurd h (by decide), fun _ => ⟨(x_t1 (List.mem_of_getElem? (i := 99) rfl) rfl), rfl, _, (x_t1 (List.mem_of_getElem? (i := 100) rfl) rfl)⟩, fun h => absurd h (by decide)⟩
theorem zm_4 : z_mok 4 2 3 1 1 := ⟨none, x_Wc (x_t1 (List.mem_of_getElem? (i := 106) rfl) rfl), (x_t1 (List.mem_of_getElem? (i := 5) rfl) rfl), ⟨by decide +kernel, by decide +kernel, by decide +kernel⟩, fun h => absurd h (by decide), fun h => absurd h (by decide), fun _ => ⟨(x_t1 (List.mem_of_getElem? (i := 105) rfl) rfl), rfl, _, (x_t1 (List.mem_of_getElem? (i := 106) rfl) rfl)⟩, fun h => absurd h (by decide)⟩
theorem zm_5 : z_mok 5 2 4 1 1 := ⟨none, x_Wc (x_t1 (List.mem_of_getElem? (i := 125) rfl) rfl), (x_t1 (List.mem_of_getElem? (i := 6) rfl) rfl), ⟨by decide +kernel, by decide +kernel, by decide +kernel⟩, fun h => absurd h (by decide), fun h => absurd h (by decide), fun _ => ⟨(x_t1 (List.mem_of_getElem? (i := 124) rfl) rfl), rfl, _, (x_t1 (List.mem_of_getElem? (i := 125) rfl) rfl)⟩, fun h => absurd h (by decide)⟩
theorem zm_6 : z_mok 6 2 6 1 1 := ⟨none, x_Wc (x_t1 (List.mem_of_getElem? (i := 178) rfl) rfl), (x_t1 (List.mem_of_getElem? (i := 7) rfl) rfl), ⟨by decide +kernel, by decide +kernel, by decide +kernel⟩, fun h => absurd h (by decide), fun h => absurd h (by decide), fun _ => ⟨(x_t1 (List.mem_of_getElem? (i := 177) rfl) rfl), rfl, _, (x_t1 (List.mem_of_getElem? (i := 178) rfl) rfl)⟩, fun h => absurd h (by decide)⟩
theorem zm_7 : z_mok 7 1 0 2 5 := ⟨(some FieldType.boolean), x_Wc (x_t1 (List.mem_of_getElem? (i := 218) rfl) rfl), (x_t1 (List.mem_of_getElem? (i := 1) rfl) rfl), ⟨by decide +kernel, by decide +kernel, by decide +kernel⟩, fun h => absurd h (by decide), fun _ => ⟨(x_t1 (List.mem_of_getElem? (i := 216) rfl) rfl), (x_t1 (List.mem_of_getElem? (i := 217) rfl) rfl), _, _, rfl⟩, fun h => absurd h (by decide), fun h => absurd h (by decide)⟩
theorem zm_8 : z_mok 8 1 1 2 2 := ⟨(some FieldType.boolean), x_Wc (x_t1 (List.mem_of_getElem? (i := 222) rfl) rfl), (x_t1 (List.mem_of_getElem? (i := 3) rfl) rfl), ⟨by decide +kernel, by decide +kernel, by decide +kernel⟩, fun h => absurd h (by decide), fun _ => ⟨(x_t1 (List.mem_of_getElem? (i := 220) rfl) rfl), (x_t1 (List.mem_of_getElem? (i := 221) rfl) rfl), _, _, rfl⟩, fun h => absurd h (by decide), fun h => absurd h (by decide)⟩
theorem zm_9 : z_mok 9 1 0 1 1 := ⟨none, x_Wc (x_t1 (List.mem_of_getElem? (i := 226) rfl) rfl), (x_t1 (List.mem_of_getElem? (i := 1) rfl) rfl), ⟨by decide +kernel, by decide +kernel, by decide +kernel⟩, fun h => absurd h (by decide), fun _ => ⟨(x_t1 (List.mem_of_getElem? (i := 224) rfl) rfl), (x_t1 (List.mem_of_getElem? (i := 225) rfl) rfl), _, _, rfl⟩, fun h => absurd h (by decide), fun h => absurd h (by decide)⟩
theorem zm_10 : z_mok 10 1 1 2 2 := ⟨none, x_Wc (x_t1 (List.mem_of_getElem? (i := 230) rfl) rfl), (x_t1 (List.mem_of_getElem? (i := 3) rfl) rfl), ⟨by decide +kernel, by decide +kernel, by decide +kernel⟩, fun h => absurd h (by decide), fun _ => ⟨(x_t1 (List.mem_of_getElem? (i := 228) rfl) rfl), (x_t1 (List.mem_of_getElem? (i := 229) rfl) rfl), _, _, rfl⟩, fun h => absurd h (by decide), fun h => absurd h (by decide)⟩
theorem zm_11 : z_mok 11 1 0 1 1 := ⟨(some FieldType.int), x_Wc (x_t1 (List.mem_of_getElem? (i := 234) rfl) rfl), (x_t1 (List.mem_of_getElem? (i := 1) rfl) rfl), ⟨by decide +kernel, by decide +kernel, by decide +kernel⟩, fun h => absurd h (by decide), fun _ => ⟨(x_t1 (List.mem_of_getElem? (i := 232) rfl) rfl), (x_t1 (List.mem_of_getElem? (i := 233) rfl) rfl), _, _, rfl⟩, fun h => absurd h (by decide), fun h => absurd h (by decide)⟩
theorem zm_12 : z_mok 12 1 0 2 2 := ⟨(some FieldType.int), x_Wc (x_t1 (List.mem_of_getElem? (i := 238) rfl) rfl), (x_t1 (List.mem_of_getElem? (i := 1) rfl) rfl), ⟨by decide +kernel, by decide +kernel, by decide +kernel⟩, fun h => absurd h (by decide), fun _ => ⟨(x_t1 (List.mem_of_getElem? (i := 236) rfl) rfl), (x_t1 (List.mem_of_getElem? (i := 237) rfl) rfl), _, _, rfl⟩, fun h => absurd h (by decide), fun h => absurd h (by decide)⟩
theorem zm_13 : z_mok 13 1 1 2 2 := ⟨(some FieldType.int), x_Wc (x_t2 (List.mem_of_getElem? (i := 2) rfl) rfl), (x_t1 (List.mem_of_getElem? (i := 3) rfl) rfl), ⟨by decide +kernel, by decide +kernel, by decide +kernel⟩, fun h => absurd h (by decide), fun _ => ⟨(x_t2 (List.mem_of_getElem? (i := 0) rfl) rfl), (x_t2 (List.mem_of_getElem? (i := 1) rfl) rfl), _, _, rfl⟩, fun h => absurd h (by decide), fun h => absurd h (by decide)⟩
theorem zm_14 : z_mok 14 1 0 1 1 := ⟨(some FieldType.int), x_Wc (x_t2 (List.mem_of_getElem? (i := 6) rfl) rfl), (x_t1 (List.mem_of_getElem? (i := 1) rfl) rfl), ⟨by decide +kernel, by decide +kernel, by decide +kernel⟩, fun h => absurd h (by decide), fun _ => ⟨(x_t2 (List.mem_of_getElem? (i := 4) rfl) rfl), (x_t2 (List.mem_of_getElem? (i := 5) rfl) rfl), _, _, rfl⟩, fun h => absurd h (by decide), fun h => absurd h (by decide)⟩
theorem zm_15 : z_mok 15 1 0 1 1 := ⟨(some FieldType.boolean), x_Wc (x_t2 (List.mem_of_getElem? (i := 10) rfl) rfl), (x_t1 (List.mem_of_getElem? (i := 1) rfl) rfl), ⟨by decide +kernel, by decide +kernel, by decide +kernel⟩, fun h => absurd h (by decide), fun _ => ⟨(x_t2 (List.mem_of_getElem? (i := 8) rfl) rfl), (x_t2 (List.mem_of_getElem? (i := 9) rfl) rfl), _, _, rfl⟩, fun h => absurd h (by decide), fun h => absurd h (by decide)⟩
theorem zm_16 : z_mok 16 0 2 5 5 := ⟨(some FieldType.boolean), x_Wc (x_t2 (List.mem_of_getElem? (i := 13) rfl) rfl), (x_t1 (List.mem_of_getElem? (i := 2) rfl) rfl), ⟨by decide +kernel, by decide +kernel, by decide +kernel⟩, fun _ => (x_t2 (List.mem_of_getElem? (i := 12) rfl) rfl), fun h => absurd h (by decide), fun h => absurd h (by decide), fun h => absurd h (by decide)⟩
theorem zm_17 : z_mok 17 1 1 5 6 := ⟨(some FieldType.boolean), x_Wc (x_t2 (List.mem_of_getElem? (i := 17) rfl) rfl), (x_t1 (List.mem_of_getElem? (i := 3) rfl) rfl), ⟨by decide +kernel, by decide +kernel, by decide +kernel⟩, fun h => absurd h (by decide), fun _ => ⟨(x_t2 (List.mem_of_getElem? (i := 15) rfl) rfl), (x_t2 (List.mem_of_getElem? (i := 16) rfl) rfl), _, _, rfl⟩, fun h => absurd h (by decide), fun h => absurd h (by decide)⟩
theorem zm_18 : z_mok 18 1 1 3 3 := ⟨(some FieldType.boolean), x_Wc (x_t2 (List.mem_of_getElem? (i := 21) rfl) rfl), (x_t1 (List.mem_of_getElem? (i := 3) rfl) rfl), ⟨by decide +kernel, by decide +kernel, by decide +kernel⟩, fun h => absurd h (by decide), fun _ => ⟨(x_t2 (List.mem_of_getElem? (i := 20) rfl) rfl), (x_s1 (n := 2) (List.mem_of_getElem? (i := 0) rfl)), _, _, rfl⟩, fun h => absurd h (by decide), fun h => absurd h (by decide)⟩
theorem zm_19 : z_mok 19 0 2 6 11 := ⟨(some FieldType.boolean), x_Wc (x_t2 (List.mem_of_getElem? (i := 24) rfl) rfl), (x_t1 (List.mem_of_getElem? (i := 2) rfl) rfl), ⟨by decide +kernel, by decide +kernel, by decide +kernel⟩, fun _ => (x_t2 (List.mem_of_getElem? (i := 23) rfl) rfl), fun h => absurd h (by decide), fun h => absurd h (by decide), fun h => absurd h (by decide)⟩
theorem zm_20 : z_mok 20 1 2 3 3 := ⟨(some FieldType.int), x_Wc (x_t2 (List.mem_of_getElem? (i := 29) rfl) rfl), (x_t1 (List.mem_of_getElem? (i := 2) rfl) rfl), ⟨by decide +kernel, by decide +kernel, by decide +kernel⟩, fun h => absurd h (by decide), fun _ => ⟨(x_t2 (List.mem_of_getElem? (i := 27) rfl) rfl), (x_t2 (List.mem_of_getElem? (i := 28) rfl) rfl), _, _, rfl⟩, fun h => absurd h (by decide), fun h => absurd h (by decide)⟩
theorem zm_21 : z_mok 21 0 2 5 8 := ⟨(some FieldType.boolean), x_Wc (x_t2 (List.mem_of_getElem? (i := 32) rfl) rfl), (x_t1 (List.mem_of_getElem? (i := 2) rfl) rfl), ⟨by decide +kernel, by decide +kernel, by decide +kernel⟩, fun _ => (x_t2 (List.mem_of_getElem? (i := 31) rfl) rfl), fun h => absurd h (by decide), fun h => absurd h (by decide), fun h => absurd h (by decide)⟩
theorem zm_22 : z_mok 22 1 0 1 2 := ⟨none, x_Wc (x_t2 (List.mem_of_getElem? (i := 36) rfl) rfl), (x_t1 (List.mem_of_getElem? (i := 1) rfl) rfl), ⟨by decide +kernel, by decide +kernel, by decide +kernel⟩, fun h => absurd h (by decide), fun _ => ⟨(x_t2 (List.mem_of_getElem? (i := 34) rfl) rfl), (x_t2 (List.mem_of_getElem? (i := 35) rfl) rfl), _, _, rfl⟩, fun h => absurd h (by decide), fun h => absurd h (by decide)⟩
theorem zm_23 : z_mok 23 0 8 3 4 := ⟨(some FieldType.int), x_Ww (x_t2 (List.mem_of_getElem? (i := 39) rfl) rfl), (x_t1 (List.mem_of_getElem? (i := 0) rfl) rfl), ⟨by decide +kernel, by decide +kernel, by decide +kernel⟩, fun _ => (x_t2 (List.mem_of_getElem? (i := 38) rfl) rfl), fun h => absurd h (by decide), fun h => absurd h (by decide), fun h => absurd h (by decide)⟩
theorem zm_24 : z_mok 24 1 0 2 2 := ⟨(some FieldType.int), x_Wc (x_t2 (List.mem_of_getElem? (i := 45) rfl) rfl), (x_t1 (List.mem_of_getElem? (i := 1) rfl) rfl), ⟨by decide +kernel, by decide +kernel, by decide +kernel⟩, fun h => absurd h (by decide), fun _ => ⟨(x_t2 (List.mem_of_getElem? (i := 43) rfl) rfl), (x_t2 (List.mem_of_getElem? (i := 44) rfl) rfl), _, _, rfl⟩, fun h => absurd h (by decide), fun h => absurd h (by decide)⟩
theorem zm_25 : z_mok 25 0 0 1 1 := ⟨none, x_Wc (x_t2 (List.mem_of_getElem? (i := 48) rfl) rfl), (x_t1 (List.mem_of_getElem? (i := 1) rfl) rfl), ⟨by decide +kernel, by decide +kernel, by decide +kernel⟩, fun _ => (x_t2 (List.mem_of_getElem? (i := 47) rfl) rfl), fun h => absurd h (by decide), fun h => absurd h (by decide), fun h => absurd h (by decide)⟩
theorem zm_26 : z_mok 26 1 5 2 2 := ⟨none, x_Wc (x_t2 (List.mem_of_getElem? (i := 116) rfl) rfl), (x_t1 (List.mem_of_getElem? (i := 4) rfl) rfl), ⟨by decide +kernel, by decide +kernel, by decide +kernel⟩, fun h => absurd h (by decide), fun _ => ⟨(x_t2 (List.mem_of_getElem? (i := 114) rfl) rfl), (x_t2 (List.mem_of_getElem? (i := 115) rfl) rfl), _, _, rfl⟩, fun h => absurd h (by decide), fun h => absurd h (by decide)⟩
theorem zm_27 : z_mok 27 1 3 1 1 := ⟨none, x_Wc (x_t2 (List.mem_of_getElem? (i := 120) rfl) rfl), (x_t1 (List.mem_of_getElem? (i := 5) rfl) rfl), ⟨by decide +kernel, by decide +kernel, by decide +kernel⟩, fun h => absurd h (by decide), fun _ => ⟨(x_t2 (List.mem_of_getElem? (i := 118) rfl) rfl), (x_t2 (List.mem_of_getElem? (i := 119) rfl) rfl), _, _, rfl⟩, fun h => absurd h (by decide), fun h => absurd h (by decide)⟩
theorem zm_28 : z_mok 28 1 2 1 1 := ⟨none, x_Wc (x_t2 (List.mem_of_getElem? (i := 124) rfl) rfl), (x_t1 (List.mem_of_getElem? (i := 2) rfl) rfl), ⟨by decide +kernel, by decide +kernel, by decide +kernel⟩, fun h => absurd h (by decide), fun _ => ⟨(x_t2 (List.mem_of_getElem? (i := 122) rfl) rfl), (x_t2 (List.mem_of_getElem? (i := 123) rfl) rfl), _, _, rfl⟩, fun h => absurd h (by decide), fun h => absurd h (by decide)⟩
theorem zm_29 : z_mok 29 1 5 3 4 := ⟨none, x_Wc (x_t2 (List.mem_of_getElem? (i := 129) rfl) rfl), (x_t1 (List.mem_of_getElem? (i := 4) rfl) rfl), ⟨by decide +kernel, by decide +kernel, by decide +kernel⟩, fun h => absurd h (by decide), fun _ => ⟨(x_t2 (List.mem_of_getElem? (i := 128) rfl) rfl), (x_s1 (n := 10) (List.mem_of_getElem? (i := 2) rfl)), _, _, rfl⟩, fun h => absurd h (by decide), fun h => absurd h (by decide)⟩
theorem zm_30 : z_mok 30 1 5 1 1 := ⟨none, x_Wc (x_t2 (List.mem_of_getElem? (i := 133) rfl) rfl), (x_t1 (List.mem_of_getElem? (i := 4) rfl) rfl), ⟨by decide +kernel, by decide +kernel, by decide +kernel⟩, fun h => absurd h (by decide), fun _ => ⟨(x_t2 (List.mem_of_getElem? (i := 132) rfl) rfl), (x_s1 (n := 10) (List.mem_of_getElem? (i := 3) rfl)), _, _, rfl⟩, fun h => absurd h (by decide), fun h => absurd h (by decide)⟩
theorem zm_31 : z_mok 31 1 5 2 5 := ⟨none, x_Wc (x_t2 (List.mem_of_getElem? (i := 138) rfl) rfl), (x_t1 (List.mem_of_getElem? (i := 4) rfl) rfl), ⟨by decide +kernel, by decide +kernel, by decide +kernel⟩, fun h => absurd h (by decide), fun _ => ⟨(x_t2 (List.mem_of_getElem? (i := 137) rfl) rfl), (x_s1 (n := 10) (List.mem_of_getElem? (i := 4) rfl)), _, _, rfl⟩, fun h => absurd h (by decide), fun h => absurd h (by decide)⟩
theorem zm_32 : z_mok 32 1 5 2 2 := ⟨none, x_Wc (x_t2 (List.mem_of_getElem? (i := 142) rfl) rfl), (x_t1 (List.mem_of_getElem? (i := 4) rfl) rfl), ⟨by decide +kernel, by decide +kernel, by decide +kernel⟩, fun h => absurd h (by decide), fun _ => ⟨(x_t2 (List.mem_of_getElem? (i := 141) rfl) rfl), (x_s1 (n := 10) (List.mem_of_getElem? (i := 5) rfl)), _, _, rfl⟩, fun h => absurd h (by decide), fun h => absurd h (by decide)⟩
theorem zm_33 : z_mok 33 1 5 4 6 := ⟨(some FieldType.int), x_Wc (x_t2 (List.mem_of_getElem? (i := 161) rfl) rfl), (x_t1 (List.mem_of_getElem? (i := 4) rfl) rfl), ⟨by decide +kernel, by decide +kernel, by decide +kernel⟩, fun h => absurd h (by decide), fun _ => ⟨(x_t2 (List.mem_of_getElem? (i := 160) rfl) rfl), (x_s1 (n := 10) (List.mem_of_getElem? (i := 6) rfl)), _, _, rfl⟩, fun h => absurd h (by decide), fun h => absurd h (by decide)⟩
theorem zm_34 : z_mok 34 1 2 1 1 := ⟨(some FieldType.boolean), x_Wc (x_t2 (List.mem_of_getElem? (i := 165) rfl) rfl), (x_t1 (List.mem_of_getElem? (i := 2) rfl) rfl), ⟨by decide +kernel, by decide +kernel, by decide +kernel⟩, fun h => absurd h (by decide), fun _ => ⟨(x_t2 (List.mem_of_getElem? (i := 163) rfl) rfl), (x_t2 (List.mem_of_getElem? (i := 164) rfl) rfl), _, _, rfl⟩, fun h => absurd h (by decide), fun h => absurd h (by decide)⟩
theorem zm_35 : z_mok 35 1 2 3 5 := ⟨(some FieldType.int), x_Wc (x_t2 (List.mem_of_getElem? (i := 169) rfl) rfl), (x_t1 (List.mem_of_getElem? (i := 2) rfl) rfl), ⟨by decide +kernel, by decide +kernel, by decide +kernel⟩, fun h => absurd h (by decide), fun _ => ⟨(x_t2 (List.mem_of_getElem? (i := 167) rfl) rfl), (x_t2 (List.mem_of_getElem? (i := 168) rfl) rfl), _, _, rfl⟩, fun h => absurd h (by decide), fun h => absurd h (by decide)⟩
theorem zm_36 : z_mok 36 1 5 3 4 := ⟨none, x_Wc (x_t2 (List.mem_of_getElem? (i := 173) rfl) rfl), (x_t1 (List.mem_of_getElem? (i := 4) rfl) rfl), ⟨by decide +kernel, by decide +kernel, by decide +kernel⟩, fun h => absurd h (by decide), fun _ => ⟨(x_t2 (List.mem_of_getElem? (i := 172) rfl) rfl), (x_s1 (n := 10) (List.mem_of_getElem? (i := 7) rfl)), _, _, rfl⟩, fun h => absurd h (by decide), fun h => absurd h (by decide)⟩
theorem zm_37 : z_mok 37 1 5 1 1 := ⟨(some FieldType.boolean), x_Wc (x_t2 (List.mem_of_getElem? (i := 177) rfl) rfl), (x_t1 (List.mem_of_getElem? (i := 4) rfl) rfl), ⟨by decide +kernel, by decide +kernel, by decide +kernel⟩, fun h => absurd h (by decide), fun _ => ⟨(x_t2 (List.mem_of_getElem? (i := 176) rfl) rfl), (x_s1 (n := 10) (List.mem_of_getElem? (i := 8) rfl)), _, _, rfl⟩, fun h => absurd h (by decide), fun h => absurd h (by decide)⟩
theorem zm_38 : z_mok 38 1 5 2 2 := ⟨none, x_Wc (x_t2 (List.mem_of_getElem? (i := 181) rfl) rfl), (x_t1 (List.mem_of_getElem? (i := 4) rfl) rfl), ⟨by decide +kernel, by decide +kernel, by decide +kernel⟩, fun h => absurd h (by decide), fun _ => ⟨(x_t2 (List.mem_of_getElem? (i := 180) rfl) rfl), (x_s1 (n := 10) (List.mem_of_getElem? (i := 9) rfl)), _, _, rfl⟩, fun h => absurd h (by decide), fun h => absurd h (by decide)⟩
theorem zm_39 : z_mok 39 1 2 4 4 := ⟨none, x_Wc (x_t2 (List.mem_of_getElem? (i := 185) rfl) rfl), (x_t1 (List.mem_of_getElem? (i := 2) rfl) rfl), ⟨by decide +kernel, by decide +kernel, by decide +kernel⟩, fun h => absurd h (by decide), fun _ => ⟨(x_t2 (List.mem_of_getElem? (i := 183) rfl) rfl), (x_t2 (List.mem_of_getElem? (i := 184) rfl) rfl), _, _, rfl⟩, fun h => absurd h (by decide), fun h => absurd h (by decide)⟩
theorem zm_40 : z_mok 40 1 5 2 3 := ⟨none, x_Wc (x_t2 (List.mem_of_getElem? (i := 189) rfl) rfl), (x_t1 (List.mem_of_getElem? (i := 4) rfl) rfl), ⟨by decide +kernel, by decide +kernel, by decide +kernel⟩, fun h => absurd h (by decide), fun _ => ⟨(x_t2 (List.mem_of_getElem? (i := 188) rfl) rfl), (x_s1 (n := 10) (List.mem_of_getElem? (i := 10) rfl)), _, _, rfl⟩, fun h => absurd h (by decide), fun h => absurd h (by decide)⟩
theorem zm_41 : z_mok 41 1 5 2 2 := ⟨none, x_Wc (x_t2 (List.mem_of_getElem? (i := 193) rfl) rfl), (x_t1 (List.mem_of_getElem? (i := 4) rfl) rfl), ⟨by decide +kernel, by decide +kernel, by decide +kernel⟩, fun h => absurd h (by decide), fun _ => ⟨(x_t2 (List.mem_of_getElem? (i := 192) rfl) rfl), (x_s1 (n := 10) (List.mem_of_getElem? (i := 11) rfl)), _, _, rfl⟩, fun h => absurd h (by decide), fun h => absurd h (by decide)⟩
theorem zm_42 : z_mok 42 1 5 1 4 := ⟨(some FieldType.int), x_Wc (x_t2 (List.mem_of_getElem? (i := 198) rfl) rfl), (x_t1 (List.mem_of_getElem? (i := 4) rfl) rfl), ⟨by decide +kernel, by decide +kernel, by decide +kernel⟩, fun h => absurd h (by decide), fun _ => ⟨(x_t2 (List.mem_of_getElem? (i := 197) rfl) rfl), (x_s1 (n := 10) (List.mem_of_getElem? (i := 12) rfl)), _, _, rfl⟩, fun h => absurd h (by decide), fun h => absurd h (by decide)⟩
theorem zm_43 : z_mok 43 1 5 2 2 := ⟨(some FieldType.int), x_Wc (x_t2 (List.mem_of_getElem? (i := 202) rfl) rfl), (x_t1 (List.mem_of_getElem? (i := 4) rfl) rfl), ⟨by decide +kernel, by decide +kernel, by decide +kernel⟩, fun h => absurd h (by decide), fun _ => ⟨(x_t2 (List.mem_of_getElem? (i := 201) rfl) rfl), (x_s1 (n := 10) (List.mem_of_getElem? (i := 13) rfl)), _, _, rfl⟩, fun h => absurd h (by decide), fun h => absurd h (by decide)⟩
theorem zm_44 : z_mok 44 1 5 2 2 := ⟨none, x_Wc (x_t2 (List.mem_of_getElem? (i := 206) rfl) rfl), (x_t1 (List.mem_of_getElem? (i := 4) rfl) rfl), ⟨by decide +kernel, by decide +kernel, by decide +kernel⟩, fun h => absurd h (by decide), fun _ => ⟨(x_t2 (List.mem_of_getElem? (i := 205) rfl) rfl), (x_s1 (n := 10) (List.mem_of_getElem? (i := 14) rfl)), _, _, rfl⟩, fun h => absurd h (by decide), fun h => absurd h (by decide)⟩
theorem zm_45 : z_mok 45 0 3 4 5 := ⟨(some FieldType.boolean), x_Wc (x_t2 (List.mem_of_getElem? (i := 209) rfl) rfl), (x_t1 (List.mem_of_getElem? (i := 5) rfl) rfl), ⟨by decide +kernel, by decide +kernel, by decide +kernel⟩, fun _ => (x_t2 (List.mem_of_getElem? (i := 208) rfl) rfl), fun h => absurd h (by decide), fun h => absurd h (by decide), fun h => absurd h (by decide)⟩
theorem zm_46 : z_mok 46 1 3 3 3 := ⟨none, x_Wc (x_t2 (List.mem_of_getElem? (i := 214) rfl) rfl), (x_t1 (List.mem_of_getElem? (i := 5) rfl) rfl), ⟨by decide +kernel, by decide +kernel, by decide +kernel⟩, fun h => absurd h (by decide), fun _ => ⟨(x_t2 (List.mem_of_getElem? (i := 212) rfl) rfl), (x_t2 (List.mem_of_getElem? (i := 213) rfl) rfl), _, _, rfl⟩, fun h => absurd h (by decide), fun h => absurd h (by decide)⟩
theorem zm_47 : z_mok 47 1 1 4 5 := ⟨(some FieldType.boolean), x_Wc (x_t2 (List.mem_of_getElem? (i := 220) rfl) rfl), (x_t1 (List.mem_of_getElem? (i := 3) rfl) rfl), ⟨by decide +kernel, by decide +kernel, by decide +kernel⟩, fun h => absurd h (by decide), fun _ => ⟨(x_t2 (List.mem_of_getElem? (i := 218) rfl) rfl), (x_t2 (List.mem_of_getElem? (i := 219) rfl) rfl), _, _, rfl⟩, fun h => absurd h (by decide), fun h => absurd h (by decide)⟩
theorem zm_48 : z_mok 48 3 99 1 1 := ⟨(some FieldType.int), x_Wc (x_t2 (List.mem_of_getElem? (i := 224) rfl) rfl), (x_t1 (List.mem_of_getElem? (i := 14) rfl) rfl), ⟨by decide +kernel, by decide +kernel, by decide +kernel⟩, fun h => absurd h (by decide), fun h => absurd h (by decide), fun h => absurd h (by decide), fun _ => ⟨(x_t2 (List.mem_of_getElem? (i := 222) rfl) rfl), (x_t2 (List.mem_of_getElem? (i := 223) rfl) rfl), rfl⟩⟩
theorem zm_49 : z_mok 49 3 99 2 2 := ⟨(some FieldType.char), x_Wc (x_t2 (List.mem_of_getElem? (i := 235) rfl) rfl), (x_t1 (List.mem_of_getElem? (i := 14) rfl) rfl), ⟨by decide +kernel, by decide +kernel, by decide +kernel⟩, fun h => absurd h (by decide), fun h => absurd h (by decide), fun h => absurd h (by decide), fun _ => ⟨(x_t2 (List.mem_of_getElem? (i := 233) rfl) rfl), (x_t2 (List.mem_of_getElem? (i := 234) rfl) rfl), rfl⟩⟩
theorem zm_50 : z_mok 50 1 5 3 4 := ⟨none, x_Wc (x_t3 (List.mem_of_getElem? (i := 33) rfl) rfl), (x_t1 (List.mem_of_getElem? (i := 4) rfl) rfl), ⟨by decide +kernel, by decide +kernel, by decide +kernel⟩, fun h => absurd h (by decide), fun _ => ⟨(x_t3 (List.mem_of_getElem? (i := 32) rfl) rfl), (x_s1 (n := 10) (List.mem_of_getElem? (i := 15) rfl)), _, _, rfl⟩, fun h => absurd h (by decide), fun h => absurd h (by decide)⟩
theorem zm_51 : z_mok 51 1 5 2 8 := ⟨none, x_Wc (x_t3 (List.mem_of_getElem? (i := 37) rfl) rfl), (x_t1 (List.mem_of_getElem? (i := 4) rfl) rfl), ⟨by decide +kernel, by decide +kernel, by decide +kernel⟩, fun h => absurd h (by decide), fun _ => ⟨(x_t3 (List.mem_of_getElem? (i := 36) rfl) rfl), (x_s2 (n := 10) (List.mem_of_getElem? (i := 0) rfl)), _, _, rfl⟩, fun h => absurd h (by decide), fun h => absurd h (by decide)⟩
theorem zm_52 : z_mok 52 1 5 2 2 := ⟨none, x_Wc (x_t3 (List.mem_of_getElem? (i := 43) rfl) rfl), (x_t1 (List.mem_of_getElem? (i := 4) rfl) rfl), ⟨by decide +kernel, by decide +kernel, by decide +kernel⟩, fun h => absurd h (by decide), fun _ => ⟨(x_t3 (List.mem_of_getElem? (i := 42) rfl) rfl), (x_s2 (n := 10) (List.mem_of_getElem? (i := 1) rfl)), _, _, rfl⟩, fun h => absurd h (by decide), fun h => absurd h (by decide)⟩
theorem zm_53 : z_mok 53 1 5 3 7 := ⟨none, x_Wc (x_t3 (List.mem_of_getElem? (i := 47) rfl) rfl), (x_t1 (List.mem_of_getElem? (i := 4) rfl) rfl), ⟨by decide +kernel, by decide +kernel, by decide +kernel⟩, fun h => absurd h (by decide), fun _ => ⟨(x_t3 (List.mem_of_getElem? (i := 46) rfl) rfl), (x_s2 (n := 10) (List.mem_of_getElem? (i := 2) rfl)), _, _, rfl⟩, fun h => absurd h (by decide), fun h => absurd h (by decide)⟩
theorem zm_54 : z_mok 54 1 5 3 3 := ⟨(some FieldType.int), x_Wc (x_t3 (List.mem_of_getElem? (i := 51) rfl) rfl), (x_t1 (List.mem_of_getElem? (i := 4) rfl) rfl), ⟨by decide +kernel, by decide +kernel, by decide +kernel⟩, fun h => absurd h (by decide), fun _ => ⟨(x_t3 (List.mem_of_getElem? (i := 50) rfl) rfl), (x_s2 (n := 10) (List.mem_of_getElem? (i := 3) rfl)), _, _, rfl⟩, fun h => absurd h (by decide), fun h => absurd h (by decide)⟩
theorem zm_55 : z_mok 55 1 2 4 4 := ⟨none, x_Wc (x_t3 (List.mem_of_getElem? (i := 59) rfl) rfl), (x_t1 (List.mem_of_getElem? (i := 2) rfl) rfl), ⟨by decide +kernel, by decide +kernel, by decide +kernel⟩, fun h => absurd h (by decide), fun _ => ⟨(x_t3 (List.mem_of_getElem? (i := 57) rfl) rfl), (x_t3 (List.mem_of_getElem? (i := 58) rfl) rfl), _, _, rfl⟩, fun h => absurd h (by decide), fun h => absurd h (by decide)⟩
theorem zm_56 : z_mok 56 1 2 2 2 := ⟨none, x_Wc (x_t3 (List.mem_of_getElem? (i := 63) rfl) rfl), (x_t1 (List.mem_of_getElem? (i := 2) rfl) rfl), ⟨by decide +kernel, by decide +kernel, by decide +kernel⟩, fun h => absurd h (by decide), fun _ => ⟨(x_t3 (List.mem_of_getElem? (i := 61) rfl) rfl), (x_t3 (List.mem_of_getElem? (i := 62) rfl) rfl), _, _, rfl⟩, fun h => absurd h (by decide), fun h => absurd h (by decide)⟩
theorem zm_57 : z_mok 57 1 5 3 4 := ⟨none, x_Wc (x_t3 (List.mem_of_getElem? (i := 67) rfl) rfl), (x_t1 (List.mem_of_getElem? (i := 4) rfl) rfl), ⟨by decide +kernel, by decide +kernel, by decide +kernel⟩, fun h => absurd h (by decide), fun _ => ⟨(x_t3 (List.mem_of_getElem? (i := 66) rfl) rfl), (x_s2 (n := 10) (List.mem_of_getElem? (i := 4) rfl)), _, _, rfl⟩, fun h => absurd h (by decide), fun h => absurd h (by decide)⟩
theorem zm_58 : z_mok 58 1 5 1 4 := ⟨none, x_Wc (x_t3 (List.mem_of_getElem? (i := 71) rfl) rfl), (x_t1 (List.mem_of_getElem? (i := 4) rfl) rfl), ⟨by decide +kernel, by decide +kernel, by decide +kernel⟩, fun h => absurd h (by decide), fun _ => ⟨(x_t3 (List.mem_of_getElem? (i := 70) rfl) rfl), (x_s2 (n := 10) (List.mem_of_getElem? (i := 5) rfl)), _, _, rfl⟩, fun h => absurd h (by decide), fun h => absurd h (by decide)⟩
theorem zm_59 : z_mok 59 1 5 3 4 := ⟨none, x_Wc (x_t3 (List.mem_of_getElem? (i := 75) rfl) rfl), (x_t1 (List.mem_of_getElem? (i := 4) rfl) rfl), ⟨by decide +kernel, by decide +kernel, by decide +kernel⟩, fun h => absurd h (by decide), fun _ => ⟨(x_t3 (List.mem_of_getElem? (i := 74) rfl) rfl), (x_s2 (n := 10) (List.mem_of_getElem? (i := 6) rfl)), _, _, rfl⟩, fun h => absurd h (by decide), fun h => absurd h (by decide)⟩
theorem zm_60 : z_mok 60 1 5 2 4 := ⟨none, x_Wc (x_t3 (List.mem_of_getElem? (i := 79) rfl) rfl), (x_t1 (List.mem_of_getElem? (i := 4) rfl) rfl), ⟨by decide +kernel, by decide +kernel, by decide +kernel⟩, fun h => absurd h (by decide), fun _ => ⟨(x_t3 (List.mem_of_getElem? (i := 78) rfl) rfl), (x_s2 (n := 10) (List.mem_of_getElem? (i := 7) rfl)), _, _, rfl⟩, fun h => absurd h (by decide), fun h => absurd h (by decide)⟩
theorem zm_61 : z_mok 61 1 4 4 5 := ⟨(some FieldType.boolean), x_Wc (x_t3 (List.mem_of_getElem? (i := 83) rfl) rfl), (x_t1 (List.mem_of_getElem? (i := 6) rfl) rfl), ⟨by decide +kernel, by decide +kernel, by decide +kernel⟩, fun h => absurd h (by decide), fun _ => ⟨(x_t3 (List.mem_of_getElem? (i := 81) rfl) rfl), (x_t3 (List.mem_of_getElem? (i := 82) rfl) rfl), _, _, rfl⟩, fun h => absurd h (by decide), fun h => absurd h (by decide)⟩
theorem zm_62 : z_mok 62 0 0 1 1 := ⟨(some FieldType.boolean), x_Wc (x_t3 (List.mem_of_getElem? (i := 87) rfl) rfl), (x_t1 (List.mem_of_getElem? (i := 1) rfl) rfl), ⟨by decide +kernel, by decide +kernel, by decide +kernel⟩, fun _ => (x_t3 (List.mem_of_getElem? (i := 86) rfl) rfl), fun h => absurd h (by decide), fun h => absurd h (by decide), fun h => absurd h (by decide)⟩
theorem zm_63 : z_mok 63 1 4 2 2 := ⟨none, x_Wc (x_t3 (List.mem_of_getElem? (i := 91) rfl) rfl), (x_t1 (List.mem_of_getElem? (i := 6) rfl) rfl), ⟨by decide +kernel, by decide +kernel, by decide +kernel⟩, fun h => absurd h (by decide), fun _ => ⟨(x_t3 (List.mem_of_getElem? (i := 90) rfl) rfl), (x_s2 (n := 3) (List.mem_of_getElem? (i := 8) rfl)), _, _, rfl⟩, fun h => absurd h (by decide), fun h => absurd h (by decide)⟩
theorem zm_64 : z_mok 64 0 0 1 1 := ⟨(some FieldType.boolean), x_Wc (x_t3 (List.mem_of_getElem? (i := 98) rfl) rfl), (x_t1 (List.mem_of_getElem? (i := 1) rfl) rfl), ⟨by decide +kernel, by decide +kernel, by decide +kernel⟩, fun _ => (x_t3 (List.mem_of_getElem? (i := 97) rfl) rfl), fun h => absurd h (by decide), fun h => absurd h (by decide), fun h => absurd h (by decide)⟩
theorem zm_65 : z_mok 65 1 5 1 3 := ⟨none, x_Wc (x_t3 (List.mem_of_getElem? (i := 102) rfl) rfl), (x_t1 (List.mem_of_getElem? (i := 4) rfl) rfl), ⟨by decide +kernel, by decide +kernel, by decide +kernel⟩, fun h => absurd h (by decide), fun _ => ⟨(x_t3 (List.mem_of_getElem? (i := 101) rfl) rfl), (x_s2 (n := 10) (List.mem_of_getElem? (i := 9) rfl)), _, _, rfl⟩, fun h => absurd h (by decide), fun h => absurd h (by decide)⟩
theorem zm_66 : z_mok 66 1 5 1 2 := ⟨none, x_Wc (x_t3 (List.mem_of_getElem? (i := 107) rfl) rfl), (x_t1 (List.mem_of_getElem? (i := 4) rfl) rfl), ⟨by decide +kernel, by decide +kernel, by decide +kernel⟩, fun h => absurd h (by decide), fun _ => ⟨(x_t3 (List.mem_of_getElem? (i := 106) rfl) rfl), (x_s2 (n := 10) (List.mem_of_getElem? (i := 10) rfl)), _, _, rfl⟩, fun h => absurd h (by decide), fun h => absurd h (by decide)⟩
theorem zm_67 : z_mok 67 1 5 2 3 := ⟨none, x_Wc (x_t3 (List.mem_of_getElem? (i := 111) rfl) rfl), (x_t1 (List.mem_of_getElem? (i := 4) rfl) rfl), ⟨by decide +kernel, by decide +kernel, by decide +kernel⟩, fun h => absurd h (by decide), fun _ => ⟨(x_t3 (List.mem_of_getElem? (i := 110) rfl) rfl), (x_s2 (n := 10) (List.mem_of_getElem? (i := 11) rfl)), _, _, rfl⟩, fun h => absurd h (by decide), fun h => absurd h (by decide)⟩
theorem zm_68 : z_mok 68 1 5 2 3 := ⟨none, x_Wc (x_t3 (List.mem_of_getElem? (i := 116) rfl) rfl), (x_t1 (List.mem_of_getElem? (i := 4) rfl) rfl), ⟨by decide +kernel, by decide +kernel, by decide +kernel⟩, fun h => absurd h (by decide), fun _ => ⟨(x_t3 (List.mem_of_getElem? (i := 115) rfl) rfl), (x_s2 (n := 10) (List.mem_of_getElem? (i := 12) rfl)), _, _, rfl⟩, fun h => absurd h (by decide), fun h => absurd h (by decide)⟩
theorem zm_69 : z_mok 69 1 5 2 3 := ⟨(some (FieldType.object "RollingTransit$Tree")), x_Wc (x_t3 (List.mem_of_getElem? (i := 124) rfl) rfl), (x_t1 (List.mem_of_getElem? (i := 4) rfl) rfl), ⟨by decide +kernel, by decide +kernel, by decide +kernel⟩, fun h => absurd h (by decide), fun _ => ⟨(x_t3 (List.mem_of_getElem? (i := 122) rfl) rfl), (x_t3 (List.mem_of_getElem? (i := 123) rfl) rfl), _, _, rfl⟩, fun h => absurd h (by decide), fun h => absurd h (by decide)⟩
theorem zm_70 : z_mok 70 0 8 3 4 := ⟨(some FieldType.int), x_Ww (x_t3 (List.mem_of_getElem? (i := 128) rfl) rfl), (x_t1 (List.mem_of_getElem? (i := 0) rfl) rfl), ⟨by decide +kernel, by decide +kernel, by decide +kernel⟩, fun _ => (x_t3 (List.mem_of_getElem? (i := 127) rfl) rfl), fun h => absurd h (by decide), fun h => absurd h (by decide), fun h => absurd h (by decide)⟩
theorem zm_71 : z_mok 71 1 0 2 2 := ⟨(some FieldType.int), x_Wc (x_t3 (List.mem_of_getElem? (i := 134) rfl) rfl), (x_t1 (List.mem_of_getElem? (i := 1) rfl) rfl), ⟨by decide +kernel, by decide +kernel, by decide +kernel⟩, fun h => absurd h (by decide), fun _ => ⟨(x_t3 (List.mem_of_getElem? (i := 132) rfl) rfl), (x_t3 (List.mem_of_getElem? (i := 133) rfl) rfl), _, _, rfl⟩, fun h => absurd h (by decide), fun h => absurd h (by decide)⟩
theorem zm_72 : z_mok 72 1 6 2 2 := ⟨none, x_Wc (x_t3 (List.mem_of_getElem? (i := 153) rfl) rfl), (x_t1 (List.mem_of_getElem? (i := 7) rfl) rfl), ⟨by decide +kernel, by decide +kernel, by decide +kernel⟩, fun h => absurd h (by decide), fun _ => ⟨(x_t3 (List.mem_of_getElem? (i := 151) rfl) rfl), (x_t3 (List.mem_of_getElem? (i := 152) rfl) rfl), _, _, rfl⟩, fun h => absurd h (by decide), fun h => absurd h (by decide)⟩
theorem zm_73 : z_mok 73 1 6 2 3 := ⟨none, x_Wc (x_t3 (List.mem_of_getElem? (i := 160) rfl) rfl), (x_t1 (List.mem_of_getElem? (i := 7) rfl) rfl), ⟨by decide +kernel, by decide +kernel, by decide +kernel⟩, fun h => absurd h (by decide), fun _ => ⟨(x_t3 (List.mem_of_getElem? (i := 159) rfl) rfl), (x_s2 (n := 5) (List.mem_of_getElem? (i := 13) rfl)), _, _, rfl⟩, fun h => absurd h (by decide), fun h => absurd h (by decide)⟩
theorem zm_74 : z_mok 74 1 6 2 2 := ⟨none, x_Wc (x_t3 (List.mem_of_getElem? (i := 166) rfl) rfl), (x_t1 (List.mem_of_getElem? (i := 7) rfl) rfl), ⟨by decide +kernel, by decide +kernel, by decide +kernel⟩, fun h => absurd h (by decide), fun _ => ⟨(x_t3 (List.mem_of_getElem? (i := 165) rfl) rfl), (x_s2 (n := 5) (List.mem_of_getElem? (i := 14) rfl)), _, _, rfl⟩, fun h => absurd h (by decide), fun h => absurd h (by decide)⟩
theorem zm_75 : z_mok 75 1 6 3 8 := ⟨none, x_Wc (x_t3 (List.mem_of_getElem? (i := 186) rfl) rfl), (x_t1 (List.mem_of_getElem? (i := 7) rfl) rfl), ⟨by decide +kernel, by decide +kernel, by decide +kernel⟩, fun h => absurd h (by decide), fun _ => ⟨(x_t3 (List.mem_of_getElem? (i := 185) rfl) rfl), (x_s2 (n := 5) (List.mem_of_getElem? (i := 15) rfl)), _, _, rfl⟩, fun h => absurd h (by decide), fun h => absurd h (by decide)⟩
theorem zm_76 : z_mok 76 1 6 2 5 := ⟨none, x_Wc (x_t3 (List.mem_of_getElem? (i := 195) rfl) rfl), (x_t1 (List.mem_of_getElem? (i := 7) rfl) rfl), ⟨by decide +kernel, by decide +kernel, by decide +kernel⟩, fun h => absurd h (by decide), fun _ => ⟨(x_t3 (List.mem_of_getElem? (i := 194) rfl) rfl), (x_s3 (n := 5) (List.mem_of_getElem? (i := 0) rfl)), _, _, rfl⟩, fun h => absurd h (by decide), fun h => absurd h (by decide)⟩
theorem zm_77 : z_mok 77 1 6 2 6 := ⟨(some FieldType.int), x_Wc (x_t3 (List.mem_of_getElem? (i := 199) rfl) rfl), (x_t1 (List.mem_of_getElem? (i := 7) rfl) rfl), ⟨by decide +kernel, by decide +kernel, by decide +kernel⟩, fun h => absurd h (by decide), fun _ => ⟨(x_t3 (List.mem_of_getElem? (i := 198) rfl) rfl), (x_s3 (n := 5) (List.mem_of_getElem? (i := 1) rfl)), _, _, rfl⟩, fun h => absurd h (by decide), fun h => absurd h (by decide)⟩
theorem zm_78 : z_mok 78 1 6 4 5 := ⟨none, x_Wc (x_t3 (List.mem_of_getElem? (i := 205) rfl) rfl), (x_t1 (List.mem_of_getElem? (i := 7) rfl) rfl), ⟨by decide +kernel, by decide +kernel, by decide +kernel⟩, fun h => absurd h (by decide), fun _ => ⟨(x_t3 (List.mem_of_getElem? (i := 204) rfl) rfl), (x_s3 (n := 5) (List.mem_of_getElem? (i := 2) rfl)), _, _, rfl⟩, fun h => absurd h (by decide), fun h => absurd h (by decide)⟩
theorem zm_79 : z_mok 79 1 6 2 3 := ⟨none, x_Wc (x_t3 (List.mem_of_getElem? (i := 210) rfl) rfl), (x_t1 (List.mem_of_getElem? (i := 7) rfl) rfl), ⟨by decide +kernel, by decide +kernel, by decide +kernel⟩, fun h => absurd h (by decide), fun _ => ⟨(x_t3 (List.mem_of_getElem? (i := 209) rfl) rfl), (x_s3 (n := 5) (List.mem_of_getElem? (i := 3) rfl)), _, _, rfl⟩, fun h => absurd h (by decide), fun h => absurd h (by decide)⟩
theorem zm_80 : z_mok 80 1 6 2 5 := ⟨none, x_Wc (x_t3 (List.mem_of_getElem? (i := 217) rfl) rfl), (x_t1 (List.mem_of_getElem? (i := 7) rfl) rfl), ⟨by decide +kernel, by decide +kernel, by decide +kernel⟩, fun h => absurd h (by decide), fun _ => ⟨(x_t3 (List.mem_of_getElem? (i := 216) rfl) rfl), (x_s3 (n := 5) (List.mem_of_getElem? (i := 4) rfl)), _, _, rfl⟩, fun h => absurd h (by decide), fun h => absurd h (by decide)⟩
theorem zm_81 : z_mok 81 1 6 2 3 := ⟨none, x_Wc (x_t3 (List.mem_of_getElem? (i := 223) rfl) rfl), (x_t1 (List.mem_of_getElem? (i := 7) rfl) rfl), ⟨by decide +kernel, by decide +kernel, by decide +kernel⟩, fun h => absurd h (by decide), fun _ => ⟨(x_t3 (List.mem_of_getElem? (i := 222) rfl) rfl), (x_s3 (n := 5) (List.mem_of_getElem? (i := 5) rfl)), _, _, rfl⟩, fun h => absurd h (by decide), fun h => absurd h (by decide)⟩
theorem zm_82 : z_mok 82 1 6 2 3 := ⟨none, x_Wc (x_t3 (List.mem_of_getElem? (i := 230) rfl) rfl), (x_t1 (List.mem_of_getElem? (i := 7) rfl) rfl), ⟨by decide +kernel, by decide +kernel, by decide +kernel⟩, fun h => absurd h (by decide), fun _ => ⟨(x_t3 (List.mem_of_getElem? (i := 229) rfl) rfl), (x_s3 (n := 5) (List.mem_of_getElem? (i := 6) rfl)), _, _, rfl⟩, fun h => absurd h (by decide), fun h => absurd h (by decide)⟩
theorem zm_83 : z_mok 83 1 6 3 6 := ⟨none, x_Wc (x_t3 (List.mem_of_getElem? (i := 234) rfl) rfl), (x_t1 (List.mem_of_getElem? (i := 7) rfl) rfl), ⟨by decide +kernel, by decide +kernel, by decide +kernel⟩, fun h => absurd h (by decide), fun _ => ⟨(x_t3 (List.mem_of_getElem? (i := 233) rfl) rfl), (x_s3 (n := 5) (List.mem_of_getElem? (i := 7) rfl)), _, _, rfl⟩, fun h => absurd h (by decide), fun h => absurd h (by decide)⟩
theorem zm_84 : z_mok 84 1 3 4 5 := ⟨(some FieldType.int), x_Wc (x_t3 (List.mem_of_getElem? (i := 239) rfl) rfl), (x_t1 (List.mem_of_getElem? (i := 5) rfl) rfl), ⟨by decide +kernel, by decide +kernel, by decide +kernel⟩, fun h => absurd h (by decide), fun _ => ⟨(x_t3 (List.mem_of_getElem? (i := 237) rfl) rfl), (x_t3 (List.mem_of_getElem? (i := 238) rfl) rfl), _, _, rfl⟩, fun h => absurd h (by decide), fun h => absurd h (by decide)⟩
theorem zm_85 : z_mok 85 1 6 2 4 := ⟨none, x_Wc (x_t4 (List.mem_of_getElem? (i := 4) rfl) rfl), (x_t1 (List.mem_of_getElem? (i := 7) rfl) rfl), ⟨by decide +kernel, by decide +kernel, by decide +kernel⟩, fun h => absurd h (by decide), fun _ => ⟨(x_t4 (List.mem_of_getElem? (i := 3) rfl) rfl), (x_s3 (n := 5) (List.mem_of_getElem? (i := 8) rfl)), _, _, rfl⟩, fun h => absurd h (by decide), fun h => absurd h (by decide)⟩
theorem zm_86 : z_mok 86 1 6 2 2 := ⟨none, x_Wc (x_t4 (List.mem_of_getElem? (i := 8) rfl) rfl), (x_t1 (List.mem_of_getElem? (i := 7) rfl) rfl), ⟨by decide +kernel, by decide +kernel, by decide +kernel⟩, fun h => absurd h (by decide), fun _ => ⟨(x_t4 (List.mem_of_getElem? (i := 7) rfl) rfl), (x_s3 (n := 5) (List.mem_of_getElem? (i := 9) rfl)), _, _, rfl⟩, fun h => absurd h (by decide), fun h => absurd h (by decide)⟩
theorem zm_87 : z_mok 87 1 6 4 4 := ⟨none, x_Wc (x_t4 (List.mem_of_getElem? (i := 13) rfl) rfl), (x_t1 (List.mem_of_getElem? (i := 7) rfl) rfl), ⟨by decide +kernel, by decide +kernel, by decide +kernel⟩, fun h => absurd h (by decide), fun _ => ⟨(x_t4 (List.mem_of_getElem? (i := 12) rfl) rfl), (x_s3 (n := 5) (List.mem_of_getElem? (i := 10) rfl)), _, _, rfl⟩, fun h => absurd h (by decide), fun h => absurd h (by decide)⟩
theorem zm_88 : z_mok 88 1 6 3 5 := ⟨none, x_Wc (x_t4 (List.mem_of_getElem? (i := 17) rfl) rfl), (x_t1 (List.mem_of_getElem? (i := 7) rfl) rfl), ⟨by decide +kernel, by decide +kernel, by decide +kernel⟩, fun h => absurd h (by decide), fun _ => ⟨(x_t4 (List.mem_of_getElem? (i := 16) rfl) rfl), (x_s3 (n := 5) (List.mem_of_getElem? (i := 11) rfl)), _, _, rfl⟩, fun h => absurd h (by decide), fun h => absurd h (by decide)⟩
theorem zm_89 : z_mok 89 1 6 2 2 := ⟨none, x_Wc (x_t4 (List.mem_of_getElem? (i := 21) rfl) rfl), (x_t1 (List.mem_of_getElem? (i := 7) rfl) rfl), ⟨by decide +kernel, by decide +kernel, by decide +kernel⟩, fun h => absurd h (by decide), fun _ => ⟨(x_t4 (List.mem_of_getElem? (i := 20) rfl) rfl), (x_s3 (n := 5) (List.mem_of_getElem? (i := 12) rfl)), _, _, rfl⟩, fun h => absurd h (by decide), fun h => absurd h (by decide)⟩
theorem zm_90 : z_mok 90 1 6 4 5 := ⟨none, x_Wc (x_t4 (List.mem_of_getElem? (i := 26) rfl) rfl), (x_t1 (List.mem_of_getElem? (i := 7) rfl) rfl), ⟨by decide +kernel, by decide +kernel, by decide +kernel⟩, fun h => absurd h (by decide), fun _ => ⟨(x_t4 (List.mem_of_getElem? (i := 25) rfl) rfl), (x_s3 (n := 5) (List.mem_of_getElem? (i := 13) rfl)), _, _, rfl⟩, fun h => absurd h (by decide), fun h => absurd h (by decide)⟩
theorem zm_91 : z_mok 91 1 2 2 4 := ⟨(some FieldType.boolean), x_Wc (x_t4 (List.mem_of_getElem? (i := 31) rfl) rfl), (x_t1 (List.mem_of_getElem? (i := 2) rfl) rfl), ⟨by decide +kernel, by decide +kernel, by decide +kernel⟩, fun h => absurd h (by decide), fun _ => ⟨(x_t4 (List.mem_of_getElem? (i := 29) rfl) rfl), (x_t4 (List.mem_of_getElem? (i := 30) rfl) rfl), _, _, rfl⟩, fun h => absurd h (by decide), fun h => absurd h (by decide)⟩
theorem zm_92 : z_mok 92 1 6 3 5 := ⟨none, x_Wc (x_t4 (List.mem_of_getElem? (i := 35) rfl) rfl), (x_t1 (List.mem_of_getElem? (i := 7) rfl) rfl), ⟨by decide +kernel, by decide +kernel, by decide +kernel⟩, fun h => absurd h (by decide), fun _ => ⟨(x_t4 (List.mem_of_getElem? (i := 34) rfl) rfl), (x_s3 (n := 5) (List.mem_of_getElem? (i := 14) rfl)), _, _, rfl⟩, fun h => absurd h (by decide), fun h => absurd h (by decide)⟩
theorem zm_93 : z_mok 93 1 6 3 4 := ⟨none, x_Wc (x_t4 (List.mem_of_getElem? (i := 41) rfl) rfl), (x_t1 (List.mem_of_getElem? (i := 7) rfl) rfl), ⟨by decide +kernel, by decide +kernel, by decide +kernel⟩, fun h => absurd h (by decide), fun _ => ⟨(x_t4 (List.mem_of_getElem? (i := 40) rfl) rfl), (x_s3 (n := 5) (List.mem_of_getElem? (i := 15) rfl)), _, _, rfl⟩, fun h => absurd h (by decide), fun h => absurd h (by decide)⟩
theorem zm_94 : z_mok 94 1 6 2 3 := ⟨(some (FieldType.object "RollingTransit$Letters")), x_Wc (x_t4 (List.mem_of_getElem? (i := 46) rfl) rfl), (x_t1 (List.mem_of_getElem? (i := 7) rfl) rfl), ⟨by decide +kernel, by decide +kernel, by decide +kernel⟩, fun h => absurd h (by decide), fun _ => ⟨(x_t4 (List.mem_of_getElem? (i := 44) rfl) rfl), (x_t4 (List.mem_of_getElem? (i := 45) rfl) rfl), _, _, rfl⟩, fun h => absurd h (by decide), fun h => absurd h (by decide)⟩
theorem zm_95 : z_mok 95 0 8 3 4 := ⟨(some FieldType.int), x_Ww (x_t4 (List.mem_of_getElem? (i := 49) rfl) rfl), (x_t1 (List.mem_of_getElem? (i := 0) rfl) rfl), ⟨by decide +kernel, by decide +kernel, by decide +kernel⟩, fun _ => (x_t4 (List.mem_of_getElem? (i := 48) rfl) rfl), fun h => absurd h (by decide), fun h => absurd h (by decide), fun h => absurd h (by decide)⟩
theorem zm_96 : z_mok 96 1 0 2 2 := ⟨(some FieldType.int), x_Wc (x_t4 (List.mem_of_getElem? (i := 53) rfl) rfl), (x_t1 (List.mem_of_getElem? (i := 1) rfl) rfl), ⟨by decide +kernel, by decide +kernel, by decide +kernel⟩, fun h => absurd h (by decide), fun _ => ⟨(x_t4 (List.mem_of_getElem? (i := 51) rfl) rfl), (x_t4 (List.mem_of_getElem? (i := 52) rfl) rfl), _, _, rfl⟩, fun h => absurd h (by decide), fun h => absurd h (by decide)⟩
theorem zm_97 : z_mok 97 0 8 4 5 := ⟨(some FieldType.int), x_Ww (x_t4 (List.mem_of_getElem? (i := 56) rfl) rfl), (x_t1 (List.mem_of_getElem? (i := 0) rfl) rfl), ⟨by decide +kernel, by decide +kernel, by decide +kernel⟩, fun _ => (x_t4 (List.mem_of_getElem? (i := 55) rfl) rfl), fun h => absurd h (by decide), fun h => absurd h (by decide), fun h => absurd h (by decide)⟩
theorem zm_98 : z_mok 98 1 0 3 3 := ⟨(some FieldType.int), x_Wc (x_t4 (List.mem_of_getElem? (i := 60) rfl) rfl), (x_t1 (List.mem_of_getElem? (i := 1) rfl) rfl), ⟨by decide +kernel, by decide +kernel, by decide +kernel⟩, fun h => absurd h (by decide), fun _ => ⟨(x_t4 (List.mem_of_getElem? (i := 58) rfl) rfl), (x_t4 (List.mem_of_getElem? (i := 59) rfl) rfl), _, _, rfl⟩, fun h => absurd h (by decide), fun h => absurd h (by decide)⟩
theorem zm_99 : z_mok 99 1 0 3 3 := ⟨none, x_Wc (x_t4 (List.mem_of_getElem? (i := 64) rfl) rfl), (x_t1 (List.mem_of_getElem? (i := 1) rfl) rfl), ⟨by decide +kernel, by decide +kernel, by decide +kernel⟩, fun h => absurd h (by decide), fun _ => ⟨(x_t4 (List.mem_of_getElem? (i := 63) rfl) rfl), (x_s4 (n := 4) (List.mem_of_getElem? (i := 0) rfl)), _, _, rfl⟩, fun h => absurd h (by decide), fun h => absurd h (by decide)⟩
theorem zm_100 : z_mok 100 0 8 4 5 := ⟨(some FieldType.int), x_Ww (x_t4 (List.mem_of_getElem? (i := 67) rfl) rfl), (x_t1 (List.mem_of_getElem? (i := 0) rfl) rfl), ⟨by decide +kernel, by decide +kernel, by decide +kernel⟩, fun _ => (x_t4 (List.mem_of_getElem? (i := 66) rfl) rfl), fun h => absurd h (by decide), fun h => absurd h (by decide), fun h => absurd h (by decide)⟩
theorem zm_101 : z_mok 101 1 0 3 4 := ⟨(some FieldType.int), x_Wc (x_t4 (List.mem_of_getElem? (i := 71) rfl) rfl), (x_t1 (List.mem_of_getElem? (i := 1) rfl) rfl), ⟨by decide +kernel, by decide +kernel, by decide +kernel⟩, fun h => absurd h (by decide), fun _ => ⟨(x_t4 (List.mem_of_getElem? (i := 69) rfl) rfl), (x_t4 (List.mem_of_getElem? (i := 70) rfl) rfl), _, _, rfl⟩, fun h => absurd h (by decide), fun h => absurd h (by decide)⟩
theorem zm_102 : z_mok 102 0 8 4 5 := ⟨(some FieldType.int), x_Ww (x_t4 (List.mem_of_getElem? (i := 74) rfl) rfl), (x_t1 (List.mem_of_getElem? (i := 0) rfl) rfl), ⟨by decide +kernel, by decide +kernel, by decide +kernel⟩, fun _ => (x_t4 (List.mem_of_getElem? (i := 73) rfl) rfl), fun h => absurd h (by decide), fun h => absurd h (by decide), fun h => absurd h (by decide)⟩
theorem zm_103 : z_mok 103 1 0 3 3 := ⟨(some FieldType.long), x_Wc (x_t4 (List.mem_of_getElem? (i := 78) rfl) rfl), (x_t1 (List.mem_of_getElem? (i := 1) rfl) rfl), ⟨by decide +kernel, by decide +kernel, by decide +kernel⟩, fun h => absurd h (by decide), fun _ => ⟨(x_t4 (List.mem_of_getElem? (i := 76) rfl) rfl), (x_t4 (List.mem_of_getElem? (i := 77) rfl) rfl), _, _, rfl⟩, fun h => absurd h (by decide), fun h => absurd h (by decide)⟩
theorem zm_104 : z_mok 104 0 8 5 6 := ⟨(some FieldType.int), x_Ww (x_t4 (List.mem_of_getElem? (i := 81) rfl) rfl), (x_t1 (List.mem_of_getElem? (i := 0) rfl) rfl), ⟨by decide +kernel, by decide +kernel, by decide +kernel⟩, fun _ => (x_t4 (List.mem_of_getElem? (i := 80) rfl) rfl), fun h => absurd h (by decide), fun h => absurd h (by decide), fun h => absurd h (by decide)⟩
theorem zm_105 : z_mok 105 1 0 4 5 := ⟨(some FieldType.int), x_Wc (x_t4 (List.mem_of_getElem? (i := 85) rfl) rfl), (x_t1 (List.mem_of_getElem? (i := 1) rfl) rfl), ⟨by decide +kernel, by decide +kernel, by decide +kernel⟩, fun h => absurd h (by decide), fun _ => ⟨(x_t4 (List.mem_of_getElem? (i := 83) rfl) rfl), (x_t4 (List.mem_of_getElem? (i := 84) rfl) rfl), _, _, rfl⟩, fun h => absurd h (by decide), fun h => absurd h (by decide)⟩
theorem zm_106 : z_mok 106 0 8 4 5 := ⟨(some FieldType.int), x_Ww (x_t4 (List.mem_of_getElem? (i := 88) rfl) rfl), (x_t1 (List.mem_of_getElem? (i := 0) rfl) rfl), ⟨by decide +kernel, by decide +kernel, by decide +kernel⟩, fun _ => (x_t4 (List.mem_of_getElem? (i := 87) rfl) rfl), fun h => absurd h (by decide), fun h => absurd h (by decide), fun h => absurd h (by decide)⟩
theorem zm_107 : z_mok 107 1 0 3 3 := ⟨(some FieldType.int), x_Wc (x_t4 (List.mem_of_getElem? (i := 92) rfl) rfl), (x_t1 (List.mem_of_getElem? (i := 1) rfl) rfl), ⟨by decide +kernel, by decide +kernel, by decide +kernel⟩, fun h => absurd h (by decide), fun _ => ⟨(x_t4 (List.mem_of_getElem? (i := 90) rfl) rfl), (x_t4 (List.mem_of_getElem? (i := 91) rfl) rfl), _, _, rfl⟩, fun h => absurd h (by decide), fun h => absurd h (by decide)⟩
theorem zm_108 : z_mok 108 1 2 2 4 := ⟨none, x_Wc (x_t4 (List.mem_of_getElem? (i := 96) rfl) rfl), (x_t1 (List.mem_of_getElem? (i := 2) rfl) rfl), ⟨by decide +kernel, by decide +kernel, by decide +kernel⟩, fun h => absurd h (by decide), fun _ => ⟨(x_t4 (List.mem_of_getElem? (i := 94) rfl) rfl), (x_t4 (List.mem_of_getElem? (i := 95) rfl) rfl), _, _, rfl⟩, fun h => absurd h (by decide), fun h => absurd h (by decide)⟩
theorem zm_109 : z_mok 109 2 7 1 1 := ⟨none, x_Wc (x_t4 (List.mem_of_getElem? (i := 101) rfl) rfl), (x_t1 (List.mem_of_getElem? (i := 8) rfl) rfl), ⟨by decide +kernel, by decide +kernel, by decide +kernel⟩, fun h => absurd h (by decide), fun h => absurd h (by decide), fun _ => ⟨(x_t4 (List.mem_of_getElem? (i := 100) rfl) rfl), rfl, _, (x_t4 (List.mem_of_getElem? (i := 101) rfl) rfl)⟩, fun h => absurd h (by decide)⟩
theorem zm_110 : z_mok 110 1 7 1 1 := ⟨(some FieldType.int), x_Wc (x_t4 (List.mem_of_getElem? (i := 237) rfl) rfl), (x_t1 (List.mem_of_getElem? (i := 8) rfl) rfl), ⟨by decide +kernel, by decide +kernel, by decide +kernel⟩, fun h => absurd h (by decide), fun _ => ⟨(x_t4 (List.mem_of_getElem? (i := 235) rfl) rfl), (x_t4 (List.mem_of_getElem? (i := 236) rfl) rfl), _, _, rfl⟩, fun h => absurd h (by decide), fun h => absurd h (by decide)⟩
theorem zm_111 : z_mok 111 1 7 2 5 := ⟨(some FieldType.boolean), x_Wc (x_t5 (List.mem_of_getElem? (i := 1) rfl) rfl), (x_t1 (List.mem_of_getElem? (i := 8) rfl) rfl), ⟨by decide +kernel, by decide +kernel, by decide +kernel⟩, fun h => absurd h (by decide), fun _ => ⟨(x_t4 (List.mem_of_getElem? (i := 239) rfl) rfl), (x_t5 (List.mem_of_getElem? (i := 0) rfl) rfl), _, _, rfl⟩, fun h => absurd h (by decide), fun h => absurd h (by decide)⟩
theorem zm_112 : z_mok 112 1 7 1 1 := ⟨none, x_Wc (x_t5 (List.mem_of_getElem? (i := 5) rfl) rfl), (x_t1 (List.mem_of_getElem? (i := 8) rfl) rfl), ⟨by decide +kernel, by decide +kernel, by decide +kernel⟩, fun h => absurd h (by decide), fun _ => ⟨(x_t5 (List.mem_of_getElem? (i := 3) rfl) rfl), (x_t5 (List.mem_of_getElem? (i := 4) rfl) rfl), _, _, rfl⟩, fun h => absurd h (by decide), fun h => absurd h (by decide)⟩
theorem zm_113 : z_mok 113 1 7 1 1 := ⟨(some FieldType.int), x_Wc (x_t5 (List.mem_of_getElem? (i := 9) rfl) rfl), (x_t1 (List.mem_of_getElem? (i := 8) rfl) rfl), ⟨by decide +kernel, by decide +kernel, by decide +kernel⟩, fun h => absurd h (by decide), fun _ => ⟨(x_t5 (List.mem_of_getElem? (i := 7) rfl) rfl), (x_t5 (List.mem_of_getElem? (i := 8) rfl) rfl), _, _, rfl⟩, fun h => absurd h (by decide), fun h => absurd h (by decide)⟩
theorem zm_114 : z_mok 114 1 7 2 2 := ⟨(some FieldType.int), x_Wc (x_t5 (List.mem_of_getElem? (i := 13) rfl) rfl), (x_t1 (List.mem_of_getElem? (i := 8) rfl) rfl), ⟨by decide +kernel, by decide +kernel, by decide +kernel⟩, fun h => absurd h (by decide), fun _ => ⟨(x_t5 (List.mem_of_getElem? (i := 11) rfl) rfl), (x_t5 (List.mem_of_getElem? (i := 12) rfl) rfl), _, _, rfl⟩, fun h => absurd h (by decide), fun h => absurd h (by decide)⟩
theorem zm_115 : z_mok 115 1 7 2 4 := ⟨(some FieldType.int), x_Wc (x_t5 (List.mem_of_getElem? (i := 17) rfl) rfl), (x_t1 (List.mem_of_getElem? (i := 8) rfl) rfl), ⟨by decide +kernel, by decide +kernel, by decide +kernel⟩, fun h => absurd h (by decide), fun _ => ⟨(x_t5 (List.mem_of_getElem? (i := 15) rfl) rfl), (x_t5 (List.mem_of_getElem? (i := 16) rfl) rfl), _, _, rfl⟩, fun h => absurd h (by decide), fun h => absurd h (by decide)⟩
theorem zm_116 : z_mok 116 0 7 1 1 := ⟨(some FieldType.boolean), x_Wc (x_t5 (List.mem_of_getElem? (i := 20) rfl) rfl), (x_t1 (List.mem_of_getElem? (i := 8) rfl) rfl), ⟨by decide +kernel, by decide +kernel, by decide +kernel⟩, fun _ => (x_t5 (List.mem_of_getElem? (i := 19) rfl) rfl), fun h => absurd h (by decide), fun h => absurd h (by decide), fun h => absurd h (by decide)⟩
theorem zm_117 : z_mok 117 1 7 1 4 := ⟨none, x_Wc (x_t5 (List.mem_of_getElem? (i := 24) rfl) rfl), (x_t1 (List.mem_of_getElem? (i := 8) rfl) rfl), ⟨by decide +kernel, by decide +kernel, by decide +kernel⟩, fun h => absurd h (by decide), fun _ => ⟨(x_t5 (List.mem_of_getElem? (i := 23) rfl) rfl), (x_s4 (n := 43) (List.mem_of_getElem? (i := 1) rfl)), _, _, rfl⟩, fun h => absurd h (by decide), fun h => absurd h (by decide)⟩
theorem zm_118 : z_mok 118 1 7 1 1 := ⟨none, x_Wc (x_t5 (List.mem_of_getElem? (i := 28) rfl) rfl), (x_t1 (List.mem_of_getElem? (i := 8) rfl) rfl), ⟨by decide +kernel, by decide +kernel, by decide +kernel⟩, fun h => absurd h (by decide), fun _ => ⟨(x_t5 (List.mem_of_getElem? (i := 27) rfl) rfl), (x_s4 (n := 43) (List.mem_of_getElem? (i := 2) rfl)), _, _, rfl⟩, fun h => absurd h (by decide), fun h => absurd h (by decide)⟩
theorem zm_119 : z_mok 119 1 7 2 2 := ⟨(some FieldType.int), x_Wc (x_t5 (List.mem_of_getElem? (i := 32) rfl) rfl), (x_t1 (List.mem_of_getElem? (i := 8) rfl) rfl), ⟨by decide +kernel, by decide +kernel, by decide +kernel⟩, fun h => absurd h (by decide), fun _ => ⟨(x_t5 (List.mem_of_getElem? (i := 31) rfl) rfl), (x_s4 (n := 43) (List.mem_of_getElem? (i := 3) rfl)), _, _, rfl⟩, fun h => absurd h (by decide), fun h => absurd h (by decide)⟩
theorem zm_120 : z_mok 120 1 7 1 1 := ⟨none, x_Wc (x_t5 (List.mem_of_getElem? (i := 36) rfl) rfl), (x_t1 (List.mem_of_getElem? (i := 8) rfl) rfl), ⟨by decide +kernel, by decide +kernel, by decide +kernel⟩, fun h => absurd h (by decide), fun _ => ⟨(x_t5 (List.mem_of_getElem? (i := 35) rfl) rfl), (x_s4 (n := 43) (List.mem_of_getElem? (i := 4) rfl)), _, _, rfl⟩, fun h => absurd h (by decide), fun h => absurd h (by decide)⟩
theorem zm_121 : z_mok 121 1 7 2 2 := ⟨none, x_Wc (x_t5 (List.mem_of_getElem? (i := 40) rfl) rfl), (x_t1 (List.mem_of_getElem? (i := 8) rfl) rfl), ⟨by decide +kernel, by decide +kernel, by decide +kernel⟩, fun h => absurd h (by decide), fun _ => ⟨(x_t5 (List.mem_of_getElem? (i := 39) rfl) rfl), (x_s4 (n := 43) (List.mem_of_getElem? (i := 5) rfl)), _, _, rfl⟩, fun h => absurd h (by decide), fun h => absurd h (by decide)⟩
theorem zm_122 : z_mok 122 1 7 3 4 := ⟨(some FieldType.int), x_Wc (x_t5 (List.mem_of_getElem? (i := 44) rfl) rfl), (x_t1 (List.mem_of_getElem? (i := 8) rfl) rfl), ⟨by decide +kernel, by decide +kernel, by decide +kernel⟩, fun h => absurd h (by decide), fun _ => ⟨(x_t5 (List.mem_of_getElem? (i := 43) rfl) rfl), (x_s4 (n := 43) (List.mem_of_getElem? (i := 6) rfl)), _, _, rfl⟩, fun h => absurd h (by decide), fun h => absurd h (by decide)⟩
theorem zm_123 : z_mok 123 1 7 1 5 := ⟨(some FieldType.boolean), x_Wc (x_t5 (List.mem_of_getElem? (i := 48) rfl) rfl), (x_t1 (List.mem_of_getElem? (i := 8) rfl) rfl), ⟨by decide +kernel, by decide +kernel, by decide +kernel⟩, fun h => absurd h (by decide), fun _ => ⟨(x_t5 (List.mem_of_getElem? (i := 47) rfl) rfl), (x_s4 (n := 43) (List.mem_of_getElem? (i := 7) rfl)), _, _, rfl⟩, fun h => absurd h (by decide), fun h => absurd h (by decide)⟩
theorem zm_124 : z_mok 124 1 7 1 4 := ⟨(some FieldType.boolean), x_Wc (x_t5 (List.mem_of_getElem? (i := 52) rfl) rfl), (x_t1 (List.mem_of_getElem? (i := 8) rfl) rfl), ⟨by decide +kernel, by decide +kernel, by decide +kernel⟩, fun h => absurd h (by decide), fun _ => ⟨(x_t5 (List.mem_of_getElem? (i := 51) rfl) rfl), (x_s4 (n := 43) (List.mem_of_getElem? (i := 8) rfl)), _, _, rfl⟩, fun h => absurd h (by decide), fun h => absurd h (by decide)⟩
theorem zm_125 : z_mok 125 1 7 1 2 := ⟨none, x_Wc (x_t5 (List.mem_of_getElem? (i := 56) rfl) rfl), (x_t1 (List.mem_of_getElem? (i := 8) rfl) rfl), ⟨by decide +kernel, by decide +kernel, by decide +kernel⟩, fun h => absurd h (by decide), fun _ => ⟨(x_t5 (List.mem_of_getElem? (i := 55) rfl) rfl), (x_s4 (n := 43) (List.mem_of_getElem? (i := 9) rfl)), _, _, rfl⟩, fun h => absurd h (by decide), fun h => absurd h (by decide)⟩
theorem zm_126 : z_mok 126 1 7 1 2 := ⟨(some FieldType.int), x_Wc (x_t5 (List.mem_of_getElem? (i := 60) rfl) rfl), (x_t1 (List.mem_of_getElem? (i := 8) rfl) rfl), ⟨by decide +kernel, by decide +kernel, by decide +kernel⟩, fun h => absurd h (by decide), fun _ => ⟨(x_t5 (List.mem_of_getElem? (i := 59) rfl) rfl), (x_s4 (n := 43) (List.mem_of_getElem? (i := 10) rfl)), _, _, rfl⟩, fun h => absurd h (by decide), fun h => absurd h (by decide)⟩
theorem zm_127 : z_mok 127 1 7 2 2 := ⟨(some FieldType.int), x_Wc (x_t5 (List.mem_of_getElem? (i := 64) rfl) rfl), (x_t1 (List.mem_of_getElem? (i := 8) rfl) rfl), ⟨by decide +kernel, by decide +kernel, by decide +kernel⟩, fun h => absurd h (by decide), fun _ => ⟨(x_t5 (List.mem_of_getElem? (i := 63) rfl) rfl), (x_s4 (n := 43) (List.mem_of_getElem? (i := 11) rfl)), _, _, rfl⟩, fun h => absurd h (by decide), fun h => absurd h (by decide)⟩
theorem zm_128 : z_mok 128 0 7 1 1 := ⟨(some FieldType.boolean), x_Wc (x_t5 (List.mem_of_getElem? (i := 67) rfl) rfl), (x_t1 (List.mem_of_getElem? (i := 8) rfl) rfl), ⟨by decide +kernel, by decide +kernel, by decide +kernel⟩, fun _ => (x_t5 (List.mem_of_getElem? (i := 66) rfl) rfl), fun h => absurd h (by decide), fun h => absurd h (by decide), fun h => absurd h (by decide)⟩
theorem zm_129 : z_mok 129 1 7 2 3 := ⟨(some FieldType.boolean), x_Wc (x_t5 (List.mem_of_getElem? (i := 71) rfl) rfl), (x_t1 (List.mem_of_getElem? (i := 8) rfl) rfl), ⟨by decide +kernel, by decide +kernel, by decide +kernel⟩, fun h => absurd h (by decide), fun _ => ⟨(x_t5 (List.mem_of_getElem? (i := 70) rfl) rfl), (x_s4 (n := 43) (List.mem_of_getElem? (i := 12) rfl)), _, _, rfl⟩, fun h => absurd h (by decide), fun h => absurd h (by decide)⟩
theorem zm_130 : z_mok 130 1 7 1 1 := ⟨none, x_Wc (x_t5 (List.mem_of_getElem? (i := 75) rfl) rfl), (x_t1 (List.mem_of_getElem? (i := 8) rfl) rfl), ⟨by decide +kernel, by decide +kernel, by decide +kernel⟩, fun h => absurd h (by decide), fun _ => ⟨(x_t5 (List.mem_of_getElem? (i := 74) rfl) rfl), (x_s4 (n := 43) (List.mem_of_getElem? (i := 13) rfl)), _, _, rfl⟩, fun h => absurd h (by decide), fun h => absurd h (by decide)⟩
theorem zm_131 : z_mok 131 1 7 1 2 := ⟨(some FieldType.boolean), x_Wc (x_t5 (List.mem_of_getElem? (i := 79) rfl) rfl), (x_t1 (List.mem_of_getElem? (i := 8) rfl) rfl), ⟨by decide +kernel, by decide +kernel, by decide +kernel⟩, fun h => absurd h (by decide), fun _ => ⟨(x_t5 (List.mem_of_getElem? (i := 78) rfl) rfl), (x_s4 (n := 43) (List.mem_of_getElem? (i := 14) rfl)), _, _, rfl⟩, fun h => absurd h (by decide), fun h => absurd h (by decide)⟩
theorem zm_132 : z_mok 132 1 7 5 6 := ⟨(some FieldType.boolean), x_Wc (x_t5 (List.mem_of_getElem? (i := 83) rfl) rfl), (x_t1 (List.mem_of_getElem? (i := 8) rfl) rfl), ⟨by decide +kernel, by decide +kernel, by decide +kernel⟩, fun h => absurd h (by decide), fun _ => ⟨(x_t5 (List.mem_of_getElem? (i := 82) rfl) rfl), (x_s4 (n := 43) (List.mem_of_getElem? (i := 15) rfl)), _, _, rfl⟩, fun h => absurd h (by decide), fun h => absurd h (by decide)⟩
theorem zm_133 : z_mok 133 1 7 4 4 := ⟨none, x_Wc (x_t5 (List.mem_of_getElem? (i := 87) rfl) rfl), (x_t1 (List.mem_of_getElem? (i := 8) rfl) rfl), ⟨by decide +kernel, by decide +kernel, by decide +kernel⟩, fun h => absurd h (by decide), fun _ => ⟨(x_t5 (List.mem_of_getElem? (i := 86) rfl) rfl), (x_s5 (n := 43) (List.mem_of_getElem? (i := 0) rfl)), _, _, rfl⟩, fun h => absurd h (by decide), fun h => absurd h (by decide)⟩
theorem zm_134 : z_mok 134 1 7 2 9 := ⟨none, x_Wc (x_t5 (List.mem_of_getElem? (i := 91) rfl) rfl), (x_t1 (List.mem_of_getElem? (i := 8) rfl) rfl), ⟨by decide +kernel, by decide +kernel, by decide +kernel⟩, fun h => absurd h (by decide), fun _ => ⟨(x_t5 (List.mem_of_getElem? (i := 90) rfl) rfl), (x_s5 (n := 43) (List.mem_of_getElem? (i := 1) rfl)), _, _, rfl⟩, fun h => absurd h (by decide), fun h => absurd h (by decide)⟩
theorem zm_135 : z_mok 135 1 7 2 2 := ⟨none, x_Wc (x_t5 (List.mem_of_getElem? (i := 95) rfl) rfl), (x_t1 (List.mem_of_getElem? (i := 8) rfl) rfl), ⟨by decide +kernel, by decide +kernel, by decide +kernel⟩, fun h => absurd h (by decide), fun _ => ⟨(x_t5 (List.mem_of_getElem? (i := 94) rfl) rfl), (x_s5 (n := 43) (List.mem_of_getElem? (i := 2) rfl)), _, _, rfl⟩, fun h => absurd h (by decide), fun h => absurd h (by decide)⟩
theorem zm_136 : z_mok 136 1 7 4 6 := ⟨none, x_Wc (x_t5 (List.mem_of_getElem? (i := 99) rfl) rfl), (x_t1 (List.mem_of_getElem? (i := 8) rfl) rfl), ⟨by decide +kernel, by decide +kernel, by decide +kernel⟩, fun h => absurd h (by decide), fun _ => ⟨(x_t5 (List.mem_of_getElem? (i := 98) rfl) rfl), (x_s5 (n := 43) (List.mem_of_getElem? (i := 3) rfl)), _, _, rfl⟩, fun h => absurd h (by decide), fun h => absurd h (by decide)⟩
theorem zm_137 : z_mok 137 1 7 3 5 := ⟨(some FieldType.boolean), x_Wc (x_t5 (List.mem_of_getElem? (i := 103) rfl) rfl), (x_t1 (List.mem_of_getElem? (i := 8) rfl) rfl), ⟨by decide +kernel, by decide +kernel, by decide +kernel⟩, fun h => absurd h (by decide), fun _ => ⟨(x_t5 (List.mem_of_getElem? (i := 102) rfl) rfl), (x_s5 (n := 43) (List.mem_of_getElem? (i := 4) rfl)), _, _, rfl⟩, fun h => absurd h (by decide), fun h => absurd h (by decide)⟩
theorem zm_138 : z_mok 138 1 7 3 6 := ⟨(some FieldType.boolean), x_Wc (x_t5 (List.mem_of_getElem? (i := 107) rfl) rfl), (x_t1 (List.mem_of_getElem? (i := 8) rfl) rfl), ⟨by decide +kernel, by decide +kernel, by decide +kernel⟩, fun h => absurd h (by decide), fun _ => ⟨(x_t5 (List.mem_of_getElem? (i := 106) rfl) rfl), (x_s5 (n := 43) (List.mem_of_getElem? (i := 5) rfl)), _, _, rfl⟩, fun h => absurd h (by decide), fun h => absurd h (by decide)⟩
theorem zm_139 : z_mok 139 1 7 4 6 := ⟨(some FieldType.int), x_Wc (x_t5 (List.mem_of_getElem? (i := 111) rfl) rfl), (x_t1 (List.mem_of_getElem? (i := 8) rfl) rfl), ⟨by decide +kernel, by decide +kernel, by decide +kernel⟩, fun h => absurd h (by decide), fun _ => ⟨(x_t5 (List.mem_of_getElem? (i := 110) rfl) rfl), (x_s5 (n := 43) (List.mem_of_getElem? (i := 6) rfl)), _, _, rfl⟩, fun h => absurd h (by decide), fun h => absurd h (by decide)⟩
theorem zm_140 : z_mok 140 1 7 2 8 := ⟨(some FieldType.boolean), x_Wc (x_t5 (List.mem_of_getElem? (i := 115) rfl) rfl), (x_t1 (List.mem_of_getElem? (i := 8) rfl) rfl), ⟨by decide +kernel, by decide +kernel, by decide +kernel⟩, fun h => absurd h (by decide), fun _ => ⟨(x_t5 (List.mem_of_getElem? (i := 114) rfl) rfl), (x_s5 (n := 43) (List.mem_of_getElem? (i := 7) rfl)), _, _, rfl⟩, fun h => absurd h (by decide), fun h => absurd h (by decide)⟩
theorem zm_141 : z_mok 141 0 7 1 1 := ⟨(some FieldType.boolean), x_Wc (x_t5 (List.mem_of_getElem? (i := 118) rfl) rfl), (x_t1 (List.mem_of_getElem? (i := 8) rfl) rfl), ⟨by decide +kernel, by decide +kernel, by decide +kernel⟩, fun _ => (x_t5 (List.mem_of_getElem? (i := 117) rfl) rfl), fun h => absurd h (by decide), fun h => absurd h (by decide), fun h => absurd h (by decide)⟩
theorem zm_142 : z_mok 142 0 7 3 6 := ⟨(some FieldType.boolean), x_Wc (x_t5 (List.mem_of_getElem? (i := 121) rfl) rfl), (x_t1 (List.mem_of_getElem? (i := 8) rfl) rfl), ⟨by decide +kernel, by decide +kernel, by decide +kernel⟩, fun _ => (x_t5 (List.mem_of_getElem? (i := 120) rfl) rfl), fun h => absurd h (by decide), fun h => absurd h (by decide), fun h => absurd h (by decide)⟩
theorem zm_143 : z_mok 143 0 7 1 1 := ⟨(some FieldType.boolean), x_Wc (x_t5 (List.mem_of_getElem? (i := 126) rfl) rfl), (x_t1 (List.mem_of_getElem? (i := 8) rfl) rfl), ⟨by decide +kernel, by decide +kernel, by decide +kernel⟩, fun _ => (x_t5 (List.mem_of_getElem? (i := 125) rfl) rfl), fun h => absurd h (by decide), fun h => absurd h (by decide), fun h => absurd h (by decide)⟩
theorem zm_144 : z_mok 144 1 7 6 8 := ⟨none, x_Wc (x_t5 (List.mem_of_getElem? (i := 130) rfl) rfl), (x_t1 (List.mem_of_getElem? (i := 8) rfl) rfl), ⟨by decide +kernel, by decide +kernel, by decide +kernel⟩, fun h => absurd h (by decide), fun _ => ⟨(x_t5 (List.mem_of_getElem? (i := 129) rfl) rfl), (x_s5 (n := 43) (List.mem_of_getElem? (i := 8) rfl)), _, _, rfl⟩, fun h => absurd h (by decide), fun h => absurd h (by decide)⟩
theorem zm_145 : z_mok 145 1 7 1 8 := ⟨(some FieldType.long), x_Wc (x_t5 (List.mem_of_getElem? (i := 134) rfl) rfl), (x_t1 (List.mem_of_getElem? (i := 8) rfl) rfl), ⟨by decide +kernel, by decide +kernel, by decide +kernel⟩, fun h => absurd h (by decide), fun _ => ⟨(x_t5 (List.mem_of_getElem? (i := 133) rfl) rfl), (x_s5 (n := 43) (List.mem_of_getElem? (i := 9) rfl)), _, _, rfl⟩, fun h => absurd h (by decide), fun h => absurd h (by decide)⟩
theorem zm_146 : z_mok 146 1 7 1 1 := ⟨none, x_Wc (x_t5 (List.mem_of_getElem? (i := 138) rfl) rfl), (x_t1 (List.mem_of_getElem? (i := 8) rfl) rfl), ⟨by decide +kernel, by decide +kernel, by decide +kernel⟩, fun h => absurd h (by decide), fun _ => ⟨(x_t5 (List.mem_of_getElem? (i := 137) rfl) rfl), (x_s5 (n := 43) (List.mem_of_getElem? (i := 10) rfl)), _, _, rfl⟩, fun h => absurd h (by decide), fun h => absurd h (by decide)⟩
theorem zm_147 : z_mok 147 1 7 2 4 := ⟨(some FieldType.boolean), x_Wc (x_t5 (List.mem_of_getElem? (i := 142) rfl) rfl), (x_t1 (List.mem_of_getElem? (i := 8) rfl) rfl), ⟨by decide +kernel, by decide +kernel, by decide +kernel⟩, fun h => absurd h (by decide), fun _ => ⟨(x_t5 (List.mem_of_getElem? (i := 141) rfl) rfl), (x_s5 (n := 43) (List.mem_of_getElem? (i := 11) rfl)), _, _, rfl⟩, fun h => absurd h (by decide), fun h => absurd h (by decide)⟩
theorem zm_148 : z_mok 148 1 7 1 4 := ⟨none, x_Wc (x_t5 (List.mem_of_getElem? (i := 146) rfl) rfl), (x_t1 (List.mem_of_getElem? (i := 8) rfl) rfl), ⟨by decide +kernel, by decide +kernel, by decide +kernel⟩, fun h => absurd h (by decide), fun _ => ⟨(x_t5 (List.mem_of_getElem? (i := 145) rfl) rfl), (x_s5 (n := 43) (List.mem_of_getElem? (i := 12) rfl)), _, _, rfl⟩, fun h => absurd h (by decide), fun h => absurd h (by decide)⟩
theorem zm_149 : z_mok 149 1 7 3 7 := ⟨none, x_Wc (x_t5 (List.mem_of_getElem? (i := 150) rfl) rfl), (x_t1 (List.mem_of_getElem? (i := 8) rfl) rfl), ⟨by decide +kernel, by decide +kernel, by decide +kernel⟩, fun h => absurd h (by decide), fun _ => ⟨(x_t5 (List.mem_of_getElem? (i := 149) rfl) rfl), (x_s5 (n := 43) (List.mem_of_getElem? (i := 13) rfl)), _, _, rfl⟩, fun h => absurd h (by decide), fun h => absurd h (by decide)⟩
theorem zm_150 : z_mok 150 1 7 2 2 := ⟨(some FieldType.int), x_Wc (x_t5 (List.mem_of_getElem? (i := 154) rfl) rfl), (x_t1 (List.mem_of_getElem? (i := 8) rfl) rfl), ⟨by decide +kernel, by decide +kernel, by decide +kernel⟩, fun h => absurd h (by decide), fun _ => ⟨(x_t5 (List.mem_of_getElem? (i := 153) rfl) rfl), (x_s5 (n := 43) (List.mem_of_getElem? (i := 14) rfl)), _, _, rfl⟩, fun h => absurd h (by decide), fun h => absurd h (by decide)⟩
theorem zm_151 : z_mok 151 1 7 5 7 := ⟨none, x_Wc (x_t5 (List.mem_of_getElem? (i := 158) rfl) rfl), (x_t1 (List.mem_of_getElem? (i := 8) rfl) rfl), ⟨by decide +kernel, by decide +kernel, by decide +kernel⟩, fun h => absurd h (by decide), fun _ => ⟨(x_t5 (List.mem_of_getElem? (i := 157) rfl) rfl), (x_s5 (n := 43) (List.mem_of_getElem? (i := 15) rfl)), _, _, rfl⟩, fun h => absurd h (by decide), fun h => absurd h (by decide)⟩
theorem zm_152 : z_mok 152 1 7 1 1 := ⟨(some FieldType.int), x_Wc (x_t5 (List.mem_of_getElem? (i := 162) rfl) rfl), (x_t1 (List.mem_of_getElem? (i := 8) rfl) rfl), ⟨by decide +kernel, by decide +kernel, by decide +kernel⟩, fun h => absurd h (by decide), fun _ => ⟨(x_t5 (List.mem_of_getElem? (i := 160) rfl) rfl), (x_t5 (List.mem_of_getElem? (i := 161) rfl) rfl), _, _, rfl⟩, fun h => absurd h (by decide), fun h => absurd h (by decide)⟩
theorem zm_153 : z_mok 153 1 7 2 3 := ⟨(some FieldType.int), x_Wc (x_t5 (List.mem_of_getElem? (i := 166) rfl) rfl), (x_t1 (List.mem_of_getElem? (i := 8) rfl) rfl), ⟨by decide +kernel, by decide +kernel, by decide +kernel⟩, fun h => absurd h (by decide), fun _ => ⟨(x_t5 (List.mem_of_getElem? (i := 164) rfl) rfl), (x_t5 (List.mem_of_getElem? (i := 165) rfl) rfl), _, _, rfl⟩, fun h => absurd h (by decide), fun h => absurd h (by decide)⟩
theorem zm_154 : z_mok 154 1 7 2 5 := ⟨none, x_Wc (x_t5 (List.mem_of_getElem? (i := 170) rfl) rfl), (x_t1 (List.mem_of_getElem? (i := 8) rfl) rfl), ⟨by decide +kernel, by decide +kernel, by decide +kernel⟩, fun h => absurd h (by decide), fun _ => ⟨(x_t5 (List.mem_of_getElem? (i := 169) rfl) rfl), (x_s6 (n := 43) (List.mem_of_getElem? (i := 0) rfl)), _, _, rfl⟩, fun h => absurd h (by decide), fun h => absurd h (by decide)⟩
theorem zm_155 : z_mok 155 1 7 1 1 := ⟨none, x_Wc (x_t5 (List.mem_of_getElem? (i := 174) rfl) rfl), (x_t1 (List.mem_of_getElem? (i := 8) rfl) rfl), ⟨by decide +kernel, by decide +kernel, by decide +kernel⟩, fun h => absurd h (by decide), fun _ => ⟨(x_t5 (List.mem_of_getElem? (i := 173) rfl) rfl), (x_s6 (n := 43) (List.mem_of_getElem? (i := 1) rfl)), _, _, rfl⟩, fun h => absurd h (by decide), fun h => absurd h (by decide)⟩
theorem zm_156 : z_mok 156 1 7 2 2 := ⟨none, x_Wc (x_t5 (List.mem_of_getElem? (i := 178) rfl) rfl), (x_t1 (List.mem_of_getElem? (i := 8) rfl) rfl), ⟨by decide +kernel, by decide +kernel, by decide +kernel⟩, fun h => absurd h (by decide), fun _ => ⟨(x_t5 (List.mem_of_getElem? (i := 177) rfl) rfl), (x_s6 (n := 43) (List.mem_of_getElem? (i := 2) rfl)), _, _, rfl⟩, fun h => absurd h (by decide), fun h => absurd h (by decide)⟩
theorem zm_157 : z_mok 157 1 7 5 5 := ⟨none, x_Wc (x_t5 (List.mem_of_getElem? (i := 182) rfl) rfl), (x_t1 (List.mem_of_getElem? (i := 8) rfl) rfl), ⟨by decide +kernel, by decide +kernel, by decide +kernel⟩, fun h => absurd h (by decide), fun _ => ⟨(x_t5 (List.mem_of_getElem? (i := 181) rfl) rfl), (x_s6 (n := 43) (List.mem_of_getElem? (i := 3) rfl)), _, _, rfl⟩, fun h => absurd h (by decide), fun h => absurd h (by decide)⟩
theorem zm_158 : z_mok 158 1 7 3 3 := ⟨none, x_Wc (x_t5 (List.mem_of_getElem? (i := 186) rfl) rfl), (x_t1 (List.mem_of_getElem? (i := 8) rfl) rfl), ⟨by decide +kernel, by decide +kernel, by decide +kernel⟩, fun h => absurd h (by decide), fun _ => ⟨(x_t5 (List.mem_of_getElem? (i := 185) rfl) rfl), (x_s6 (n := 43) (List.mem_of_getElem? (i := 4) rfl)), _, _, rfl⟩, fun h => absurd h (by decide), fun h => absurd h (by decide)⟩
theorem zm_159 : z_mok 159 1 7 2 2 := ⟨none, x_Wc (x_t5 (List.mem_of_getElem? (i := 190) rfl) rfl), (x_t1 (List.mem_of_getElem? (i := 8) rfl) rfl), ⟨by decide +kernel, by decide +kernel, by decide +kernel⟩, fun h => absurd h (by decide), fun _ => ⟨(x_t5 (List.mem_of_getElem? (i := 189) rfl) rfl), (x_s6 (n := 43) (List.mem_of_getElem? (i := 5) rfl)), _, _, rfl⟩, fun h => absurd h (by decide), fun h => absurd h (by decide)⟩
theorem zm_160 : z_mok 160 1 7 2 5 := ⟨none, x_Wc (x_t5 (List.mem_of_getElem? (i := 194) rfl) rfl), (x_t1 (List.mem_of_getElem? (i := 8) rfl) rfl), ⟨by decide +kernel, by decide +kernel, by decide +kernel⟩, fun h => absurd h (by decide), fun _ => ⟨(x_t5 (List.mem_of_getElem? (i := 193) rfl) rfl), (x_s6 (n := 43) (List.mem_of_getElem? (i := 6) rfl)), _, _, rfl⟩, fun h => absurd h (by decide), fun h => absurd h (by decide)⟩
theorem zm_161 : z_mok 161 1 7 1 4 := ⟨(some FieldType.int), x_Wc (x_t5 (List.mem_of_getElem? (i := 198) rfl) rfl), (x_t1 (List.mem_of_getElem? (i := 8) rfl) rfl), ⟨by decide +kernel, by decide +kernel, by decide +kernel⟩, fun h => absurd h (by decide), fun _ => ⟨(x_t5 (List.mem_of_getElem? (i := 197) rfl) rfl), (x_s6 (n := 43) (List.mem_of_getElem? (i := 7) rfl)), _, _, rfl⟩, fun h => absurd h (by decide), fun h => absurd h (by decide)⟩
theorem zm_162 : z_mok 162 1 7 1 3 := ⟨none, x_Wc (x_t5 (List.mem_of_getElem? (i := 202) rfl) rfl), (x_t1 (List.mem_of_getElem? (i := 8) rfl) rfl), ⟨by decide +kernel, by decide +kernel, by decide +kernel⟩, fun h => absurd h (by decide), fun _ => ⟨(x_t5 (List.mem_of_getElem? (i := 201) rfl) rfl), (x_s6 (n := 43) (List.mem_of_getElem? (i := 8) rfl)), _, _, rfl⟩, fun h => absurd h (by decide), fun h => absurd h (by decide)⟩
theorem zm_163 : z_mok 163 1 7 3 6 := ⟨none, x_Wc (x_t5 (List.mem_of_getElem? (i := 206) rfl) rfl), (x_t1 (List.mem_of_getElem? (i := 8) rfl) rfl), ⟨by decide +kernel, by decide +kernel, by decide +kernel⟩, fun h => absurd h (by decide), fun _ => ⟨(x_t5 (List.mem_of_getElem? (i := 205) rfl) rfl), (x_s6 (n := 43) (List.mem_of_getElem? (i := 9) rfl)), _, _, rfl⟩, fun h => absurd h (by decide), fun h => absurd h (by decide)⟩
theorem zm_164 : z_mok 164 1 7 6 6 := ⟨none, x_Wc (x_t5 (List.mem_of_getElem? (i := 212) rfl) rfl), (x_t1 (List.mem_of_getElem? (i := 8) rfl) rfl), ⟨by decide +kernel, by decide +kernel, by decide +kernel⟩, fun h => absurd h (by decide), fun _ => ⟨(x_t5 (List.mem_of_getElem? (i := 211) rfl) rfl), (x_s6 (n := 43) (List.mem_of_getElem? (i := 10) rfl)), _, _, rfl⟩, fun h => absurd h (by decide), fun h => absurd h (by decide)⟩
theorem zm_165 : z_mok 165 1 7 2 5 := ⟨none, x_Wc (x_t5 (List.mem_of_getElem? (i := 216) rfl) rfl), (x_t1 (List.mem_of_getElem? (i := 8) rfl) rfl), ⟨by decide +kernel, by decide +kernel, by decide +kernel⟩, fun h => absurd h (by decide), fun _ => ⟨(x_t5 (List.mem_of_getElem? (i := 215) rfl) rfl), (x_s6 (n := 43) (List.mem_of_getElem? (i := 11) rfl)), _, _, rfl⟩, fun h => absurd h (by decide), fun h => absurd h (by decide)⟩
theorem zm_166 : z_mok 166 0 7 1 5 := ⟨(some FieldType.long), x_Wc (x_t5 (List.mem_of_getElem? (i := 219) rfl) rfl), (x_t1 (List.mem_of_getElem? (i := 8) rfl) rfl), ⟨by decide +kernel, by decide +kernel, by decide +kernel⟩, fun _ => (x_t5 (List.mem_of_getElem? (i := 218) rfl) rfl), fun h => absurd h (by decide), fun h => absurd h (by decide), fun h => absurd h (by decide)⟩
theorem zm_167 : z_mok 167 0 7 2 5 := ⟨(some FieldType.int), x_Wc (x_t5 (List.mem_of_getElem? (i := 222) rfl) rfl), (x_t1 (List.mem_of_getElem? (i := 8) rfl) rfl), ⟨by decide +kernel, by decide +kernel, by decide +kernel⟩, fun _ => (x_t5 (List.mem_of_getElem? (i := 221) rfl) rfl), fun h => absurd h (by decide), fun h => absurd h (by decide), fun h => absurd h (by decide)⟩
theorem zm_168 : z_mok 168 1 7 2 4 := ⟨none, x_Wc (x_t5 (List.mem_of_getElem? (i := 226) rfl) rfl), (x_t1 (List.mem_of_getElem? (i := 8) rfl) rfl), ⟨by decide +kernel, by decide +kernel, by decide +kernel⟩, fun h => absurd h (by decide), fun _ => ⟨(x_t5 (List.mem_of_getElem? (i := 225) rfl) rfl), (x_s6 (n := 43) (List.mem_of_getElem? (i := 12) rfl)), _, _, rfl⟩, fun h => absurd h (by decide), fun h => absurd h (by decide)⟩
theorem zm_169 : z_mok 169 1 7 2 3 := ⟨none, x_Wc (x_t5 (List.mem_of_getElem? (i := 230) rfl) rfl), (x_t1 (List.mem_of_getElem? (i := 8) rfl) rfl), ⟨by decide +kernel, by decide +kernel, by decide +kernel⟩, fun h => absurd h (by decide), fun _ => ⟨(x_t5 (List.mem_of_getElem? (i := 229) rfl) rfl), (x_s6 (n := 43) (List.mem_of_getElem? (i := 13) rfl)), _, _, rfl⟩, fun h => absurd h (by decide), fun h => absurd h (by decide)⟩
theorem zm_170 : z_mok 170 1 7 3 6 := ⟨none, x_Wc (x_t5 (List.mem_of_getElem? (i := 234) rfl) rfl), (x_t1 (List.mem_of_getElem? (i := 8) rfl) rfl), ⟨by decide +kernel, by decide +kernel, by decide +kernel⟩, fun h => absurd h (by decide), fun _ => ⟨(x_t5 (List.mem_of_getElem? (i := 233) rfl) rfl), (x_s6 (n := 43) (List.mem_of_getElem? (i := 14) rfl)), _, _, rfl⟩, fun h => absurd h (by decide), fun h => absurd h (by decide)⟩
theorem zm_171 : z_mok 171 1 7 2 5 := ⟨(some FieldType.boolean), x_Wc (x_t5 (List.mem_of_getElem? (i := 238) rfl) rfl), (x_t1 (List.mem_of_getElem? (i := 8) rfl) rfl), ⟨by decide +kernel, by decide +kernel, by decide +kernel⟩, fun h => absurd h (by decide), fun _ => ⟨(x_t5 (List.mem_of_getElem? (i := 237) rfl) rfl), (x_s6 (n := 43) (List.mem_of_getElem? (i := 15) rfl)), _, _, rfl⟩, fun h => absurd h (by decide), fun h => absurd h (by decide)⟩
theorem zm_172 : z_mok 172 1 7 2 2 := ⟨(some FieldType.int), x_Wc (x_t6 (List.mem_of_getElem? (i := 2) rfl) rfl), (x_t1 (List.mem_of_getElem? (i := 8) rfl) rfl), ⟨by decide +kernel, by decide +kernel, by decide +kernel⟩, fun h => absurd h (by decide), fun _ => ⟨(x_t6 (List.mem_of_getElem? (i := 0) rfl) rfl), (x_t6 (List.mem_of_getElem? (i := 1) rfl) rfl), _, _, rfl⟩, fun h => absurd h (by decide), fun h => absurd h (by decide)⟩
theorem zm_173 : z_mok 173 1 7 3 3 := ⟨(some FieldType.int), x_Wc (x_t6 (List.mem_of_getElem? (i := 6) rfl) rfl), (x_t1 (List.mem_of_getElem? (i := 8) rfl) rfl), ⟨by decide +kernel, by decide +kernel, by decide +kernel⟩, fun h => absurd h (by decide), fun _ => ⟨(x_t6 (List.mem_of_getElem? (i := 4) rfl) rfl), (x_t6 (List.mem_of_getElem? (i := 5) rfl) rfl), _, _, rfl⟩, fun h => absurd h (by decide), fun h => absurd h (by decide)⟩
theorem zm_174 : z_mok 174 1 7 3 3 := ⟨(some FieldType.boolean), x_Wc (x_t6 (List.mem_of_getElem? (i := 10) rfl) rfl), (x_t1 (List.mem_of_getElem? (i := 8) rfl) rfl), ⟨by decide +kernel, by decide +kernel, by decide +kernel⟩, fun h => absurd h (by decide), fun _ => ⟨(x_t6 (List.mem_of_getElem? (i := 9) rfl) rfl), (x_s7 (n := 43) (List.mem_of_getElem? (i := 0) rfl)), _, _, rfl⟩, fun h => absurd h (by decide), fun h => absurd h (by decide)⟩
theorem zm_175 : z_mok 175 1 7 3 4 := ⟨(some FieldType.int), x_Wc (x_t6 (List.mem_of_getElem? (i := 14) rfl) rfl), (x_t1 (List.mem_of_getElem? (i := 8) rfl) rfl), ⟨by decide +kernel, by decide +kernel, by decide +kernel⟩, fun h => absurd h (by decide), fun _ => ⟨(x_t6 (List.mem_of_getElem? (i := 12) rfl) rfl), (x_t6 (List.mem_of_getElem? (i := 13) rfl) rfl), _, _, rfl⟩, fun h => absurd h (by decide), fun h => absurd h (by decide)⟩
theorem zm_176 : z_mok 176 1 7 3 3 := ⟨(some FieldType.long), x_Wc (x_t6 (List.mem_of_getElem? (i := 18) rfl) rfl), (x_t1 (List.mem_of_getElem? (i := 8) rfl) rfl), ⟨by decide +kernel, by decide +kernel, by decide +kernel⟩, fun h => absurd h (by decide), fun _ => ⟨(x_t6 (List.mem_of_getElem? (i := 16) rfl) rfl), (x_t6 (List.mem_of_getElem? (i := 17) rfl) rfl), _, _, rfl⟩, fun h => absurd h (by decide), fun h => absurd h (by decide)⟩
theorem zm_177 : z_mok 177 1 7 4 5 := ⟨(some FieldType.int), x_Wc (x_t6 (List.mem_of_getElem? (i := 22) rfl) rfl), (x_t1 (List.mem_of_getElem? (i := 8) rfl) rfl), ⟨by decide +kernel, by decide +kernel, by decide +kernel⟩, fun h => absurd h (by decide), fun _ => ⟨(x_t6 (List.mem_of_getElem? (i := 20) rfl) rfl), (x_t6 (List.mem_of_getElem? (i := 21) rfl) rfl), _, _, rfl⟩, fun h => absurd h (by decide), fun h => absurd h (by decide)⟩
theorem zm_178 : z_mok 178 1 7 3 4 := ⟨(some FieldType.int), x_Wc (x_t6 (List.mem_of_getElem? (i := 26) rfl) rfl), (x_t1 (List.mem_of_getElem? (i := 8) rfl) rfl), ⟨by decide +kernel, by decide +kernel, by decide +kernel⟩, fun h => absurd h (by decide), fun _ => ⟨(x_t6 (List.mem_of_getElem? (i := 24) rfl) rfl), (x_t6 (List.mem_of_getElem? (i := 25) rfl) rfl), _, _, rfl⟩, fun h => absurd h (by decide), fun h => absurd h (by decide)⟩
theorem zm_179 : z_mok 179 1 7 1 3 := ⟨(some FieldType.boolean), x_Wc (x_t6 (List.mem_of_getElem? (i := 30) rfl) rfl), (x_t1 (List.mem_of_getElem? (i := 8) rfl) rfl), ⟨by decide +kernel, by decide +kernel, by decide +kernel⟩, fun h => absurd h (by decide), fun _ => ⟨(x_t6 (List.mem_of_getElem? (i := 28) rfl) rfl), (x_t6 (List.mem_of_getElem? (i := 29) rfl) rfl), _, _, rfl⟩, fun h => absurd h (by decide), fun h => absurd h (by decide)⟩
theorem zm_180 : z_mok 180 1 7 1 1 := ⟨none, x_Wc (x_t6 (List.mem_of_getElem? (i := 34) rfl) rfl), (x_t1 (List.mem_of_getElem? (i := 8) rfl) rfl), ⟨by decide +kernel, by decide +kernel, by decide +kernel⟩, fun h => absurd h (by decide), fun _ => ⟨(x_t6 (List.mem_of_getElem? (i := 32) rfl) rfl), (x_t6 (List.mem_of_getElem? (i := 33) rfl) rfl), _, _, rfl⟩, fun h => absurd h (by decide), fun h => absurd h (by decide)⟩
theorem ok_m : ∀ y kd ci na maxL, zt_meth y = some (kd, ci, na, maxL) → z_mok y kd ci na maxL := by
  intro y kd ci na maxL h
  have key : ∀ (l : List (Nat × Nat × Nat × Nat)) (b : Nat), (∀ (j : Nat) (q : Nat × Nat × Nat × Nat), l[j]? = some q → z_mok (b + j) q.1 q.2.1 q.2.2.1 q.2.2.2) → ∀ (y : Nat) (q : Nat × Nat × Nat × Nat), l[y]? = some q → z_mok (b + y) q.1 q.2.1 q.2.2.1 q.2.2.2 := fun l b h y q hq => h y q hq
  have all : ∀ (j : Nat) (q : Nat × Nat × Nat × Nat), zt_infos[j]? = some q → z_mok j q.1 q.2.1 q.2.2.1 q.2.2.2 := by
    intro j q hq
    match j, hq with
    | 0, hq => cases hq; exact zm_0
    | 1, hq => cases hq; exact zm_1
    | 2, hq => cases hq; exact zm_2
    | 3, hq => cases hq; exact zm_3
    | 4, hq => cases hq; exact zm_4
    | 5, hq => cases hq; exact zm_5
    | 6, hq => cases hq; exact zm_6
    | 7, hq => cases hq; exact zm_7
    | 8, hq => cases hq; exact zm_8
    | 9, hq => cases hq; exact zm_9
    | 10, hq => cases hq; exact zm_10
    | 11, hq => cases hq; exact zm_11
    | 12, hq => cases hq; exact zm_12
    | 13, hq => cases hq; exact zm_13
    | 14, hq => cases hq; exact zm_14
    | 15, hq => cases hq; exact zm_15
    | 16, hq => cases hq; exact zm_16
    | 17, hq => cases hq; exact zm_17
    | 18, hq => cases hq; exact zm_18
    | 19, hq => cases hq; exact zm_19
    | 20, hq => cases hq; exact zm_20
    | 21, hq => cases hq; exact zm_21
    | 22, hq => cases hq; exact zm_22
    | 23, hq => cases hq; exact zm_23
    | 24, hq => cases hq; exact zm_24
    | 25, hq => cases hq; exact zm_25
    | 26, hq => cases hq; exact zm_26
    | 27, hq => cases hq; exact zm_27
    | 28, hq => cases hq; exact zm_28
    | 29, hq => cases hq; exact zm_29
    | 30, hq => cases hq; exact zm_30
    | 31, hq => cases hq; exact zm_31
    | 32, hq => cases hq; exact zm_32
    | 33, hq => cases hq; exact zm_33
    | 34, hq => cases hq; exact zm_34
    | 35, hq => cases hq; exact zm_35
    | 36, hq => cases hq; exact zm_36
    | 37, hq => cases hq; exact zm_37
    | 38, hq => cases hq; exact zm_38
    | 39, hq => cases hq; exact zm_39
    | 40, hq => cases hq; exact zm_40
    | 41, hq => cases hq; exact zm_41
    | 42, hq => cases hq; exact zm_42
    | 43, hq => cases hq; exact zm_43
    | 44, hq => cases hq; exact zm_44
    | 45, hq => cases hq; exact zm_45
    | 46, hq => cases hq; exact zm_46
    | 47, hq => cases hq; exact zm_47
    | 48, hq => cases hq; exact zm_48
    | 49, hq => cases hq; exact zm_49
    | 50, hq => cases hq; exact zm_50
    | 51, hq => cases hq; exact zm_51
    | 52, hq => cases hq; exact zm_52
    | 53, hq => cases hq; exact zm_53
    | 54, hq => cases hq; exact zm_54
    | 55, hq => cases hq; exact zm_55
    | 56, hq => cases hq; exact zm_56
    | 57, hq => cases hq; exact zm_57
    | 58, hq => cases hq; exact zm_58
    | 59, hq => cases hq; exact zm_59
    | 60, hq => cases hq; exact zm_60
    | 61, hq => cases hq; exact zm_61
    | 62, hq => cases hq; exact zm_62
    | 63, hq => cases hq; exact zm_63
    | 64, hq => cases hq; exact zm_64
    | 65, hq => cases hq; exact zm_65
    | 66, hq => cases hq; exact zm_66
    | 67, hq => cases hq; exact zm_67
    | 68, hq => cases hq; exact zm_68
    | 69, hq => cases hq; exact zm_69
    | 70, hq => cases hq; exact zm_70
    | 71, hq => cases hq; exact zm_71
    | 72, hq => cases hq; exact zm_72
    | 73, hq => cases hq; exact zm_73
    | 74, hq => cases hq; exact zm_74
    | 75, hq => cases hq; exact zm_75
    | 76, hq => cases hq; exact zm_76
    | 77, hq => cases hq; exact zm_77
    | 78, hq => cases hq; exact zm_78
    | 79, hq => cases hq; exact zm_79
    | 80, hq => cases hq; exact zm_80
    | 81, hq => cases hq; exact zm_81
    | 82, hq => cases hq; exact zm_82
    | 83, hq => cases hq; exact zm_83
    | 84, hq => cases hq; exact zm_84
    | 85, hq => cases hq; exact zm_85
    | 86, hq => cases hq; exact zm_86
    | 87, hq => cases hq; exact zm_87
    | 88, hq => cases hq; exact zm_88
    | 89, hq => cases hq; exact zm_89
    | 90, hq => cases hq; exact zm_90
    | 91, hq => cases hq; exact zm_91
    | 92, hq => cases hq; exact zm_92
    | 93, hq => cases hq; exact zm_93
    | 94, hq => cases hq; exact zm_94
    | 95, hq => cases hq; exact zm_95
    | 96, hq => cases hq; exact zm_96
    | 97, hq => cases hq; exact zm_97
    | 98, hq => cases hq; exact zm_98
    | 99, hq => cases hq; exact zm_99
    | 100, hq => cases hq; exact zm_100
    | 101, hq => cases hq; exact zm_101
    | 102, hq => cases hq; exact zm_102
    | 103, hq => cases hq; exact zm_103
    | 104, hq => cases hq; exact zm_104
    | 105, hq => cases hq; exact zm_105
    | 106, hq => cases hq; exact zm_106
    | 107, hq => cases hq; exact zm_107
    | 108, hq => cases hq; exact zm_108
    | 109, hq => cases hq; exact zm_109
    | 110, hq => cases hq; exact zm_110
    | 111, hq => cases hq; exact zm_111
    | 112, hq => cases hq; exact zm_112
    | 113, hq => cases hq; exact zm_113
    | 114, hq => cases hq; exact zm_114
    | 115, hq => cases hq; exact zm_115
    | 116, hq => cases hq; exact zm_116
    | 117, hq => cases hq; exact zm_117
    | 118, hq => cases hq; exact zm_118
    | 119, hq => cases hq; exact zm_119
    | 120, hq => cases hq; exact zm_120
    | 121, hq => cases hq; exact zm_121
    | 122, hq => cases hq; exact zm_122
    | 123, hq => cases hq; exact zm_123
    | 124, hq => cases hq; exact zm_124
    | 125, hq => cases hq; exact zm_125
    | 126, hq => cases hq; exact zm_126
    | 127, hq => cases hq; exact zm_127
    | 128, hq => cases hq; exact zm_128
    | 129, hq => cases hq; exact zm_129
    | 130, hq => cases hq; exact zm_130
    | 131, hq => cases hq; exact zm_131
    | 132, hq => cases hq; exact zm_132
    | 133, hq => cases hq; exact zm_133
    | 134, hq => cases hq; exact zm_134
    | 135, hq => cases hq; exact zm_135
    | 136, hq => cases hq; exact zm_136
    | 137, hq => cases hq; exact zm_137
    | 138, hq => cases hq; exact zm_138
    | 139, hq => cases hq; exact zm_139
    | 140, hq => cases hq; exact zm_140
    | 141, hq => cases hq; exact zm_141
    | 142, hq => cases hq; exact zm_142
    | 143, hq => cases hq; exact zm_143
    | 144, hq => cases hq; exact zm_144
    | 145, hq => cases hq; exact zm_145
    | 146, hq => cases hq; exact zm_146
    | 147, hq => cases hq; exact zm_147
    | 148, hq => cases hq; exact zm_148
    | 149, hq => cases hq; exact zm_149
    | 150, hq => cases hq; exact zm_150
    | 151, hq => cases hq; exact zm_151
    | 152, hq => cases hq; exact zm_152
    | 153, hq => cases hq; exact zm_153
    | 154, hq => cases hq; exact zm_154
    | 155, hq => cases hq; exact zm_155
    | 156, hq => cases hq; exact zm_156
    | 157, hq => cases hq; exact zm_157
    | 158, hq => cases hq; exact zm_158
    | 159, hq => cases hq; exact zm_159
    | 160, hq => cases hq; exact zm_160
    | 161, hq => cases hq; exact zm_161
    | 162, hq => cases hq; exact zm_162
    | 163, hq => cases hq; exact zm_163
    | 164, hq => cases hq; exact zm_164
    | 165, hq => cases hq; exact zm_165
    | 166, hq => cases hq; exact zm_166
    | 167, hq => cases hq; exact zm_167
    | 168, hq => cases hq; exact zm_168
    | 169, hq => cases hq; exact zm_169
    | 170, hq => cases hq; exact zm_170
    | 171, hq => cases hq; exact zm_171
    | 172, hq => cases hq; exact zm_172
    | 173, hq => cases hq; exact zm_173
    | 174, hq => cases hq; exact zm_174
    | 175, hq => cases hq; exact zm_175
    | 176, hq => cases hq; exact zm_176
    | 177, hq => cases hq; exact zm_177
    | 178, hq => cases hq; exact zm_178
    | 179, hq => cases hq; exact zm_179
    | 180, hq => cases hq; exact zm_180
    | n + 181, hq => cases hq
  exact all y _ h
theorem zo_v_0_0 : z_lok 0 43 8 1 ∨ z_lok 0 43 8 3 := Or.inl ⟨Or.inl (x_t1 (List.mem_of_getElem? (i := 219) rfl) rfl), _, _, _, rfl⟩
theorem zo_v_0_1 : z_lok 0 47 10 1 ∨ z_lok 0 47 10 3 := Or.inl ⟨Or.inl (x_t1 (List.mem_of_getElem? (i := 227) rfl) rfl), _, _, _, rfl⟩
theorem zo_v_0_2 : z_lok 0 50 13 1 ∨ z_lok 0 50 13 3 := Or.inl ⟨Or.inl (x_t1 (List.mem_of_getElem? (i := 239) rfl) rfl), _, _, _, rfl⟩
theorem zo_v_0_3 : z_lok 0 57 26 1 ∨ z_lok 0 57 26 3 := Or.inl ⟨Or.inl (x_t2 (List.mem_of_getElem? (i := 113) rfl) rfl), _, _, _, rfl⟩
theorem zo_v_0_4 : z_lok 0 61 69 1 ∨ z_lok 0 61 69 3 := Or.inl ⟨Or.inl (x_t3 (List.mem_of_getElem? (i := 121) rfl) rfl), _, _, _, rfl⟩
theorem zo_v_0_5 : z_lok 0 72 72 1 ∨ z_lok 0 72 72 3 := Or.inl ⟨Or.inl (x_t3 (List.mem_of_getElem? (i := 150) rfl) rfl), _, _, _, rfl⟩
theorem zo_v_0_6 : z_lok 0 76 94 1 ∨ z_lok 0 76 94 3 := Or.inl ⟨Or.inl (x_t4 (List.mem_of_getElem? (i := 43) rfl) rfl), _, _, _, rfl⟩
theorem zo_v_0_7 : z_lok 0 79 99 1 ∨ z_lok 0 79 99 3 := Or.inl ⟨Or.inl (x_t4 (List.mem_of_getElem? (i := 61) rfl) rfl), _, _, _, rfl⟩
theorem zo_v_0_8 : z_lok 0 103 108 1 ∨ z_lok 0 103 108 3 := Or.inl ⟨Or.inl (x_t4 (List.mem_of_getElem? (i := 93) rfl) rfl), _, _, _, rfl⟩
theorem zo_v_1_0 : z_lok 1 19 18 1 ∨ z_lok 1 19 18 3 := Or.inl ⟨Or.inl (x_t2 (List.mem_of_getElem? (i := 18) rfl) rfl), _, _, _, rfl⟩
theorem zo_v_1_1 : z_lok 1 23 48 1 ∨ z_lok 1 23 48 3 := Or.inr ⟨Or.inl (x_t2 (List.mem_of_getElem? (i := 221) rfl) rfl), _, _, _, rfl⟩
theorem zo_v_1_2 : z_lok 1 29 13 1 ∨ z_lok 1 29 13 3 := Or.inl ⟨Or.inl (x_t2 (List.mem_of_getElem? (i := 231) rfl) rfl), _, _, _, rfl⟩
theorem zo_v_1_3 : z_lok 1 33 49 1 ∨ z_lok 1 33 49 3 := Or.inr ⟨Or.inl (x_t2 (List.mem_of_getElem? (i := 232) rfl) rfl), _, _, _, rfl⟩
theorem zo_v_2_0 : z_lok 2 51 17 1 ∨ z_lok 2 51 17 3 := Or.inl ⟨Or.inl (x_t2 (List.mem_of_getElem? (i := 14) rfl) rfl), _, _, _, rfl⟩
theorem zo_v_2_1 : z_lok 2 47 20 1 ∨ z_lok 2 47 20 3 := Or.inl ⟨Or.inl (x_t2 (List.mem_of_getElem? (i := 26) rfl) rfl), _, _, _, rfl⟩
theorem zo_v_2_2 : z_lok 2 44 10 1 ∨ z_lok 2 44 10 3 := Or.inl ⟨Or.inl (x_t2 (List.mem_of_getElem? (i := 125) rfl) rfl), _, _, _, rfl⟩
theorem zo_v_3_0 : z_lok 3 31 13 1 ∨ z_lok 3 31 13 3 := Or.inl ⟨Or.inl (x_t2 (List.mem_of_getElem? (i := 210) rfl) rfl), _, _, _, rfl⟩
theorem zo_v_3_1 : z_lok 3 22 27 1 ∨ z_lok 3 22 27 3 := Or.inl ⟨Or.inl (x_t2 (List.mem_of_getElem? (i := 215) rfl) rfl), _, _, _, rfl⟩
theorem zo_v_3_2 : z_lok 3 25 17 1 ∨ z_lok 3 25 17 3 := Or.inl ⟨Or.inl (x_t4 (List.mem_of_getElem? (i := 0) rfl) rfl), _, _, _, rfl⟩
theorem zo_v_4_0 : z_lok 4 9 13 1 ∨ z_lok 4 9 13 3 := Or.inl ⟨Or.inl (x_t3 (List.mem_of_getElem? (i := 84) rfl) rfl), _, _, _, rfl⟩
theorem zo_v_4_1 : z_lok 4 33 63 1 ∨ z_lok 4 33 63 3 := Or.inl ⟨Or.inl (x_t3 (List.mem_of_getElem? (i := 88) rfl) rfl), _, _, _, rfl⟩
theorem zo_v_5_0 : z_lok 5 47 27 1 ∨ z_lok 5 47 27 3 := Or.inl ⟨Or.inl (x_t2 (List.mem_of_getElem? (i := 117) rfl) rfl), _, _, _, rfl⟩
theorem zo_v_5_1 : z_lok 5 50 28 1 ∨ z_lok 5 50 28 3 := Or.inl ⟨Or.inl (x_t2 (List.mem_of_getElem? (i := 121) rfl) rfl), _, _, _, rfl⟩
theorem zo_v_5_2 : z_lok 5 53 29 1 ∨ z_lok 5 53 29 3 := Or.inl ⟨Or.inl (x_t2 (List.mem_of_getElem? (i := 126) rfl) rfl), _, _, _, rfl⟩
theorem zo_v_5_3 : z_lok 5 57 30 1 ∨ z_lok 5 57 30 3 := Or.inl ⟨Or.inl (x_t2 (List.mem_of_getElem? (i := 130) rfl) rfl), _, _, _, rfl⟩
theorem zo_v_5_4 : z_lok 5 72 13 1 ∨ z_lok 5 72 13 3 := Or.inl ⟨Or.inl (x_t2 (List.mem_of_getElem? (i := 134) rfl) rfl), _, _, _, rfl⟩
theorem zo_v_5_5 : z_lok 5 84 31 1 ∨ z_lok 5 84 31 3 := Or.inl ⟨Or.inl (x_t2 (List.mem_of_getElem? (i := 135) rfl) rfl), _, _, _, rfl⟩
theorem zo_v_5_6 : z_lok 5 65 32 1 ∨ z_lok 5 65 32 3 := Or.inl ⟨Or.inl (x_t2 (List.mem_of_getElem? (i := 139) rfl) rfl), _, _, _, rfl⟩
theorem zo_v_5_7 : z_lok 5 110 33 1 ∨ z_lok 5 110 33 3 := Or.inl ⟨Or.inl (x_t2 (List.mem_of_getElem? (i := 158) rfl) rfl), _, _, _, rfl⟩
theorem zo_v_5_8 : z_lok 5 76 34 1 ∨ z_lok 5 76 34 3 := Or.inl ⟨Or.inl (x_t2 (List.mem_of_getElem? (i := 162) rfl) rfl), _, _, _, rfl⟩
theorem zo_v_5_9 : z_lok 5 80 35 1 ∨ z_lok 5 80 35 3 := Or.inl ⟨Or.inl (x_t2 (List.mem_of_getElem? (i := 166) rfl) rfl), _, _, _, rfl⟩
theorem zo_v_5_10 : z_lok 5 210 36 1 ∨ z_lok 5 210 36 3 := Or.inl ⟨Or.inl (x_t2 (List.mem_of_getElem? (i := 170) rfl) rfl), _, _, _, rfl⟩
theorem zo_v_5_11 : z_lok 5 225 37 1 ∨ z_lok 5 225 37 3 := Or.inl ⟨Or.inl (x_t2 (List.mem_of_getElem? (i := 174) rfl) rfl), _, _, _, rfl⟩
theorem zo_v_5_12 : z_lok 5 128 38 1 ∨ z_lok 5 128 38 3 := Or.inl ⟨Or.inl (x_t2 (List.mem_of_getElem? (i := 178) rfl) rfl), _, _, _, rfl⟩
theorem zo_v_5_13 : z_lok 5 207 39 1 ∨ z_lok 5 207 39 3 := Or.inl ⟨Or.inl (x_t2 (List.mem_of_getElem? (i := 182) rfl) rfl), _, _, _, rfl⟩
theorem zo_v_5_14 : z_lok 5 87 40 1 ∨ z_lok 5 87 40 3 := Or.inl ⟨Or.inl (x_t2 (List.mem_of_getElem? (i := 186) rfl) rfl), _, _, _, rfl⟩
theorem zo_v_5_15 : z_lok 5 156 41 1 ∨ z_lok 5 156 41 3 := Or.inl ⟨Or.inl (x_t2 (List.mem_of_getElem? (i := 190) rfl) rfl), _, _, _, rfl⟩
theorem zo_v_5_16 : z_lok 5 159 8 1 ∨ z_lok 5 159 8 3 := Or.inl ⟨Or.inl (x_t2 (List.mem_of_getElem? (i := 194) rfl) rfl), _, _, _, rfl⟩
theorem zo_v_5_17 : z_lok 5 164 42 1 ∨ z_lok 5 164 42 3 := Or.inl ⟨Or.inl (x_t2 (List.mem_of_getElem? (i := 195) rfl) rfl), _, _, _, rfl⟩
theorem zo_v_5_18 : z_lok 5 178 43 1 ∨ z_lok 5 178 43 3 := Or.inl ⟨Or.inl (x_t2 (List.mem_of_getElem? (i := 199) rfl) rfl), _, _, _, rfl⟩
theorem zo_v_5_19 : z_lok 5 167 44 1 ∨ z_lok 5 167 44 3 := Or.inl ⟨Or.inl (x_t2 (List.mem_of_getElem? (i := 203) rfl) rfl), _, _, _, rfl⟩
theorem zo_v_5_20 : z_lok 5 174 46 1 ∨ z_lok 5 174 46 3 := Or.inl ⟨Or.inl (x_t2 (List.mem_of_getElem? (i := 211) rfl) rfl), _, _, _, rfl⟩
theorem zo_v_5_21 : z_lok 5 215 47 1 ∨ z_lok 5 215 47 3 := Or.inl ⟨Or.inl (x_t2 (List.mem_of_getElem? (i := 217) rfl) rfl), _, _, _, rfl⟩
theorem zo_v_5_22 : z_lok 5 219 50 1 ∨ z_lok 5 219 50 3 := Or.inl ⟨Or.inl (x_t3 (List.mem_of_getElem? (i := 30) rfl) rfl), _, _, _, rfl⟩
theorem zo_v_5_23 : z_lok 5 228 51 1 ∨ z_lok 5 228 51 3 := Or.inl ⟨Or.inl (x_t3 (List.mem_of_getElem? (i := 34) rfl) rfl), _, _, _, rfl⟩
theorem zo_v_5_24 : z_lok 5 259 20 1 ∨ z_lok 5 259 20 3 := Or.inl ⟨Or.inl (x_t3 (List.mem_of_getElem? (i := 39) rfl) rfl), _, _, _, rfl⟩
theorem zo_v_5_25 : z_lok 5 188 52 1 ∨ z_lok 5 188 52 3 := Or.inl ⟨Or.inl (x_t3 (List.mem_of_getElem? (i := 40) rfl) rfl), _, _, _, rfl⟩
theorem zo_v_5_26 : z_lok 5 222 53 1 ∨ z_lok 5 222 53 3 := Or.inl ⟨Or.inl (x_t3 (List.mem_of_getElem? (i := 44) rfl) rfl), _, _, _, rfl⟩
theorem zo_v_5_27 : z_lok 5 231 54 1 ∨ z_lok 5 231 54 3 := Or.inl ⟨Or.inl (x_t3 (List.mem_of_getElem? (i := 48) rfl) rfl), _, _, _, rfl⟩
theorem zo_v_5_28 : z_lok 5 203 55 1 ∨ z_lok 5 203 55 3 := Or.inl ⟨Or.inl (x_t3 (List.mem_of_getElem? (i := 56) rfl) rfl), _, _, _, rfl⟩
theorem zo_v_5_29 : z_lok 5 235 56 1 ∨ z_lok 5 235 56 3 := Or.inl ⟨Or.inl (x_t3 (List.mem_of_getElem? (i := 60) rfl) rfl), _, _, _, rfl⟩
theorem zo_v_5_30 : z_lok 5 238 57 1 ∨ z_lok 5 238 57 3 := Or.inl ⟨Or.inl (x_t3 (List.mem_of_getElem? (i := 64) rfl) rfl), _, _, _, rfl⟩
theorem zo_v_5_31 : z_lok 5 91 58 1 ∨ z_lok 5 91 58 3 := Or.inl ⟨Or.inl (x_t3 (List.mem_of_getElem? (i := 68) rfl) rfl), _, _, _, rfl⟩
theorem zo_v_5_32 : z_lok 5 191 59 1 ∨ z_lok 5 191 59 3 := Or.inl ⟨Or.inl (x_t3 (List.mem_of_getElem? (i := 72) rfl) rfl), _, _, _, rfl⟩
theorem zo_v_5_33 : z_lok 5 194 60 1 ∨ z_lok 5 194 60 3 := Or.inl ⟨Or.inl (x_t3 (List.mem_of_getElem? (i := 76) rfl) rfl), _, _, _, rfl⟩
theorem zo_v_5_34 : z_lok 5 132 61 1 ∨ z_lok 5 132 61 3 := Or.inl ⟨Or.inl (x_t3 (List.mem_of_getElem? (i := 80) rfl) rfl), _, _, _, rfl⟩
theorem zo_v_5_35 : z_lok 5 200 65 1 ∨ z_lok 5 200 65 3 := Or.inl ⟨Or.inl (x_t3 (List.mem_of_getElem? (i := 99) rfl) rfl), _, _, _, rfl⟩
theorem zo_v_5_36 : z_lok 5 98 66 1 ∨ z_lok 5 98 66 3 := Or.inl ⟨Or.inl (x_t3 (List.mem_of_getElem? (i := 104) rfl) rfl), _, _, _, rfl⟩
theorem zo_v_5_37 : z_lok 5 101 67 1 ∨ z_lok 5 101 67 3 := Or.inl ⟨Or.inl (x_t3 (List.mem_of_getElem? (i := 108) rfl) rfl), _, _, _, rfl⟩
theorem zo_v_5_38 : z_lok 5 106 68 1 ∨ z_lok 5 106 68 3 := Or.inl ⟨Or.inl (x_t3 (List.mem_of_getElem? (i := 113) rfl) rfl), _, _, _, rfl⟩
theorem zo_v_5_39 : z_lok 5 118 48 1 ∨ z_lok 5 118 48 3 := Or.inr ⟨Or.inl (x_t3 (List.mem_of_getElem? (i := 117) rfl) rfl), _, _, _, rfl⟩
theorem zo_v_5_40 : z_lok 5 124 49 1 ∨ z_lok 5 124 49 3 := Or.inr ⟨Or.inl (x_t3 (List.mem_of_getElem? (i := 118) rfl) rfl), _, _, _, rfl⟩
theorem zo_v_6_0 : z_lok 6 38 27 1 ∨ z_lok 6 38 27 3 := Or.inl ⟨Or.inl (x_t3 (List.mem_of_getElem? (i := 154) rfl) rfl), _, _, _, rfl⟩
theorem zo_v_6_1 : z_lok 6 41 10 1 ∨ z_lok 6 41 10 3 := Or.inl ⟨Or.inl (x_t3 (List.mem_of_getElem? (i := 155) rfl) rfl), _, _, _, rfl⟩
theorem zo_v_6_2 : z_lok 6 52 73 1 ∨ z_lok 6 52 73 3 := Or.inl ⟨Or.inl (x_t3 (List.mem_of_getElem? (i := 157) rfl) rfl), _, _, _, rfl⟩
theorem zo_v_6_3 : z_lok 6 180 48 1 ∨ z_lok 6 180 48 3 := Or.inr ⟨Or.inl (x_t3 (List.mem_of_getElem? (i := 161) rfl) rfl), _, _, _, rfl⟩
theorem zo_v_6_4 : z_lok 6 186 49 1 ∨ z_lok 6 186 49 3 := Or.inr ⟨Or.inl (x_t3 (List.mem_of_getElem? (i := 162) rfl) rfl), _, _, _, rfl⟩
theorem zo_v_6_5 : z_lok 6 60 74 1 ∨ z_lok 6 60 74 3 := Or.inl ⟨Or.inl (x_t3 (List.mem_of_getElem? (i := 163) rfl) rfl), _, _, _, rfl⟩
theorem zo_v_6_6 : z_lok 6 67 8 1 ∨ z_lok 6 67 8 3 := Or.inl ⟨Or.inl (x_t3 (List.mem_of_getElem? (i := 167) rfl) rfl), _, _, _, rfl⟩
theorem zo_v_6_7 : z_lok 6 56 75 1 ∨ z_lok 6 56 75 3 := Or.inl ⟨Or.inl (x_t3 (List.mem_of_getElem? (i := 183) rfl) rfl), _, _, _, rfl⟩
theorem zo_v_6_8 : z_lok 6 137 76 1 ∨ z_lok 6 137 76 3 := Or.inl ⟨Or.inl (x_t3 (List.mem_of_getElem? (i := 192) rfl) rfl), _, _, _, rfl⟩
theorem zo_v_6_9 : z_lok 6 190 77 1 ∨ z_lok 6 190 77 3 := Or.inl ⟨Or.inl (x_t3 (List.mem_of_getElem? (i := 196) rfl) rfl), _, _, _, rfl⟩
theorem zo_v_6_10 : z_lok 6 141 78 1 ∨ z_lok 6 141 78 3 := Or.inl ⟨Or.inl (x_t3 (List.mem_of_getElem? (i := 202) rfl) rfl), _, _, _, rfl⟩
theorem zo_v_6_11 : z_lok 6 110 79 1 ∨ z_lok 6 110 79 3 := Or.inl ⟨Or.inl (x_t3 (List.mem_of_getElem? (i := 207) rfl) rfl), _, _, _, rfl⟩
theorem zo_v_6_12 : z_lok 6 153 80 1 ∨ z_lok 6 153 80 3 := Or.inl ⟨Or.inl (x_t3 (List.mem_of_getElem? (i := 214) rfl) rfl), _, _, _, rfl⟩
theorem zo_v_6_13 : z_lok 6 120 81 1 ∨ z_lok 6 120 81 3 := Or.inl ⟨Or.inl (x_t3 (List.mem_of_getElem? (i := 220) rfl) rfl), _, _, _, rfl⟩
theorem zo_v_6_14 : z_lok 6 176 13 1 ∨ z_lok 6 176 13 3 := Or.inl ⟨Or.inl (x_t3 (List.mem_of_getElem? (i := 224) rfl) rfl), _, _, _, rfl⟩
theorem zo_v_6_15 : z_lok 6 164 82 1 ∨ z_lok 6 164 82 3 := Or.inl ⟨Or.inl (x_t3 (List.mem_of_getElem? (i := 227) rfl) rfl), _, _, _, rfl⟩
theorem zo_v_6_16 : z_lok 6 113 83 1 ∨ z_lok 6 113 83 3 := Or.inl ⟨Or.inl (x_t3 (List.mem_of_getElem? (i := 231) rfl) rfl), _, _, _, rfl⟩
theorem zo_v_6_17 : z_lok 6 202 84 1 ∨ z_lok 6 202 84 3 := Or.inl ⟨Or.inl (x_t3 (List.mem_of_getElem? (i := 236) rfl) rfl), _, _, _, rfl⟩
theorem zo_v_6_18 : z_lok 6 206 85 1 ∨ z_lok 6 206 85 3 := Or.inl ⟨Or.inl (x_t4 (List.mem_of_getElem? (i := 1) rfl) rfl), _, _, _, rfl⟩
theorem zo_v_6_19 : z_lok 6 209 86 1 ∨ z_lok 6 209 86 3 := Or.inl ⟨Or.inl (x_t4 (List.mem_of_getElem? (i := 5) rfl) rfl), _, _, _, rfl⟩
theorem zo_v_6_20 : z_lok 6 212 46 1 ∨ z_lok 6 212 46 3 := Or.inl ⟨Or.inl (x_t4 (List.mem_of_getElem? (i := 9) rfl) rfl), _, _, _, rfl⟩
theorem zo_v_6_21 : z_lok 6 63 87 1 ∨ z_lok 6 63 87 3 := Or.inl ⟨Or.inl (x_t4 (List.mem_of_getElem? (i := 10) rfl) rfl), _, _, _, rfl⟩
theorem zo_v_6_22 : z_lok 6 74 88 1 ∨ z_lok 6 74 88 3 := Or.inl ⟨Or.inl (x_t4 (List.mem_of_getElem? (i := 14) rfl) rfl), _, _, _, rfl⟩
theorem zo_v_6_23 : z_lok 6 97 89 1 ∨ z_lok 6 97 89 3 := Or.inl ⟨Or.inl (x_t4 (List.mem_of_getElem? (i := 18) rfl) rfl), _, _, _, rfl⟩
theorem zo_v_6_24 : z_lok 6 80 90 1 ∨ z_lok 6 80 90 3 := Or.inl ⟨Or.inl (x_t4 (List.mem_of_getElem? (i := 23) rfl) rfl), _, _, _, rfl⟩
theorem zo_v_6_25 : z_lok 6 86 91 1 ∨ z_lok 6 86 91 3 := Or.inl ⟨Or.inl (x_t4 (List.mem_of_getElem? (i := 28) rfl) rfl), _, _, _, rfl⟩
theorem zo_v_6_26 : z_lok 6 89 92 1 ∨ z_lok 6 89 92 3 := Or.inl ⟨Or.inl (x_t4 (List.mem_of_getElem? (i := 32) rfl) rfl), _, _, _, rfl⟩
theorem zo_v_6_27 : z_lok 6 94 93 1 ∨ z_lok 6 94 93 3 := Or.inl ⟨Or.inl (x_t4 (List.mem_of_getElem? (i := 38) rfl) rfl), _, _, _, rfl⟩
theorem zo_v_7_0 : z_lok 7 246 117 1 ∨ z_lok 7 246 117 3 := Or.inl ⟨Or.inl (x_t5 (List.mem_of_getElem? (i := 21) rfl) rfl), _, _, _, rfl⟩
theorem zo_v_7_1 : z_lok 7 224 118 1 ∨ z_lok 7 224 118 3 := Or.inl ⟨Or.inl (x_t5 (List.mem_of_getElem? (i := 25) rfl) rfl), _, _, _, rfl⟩
theorem zo_v_7_2 : z_lok 7 106 119 1 ∨ z_lok 7 106 119 3 := Or.inl ⟨Or.inl (x_t5 (List.mem_of_getElem? (i := 29) rfl) rfl), _, _, _, rfl⟩
theorem zo_v_7_3 : z_lok 7 227 120 1 ∨ z_lok 7 227 120 3 := Or.inl ⟨Or.inl (x_t5 (List.mem_of_getElem? (i := 33) rfl) rfl), _, _, _, rfl⟩
theorem zo_v_7_4 : z_lok 7 134 121 1 ∨ z_lok 7 134 121 3 := Or.inl ⟨Or.inl (x_t5 (List.mem_of_getElem? (i := 37) rfl) rfl), _, _, _, rfl⟩
theorem zo_v_7_5 : z_lok 7 172 122 1 ∨ z_lok 7 172 122 3 := Or.inl ⟨Or.inl (x_t5 (List.mem_of_getElem? (i := 41) rfl) rfl), _, _, _, rfl⟩
theorem zo_v_7_6 : z_lok 7 230 123 1 ∨ z_lok 7 230 123 3 := Or.inl ⟨Or.inl (x_t5 (List.mem_of_getElem? (i := 45) rfl) rfl), _, _, _, rfl⟩
theorem zo_v_7_7 : z_lok 7 206 124 1 ∨ z_lok 7 206 124 3 := Or.inl ⟨Or.inl (x_t5 (List.mem_of_getElem? (i := 49) rfl) rfl), _, _, _, rfl⟩
theorem zo_v_7_8 : z_lok 7 185 125 1 ∨ z_lok 7 185 125 3 := Or.inl ⟨Or.inl (x_t5 (List.mem_of_getElem? (i := 53) rfl) rfl), _, _, _, rfl⟩
theorem zo_v_7_9 : z_lok 7 188 126 1 ∨ z_lok 7 188 126 3 := Or.inl ⟨Or.inl (x_t5 (List.mem_of_getElem? (i := 57) rfl) rfl), _, _, _, rfl⟩
theorem zo_v_7_10 : z_lok 7 153 127 1 ∨ z_lok 7 153 127 3 := Or.inl ⟨Or.inl (x_t5 (List.mem_of_getElem? (i := 61) rfl) rfl), _, _, _, rfl⟩
theorem zo_v_7_11 : z_lok 7 192 129 1 ∨ z_lok 7 192 129 3 := Or.inl ⟨Or.inl (x_t5 (List.mem_of_getElem? (i := 68) rfl) rfl), _, _, _, rfl⟩
theorem zo_v_7_12 : z_lok 7 196 130 1 ∨ z_lok 7 196 130 3 := Or.inl ⟨Or.inl (x_t5 (List.mem_of_getElem? (i := 72) rfl) rfl), _, _, _, rfl⟩
theorem zo_v_7_13 : z_lok 7 199 131 1 ∨ z_lok 7 199 131 3 := Or.inl ⟨Or.inl (x_t5 (List.mem_of_getElem? (i := 76) rfl) rfl), _, _, _, rfl⟩
theorem zo_v_7_14 : z_lok 7 165 132 1 ∨ z_lok 7 165 132 3 := Or.inl ⟨Or.inl (x_t5 (List.mem_of_getElem? (i := 80) rfl) rfl), _, _, _, rfl⟩
theorem zo_v_7_15 : z_lok 7 169 133 1 ∨ z_lok 7 169 133 3 := Or.inl ⟨Or.inl (x_t5 (List.mem_of_getElem? (i := 84) rfl) rfl), _, _, _, rfl⟩
theorem zo_v_7_16 : z_lok 7 203 134 1 ∨ z_lok 7 203 134 3 := Or.inl ⟨Or.inl (x_t5 (List.mem_of_getElem? (i := 88) rfl) rfl), _, _, _, rfl⟩
theorem zo_v_7_17 : z_lok 7 176 135 1 ∨ z_lok 7 176 135 3 := Or.inl ⟨Or.inl (x_t5 (List.mem_of_getElem? (i := 92) rfl) rfl), _, _, _, rfl⟩
theorem zo_v_7_18 : z_lok 7 124 136 1 ∨ z_lok 7 124 136 3 := Or.inl ⟨Or.inl (x_t5 (List.mem_of_getElem? (i := 96) rfl) rfl), _, _, _, rfl⟩
theorem zo_v_7_19 : z_lok 7 114 137 1 ∨ z_lok 7 114 137 3 := Or.inl ⟨Or.inl (x_t5 (List.mem_of_getElem? (i := 100) rfl) rfl), _, _, _, rfl⟩
theorem zo_v_7_20 : z_lok 7 118 138 1 ∨ z_lok 7 118 138 3 := Or.inl ⟨Or.inl (x_t5 (List.mem_of_getElem? (i := 104) rfl) rfl), _, _, _, rfl⟩
theorem zo_v_7_21 : z_lok 7 110 139 1 ∨ z_lok 7 110 139 3 := Or.inl ⟨Or.inl (x_t5 (List.mem_of_getElem? (i := 108) rfl) rfl), _, _, _, rfl⟩
theorem zo_v_7_22 : z_lok 7 179 140 1 ∨ z_lok 7 179 140 3 := Or.inl ⟨Or.inl (x_t5 (List.mem_of_getElem? (i := 112) rfl) rfl), _, _, _, rfl⟩
theorem zo_v_7_23 : z_lok 7 209 144 1 ∨ z_lok 7 209 144 3 := Or.inl ⟨Or.inl (x_t5 (List.mem_of_getElem? (i := 127) rfl) rfl), _, _, _, rfl⟩
theorem zo_v_7_24 : z_lok 7 213 145 1 ∨ z_lok 7 213 145 3 := Or.inl ⟨Or.inl (x_t5 (List.mem_of_getElem? (i := 131) rfl) rfl), _, _, _, rfl⟩
theorem zo_v_7_25 : z_lok 7 221 146 1 ∨ z_lok 7 221 146 3 := Or.inl ⟨Or.inl (x_t5 (List.mem_of_getElem? (i := 135) rfl) rfl), _, _, _, rfl⟩
theorem zo_v_7_26 : z_lok 7 233 147 1 ∨ z_lok 7 233 147 3 := Or.inl ⟨Or.inl (x_t5 (List.mem_of_getElem? (i := 139) rfl) rfl), _, _, _, rfl⟩
theorem zo_v_7_27 : z_lok 7 236 148 1 ∨ z_lok 7 236 148 3 := Or.inl ⟨Or.inl (x_t5 (List.mem_of_getElem? (i := 143) rfl) rfl), _, _, _, rfl⟩
theorem zo_v_7_28 : z_lok 7 217 149 1 ∨ z_lok 7 217 149 3 := Or.inl ⟨Or.inl (x_t5 (List.mem_of_getElem? (i := 147) rfl) rfl), _, _, _, rfl⟩
theorem zo_v_7_29 : z_lok 7 249 150 1 ∨ z_lok 7 249 150 3 := Or.inl ⟨Or.inl (x_t5 (List.mem_of_getElem? (i := 151) rfl) rfl), _, _, _, rfl⟩
theorem zo_v_7_30 : z_lok 7 252 151 1 ∨ z_lok 7 252 151 3 := Or.inl ⟨Or.inl (x_t5 (List.mem_of_getElem? (i := 155) rfl) rfl), _, _, _, rfl⟩
theorem zo_v_7_31 : z_lok 7 331 154 1 ∨ z_lok 7 331 154 3 := Or.inl ⟨Or.inl (x_t5 (List.mem_of_getElem? (i := 167) rfl) rfl), _, _, _, rfl⟩
theorem zo_v_7_32 : z_lok 7 316 155 1 ∨ z_lok 7 316 155 3 := Or.inl ⟨Or.inl (x_t5 (List.mem_of_getElem? (i := 171) rfl) rfl), _, _, _, rfl⟩
theorem zo_v_7_33 : z_lok 7 262 156 1 ∨ z_lok 7 262 156 3 := Or.inl ⟨Or.inl (x_t5 (List.mem_of_getElem? (i := 175) rfl) rfl), _, _, _, rfl⟩
theorem zo_v_7_34 : z_lok 7 322 157 1 ∨ z_lok 7 322 157 3 := Or.inl ⟨Or.inl (x_t5 (List.mem_of_getElem? (i := 179) rfl) rfl), _, _, _, rfl⟩
theorem zo_v_7_35 : z_lok 7 288 158 1 ∨ z_lok 7 288 158 3 := Or.inl ⟨Or.inl (x_t5 (List.mem_of_getElem? (i := 183) rfl) rfl), _, _, _, rfl⟩
theorem zo_v_7_36 : z_lok 7 271 159 1 ∨ z_lok 7 271 159 3 := Or.inl ⟨Or.inl (x_t5 (List.mem_of_getElem? (i := 187) rfl) rfl), _, _, _, rfl⟩
theorem zo_v_7_37 : z_lok 7 291 160 1 ∨ z_lok 7 291 160 3 := Or.inl ⟨Or.inl (x_t5 (List.mem_of_getElem? (i := 191) rfl) rfl), _, _, _, rfl⟩
theorem zo_v_7_38 : z_lok 7 282 161 1 ∨ z_lok 7 282 161 3 := Or.inl ⟨Or.inl (x_t5 (List.mem_of_getElem? (i := 195) rfl) rfl), _, _, _, rfl⟩
theorem zo_v_7_39 : z_lok 7 285 162 1 ∨ z_lok 7 285 162 3 := Or.inl ⟨Or.inl (x_t5 (List.mem_of_getElem? (i := 199) rfl) rfl), _, _, _, rfl⟩
theorem zo_v_7_40 : z_lok 7 312 163 1 ∨ z_lok 7 312 163 3 := Or.inl ⟨Or.inl (x_t5 (List.mem_of_getElem? (i := 203) rfl) rfl), _, _, _, rfl⟩
theorem zo_v_7_41 : z_lok 7 306 164 1 ∨ z_lok 7 306 164 3 := Or.inl ⟨Or.inl (x_t5 (List.mem_of_getElem? (i := 209) rfl) rfl), _, _, _, rfl⟩
theorem zo_v_7_42 : z_lok 7 298 165 1 ∨ z_lok 7 298 165 3 := Or.inl ⟨Or.inl (x_t5 (List.mem_of_getElem? (i := 213) rfl) rfl), _, _, _, rfl⟩
theorem zo_v_7_43 : z_lok 7 309 168 1 ∨ z_lok 7 309 168 3 := Or.inl ⟨Or.inl (x_t5 (List.mem_of_getElem? (i := 223) rfl) rfl), _, _, _, rfl⟩
theorem zo_v_7_44 : z_lok 7 295 169 1 ∨ z_lok 7 295 169 3 := Or.inl ⟨Or.inl (x_t5 (List.mem_of_getElem? (i := 227) rfl) rfl), _, _, _, rfl⟩
theorem zo_v_7_45 : z_lok 7 328 170 1 ∨ z_lok 7 328 170 3 := Or.inl ⟨Or.inl (x_t5 (List.mem_of_getElem? (i := 231) rfl) rfl), _, _, _, rfl⟩
theorem zo_v_7_46 : z_lok 7 319 171 1 ∨ z_lok 7 319 171 3 := Or.inl ⟨Or.inl (x_t5 (List.mem_of_getElem? (i := 235) rfl) rfl), _, _, _, rfl⟩
theorem zo_v_7_47 : z_lok 7 334 174 1 ∨ z_lok 7 334 174 3 := Or.inl ⟨Or.inl (x_t6 (List.mem_of_getElem? (i := 7) rfl) rfl), _, _, _, rfl⟩
theorem zo_v_8_0 : z_lok 8 49 7 1 ∨ z_lok 8 49 7 3 := Or.inl ⟨Or.inl (x_t1 (List.mem_of_getElem? (i := 215) rfl) rfl), _, _, _, rfl⟩
theorem zo_v_8_1 : z_lok 8 54 9 1 ∨ z_lok 8 54 9 3 := Or.inl ⟨Or.inl (x_t1 (List.mem_of_getElem? (i := 223) rfl) rfl), _, _, _, rfl⟩
theorem zo_v_8_2 : z_lok 8 58 11 1 ∨ z_lok 8 58 11 3 := Or.inl ⟨Or.inl (x_t1 (List.mem_of_getElem? (i := 231) rfl) rfl), _, _, _, rfl⟩
theorem zo_v_8_3 : z_lok 8 63 12 1 ∨ z_lok 8 63 12 3 := Or.inl ⟨Or.inl (x_t1 (List.mem_of_getElem? (i := 235) rfl) rfl), _, _, _, rfl⟩
theorem zo_v_8_4 : z_lok 8 76 14 1 ∨ z_lok 8 76 14 3 := Or.inl ⟨Or.inl (x_t2 (List.mem_of_getElem? (i := 3) rfl) rfl), _, _, _, rfl⟩
theorem zo_v_8_5 : z_lok 8 103 15 1 ∨ z_lok 8 103 15 3 := Or.inl ⟨Or.inl (x_t2 (List.mem_of_getElem? (i := 7) rfl) rfl), _, _, _, rfl⟩
theorem zo_v_8_6 : z_lok 8 108 22 1 ∨ z_lok 8 108 22 3 := Or.inl ⟨Or.inl (x_t2 (List.mem_of_getElem? (i := 33) rfl) rfl), _, _, _, rfl⟩
theorem zo_v_8_7 : z_lok 8 7 24 1 ∨ z_lok 8 7 24 3 := Or.inl ⟨Or.inl (x_t2 (List.mem_of_getElem? (i := 42) rfl) rfl), _, _, _, rfl⟩
theorem zo_v_8_8 : z_lok 8 17 71 1 ∨ z_lok 8 17 71 3 := Or.inl ⟨Or.inl (x_t3 (List.mem_of_getElem? (i := 131) rfl) rfl), _, _, _, rfl⟩
theorem zo_v_8_9 : z_lok 8 24 96 1 ∨ z_lok 8 24 96 3 := Or.inl ⟨Or.inl (x_t4 (List.mem_of_getElem? (i := 50) rfl) rfl), _, _, _, rfl⟩
theorem zo_v_8_10 : z_lok 8 27 98 1 ∨ z_lok 8 27 98 3 := Or.inl ⟨Or.inl (x_t4 (List.mem_of_getElem? (i := 57) rfl) rfl), _, _, _, rfl⟩
theorem zo_v_8_11 : z_lok 8 31 101 1 ∨ z_lok 8 31 101 3 := Or.inl ⟨Or.inl (x_t4 (List.mem_of_getElem? (i := 68) rfl) rfl), _, _, _, rfl⟩
theorem zo_v_8_12 : z_lok 8 34 103 1 ∨ z_lok 8 34 103 3 := Or.inl ⟨Or.inl (x_t4 (List.mem_of_getElem? (i := 75) rfl) rfl), _, _, _, rfl⟩
theorem zo_v_8_13 : z_lok 8 38 105 1 ∨ z_lok 8 38 105 3 := Or.inl ⟨Or.inl (x_t4 (List.mem_of_getElem? (i := 82) rfl) rfl), _, _, _, rfl⟩
theorem zo_v_8_14 : z_lok 8 42 107 1 ∨ z_lok 8 42 107 3 := Or.inl ⟨Or.inl (x_t4 (List.mem_of_getElem? (i := 89) rfl) rfl), _, _, _, rfl⟩
theorem zo_v_8_15 : z_lok 8 73 110 1 ∨ z_lok 8 73 110 3 := Or.inl ⟨Or.inl (x_t4 (List.mem_of_getElem? (i := 234) rfl) rfl), _, _, _, rfl⟩
theorem zo_v_8_16 : z_lok 8 53 111 1 ∨ z_lok 8 53 111 3 := Or.inl ⟨Or.inl (x_t4 (List.mem_of_getElem? (i := 238) rfl) rfl), _, _, _, rfl⟩
theorem zo_v_8_17 : z_lok 8 57 112 1 ∨ z_lok 8 57 112 3 := Or.inl ⟨Or.inl (x_t5 (List.mem_of_getElem? (i := 2) rfl) rfl), _, _, _, rfl⟩
theorem zo_v_8_18 : z_lok 8 62 113 1 ∨ z_lok 8 62 113 3 := Or.inl ⟨Or.inl (x_t5 (List.mem_of_getElem? (i := 6) rfl) rfl), _, _, _, rfl⟩
theorem zo_v_8_19 : z_lok 8 66 114 1 ∨ z_lok 8 66 114 3 := Or.inl ⟨Or.inl (x_t5 (List.mem_of_getElem? (i := 10) rfl) rfl), _, _, _, rfl⟩
theorem zo_v_8_20 : z_lok 8 72 115 1 ∨ z_lok 8 72 115 3 := Or.inl ⟨Or.inl (x_t5 (List.mem_of_getElem? (i := 14) rfl) rfl), _, _, _, rfl⟩
theorem zo_v_8_21 : z_lok 8 79 152 1 ∨ z_lok 8 79 152 3 := Or.inl ⟨Or.inl (x_t5 (List.mem_of_getElem? (i := 159) rfl) rfl), _, _, _, rfl⟩
theorem zo_v_8_22 : z_lok 8 82 153 1 ∨ z_lok 8 82 153 3 := Or.inl ⟨Or.inl (x_t5 (List.mem_of_getElem? (i := 163) rfl) rfl), _, _, _, rfl⟩
theorem zo_v_8_23 : z_lok 8 85 172 1 ∨ z_lok 8 85 172 3 := Or.inl ⟨Or.inl (x_t5 (List.mem_of_getElem? (i := 239) rfl) rfl), _, _, _, rfl⟩
theorem zo_v_8_24 : z_lok 8 89 173 1 ∨ z_lok 8 89 173 3 := Or.inl ⟨Or.inl (x_t6 (List.mem_of_getElem? (i := 3) rfl) rfl), _, _, _, rfl⟩
theorem zo_v_8_25 : z_lok 8 92 175 1 ∨ z_lok 8 92 175 3 := Or.inl ⟨Or.inl (x_t6 (List.mem_of_getElem? (i := 11) rfl) rfl), _, _, _, rfl⟩
theorem zo_v_8_26 : z_lok 8 95 176 1 ∨ z_lok 8 95 176 3 := Or.inl ⟨Or.inl (x_t6 (List.mem_of_getElem? (i := 15) rfl) rfl), _, _, _, rfl⟩
theorem zo_v_8_27 : z_lok 8 99 177 1 ∨ z_lok 8 99 177 3 := Or.inl ⟨Or.inl (x_t6 (List.mem_of_getElem? (i := 19) rfl) rfl), _, _, _, rfl⟩
theorem zo_v_8_28 : z_lok 8 102 178 1 ∨ z_lok 8 102 178 3 := Or.inl ⟨Or.inl (x_t6 (List.mem_of_getElem? (i := 23) rfl) rfl), _, _, _, rfl⟩
theorem zo_v_8_29 : z_lok 8 107 179 1 ∨ z_lok 8 107 179 3 := Or.inl ⟨Or.inl (x_t6 (List.mem_of_getElem? (i := 27) rfl) rfl), _, _, _, rfl⟩
theorem zo_v_8_30 : z_lok 8 111 180 1 ∨ z_lok 8 111 180 3 := Or.inl ⟨Or.inl (x_t6 (List.mem_of_getElem? (i := 31) rfl) rfl), _, _, _, rfl⟩
theorem zo_v_r0 : ∀ q ∈ (zl_v.getD 0 []), (fun o (q : Nat × Nat) => z_lok o q.1 q.2 1 ∨ z_lok o q.1 q.2 3) 0 q := List.forall_mem_cons.mpr ⟨zo_v_0_0, List.forall_mem_cons.mpr ⟨zo_v_0_1, List.forall_mem_cons.mpr ⟨zo_v_0_2, List.forall_mem_cons.mpr ⟨zo_v_0_3, List.forall_mem_cons.mpr ⟨zo_v_0_4, List.forall_mem_cons.mpr ⟨zo_v_0_5, List.forall_mem_cons.mpr ⟨zo_v_0_6, List.forall_mem_cons.mpr ⟨zo_v_0_7, List.forall_mem_cons.mpr ⟨zo_v_0_8, fun _ h => absurd h List.not_mem_nil⟩⟩⟩⟩⟩⟩⟩⟩⟩
theorem zo_v_r1 : ∀ q ∈ (zl_v.getD 1 []), (fun o (q : Nat × Nat) => z_lok o q.1 q.2 1 ∨ z_lok o q.1 q.2 3) 1 q := List.forall_mem_cons.mpr ⟨zo_v_1_0, List.forall_mem_cons.mpr ⟨zo_v_1_1, List.forall_mem_cons.mpr ⟨zo_v_1_2, List.forall_mem_cons.mpr ⟨zo_v_1_3, fun _ h => absurd h List.not_mem_nil⟩⟩⟩⟩
theorem zo_v_r2 : ∀ q ∈ (zl_v.getD 2 []), (fun o (q : Nat × Nat) => z_lok o q.1 q.2 1 ∨ z_lok o q.1 q.2 3) 2 q := List.forall_mem_cons.mpr ⟨zo_v_2_0, List.forall_mem_cons.mpr ⟨zo_v_2_1, List.forall_mem_cons.mpr ⟨zo_v_2_2, fun _ h => absurd h List.not_mem_nil⟩⟩⟩
theorem zo_v_r3 : ∀ q ∈ (zl_v.getD 3 []), (fun o (q : Nat × Nat) => z_lok o q.1 q.2 1 ∨ z_lok o q.1 q.2 3) 3 q := List.forall_mem_cons.mpr ⟨zo_v_3_0, List.forall_mem_cons.mpr ⟨zo_v_3_1, List.forall_mem_cons.mpr ⟨zo_v_3_2, fun _ h => absurd h List.not_mem_nil⟩⟩⟩
theorem zo_v_r4 : ∀ q ∈ (zl_v.getD 4 []), (fun o (q : Nat × Nat) => z_lok o q.1 q.2 1 ∨ z_lok o q.1 q.2 3) 4 q := List.forall_mem_cons.mpr ⟨zo_v_4_0, List.forall_mem_cons.mpr ⟨zo_v_4_1, fun _ h => absurd h List.not_mem_nil⟩⟩
theorem zo_v_r5 : ∀ q ∈ (zl_v.getD 5 []), (fun o (q : Nat × Nat) => z_lok o q.1 q.2 1 ∨ z_lok o q.1 q.2 3) 5 q := List.forall_mem_cons.mpr ⟨zo_v_5_0, List.forall_mem_cons.mpr ⟨zo_v_5_1, List.forall_mem_cons.mpr ⟨zo_v_5_2, List.forall_mem_cons.mpr ⟨zo_v_5_3, List.forall_mem_cons.mpr ⟨zo_v_5_4, List.forall_mem_cons.mpr ⟨zo_v_5_5, List.forall_mem_cons.mpr ⟨zo_v_5_6, List.forall_mem_cons.mpr ⟨zo_v_5_7, List.forall_mem_cons.mpr ⟨zo_v_5_8, List.forall_mem_cons.mpr ⟨zo_v_5_9, List.forall_mem_cons.mpr ⟨zo_v_5_10, List.forall_mem_cons.mpr ⟨zo_v_5_11, List.forall_mem_cons.mpr ⟨zo_v_5_12, List.forall_mem_cons.mpr ⟨zo_v_5_13, List.forall_mem_cons.mpr ⟨zo_v_5_14, List.forall_mem_cons.mpr ⟨zo_v_5_15, List.forall_mem_cons.mpr ⟨zo_v_5_16, List.forall_mem_cons.mpr ⟨zo_v_5_17, List.forall_mem_cons.mpr ⟨zo_v_5_18, List.forall_mem_cons.mpr ⟨zo_v_5_19, List.forall_mem_cons.mpr ⟨zo_v_5_20, List.forall_mem_cons.mpr ⟨zo_v_5_21, List.forall_mem_cons.mpr ⟨zo_v_5_22, List.forall_mem_cons.mpr ⟨zo_v_5_23, List.forall_mem_cons.mpr ⟨zo_v_5_24, List.forall_mem_cons.mpr ⟨zo_v_5_25, List.forall_mem_cons.mpr ⟨zo_v_5_26, List.forall_mem_cons.mpr ⟨zo_v_5_27, List.forall_mem_cons.mpr ⟨zo_v_5_28, List.forall_mem_cons.mpr ⟨zo_v_5_29, List.forall_mem_cons.mpr ⟨zo_v_5_30, List.forall_mem_cons.mpr ⟨zo_v_5_31, List.forall_mem_cons.mpr ⟨zo_v_5_32, List.forall_mem_cons.mpr ⟨zo_v_5_33, List.forall_mem_cons.mpr ⟨zo_v_5_34, List.forall_mem_cons.mpr ⟨zo_v_5_35, List.forall_mem_cons.mpr ⟨zo_v_5_36, List.forall_mem_cons.mpr ⟨zo_v_5_37, List.forall_mem_cons.mpr ⟨zo_v_5_38, List.forall_mem_cons.mpr ⟨zo_v_5_39, List.forall_mem_cons.mpr ⟨zo_v_5_40, fun _ h => absurd h List.not_mem_nil⟩⟩⟩⟩⟩⟩⟩⟩⟩⟩⟩⟩⟩⟩⟩⟩⟩⟩⟩⟩⟩⟩⟩⟩⟩⟩⟩⟩⟩⟩⟩⟩⟩⟩⟩⟩⟩⟩⟩⟩⟩
theorem zo_v_r6 : ∀ q ∈ (zl_v.getD 6 []), (fun o (q : Nat × Nat) => z_lok o q.1 q.2 1 ∨ z_lok o q.1 q.2 3) 6 q := List.forall_mem_cons.mpr ⟨zo_v_6_0, List.forall_mem_cons.mpr ⟨zo_v_6_1, List.forall_mem_cons.mpr ⟨zo_v_6_2, List.forall_mem_cons.mpr ⟨zo_v_6_3, List.forall_mem_cons.mpr ⟨zo_v_6_4, List.forall_mem_cons.mpr ⟨zo_v_6_5, List.forall_mem_cons.mpr ⟨zo_v_6_6, List.forall_mem_cons.mpr ⟨zo_v_6_7, List.forall_mem_cons.mpr ⟨zo_v_6_8, List.forall_mem_cons.mpr ⟨zo_v_6_9, List.forall_mem_cons.mpr ⟨zo_v_6_10, List.forall_mem_cons.mpr ⟨zo_v_6_11, List.forall_mem_cons.mpr ⟨zo_v_6_12, List.forall_mem_cons.mpr ⟨zo_v_6_13, List.forall_mem_cons.mpr ⟨zo_v_6_14, List.forall_mem_cons.mpr ⟨zo_v_6_15, List.forall_mem_cons.mpr ⟨zo_v_6_16, List.forall_mem_cons.mpr ⟨zo_v_6_17, List.forall_mem_cons.mpr ⟨zo_v_6_18, List.forall_mem_cons.mpr ⟨zo_v_6_19, List.forall_mem_cons.mpr ⟨zo_v_6_20, List.forall_mem_cons.mpr ⟨zo_v_6_21, List.forall_mem_cons.mpr ⟨zo_v_6_22, List.forall_mem_cons.mpr ⟨zo_v_6_23, List.forall_mem_cons.mpr ⟨zo_v_6_24, List.forall_mem_cons.mpr ⟨zo_v_6_25, List.forall_mem_cons.mpr ⟨zo_v_6_26, List.forall_mem_cons.mpr ⟨zo_v_6_27, fun _ h => absurd h List.not_mem_nil⟩⟩⟩⟩⟩⟩⟩⟩⟩⟩⟩⟩⟩⟩⟩⟩⟩⟩⟩⟩⟩⟩⟩⟩⟩⟩⟩⟩
theorem zo_v_r7 : ∀ q ∈ (zl_v.getD 7 []), (fun o (q : Nat × Nat) => z_lok o q.1 q.2 1 ∨ z_lok o q.1 q.2 3) 7 q := List.forall_mem_cons.mpr ⟨zo_v_7_0, List.forall_mem_cons.mpr ⟨zo_v_7_1, List.forall_mem_cons.mpr ⟨zo_v_7_2, List.forall_mem_cons.mpr ⟨zo_v_7_3, List.forall_mem_cons.mpr ⟨zo_v_7_4, List.forall_mem_cons.mpr ⟨zo_v_7_5, List.forall_mem_cons.mpr ⟨zo_v_7_6, List.forall_mem_cons.mpr ⟨zo_v_7_7, List.forall_mem_cons.mpr ⟨zo_v_7_8, List.forall_mem_cons.mpr ⟨zo_v_7_9, List.forall_mem_cons.mpr ⟨zo_v_7_10, List.forall_mem_cons.mpr ⟨zo_v_7_11, List.forall_mem_cons.mpr ⟨zo_v_7_12, List.forall_mem_cons.mpr ⟨zo_v_7_13, List.forall_mem_cons.mpr ⟨zo_v_7_14, List.forall_mem_cons.mpr ⟨zo_v_7_15, List.forall_mem_cons.mpr ⟨zo_v_7_16, List.forall_mem_cons.mpr ⟨zo_v_7_17, List.forall_mem_cons.mpr ⟨zo_v_7_18, List.forall_mem_cons.mpr ⟨zo_v_7_19, List.forall_mem_cons.mpr ⟨zo_v_7_20, List.forall_mem_cons.mpr ⟨zo_v_7_21, List.forall_mem_cons.mpr ⟨zo_v_7_22, List.forall_mem_cons.mpr ⟨zo_v_7_23, List.forall_mem_cons.mpr ⟨zo_v_7_24, List.forall_mem_cons.mpr ⟨zo_v_7_25, List.forall_mem_cons.mpr ⟨zo_v_7_26, List.forall_mem_cons.mpr ⟨zo_v_7_27, List.forall_mem_cons.mpr ⟨zo_v_7_28, List.forall_mem_cons.mpr ⟨zo_v_7_29, List.forall_mem_cons.mpr ⟨zo_v_7_30, List.forall_mem_cons.mpr ⟨zo_v_7_31, List.forall_mem_cons.mpr ⟨zo_v_7_32, List.forall_mem_cons.mpr ⟨zo_v_7_33, List.forall_mem_cons.mpr ⟨zo_v_7_34, List.forall_mem_cons.mpr ⟨zo_v_7_35, List.forall_mem_cons.mpr ⟨zo_v_7_36, List.forall_mem_cons.mpr ⟨zo_v_7_37, List.forall_mem_cons.mpr ⟨zo_v_7_38, List.forall_mem_cons.mpr ⟨zo_v_7_39, List.forall_mem_cons.mpr ⟨zo_v_7_40, List.forall_mem_cons.mpr ⟨zo_v_7_41, List.forall_mem_cons.mpr ⟨zo_v_7_42, List.forall_mem_cons.mpr ⟨zo_v_7_43, List.forall_mem_cons.mpr ⟨zo_v_7_44, List.forall_mem_cons.mpr ⟨zo_v_7_45, List.forall_mem_cons.mpr ⟨zo_v_7_46, List.forall_mem_cons.mpr ⟨zo_v_7_47, fun _ h => absurd h List.not_mem_nil⟩⟩⟩⟩⟩⟩⟩⟩⟩⟩⟩⟩⟩⟩⟩⟩⟩⟩⟩⟩⟩⟩⟩⟩⟩⟩⟩⟩⟩⟩⟩⟩⟩⟩⟩⟩⟩⟩⟩⟩⟩⟩⟩⟩⟩⟩⟩⟩
theorem zo_v_r8 : ∀ q ∈ (zl_v.getD 8 []), (fun o (q : Nat × Nat) => z_lok o q.1 q.2 1 ∨ z_lok o q.1 q.2 3) 8 q := List.forall_mem_cons.mpr ⟨zo_v_8_0, List.forall_mem_cons.mpr ⟨zo_v_8_1, List.forall_mem_cons.mpr ⟨zo_v_8_2, List.forall_mem_cons.mpr ⟨zo_v_8_3, List.forall_mem_cons.mpr ⟨zo_v_8_4, List.forall_mem_cons.mpr ⟨zo_v_8_5, List.forall_mem_cons.mpr ⟨zo_v_8_6, List.forall_mem_cons.mpr ⟨zo_v_8_7, List.forall_mem_cons.mpr ⟨zo_v_8_8, List.forall_mem_cons.mpr ⟨zo_v_8_9, List.forall_mem_cons.mpr ⟨zo_v_8_10, List.forall_mem_cons.mpr ⟨zo_v_8_11, List.forall_mem_cons.mpr ⟨zo_v_8_12, List.forall_mem_cons.mpr ⟨zo_v_8_13, List.forall_mem_cons.mpr ⟨zo_v_8_14, List.forall_mem_cons.mpr ⟨zo_v_8_15, List.forall_mem_cons.mpr ⟨zo_v_8_16, List.forall_mem_cons.mpr ⟨zo_v_8_17, List.forall_mem_cons.mpr ⟨zo_v_8_18, List.forall_mem_cons.mpr ⟨zo_v_8_19, List.forall_mem_cons.mpr ⟨zo_v_8_20, List.forall_mem_cons.mpr ⟨zo_v_8_21, List.forall_mem_cons.mpr ⟨zo_v_8_22, List.forall_mem_cons.mpr ⟨zo_v_8_23, List.forall_mem_cons.mpr ⟨zo_v_8_24, List.forall_mem_cons.mpr ⟨zo_v_8_25, List.forall_mem_cons.mpr ⟨zo_v_8_26, List.forall_mem_cons.mpr ⟨zo_v_8_27, List.forall_mem_cons.mpr ⟨zo_v_8_28, List.forall_mem_cons.mpr ⟨zo_v_8_29, List.forall_mem_cons.mpr ⟨zo_v_8_30, fun _ h => absurd h List.not_mem_nil⟩⟩⟩⟩⟩⟩⟩⟩⟩⟩⟩⟩⟩⟩⟩⟩⟩⟩⟩⟩⟩⟩⟩⟩⟩⟩⟩⟩⟩⟩⟩
theorem zo_v_all : ∀ o r, zl_v[o]? = some r → ∀ q ∈ r, (fun o (q : Nat × Nat) => z_lok o q.1 q.2 1 ∨ z_lok o q.1 q.2 3) o q := by
  intro o r hr
  match o, hr with
  | 0, hr => cases hr; exact zo_v_r0
  | 1, hr => cases hr; exact zo_v_r1
  | 2, hr => cases hr; exact zo_v_r2
  | 3, hr => cases hr; exact zo_v_r3
  | 4, hr => cases hr; exact zo_v_r4
  | 5, hr => cases hr; exact zo_v_r5
  | 6, hr => cases hr; exact zo_v_r6
  | 7, hr => cases hr; exact zo_v_r7
  | 8, hr => cases hr; exact zo_v_r8
  | n + 9, hr => cases hr
theorem ok_v : ∀ o i y, zt_v o i = some y → z_lok o i y 1 ∨ z_lok o i y 3 := fun o i y h => z_row_in (P := fun o (q : Nat × Nat) => z_lok o q.1 q.2 1 ∨ z_lok o q.1 q.2 3) h zo_v_all
theorem zo_c_0_0 : z_lok 0 106 16 0 := ⟨Or.inr ⟨_, (x_n2 (List.mem_of_getElem? (i := 11) rfl) rfl)⟩, _, _, _, rfl⟩
theorem zo_c_0_1 : z_lok 0 54 25 0 := ⟨Or.inl (x_t2 (List.mem_of_getElem? (i := 46) rfl) rfl), _, _, _, rfl⟩
theorem zo_c_2_0 : z_lok 2 55 19 0 := ⟨Or.inl (x_t2 (List.mem_of_getElem? (i := 22) rfl) rfl), _, _, _, rfl⟩
theorem zo_c_2_1 : z_lok 2 63 16 0 := ⟨Or.inl (x_t2 (List.mem_of_getElem? (i := 25) rfl) rfl), _, _, _, rfl⟩
theorem zo_c_2_2 : z_lok 2 59 21 0 := ⟨Or.inl (x_t2 (List.mem_of_getElem? (i := 30) rfl) rfl), _, _, _, rfl⟩
theorem zo_c_4_0 : z_lok 4 29 62 0 := ⟨Or.inr ⟨_, (x_n3 (List.mem_of_getElem? (i := 85) rfl) rfl)⟩, _, _, _, rfl⟩
theorem zo_c_5_0 : z_lok 5 170 45 0 := ⟨Or.inl (x_t2 (List.mem_of_getElem? (i := 207) rfl) rfl), _, _, _, rfl⟩
theorem zo_c_5_1 : z_lok 5 255 16 0 := ⟨Or.inr ⟨_, (x_n3 (List.mem_of_getElem? (i := 38) rfl) rfl)⟩, _, _, _, rfl⟩
theorem zo_c_5_2 : z_lok 5 197 64 0 := ⟨Or.inr ⟨_, (x_n3 (List.mem_of_getElem? (i := 96) rfl) rfl)⟩, _, _, _, rfl⟩
theorem zo_c_5_3 : z_lok 5 94 62 0 := ⟨Or.inr ⟨_, (x_n3 (List.mem_of_getElem? (i := 103) rfl) rfl)⟩, _, _, _, rfl⟩
theorem zo_c_6_0 : z_lok 6 198 45 0 := ⟨Or.inl (x_t3 (List.mem_of_getElem? (i := 235) rfl) rfl), _, _, _, rfl⟩
theorem zo_c_7_0 : z_lok 7 243 116 0 := ⟨Or.inl (x_t5 (List.mem_of_getElem? (i := 18) rfl) rfl), _, _, _, rfl⟩
theorem zo_c_7_1 : z_lok 7 156 128 0 := ⟨Or.inl (x_t5 (List.mem_of_getElem? (i := 65) rfl) rfl), _, _, _, rfl⟩
theorem zo_c_7_2 : z_lok 7 130 141 0 := ⟨Or.inl (x_t5 (List.mem_of_getElem? (i := 116) rfl) rfl), _, _, _, rfl⟩
theorem zo_c_7_3 : z_lok 7 138 142 0 := ⟨Or.inl (x_t5 (List.mem_of_getElem? (i := 119) rfl) rfl), _, _, _, rfl⟩
theorem zo_c_7_4 : z_lok 7 182 143 0 := ⟨Or.inl (x_t5 (List.mem_of_getElem? (i := 124) rfl) rfl), _, _, _, rfl⟩
theorem zo_c_7_5 : z_lok 7 274 166 0 := ⟨Or.inl (x_t5 (List.mem_of_getElem? (i := 217) rfl) rfl), _, _, _, rfl⟩
theorem zo_c_7_6 : z_lok 7 278 167 0 := ⟨Or.inl (x_t5 (List.mem_of_getElem? (i := 220) rfl) rfl), _, _, _, rfl⟩
theorem zo_c_8_0 : z_lok 8 67 23 0 := ⟨Or.inl (x_t2 (List.mem_of_getElem? (i := 37) rfl) rfl), _, _, _, rfl⟩
theorem zo_c_8_1 : z_lok 8 80 70 0 := ⟨Or.inl (x_t3 (List.mem_of_getElem? (i := 126) rfl) rfl), _, _, _, rfl⟩
theorem zo_c_8_2 : z_lok 8 83 95 0 := ⟨Or.inl (x_t4 (List.mem_of_getElem? (i := 47) rfl) rfl), _, _, _, rfl⟩
theorem zo_c_8_3 : z_lok 8 86 97 0 := ⟨Or.inl (x_t4 (List.mem_of_getElem? (i := 54) rfl) rfl), _, _, _, rfl⟩
theorem zo_c_8_4 : z_lok 8 90 100 0 := ⟨Or.inl (x_t4 (List.mem_of_getElem? (i := 65) rfl) rfl), _, _, _, rfl⟩
theorem zo_c_8_5 : z_lok 8 93 102 0 := ⟨Or.inl (x_t4 (List.mem_of_getElem? (i := 72) rfl) rfl), _, _, _, rfl⟩
theorem zo_c_8_6 : z_lok 8 96 104 0 := ⟨Or.inl (x_t4 (List.mem_of_getElem? (i := 79) rfl) rfl), _, _, _, rfl⟩
theorem zo_c_8_7 : z_lok 8 100 106 0 := ⟨Or.inl (x_t4 (List.mem_of_getElem? (i := 86) rfl) rfl), _, _, _, rfl⟩
theorem zo_c_r0 : ∀ q ∈ (zl_c.getD 0 []), (fun o (q : Nat × Nat) => z_lok o q.1 q.2 0) 0 q := List.forall_mem_cons.mpr ⟨zo_c_0_0, List.forall_mem_cons.mpr ⟨zo_c_0_1, fun _ h => absurd h List.not_mem_nil⟩⟩
theorem zo_c_r1 : ∀ q ∈ (zl_c.getD 1 []), (fun o (q : Nat × Nat) => z_lok o q.1 q.2 0) 1 q := fun _ h => absurd h List.not_mem_nil
theorem zo_c_r2 : ∀ q ∈ (zl_c.getD 2 []), (fun o (q : Nat × Nat) => z_lok o q.1 q.2 0) 2 q := List.forall_mem_cons.mpr ⟨zo_c_2_0, List.forall_mem_cons.mpr ⟨zo_c_2_1, List.forall_mem_cons.mpr ⟨zo_c_2_2, fun _ h => absurd h List.not_mem_nil⟩⟩⟩
theorem zo_c_r3 : ∀ q ∈ (zl_c.getD 3 []), (fun o (q : Nat × Nat) => z_lok o q.1 q.2 0) 3 q := fun _ h => absurd h List.not_mem_nil
theorem zo_c_r4 : ∀ q ∈ (zl_c.getD 4 []), (fun o (q : Nat × Nat) => z_lok o q.1 q.2 0) 4 q := List.forall_mem_cons.mpr ⟨zo_c_4_0, fun _ h => absurd h List.not_mem_nil⟩
theorem zo_c_r5 : ∀ q ∈ (zl_c.getD 5 []), (fun o (q : Nat × Nat) => z_lok o q.1 q.2 0) 5 q := List.forall_mem_cons.mpr ⟨zo_c_5_0, List.forall_mem_cons.mpr ⟨zo_c_5_1, List.forall_mem_cons.mpr ⟨zo_c_5_2, List.forall_mem_cons.mpr ⟨zo_c_5_3, fun _ h => absurd h List.not_mem_nil⟩⟩⟩⟩
theorem zo_c_r6 : ∀ q ∈ (zl_c.getD 6 []), (fun o (q : Nat × Nat) => z_lok o q.1 q.2 0) 6 q := List.forall_mem_cons.mpr ⟨zo_c_6_0, fun _ h => absurd h List.not_mem_nil⟩
theorem zo_c_r7 : ∀ q ∈ (zl_c.getD 7 []), (fun o (q : Nat × Nat) => z_lok o q.1 q.2 0) 7 q := List.forall_mem_cons.mpr ⟨zo_c_7_0, List.forall_mem_cons.mpr ⟨zo_c_7_1, List.forall_mem_cons.mpr ⟨zo_c_7_2, List.forall_mem_cons.mpr ⟨zo_c_7_3, List.forall_mem_cons.mpr ⟨zo_c_7_4, List.forall_mem_cons.mpr ⟨zo_c_7_5, List.forall_mem_cons.mpr ⟨zo_c_7_6, fun _ h => absurd h List.not_mem_nil⟩⟩⟩⟩⟩⟩⟩
theorem zo_c_r8 : ∀ q ∈ (zl_c.getD 8 []), (fun o (q : Nat × Nat) => z_lok o q.1 q.2 0) 8 q := List.forall_mem_cons.mpr ⟨zo_c_8_0, List.forall_mem_cons.mpr ⟨zo_c_8_1, List.forall_mem_cons.mpr ⟨zo_c_8_2, List.forall_mem_cons.mpr ⟨zo_c_8_3, List.forall_mem_cons.mpr ⟨zo_c_8_4, List.forall_mem_cons.mpr ⟨zo_c_8_5, List.forall_mem_cons.mpr ⟨zo_c_8_6, List.forall_mem_cons.mpr ⟨zo_c_8_7, fun _ h => absurd h List.not_mem_nil⟩⟩⟩⟩⟩⟩⟩⟩
theorem zo_c_all : ∀ o r, zl_c[o]? = some r → ∀ q ∈ r, (fun o (q : Nat × Nat) => z_lok o q.1 q.2 0) o q := by
  intro o r hr
  match o, hr with
  | 0, hr => cases hr; exact zo_c_r0
  | 1, hr => cases hr; exact zo_c_r1
  | 2, hr => cases hr; exact zo_c_r2
  | 3, hr => cases hr; exact zo_c_r3
  | 4, hr => cases hr; exact zo_c_r4
  | 5, hr => cases hr; exact zo_c_r5
  | 6, hr => cases hr; exact zo_c_r6
  | 7, hr => cases hr; exact zo_c_r7
  | 8, hr => cases hr; exact zo_c_r8
  | n + 9, hr => cases hr
theorem ok_c : ∀ o i y, zt_c o i = some y → z_lok o i y 0 := fun o i y h => z_row_in (P := fun o (q : Nat × Nat) => z_lok o q.1 q.2 0) h zo_c_all
theorem zo_k_0_0 : z_lok 0 11 1 2 := ⟨Or.inl (x_t1 (List.mem_of_getElem? (i := 31) rfl) rfl), _, _, _, rfl⟩
theorem zo_k_0_1 : z_lok 0 18 3 2 := ⟨Or.inl (x_t1 (List.mem_of_getElem? (i := 98) rfl) rfl), _, _, _, rfl⟩
theorem zo_k_0_2 : z_lok 0 25 6 2 := ⟨Or.inl (x_t1 (List.mem_of_getElem? (i := 176) rfl) rfl), _, _, _, rfl⟩
theorem zo_k_0_3 : z_lok 0 32 2 2 := ⟨Or.inl (x_t1 (List.mem_of_getElem? (i := 201) rfl) rfl), _, _, _, rfl⟩
theorem zo_k_2_0 : z_lok 2 33 2 2 := ⟨Or.inl (x_t1 (List.mem_of_getElem? (i := 37) rfl) rfl), _, _, _, rfl⟩
theorem zo_k_5_0 : z_lok 5 11 4 2 := ⟨Or.inl (x_t1 (List.mem_of_getElem? (i := 104) rfl) rfl), _, _, _, rfl⟩
theorem zo_k_5_1 : z_lok 5 20 5 2 := ⟨Or.inr ⟨_, (x_n1 (List.mem_of_getElem? (i := 123) rfl) rfl)⟩, _, _, _, rfl⟩
theorem zo_k_5_2 : z_lok 5 31 1 2 := ⟨Or.inl (x_t1 (List.mem_of_getElem? (i := 141) rfl) rfl), _, _, _, rfl⟩
theorem zo_k_6_0 : z_lok 6 11 4 2 := ⟨Or.inl (x_t1 (List.mem_of_getElem? (i := 181) rfl) rfl), _, _, _, rfl⟩
theorem zo_k_6_1 : z_lok 6 20 2 2 := ⟨Or.inl (x_t1 (List.mem_of_getElem? (i := 183) rfl) rfl), _, _, _, rfl⟩
theorem zo_k_8_0 : z_lok 8 45 0 2 := ⟨Or.inl (x_t1 (List.mem_of_getElem? (i := 22) rfl) rfl), _, _, _, rfl⟩
theorem zo_k_8_1 : z_lok 8 48 109 2 := ⟨Or.inl (x_t4 (List.mem_of_getElem? (i := 99) rfl) rfl), _, _, _, rfl⟩
theorem zo_k_r0 : ∀ q ∈ (zl_k.getD 0 []), (fun o (q : Nat × Nat) => z_lok o q.1 q.2 2) 0 q := List.forall_mem_cons.mpr ⟨zo_k_0_0, List.forall_mem_cons.mpr ⟨zo_k_0_1, List.forall_mem_cons.mpr ⟨zo_k_0_2, List.forall_mem_cons.mpr ⟨zo_k_0_3, fun _ h => absurd h List.not_mem_nil⟩⟩⟩⟩
theorem zo_k_r1 : ∀ q ∈ (zl_k.getD 1 []), (fun o (q : Nat × Nat) => z_lok o q.1 q.2 2) 1 q := fun _ h => absurd h List.not_mem_nil
theorem zo_k_r2 : ∀ q ∈ (zl_k.getD 2 []), (fun o (q : Nat × Nat) => z_lok o q.1 q.2 2) 2 q := List.forall_mem_cons.mpr ⟨zo_k_2_0, fun _ h => absurd h List.not_mem_nil⟩
theorem zo_k_r3 : ∀ q ∈ (zl_k.getD 3 []), (fun o (q : Nat × Nat) => z_lok o q.1 q.2 2) 3 q := fun _ h => absurd h List.not_mem_nil
theorem zo_k_r4 : ∀ q ∈ (zl_k.getD 4 []), (fun o (q : Nat × Nat) => z_lok o q.1 q.2 2) 4 q := fun _ h => absurd h List.not_mem_nil
theorem zo_k_r5 : ∀ q ∈ (zl_k.getD 5 []), (fun o (q : Nat × Nat) => z_lok o q.1 q.2 2) 5 q := List.forall_mem_cons.mpr ⟨zo_k_5_0, List.forall_mem_cons.mpr ⟨zo_k_5_1, List.forall_mem_cons.mpr ⟨zo_k_5_2, fun _ h => absurd h List.not_mem_nil⟩⟩⟩
theorem zo_k_r6 : ∀ q ∈ (zl_k.getD 6 []), (fun o (q : Nat × Nat) => z_lok o q.1 q.2 2) 6 q := List.forall_mem_cons.mpr ⟨zo_k_6_0, List.forall_mem_cons.mpr ⟨zo_k_6_1, fun _ h => absurd h List.not_mem_nil⟩⟩
theorem zo_k_r7 : ∀ q ∈ (zl_k.getD 7 []), (fun o (q : Nat × Nat) => z_lok o q.1 q.2 2) 7 q := fun _ h => absurd h List.not_mem_nil
theorem zo_k_r8 : ∀ q ∈ (zl_k.getD 8 []), (fun o (q : Nat × Nat) => z_lok o q.1 q.2 2) 8 q := List.forall_mem_cons.mpr ⟨zo_k_8_0, List.forall_mem_cons.mpr ⟨zo_k_8_1, fun _ h => absurd h List.not_mem_nil⟩⟩
theorem zo_k_all : ∀ o r, zl_k[o]? = some r → ∀ q ∈ r, (fun o (q : Nat × Nat) => z_lok o q.1 q.2 2) o q := by
  intro o r hr
  match o, hr with
  | 0, hr => cases hr; exact zo_k_r0
  | 1, hr => cases hr; exact zo_k_r1
  | 2, hr => cases hr; exact zo_k_r2
  | 3, hr => cases hr; exact zo_k_r3
  | 4, hr => cases hr; exact zo_k_r4
  | 5, hr => cases hr; exact zo_k_r5
  | 6, hr => cases hr; exact zo_k_r6
  | 7, hr => cases hr; exact zo_k_r7
  | 8, hr => cases hr; exact zo_k_r8
  | n + 9, hr => cases hr
theorem ok_k : ∀ o i y, zt_k o i = some y → z_lok o i y 2 := fun o i y h => z_row_in (P := fun o (q : Nat × Nat) => z_lok o q.1 q.2 2) h zo_k_all
theorem ok_cast : ∀ X ∈ x_xs, Cond.castable X X ∈ x_nest := List.forall_mem_cons.mpr ⟨(x_n2 (List.mem_of_getElem? (i := 51) rfl) rfl), List.forall_mem_cons.mpr ⟨(x_n2 (List.mem_of_getElem? (i := 145) rfl) rfl), List.forall_mem_cons.mpr ⟨(x_n3 (List.mem_of_getElem? (i := 137) rfl) rfl), List.forall_mem_cons.mpr ⟨(x_n3 (List.mem_of_getElem? (i := 170) rfl) rfl), fun _ h => absurd h List.not_mem_nil⟩⟩⟩⟩
theorem zy_0 : z_yok 0 0 prog_1_method_1_code 1 none true := ⟨rfl, by decide +kernel, fun _ => rfl, fun _ => (x_t1 (List.mem_of_getElem? (i := 24) rfl) rfl), fun h => absurd h (by decide)⟩
theorem zy_1 : z_yok 1 2 prog_6_method_1_code 1 none true := ⟨rfl, by decide +kernel, fun _ => rfl, fun _ => (x_t1 (List.mem_of_getElem? (i := 33) rfl) rfl), fun h => absurd h (by decide)⟩
theorem zy_2 : z_yok 2 1 prog_2_method_1_code 2 none true := ⟨rfl, by decide +kernel, fun _ => rfl, fun _ => (x_t1 (List.mem_of_getElem? (i := 39) rfl) rfl), fun h => absurd h (by decide)⟩
theorem zy_3 : z_yok 3 5 prog_5_method_1_code 1 none true := ⟨rfl, by decide +kernel, fun _ => rfl, fun _ => (x_t1 (List.mem_of_getElem? (i := 100) rfl) rfl), fun h => absurd h (by decide)⟩
theorem zy_4 : z_yok 4 3 prog_3_method_1_code 1 none true := ⟨rfl, by decide +kernel, fun _ => rfl, fun _ => (x_t1 (List.mem_of_getElem? (i := 106) rfl) rfl), fun h => absurd h (by decide)⟩
theorem zy_5 : z_yok 5 4 prog_4_method_1_code 1 none true := ⟨rfl, by decide +kernel, fun _ => rfl, fun _ => (x_t1 (List.mem_of_getElem? (i := 125) rfl) rfl), fun h => absurd h (by decide)⟩
theorem zy_6 : z_yok 6 6 prog_7_method_1_code 1 none true := ⟨rfl, by decide +kernel, fun _ => rfl, fun _ => (x_t1 (List.mem_of_getElem? (i := 178) rfl) rfl), fun h => absurd h (by decide)⟩
theorem zy_7 : z_yok 7 0 prog_1_method_2_code 5 (some FieldType.boolean) false := ⟨rfl, by decide +kernel, fun h => absurd h (by decide), fun _ => (x_t1 (List.mem_of_getElem? (i := 218) rfl) rfl), fun h => absurd h (by decide)⟩
theorem zy_8 : z_yok 8 1 prog_2_method_2_code 2 (some FieldType.boolean) false := ⟨rfl, by decide +kernel, fun h => absurd h (by decide), fun _ => (x_t1 (List.mem_of_getElem? (i := 222) rfl) rfl), fun h => absurd h (by decide)⟩
theorem zy_9 : z_yok 9 0 prog_1_method_3_code 1 none false := ⟨rfl, by decide +kernel, fun h => absurd h (by decide), fun _ => (x_t1 (List.mem_of_getElem? (i := 226) rfl) rfl), fun h => absurd h (by decide)⟩
theorem zy_10 : z_yok 10 1 prog_2_method_4_code 2 none false := ⟨rfl, by decide +kernel, fun h => absurd h (by decide), fun _ => (x_t1 (List.mem_of_getElem? (i := 230) rfl) rfl), fun h => absurd h (by decide)⟩
theorem zy_11 : z_yok 11 0 prog_1_method_4_code 1 (some FieldType.int) false := ⟨rfl, by decide +kernel, fun h => absurd h (by decide), fun _ => (x_t1 (List.mem_of_getElem? (i := 234) rfl) rfl), fun h => absurd h (by decide)⟩
theorem zy_12 : z_yok 12 0 prog_1_method_5_code 2 (some FieldType.int) false := ⟨rfl, by decide +kernel, fun h => absurd h (by decide), fun _ => (x_t1 (List.mem_of_getElem? (i := 238) rfl) rfl), fun h => absurd h (by decide)⟩
theorem zy_13 : z_yok 13 1 prog_2_method_3_code 2 (some FieldType.int) false := ⟨rfl, by decide +kernel, fun h => absurd h (by decide), fun _ => (x_t2 (List.mem_of_getElem? (i := 2) rfl) rfl), fun h => absurd h (by decide)⟩
theorem zy_14 : z_yok 14 0 prog_1_method_7_code 1 (some FieldType.int) false := ⟨rfl, by decide +kernel, fun h => absurd h (by decide), fun _ => (x_t2 (List.mem_of_getElem? (i := 6) rfl) rfl), fun h => absurd h (by decide)⟩
theorem zy_15 : z_yok 15 0 prog_1_method_15_code 1 (some FieldType.boolean) false := ⟨rfl, by decide +kernel, fun h => absurd h (by decide), fun _ => (x_t2 (List.mem_of_getElem? (i := 10) rfl) rfl), fun h => absurd h (by decide)⟩
theorem zy_16 : z_yok 16 2 prog_6_method_11_code 5 (some FieldType.boolean) false := ⟨rfl, by decide +kernel, fun h => absurd h (by decide), fun _ => (x_t2 (List.mem_of_getElem? (i := 13) rfl) rfl), fun h => absurd h (by decide)⟩
theorem zy_17 : z_yok 17 1 prog_2_method_6_code 6 (some FieldType.boolean) false := ⟨rfl, by decide +kernel, fun h => absurd h (by decide), fun _ => (x_t2 (List.mem_of_getElem? (i := 17) rfl) rfl), fun h => absurd h (by decide)⟩
theorem zy_18 : z_yok 18 1 prog_2_method_5_code 3 (some FieldType.boolean) false := ⟨rfl, by decide +kernel, fun h => absurd h (by decide), fun _ => (x_t2 (List.mem_of_getElem? (i := 21) rfl) rfl), fun h => absurd h (by decide)⟩
theorem zy_19 : z_yok 19 2 prog_6_method_13_code 11 (some FieldType.boolean) false := ⟨rfl, by decide +kernel, fun h => absurd h (by decide), fun _ => (x_t2 (List.mem_of_getElem? (i := 24) rfl) rfl), fun h => absurd h (by decide)⟩
theorem zy_20 : z_yok 20 2 prog_6_method_9_code 3 (some FieldType.int) false := ⟨rfl, by decide +kernel, fun h => absurd h (by decide), fun _ => (x_t2 (List.mem_of_getElem? (i := 29) rfl) rfl), fun h => absurd h (by decide)⟩
theorem zy_21 : z_yok 21 2 prog_6_method_12_code 8 (some FieldType.boolean) false := ⟨rfl, by decide +kernel, fun h => absurd h (by decide), fun _ => (x_t2 (List.mem_of_getElem? (i := 32) rfl) rfl), fun h => absurd h (by decide)⟩
theorem zy_22 : z_yok 22 0 prog_1_method_16_code 2 none false := ⟨rfl, by decide +kernel, fun h => absurd h (by decide), fun _ => (x_t2 (List.mem_of_getElem? (i := 36) rfl) rfl), fun h => absurd h (by decide)⟩
theorem zy_23 : z_yok 23 8 method_3_code 4 (some FieldType.int) false := ⟨rfl, by decide +kernel, fun h => absurd h (by decide), fun h => absurd h (by decide), fun _ => ⟨(x_t2 (List.mem_of_getElem? (i := 39) rfl) rfl), List.forall_mem_cons.mpr ⟨⟨by decide, by decide, "java/lang/IndexOutOfBoundsException", rfl, (x_t2 (List.mem_of_getElem? (i := 40) rfl) rfl)⟩, List.forall_mem_cons.mpr ⟨⟨by decide, by decide, "java/lang/IllegalArgumentException", rfl, (x_t2 (List.mem_of_getElem? (i := 41) rfl) rfl)⟩, fun _ h => absurd h List.not_mem_nil⟩⟩⟩⟩
theorem zy_24 : z_yok 24 0 prog_1_method_6_code 2 (some FieldType.int) false := ⟨rfl, by decide +kernel, fun h => absurd h (by decide), fun _ => (x_t2 (List.mem_of_getElem? (i := 45) rfl) rfl), fun h => absurd h (by decide)⟩
theorem zy_25 : z_yok 25 0 prog_1_method_17_code 1 none false := ⟨rfl, by decide +kernel, fun h => absurd h (by decide), fun _ => (x_t2 (List.mem_of_getElem? (i := 48) rfl) rfl), fun h => absurd h (by decide)⟩
theorem zy_26 : z_yok 26 5 prog_5_method_2_code 2 none false := ⟨rfl, by decide +kernel, fun h => absurd h (by decide), fun _ => (x_t2 (List.mem_of_getElem? (i := 116) rfl) rfl), fun h => absurd h (by decide)⟩
theorem zy_27 : z_yok 27 3 prog_3_method_2_code 1 none false := ⟨rfl, by decide +kernel, fun h => absurd h (by decide), fun _ => (x_t2 (List.mem_of_getElem? (i := 120) rfl) rfl), fun h => absurd h (by decide)⟩
theorem zy_28 : z_yok 28 2 prog_6_method_2_code 1 none false := ⟨rfl, by decide +kernel, fun h => absurd h (by decide), fun _ => (x_t2 (List.mem_of_getElem? (i := 124) rfl) rfl), fun h => absurd h (by decide)⟩
theorem zy_29 : z_yok 29 5 prog_5_method_8_code 4 none false := ⟨rfl, by decide +kernel, fun h => absurd h (by decide), fun _ => (x_t2 (List.mem_of_getElem? (i := 129) rfl) rfl), fun h => absurd h (by decide)⟩
theorem zy_30 : z_yok 30 5 prog_5_method_5_code 1 none false := ⟨rfl, by decide +kernel, fun h => absurd h (by decide), fun _ => (x_t2 (List.mem_of_getElem? (i := 133) rfl) rfl), fun h => absurd h (by decide)⟩
theorem zy_31 : z_yok 31 5 prog_5_method_22_code 5 none false := ⟨rfl, by decide +kernel, fun h => absurd h (by decide), fun _ => (x_t2 (List.mem_of_getElem? (i := 138) rfl) rfl), fun h => absurd h (by decide)⟩
theorem zy_32 : z_yok 32 5 prog_5_method_4_code 2 none false := ⟨rfl, by decide +kernel, fun h => absurd h (by decide), fun _ => (x_t2 (List.mem_of_getElem? (i := 142) rfl) rfl), fun h => absurd h (by decide)⟩
theorem zy_33 : z_yok 33 5 prog_5_method_7_code 6 (some FieldType.int) false := ⟨rfl, by decide +kernel, fun h => absurd h (by decide), fun _ => (x_t2 (List.mem_of_getElem? (i := 161) rfl) rfl), fun h => absurd h (by decide)⟩
theorem zy_34 : z_yok 34 2 prog_6_method_3_code 1 (some FieldType.boolean) false := ⟨rfl, by decide +kernel, fun h => absurd h (by decide), fun _ => (x_t2 (List.mem_of_getElem? (i := 165) rfl) rfl), fun h => absurd h (by decide)⟩
theorem zy_35 : z_yok 35 2 prog_6_method_4_code 5 (some FieldType.int) false := ⟨rfl, by decide +kernel, fun h => absurd h (by decide), fun _ => (x_t2 (List.mem_of_getElem? (i := 169) rfl) rfl), fun h => absurd h (by decide)⟩
theorem zy_36 : z_yok 36 5 prog_5_method_24_code 4 none false := ⟨rfl, by decide +kernel, fun h => absurd h (by decide), fun _ => (x_t2 (List.mem_of_getElem? (i := 173) rfl) rfl), fun h => absurd h (by decide)⟩
theorem zy_37 : z_yok 37 5 prog_5_method_23_code 1 (some FieldType.boolean) false := ⟨rfl, by decide +kernel, fun h => absurd h (by decide), fun _ => (x_t2 (List.mem_of_getElem? (i := 177) rfl) rfl), fun h => absurd h (by decide)⟩
theorem zy_38 : z_yok 38 5 prog_5_method_6_code 2 none false := ⟨rfl, by decide +kernel, fun h => absurd h (by decide), fun _ => (x_t2 (List.mem_of_getElem? (i := 181) rfl) rfl), fun h => absurd h (by decide)⟩
theorem zy_39 : z_yok 39 2 prog_6_method_7_code 4 none false := ⟨rfl, by decide +kernel, fun h => absurd h (by decide), fun _ => (x_t2 (List.mem_of_getElem? (i := 185) rfl) rfl), fun h => absurd h (by decide)⟩
theorem zy_40 : z_yok 40 5 prog_5_method_12_code 3 none false := ⟨rfl, by decide +kernel, fun h => absurd h (by decide), fun _ => (x_t2 (List.mem_of_getElem? (i := 189) rfl) rfl), fun h => absurd h (by decide)⟩
theorem zy_41 : z_yok 41 5 prog_5_method_13_code 2 none false := ⟨rfl, by decide +kernel, fun h => absurd h (by decide), fun _ => (x_t2 (List.mem_of_getElem? (i := 193) rfl) rfl), fun h => absurd h (by decide)⟩
theorem zy_42 : z_yok 42 5 prog_5_method_14_code 4 (some FieldType.int) false := ⟨rfl, by decide +kernel, fun h => absurd h (by decide), fun _ => (x_t2 (List.mem_of_getElem? (i := 198) rfl) rfl), fun h => absurd h (by decide)⟩
theorem zy_43 : z_yok 43 5 prog_5_method_16_code 2 (some FieldType.int) false := ⟨rfl, by decide +kernel, fun h => absurd h (by decide), fun _ => (x_t2 (List.mem_of_getElem? (i := 202) rfl) rfl), fun h => absurd h (by decide)⟩
theorem zy_44 : z_yok 44 5 prog_5_method_15_code 2 none false := ⟨rfl, by decide +kernel, fun h => absurd h (by decide), fun _ => (x_t2 (List.mem_of_getElem? (i := 206) rfl) rfl), fun h => absurd h (by decide)⟩
theorem zy_45 : z_yok 45 3 prog_3_method_5_code 5 (some FieldType.boolean) false := ⟨rfl, by decide +kernel, fun h => absurd h (by decide), fun _ => (x_t2 (List.mem_of_getElem? (i := 209) rfl) rfl), fun h => absurd h (by decide)⟩
theorem zy_46 : z_yok 46 3 prog_3_method_3_code 3 none false := ⟨rfl, by decide +kernel, fun h => absurd h (by decide), fun _ => (x_t2 (List.mem_of_getElem? (i := 214) rfl) rfl), fun h => absurd h (by decide)⟩
theorem zy_47 : z_yok 47 1 prog_2_method_7_code 5 (some FieldType.boolean) false := ⟨rfl, by decide +kernel, fun h => absurd h (by decide), fun _ => (x_t2 (List.mem_of_getElem? (i := 220) rfl) rfl), fun h => absurd h (by decide)⟩
theorem zy_50 : z_yok 50 5 prog_5_method_25_code 4 none false := ⟨rfl, by decide +kernel, fun h => absurd h (by decide), fun _ => (x_t3 (List.mem_of_getElem? (i := 33) rfl) rfl), fun h => absurd h (by decide)⟩
theorem zy_51 : z_yok 51 5 prog_5_method_29_code 8 none false := ⟨rfl, by decide +kernel, fun h => absurd h (by decide), fun _ => (x_t3 (List.mem_of_getElem? (i := 37) rfl) rfl), fun h => absurd h (by decide)⟩
theorem zy_52 : z_yok 52 5 prog_5_method_17_code 2 none false := ⟨rfl, by decide +kernel, fun h => absurd h (by decide), fun _ => (x_t3 (List.mem_of_getElem? (i := 43) rfl) rfl), fun h => absurd h (by decide)⟩
theorem zy_53 : z_yok 53 5 prog_5_method_26_code 7 none false := ⟨rfl, by decide +kernel, fun h => absurd h (by decide), fun _ => (x_t3 (List.mem_of_getElem? (i := 47) rfl) rfl), fun h => absurd h (by decide)⟩
theorem zy_54 : z_yok 54 5 prog_5_method_27_code 3 (some FieldType.int) false := ⟨rfl, by decide +kernel, fun h => absurd h (by decide), fun _ => (x_t3 (List.mem_of_getElem? (i := 51) rfl) rfl), fun h => absurd h (by decide)⟩
theorem zy_55 : z_yok 55 2 prog_6_method_5_code 4 none false := ⟨rfl, by decide +kernel, fun h => absurd h (by decide), fun _ => (x_t3 (List.mem_of_getElem? (i := 59) rfl) rfl), fun h => absurd h (by decide)⟩
theorem zy_56 : z_yok 56 2 prog_6_method_6_code 2 none false := ⟨rfl, by decide +kernel, fun h => absurd h (by decide), fun _ => (x_t3 (List.mem_of_getElem? (i := 63) rfl) rfl), fun h => absurd h (by decide)⟩
theorem zy_57 : z_yok 57 5 prog_5_method_28_code 4 none false := ⟨rfl, by decide +kernel, fun h => absurd h (by decide), fun _ => (x_t3 (List.mem_of_getElem? (i := 67) rfl) rfl), fun h => absurd h (by decide)⟩
theorem zy_58 : z_yok 58 5 prog_5_method_18_code 4 none false := ⟨rfl, by decide +kernel, fun h => absurd h (by decide), fun _ => (x_t3 (List.mem_of_getElem? (i := 71) rfl) rfl), fun h => absurd h (by decide)⟩
theorem zy_59 : z_yok 59 5 prog_5_method_19_code 4 none false := ⟨rfl, by decide +kernel, fun h => absurd h (by decide), fun _ => (x_t3 (List.mem_of_getElem? (i := 75) rfl) rfl), fun h => absurd h (by decide)⟩
theorem zy_60 : z_yok 60 5 prog_5_method_20_code 4 none false := ⟨rfl, by decide +kernel, fun h => absurd h (by decide), fun _ => (x_t3 (List.mem_of_getElem? (i := 79) rfl) rfl), fun h => absurd h (by decide)⟩
theorem zy_61 : z_yok 61 4 prog_4_method_2_code 5 (some FieldType.boolean) false := ⟨rfl, by decide +kernel, fun h => absurd h (by decide), fun _ => (x_t3 (List.mem_of_getElem? (i := 83) rfl) rfl), fun h => absurd h (by decide)⟩
theorem zy_62 : z_yok 62 0 prog_1_method_19_code 1 (some FieldType.boolean) false := ⟨rfl, by decide +kernel, fun h => absurd h (by decide), fun _ => (x_t3 (List.mem_of_getElem? (i := 87) rfl) rfl), fun h => absurd h (by decide)⟩
theorem zy_63 : z_yok 63 4 prog_4_method_3_code 2 none false := ⟨rfl, by decide +kernel, fun h => absurd h (by decide), fun _ => (x_t3 (List.mem_of_getElem? (i := 91) rfl) rfl), fun h => absurd h (by decide)⟩
theorem zy_64 : z_yok 64 0 prog_1_method_20_code 1 (some FieldType.boolean) false := ⟨rfl, by decide +kernel, fun h => absurd h (by decide), fun _ => (x_t3 (List.mem_of_getElem? (i := 98) rfl) rfl), fun h => absurd h (by decide)⟩
theorem zy_65 : z_yok 65 5 prog_5_method_21_code 3 none false := ⟨rfl, by decide +kernel, fun h => absurd h (by decide), fun _ => (x_t3 (List.mem_of_getElem? (i := 102) rfl) rfl), fun h => absurd h (by decide)⟩
theorem zy_66 : z_yok 66 5 prog_5_method_11_code 2 none false := ⟨rfl, by decide +kernel, fun h => absurd h (by decide), fun _ => (x_t3 (List.mem_of_getElem? (i := 107) rfl) rfl), fun h => absurd h (by decide)⟩
theorem zy_67 : z_yok 67 5 prog_5_method_9_code 3 none false := ⟨rfl, by decide +kernel, fun h => absurd h (by decide), fun _ => (x_t3 (List.mem_of_getElem? (i := 111) rfl) rfl), fun h => absurd h (by decide)⟩
theorem zy_68 : z_yok 68 5 prog_5_method_10_code 3 none false := ⟨rfl, by decide +kernel, fun h => absurd h (by decide), fun _ => (x_t3 (List.mem_of_getElem? (i := 116) rfl) rfl), fun h => absurd h (by decide)⟩
theorem zy_69 : z_yok 69 5 prog_5_method_3_code 3 (some (FieldType.object "RollingTransit$Tree")) false := ⟨rfl, by decide +kernel, fun h => absurd h (by decide), fun _ => (x_t3 (List.mem_of_getElem? (i := 124) rfl) rfl), fun h => absurd h (by decide)⟩
theorem zy_70 : z_yok 70 8 method_4_code 4 (some FieldType.int) false := ⟨rfl, by decide +kernel, fun h => absurd h (by decide), fun h => absurd h (by decide), fun _ => ⟨(x_t3 (List.mem_of_getElem? (i := 128) rfl) rfl), List.forall_mem_cons.mpr ⟨⟨by decide, by decide, "java/lang/IndexOutOfBoundsException", rfl, (x_t2 (List.mem_of_getElem? (i := 40) rfl) rfl)⟩, List.forall_mem_cons.mpr ⟨⟨by decide, by decide, "java/lang/IllegalStateException", rfl, (x_t3 (List.mem_of_getElem? (i := 129) rfl) rfl)⟩, List.forall_mem_cons.mpr ⟨⟨by decide, by decide, "java/lang/UnsupportedOperationException", rfl, (x_t3 (List.mem_of_getElem? (i := 130) rfl) rfl)⟩, fun _ h => absurd h List.not_mem_nil⟩⟩⟩⟩⟩
theorem zy_71 : z_yok 71 0 prog_1_method_8_code 2 (some FieldType.int) false := ⟨rfl, by decide +kernel, fun h => absurd h (by decide), fun _ => (x_t3 (List.mem_of_getElem? (i := 134) rfl) rfl), fun h => absurd h (by decide)⟩
theorem zy_72 : z_yok 72 6 prog_7_method_2_code 2 none false := ⟨rfl, by decide +kernel, fun h => absurd h (by decide), fun _ => (x_t3 (List.mem_of_getElem? (i := 153) rfl) rfl), fun h => absurd h (by decide)⟩
theorem zy_73 : z_yok 73 6 prog_7_method_19_code 3 none false := ⟨rfl, by decide +kernel, fun h => absurd h (by decide), fun _ => (x_t3 (List.mem_of_getElem? (i := 160) rfl) rfl), fun h => absurd h (by decide)⟩
theorem zy_74 : z_yok 74 6 prog_7_method_4_code 2 none false := ⟨rfl, by decide +kernel, fun h => absurd h (by decide), fun _ => (x_t3 (List.mem_of_getElem? (i := 166) rfl) rfl), fun h => absurd h (by decide)⟩
theorem zy_75 : z_yok 75 6 prog_7_method_11_code 8 none false := ⟨rfl, by decide +kernel, fun h => absurd h (by decide), fun _ => (x_t3 (List.mem_of_getElem? (i := 186) rfl) rfl), fun h => absurd h (by decide)⟩
theorem zy_76 : z_yok 76 6 prog_7_method_17_code 5 none false := ⟨rfl, by decide +kernel, fun h => absurd h (by decide), fun _ => (x_t3 (List.mem_of_getElem? (i := 195) rfl) rfl), fun h => absurd h (by decide)⟩
theorem zy_77 : z_yok 77 6 prog_7_method_18_code 6 (some FieldType.int) false := ⟨rfl, by decide +kernel, fun h => absurd h (by decide), fun _ => (x_t3 (List.mem_of_getElem? (i := 199) rfl) rfl), fun h => absurd h (by decide)⟩
theorem zy_78 : z_yok 78 6 prog_7_method_12_code 5 none false := ⟨rfl, by decide +kernel, fun h => absurd h (by decide), fun _ => (x_t3 (List.mem_of_getElem? (i := 205) rfl) rfl), fun h => absurd h (by decide)⟩
theorem zy_79 : z_yok 79 6 prog_7_method_14_code 3 none false := ⟨rfl, by decide +kernel, fun h => absurd h (by decide), fun _ => (x_t3 (List.mem_of_getElem? (i := 210) rfl) rfl), fun h => absurd h (by decide)⟩
theorem zy_80 : z_yok 80 6 prog_7_method_16_code 5 none false := ⟨rfl, by decide +kernel, fun h => absurd h (by decide), fun _ => (x_t3 (List.mem_of_getElem? (i := 217) rfl) rfl), fun h => absurd h (by decide)⟩
theorem zy_81 : z_yok 81 6 prog_7_method_15_code 3 none false := ⟨rfl, by decide +kernel, fun h => absurd h (by decide), fun _ => (x_t3 (List.mem_of_getElem? (i := 223) rfl) rfl), fun h => absurd h (by decide)⟩
theorem zy_82 : z_yok 82 6 prog_7_method_13_code 3 none false := ⟨rfl, by decide +kernel, fun h => absurd h (by decide), fun _ => (x_t3 (List.mem_of_getElem? (i := 230) rfl) rfl), fun h => absurd h (by decide)⟩
theorem zy_83 : z_yok 83 6 prog_7_method_20_code 6 none false := ⟨rfl, by decide +kernel, fun h => absurd h (by decide), fun _ => (x_t3 (List.mem_of_getElem? (i := 234) rfl) rfl), fun h => absurd h (by decide)⟩
theorem zy_84 : z_yok 84 3 prog_3_method_4_code 5 (some FieldType.int) false := ⟨rfl, by decide +kernel, fun h => absurd h (by decide), fun _ => (x_t3 (List.mem_of_getElem? (i := 239) rfl) rfl), fun h => absurd h (by decide)⟩
theorem zy_85 : z_yok 85 6 prog_7_method_21_code 4 none false := ⟨rfl, by decide +kernel, fun h => absurd h (by decide), fun _ => (x_t4 (List.mem_of_getElem? (i := 4) rfl) rfl), fun h => absurd h (by decide)⟩
theorem zy_86 : z_yok 86 6 prog_7_method_22_code 2 none false := ⟨rfl, by decide +kernel, fun h => absurd h (by decide), fun _ => (x_t4 (List.mem_of_getElem? (i := 8) rfl) rfl), fun h => absurd h (by decide)⟩
theorem zy_87 : z_yok 87 6 prog_7_method_6_code 4 none false := ⟨rfl, by decide +kernel, fun h => absurd h (by decide), fun _ => (x_t4 (List.mem_of_getElem? (i := 13) rfl) rfl), fun h => absurd h (by decide)⟩
theorem zy_88 : z_yok 88 6 prog_7_method_7_code 5 none false := ⟨rfl, by decide +kernel, fun h => absurd h (by decide), fun _ => (x_t4 (List.mem_of_getElem? (i := 17) rfl) rfl), fun h => absurd h (by decide)⟩
theorem zy_89 : z_yok 89 6 prog_7_method_5_code 2 none false := ⟨rfl, by decide +kernel, fun h => absurd h (by decide), fun _ => (x_t4 (List.mem_of_getElem? (i := 21) rfl) rfl), fun h => absurd h (by decide)⟩
theorem zy_90 : z_yok 90 6 prog_7_method_8_code 5 none false := ⟨rfl, by decide +kernel, fun h => absurd h (by decide), fun _ => (x_t4 (List.mem_of_getElem? (i := 26) rfl) rfl), fun h => absurd h (by decide)⟩
theorem zy_91 : z_yok 91 2 prog_6_method_10_code 4 (some FieldType.boolean) false := ⟨rfl, by decide +kernel, fun h => absurd h (by decide), fun _ => (x_t4 (List.mem_of_getElem? (i := 31) rfl) rfl), fun h => absurd h (by decide)⟩
theorem zy_92 : z_yok 92 6 prog_7_method_9_code 5 none false := ⟨rfl, by decide +kernel, fun h => absurd h (by decide), fun _ => (x_t4 (List.mem_of_getElem? (i := 35) rfl) rfl), fun h => absurd h (by decide)⟩
theorem zy_93 : z_yok 93 6 prog_7_method_10_code 4 none false := ⟨rfl, by decide +kernel, fun h => absurd h (by decide), fun _ => (x_t4 (List.mem_of_getElem? (i := 41) rfl) rfl), fun h => absurd h (by decide)⟩
theorem zy_94 : z_yok 94 6 prog_7_method_3_code 3 (some (FieldType.object "RollingTransit$Letters")) false := ⟨rfl, by decide +kernel, fun h => absurd h (by decide), fun _ => (x_t4 (List.mem_of_getElem? (i := 46) rfl) rfl), fun h => absurd h (by decide)⟩
theorem zy_95 : z_yok 95 8 method_5_code 4 (some FieldType.int) false := ⟨rfl, by decide +kernel, fun h => absurd h (by decide), fun h => absurd h (by decide), fun _ => ⟨(x_t4 (List.mem_of_getElem? (i := 49) rfl) rfl), List.forall_mem_cons.mpr ⟨⟨by decide, by decide, "java/lang/IndexOutOfBoundsException", rfl, (x_t2 (List.mem_of_getElem? (i := 40) rfl) rfl)⟩, fun _ h => absurd h List.not_mem_nil⟩⟩⟩
theorem zy_96 : z_yok 96 0 prog_1_method_9_code 2 (some FieldType.int) false := ⟨rfl, by decide +kernel, fun h => absurd h (by decide), fun _ => (x_t4 (List.mem_of_getElem? (i := 53) rfl) rfl), fun h => absurd h (by decide)⟩
theorem zy_97 : z_yok 97 8 method_6_code 5 (some FieldType.int) false := ⟨rfl, by decide +kernel, fun h => absurd h (by decide), fun h => absurd h (by decide), fun _ => ⟨(x_t4 (List.mem_of_getElem? (i := 56) rfl) rfl), List.forall_mem_cons.mpr ⟨⟨by decide, by decide, "java/lang/IndexOutOfBoundsException", rfl, (x_t2 (List.mem_of_getElem? (i := 40) rfl) rfl)⟩, fun _ h => absurd h List.not_mem_nil⟩⟩⟩
theorem zy_98 : z_yok 98 0 prog_1_method_10_code 3 (some FieldType.int) false := ⟨rfl, by decide +kernel, fun h => absurd h (by decide), fun _ => (x_t4 (List.mem_of_getElem? (i := 60) rfl) rfl), fun h => absurd h (by decide)⟩
theorem zy_99 : z_yok 99 0 prog_1_method_18_code 3 none false := ⟨rfl, by decide +kernel, fun h => absurd h (by decide), fun _ => (x_t4 (List.mem_of_getElem? (i := 64) rfl) rfl), fun h => absurd h (by decide)⟩
theorem zy_100 : z_yok 100 8 method_7_code 5 (some FieldType.int) false := ⟨rfl, by decide +kernel, fun h => absurd h (by decide), fun h => absurd h (by decide), fun _ => ⟨(x_t4 (List.mem_of_getElem? (i := 67) rfl) rfl), List.forall_mem_cons.mpr ⟨⟨by decide, by decide, "java/lang/IndexOutOfBoundsException", rfl, (x_t2 (List.mem_of_getElem? (i := 40) rfl) rfl)⟩, fun _ h => absurd h List.not_mem_nil⟩⟩⟩
theorem zy_101 : z_yok 101 0 prog_1_method_11_code 4 (some FieldType.int) false := ⟨rfl, by decide +kernel, fun h => absurd h (by decide), fun _ => (x_t4 (List.mem_of_getElem? (i := 71) rfl) rfl), fun h => absurd h (by decide)⟩
theorem zy_102 : z_yok 102 8 method_8_code 5 (some FieldType.int) false := ⟨rfl, by decide +kernel, fun h => absurd h (by decide), fun h => absurd h (by decide), fun _ => ⟨(x_t4 (List.mem_of_getElem? (i := 74) rfl) rfl), List.forall_mem_cons.mpr ⟨⟨by decide, by decide, "java/lang/IndexOutOfBoundsException", rfl, (x_t2 (List.mem_of_getElem? (i := 40) rfl) rfl)⟩, fun _ h => absurd h List.not_mem_nil⟩⟩⟩
theorem zy_103 : z_yok 103 0 prog_1_method_12_code 3 (some FieldType.long) false := ⟨rfl, by decide +kernel, fun h => absurd h (by decide), fun _ => (x_t4 (List.mem_of_getElem? (i := 78) rfl) rfl), fun h => absurd h (by decide)⟩
theorem zy_104 : z_yok 104 8 method_9_code 6 (some FieldType.int) false := ⟨rfl, by decide +kernel, fun h => absurd h (by decide), fun h => absurd h (by decide), fun _ => ⟨(x_t4 (List.mem_of_getElem? (i := 81) rfl) rfl), List.forall_mem_cons.mpr ⟨⟨by decide, by decide, "java/lang/IndexOutOfBoundsException", rfl, (x_t2 (List.mem_of_getElem? (i := 40) rfl) rfl)⟩, fun _ h => absurd h List.not_mem_nil⟩⟩⟩
theorem zy_105 : z_yok 105 0 prog_1_method_13_code 5 (some FieldType.int) false := ⟨rfl, by decide +kernel, fun h => absurd h (by decide), fun _ => (x_t4 (List.mem_of_getElem? (i := 85) rfl) rfl), fun h => absurd h (by decide)⟩
theorem zy_106 : z_yok 106 8 method_10_code 5 (some FieldType.int) false := ⟨rfl, by decide +kernel, fun h => absurd h (by decide), fun h => absurd h (by decide), fun _ => ⟨(x_t4 (List.mem_of_getElem? (i := 88) rfl) rfl), List.forall_mem_cons.mpr ⟨⟨by decide, by decide, "java/lang/IndexOutOfBoundsException", rfl, (x_t2 (List.mem_of_getElem? (i := 40) rfl) rfl)⟩, fun _ h => absurd h List.not_mem_nil⟩⟩⟩
theorem zy_107 : z_yok 107 0 prog_1_method_14_code 3 (some FieldType.int) false := ⟨rfl, by decide +kernel, fun h => absurd h (by decide), fun _ => (x_t4 (List.mem_of_getElem? (i := 92) rfl) rfl), fun h => absurd h (by decide)⟩
theorem zy_108 : z_yok 108 2 prog_6_method_8_code 4 none false := ⟨rfl, by decide +kernel, fun h => absurd h (by decide), fun _ => (x_t4 (List.mem_of_getElem? (i := 96) rfl) rfl), fun h => absurd h (by decide)⟩
theorem zy_109 : z_yok 109 7 prog_9_method_1_code 1 none true := ⟨rfl, by decide +kernel, fun _ => rfl, fun _ => (x_t4 (List.mem_of_getElem? (i := 101) rfl) rfl), fun h => absurd h (by decide)⟩
theorem zy_110 : z_yok 110 7 prog_9_method_2_code 1 (some FieldType.int) false := ⟨rfl, by decide +kernel, fun h => absurd h (by decide), fun _ => (x_t4 (List.mem_of_getElem? (i := 237) rfl) rfl), fun h => absurd h (by decide)⟩
theorem zy_111 : z_yok 111 7 prog_9_method_3_code 5 (some FieldType.boolean) false := ⟨rfl, by decide +kernel, fun h => absurd h (by decide), fun _ => (x_t5 (List.mem_of_getElem? (i := 1) rfl) rfl), fun h => absurd h (by decide)⟩
theorem zy_112 : z_yok 112 7 prog_9_method_4_code 1 none false := ⟨rfl, by decide +kernel, fun h => absurd h (by decide), fun _ => (x_t5 (List.mem_of_getElem? (i := 5) rfl) rfl), fun h => absurd h (by decide)⟩
theorem zy_113 : z_yok 113 7 prog_9_method_5_code 1 (some FieldType.int) false := ⟨rfl, by decide +kernel, fun h => absurd h (by decide), fun _ => (x_t5 (List.mem_of_getElem? (i := 9) rfl) rfl), fun h => absurd h (by decide)⟩
theorem zy_114 : z_yok 114 7 prog_9_method_6_code 2 (some FieldType.int) false := ⟨rfl, by decide +kernel, fun h => absurd h (by decide), fun _ => (x_t5 (List.mem_of_getElem? (i := 13) rfl) rfl), fun h => absurd h (by decide)⟩
theorem zy_115 : z_yok 115 7 prog_9_method_43_code 4 (some FieldType.int) false := ⟨rfl, by decide +kernel, fun h => absurd h (by decide), fun _ => (x_t5 (List.mem_of_getElem? (i := 17) rfl) rfl), fun h => absurd h (by decide)⟩
theorem zy_116 : z_yok 116 7 prog_9_method_41_code 1 (some FieldType.boolean) false := ⟨rfl, by decide +kernel, fun h => absurd h (by decide), fun _ => (x_t5 (List.mem_of_getElem? (i := 20) rfl) rfl), fun h => absurd h (by decide)⟩
theorem zy_117 : z_yok 117 7 prog_9_method_39_code 4 none false := ⟨rfl, by decide +kernel, fun h => absurd h (by decide), fun _ => (x_t5 (List.mem_of_getElem? (i := 24) rfl) rfl), fun h => absurd h (by decide)⟩
theorem zy_118 : z_yok 118 7 prog_9_method_9_code 1 none false := ⟨rfl, by decide +kernel, fun h => absurd h (by decide), fun _ => (x_t5 (List.mem_of_getElem? (i := 28) rfl) rfl), fun h => absurd h (by decide)⟩
theorem zy_119 : z_yok 119 7 prog_9_method_7_code 2 (some FieldType.int) false := ⟨rfl, by decide +kernel, fun h => absurd h (by decide), fun _ => (x_t5 (List.mem_of_getElem? (i := 32) rfl) rfl), fun h => absurd h (by decide)⟩
theorem zy_120 : z_yok 120 7 prog_9_method_34_code 1 none false := ⟨rfl, by decide +kernel, fun h => absurd h (by decide), fun _ => (x_t5 (List.mem_of_getElem? (i := 36) rfl) rfl), fun h => absurd h (by decide)⟩
theorem zy_121 : z_yok 121 7 prog_9_method_8_code 2 none false := ⟨rfl, by decide +kernel, fun h => absurd h (by decide), fun _ => (x_t5 (List.mem_of_getElem? (i := 40) rfl) rfl), fun h => absurd h (by decide)⟩
theorem zy_122 : z_yok 122 7 prog_9_method_14_code 4 (some FieldType.int) false := ⟨rfl, by decide +kernel, fun h => absurd h (by decide), fun _ => (x_t5 (List.mem_of_getElem? (i := 44) rfl) rfl), fun h => absurd h (by decide)⟩
theorem zy_123 : z_yok 123 7 prog_9_method_33_code 5 (some FieldType.boolean) false := ⟨rfl, by decide +kernel, fun h => absurd h (by decide), fun _ => (x_t5 (List.mem_of_getElem? (i := 48) rfl) rfl), fun h => absurd h (by decide)⟩
theorem zy_124 : z_yok 124 7 prog_9_method_31_code 4 (some FieldType.boolean) false := ⟨rfl, by decide +kernel, fun h => absurd h (by decide), fun _ => (x_t5 (List.mem_of_getElem? (i := 52) rfl) rfl), fun h => absurd h (by decide)⟩
theorem zy_125 : z_yok 125 7 prog_9_method_23_code 2 none false := ⟨rfl, by decide +kernel, fun h => absurd h (by decide), fun _ => (x_t5 (List.mem_of_getElem? (i := 56) rfl) rfl), fun h => absurd h (by decide)⟩
theorem zy_126 : z_yok 126 7 prog_9_method_25_code 2 (some FieldType.int) false := ⟨rfl, by decide +kernel, fun h => absurd h (by decide), fun _ => (x_t5 (List.mem_of_getElem? (i := 60) rfl) rfl), fun h => absurd h (by decide)⟩
theorem zy_127 : z_yok 127 7 prog_9_method_22_code 2 (some FieldType.int) false := ⟨rfl, by decide +kernel, fun h => absurd h (by decide), fun _ => (x_t5 (List.mem_of_getElem? (i := 64) rfl) rfl), fun h => absurd h (by decide)⟩
theorem zy_128 : z_yok 128 7 prog_9_method_24_code 1 (some FieldType.boolean) false := ⟨rfl, by decide +kernel, fun h => absurd h (by decide), fun _ => (x_t5 (List.mem_of_getElem? (i := 67) rfl) rfl), fun h => absurd h (by decide)⟩
theorem zy_129 : z_yok 129 7 prog_9_method_26_code 3 (some FieldType.boolean) false := ⟨rfl, by decide +kernel, fun h => absurd h (by decide), fun _ => (x_t5 (List.mem_of_getElem? (i := 71) rfl) rfl), fun h => absurd h (by decide)⟩
theorem zy_130 : z_yok 130 7 prog_9_method_27_code 1 none false := ⟨rfl, by decide +kernel, fun h => absurd h (by decide), fun _ => (x_t5 (List.mem_of_getElem? (i := 75) rfl) rfl), fun h => absurd h (by decide)⟩
theorem zy_131 : z_yok 131 7 prog_9_method_29_code 2 (some FieldType.boolean) false := ⟨rfl, by decide +kernel, fun h => absurd h (by decide), fun _ => (x_t5 (List.mem_of_getElem? (i := 79) rfl) rfl), fun h => absurd h (by decide)⟩
theorem zy_132 : z_yok 132 7 prog_9_method_28_code 6 (some FieldType.boolean) false := ⟨rfl, by decide +kernel, fun h => absurd h (by decide), fun _ => (x_t5 (List.mem_of_getElem? (i := 83) rfl) rfl), fun h => absurd h (by decide)⟩
theorem zy_133 : z_yok 133 7 prog_9_method_16_code 4 none false := ⟨rfl, by decide +kernel, fun h => absurd h (by decide), fun _ => (x_t5 (List.mem_of_getElem? (i := 87) rfl) rfl), fun h => absurd h (by decide)⟩
theorem zy_134 : z_yok 134 7 prog_9_method_30_code 9 none false := ⟨rfl, by decide +kernel, fun h => absurd h (by decide), fun _ => (x_t5 (List.mem_of_getElem? (i := 91) rfl) rfl), fun h => absurd h (by decide)⟩
theorem zy_135 : z_yok 135 7 prog_9_method_15_code 2 none false := ⟨rfl, by decide +kernel, fun h => absurd h (by decide), fun _ => (x_t5 (List.mem_of_getElem? (i := 95) rfl) rfl), fun h => absurd h (by decide)⟩
theorem zy_136 : z_yok 136 7 prog_9_method_13_code 6 none false := ⟨rfl, by decide +kernel, fun h => absurd h (by decide), fun _ => (x_t5 (List.mem_of_getElem? (i := 99) rfl) rfl), fun h => absurd h (by decide)⟩
theorem zy_137 : z_yok 137 7 prog_9_method_10_code 5 (some FieldType.boolean) false := ⟨rfl, by decide +kernel, fun h => absurd h (by decide), fun _ => (x_t5 (List.mem_of_getElem? (i := 103) rfl) rfl), fun h => absurd h (by decide)⟩
theorem zy_138 : z_yok 138 7 prog_9_method_12_code 6 (some FieldType.boolean) false := ⟨rfl, by decide +kernel, fun h => absurd h (by decide), fun _ => (x_t5 (List.mem_of_getElem? (i := 107) rfl) rfl), fun h => absurd h (by decide)⟩
theorem zy_139 : z_yok 139 7 prog_9_method_11_code 6 (some FieldType.int) false := ⟨rfl, by decide +kernel, fun h => absurd h (by decide), fun _ => (x_t5 (List.mem_of_getElem? (i := 111) rfl) rfl), fun h => absurd h (by decide)⟩
theorem zy_140 : z_yok 140 7 prog_9_method_21_code 8 (some FieldType.boolean) false := ⟨rfl, by decide +kernel, fun h => absurd h (by decide), fun _ => (x_t5 (List.mem_of_getElem? (i := 115) rfl) rfl), fun h => absurd h (by decide)⟩
theorem zy_141 : z_yok 141 7 prog_9_method_17_code 1 (some FieldType.boolean) false := ⟨rfl, by decide +kernel, fun h => absurd h (by decide), fun _ => (x_t5 (List.mem_of_getElem? (i := 118) rfl) rfl), fun h => absurd h (by decide)⟩
theorem zy_142 : z_yok 142 7 prog_9_method_19_code 6 (some FieldType.boolean) false := ⟨rfl, by decide +kernel, fun h => absurd h (by decide), fun _ => (x_t5 (List.mem_of_getElem? (i := 121) rfl) rfl), fun h => absurd h (by decide)⟩
theorem zy_143 : z_yok 143 7 prog_9_method_18_code 1 (some FieldType.boolean) false := ⟨rfl, by decide +kernel, fun h => absurd h (by decide), fun _ => (x_t5 (List.mem_of_getElem? (i := 126) rfl) rfl), fun h => absurd h (by decide)⟩
theorem zy_144 : z_yok 144 7 prog_9_method_32_code 8 none false := ⟨rfl, by decide +kernel, fun h => absurd h (by decide), fun _ => (x_t5 (List.mem_of_getElem? (i := 130) rfl) rfl), fun h => absurd h (by decide)⟩
theorem zy_145 : z_yok 145 7 prog_9_method_20_code 8 (some FieldType.long) false := ⟨rfl, by decide +kernel, fun h => absurd h (by decide), fun _ => (x_t5 (List.mem_of_getElem? (i := 134) rfl) rfl), fun h => absurd h (by decide)⟩
theorem zy_146 : z_yok 146 7 prog_9_method_35_code 1 none false := ⟨rfl, by decide +kernel, fun h => absurd h (by decide), fun _ => (x_t5 (List.mem_of_getElem? (i := 138) rfl) rfl), fun h => absurd h (by decide)⟩
theorem zy_147 : z_yok 147 7 prog_9_method_38_code 4 (some FieldType.boolean) false := ⟨rfl, by decide +kernel, fun h => absurd h (by decide), fun _ => (x_t5 (List.mem_of_getElem? (i := 142) rfl) rfl), fun h => absurd h (by decide)⟩
theorem zy_148 : z_yok 148 7 prog_9_method_37_code 4 none false := ⟨rfl, by decide +kernel, fun h => absurd h (by decide), fun _ => (x_t5 (List.mem_of_getElem? (i := 146) rfl) rfl), fun h => absurd h (by decide)⟩
theorem zy_149 : z_yok 149 7 prog_9_method_36_code 7 none false := ⟨rfl, by decide +kernel, fun h => absurd h (by decide), fun _ => (x_t5 (List.mem_of_getElem? (i := 150) rfl) rfl), fun h => absurd h (by decide)⟩
theorem zy_150 : z_yok 150 7 prog_9_method_40_code 2 (some FieldType.int) false := ⟨rfl, by decide +kernel, fun h => absurd h (by decide), fun _ => (x_t5 (List.mem_of_getElem? (i := 154) rfl) rfl), fun h => absurd h (by decide)⟩
theorem zy_151 : z_yok 151 7 prog_9_method_42_code 7 none false := ⟨rfl, by decide +kernel, fun h => absurd h (by decide), fun _ => (x_t5 (List.mem_of_getElem? (i := 158) rfl) rfl), fun h => absurd h (by decide)⟩
theorem zy_152 : z_yok 152 7 prog_9_method_44_code 1 (some FieldType.int) false := ⟨rfl, by decide +kernel, fun h => absurd h (by decide), fun _ => (x_t5 (List.mem_of_getElem? (i := 162) rfl) rfl), fun h => absurd h (by decide)⟩
theorem zy_153 : z_yok 153 7 prog_9_method_63_code 3 (some FieldType.int) false := ⟨rfl, by decide +kernel, fun h => absurd h (by decide), fun _ => (x_t5 (List.mem_of_getElem? (i := 166) rfl) rfl), fun h => absurd h (by decide)⟩
theorem zy_154 : z_yok 154 7 prog_9_method_62_code 5 none false := ⟨rfl, by decide +kernel, fun h => absurd h (by decide), fun _ => (x_t5 (List.mem_of_getElem? (i := 170) rfl) rfl), fun h => absurd h (by decide)⟩
theorem zy_155 : z_yok 155 7 prog_9_method_46_code 1 none false := ⟨rfl, by decide +kernel, fun h => absurd h (by decide), fun _ => (x_t5 (List.mem_of_getElem? (i := 174) rfl) rfl), fun h => absurd h (by decide)⟩
theorem zy_156 : z_yok 156 7 prog_9_method_45_code 2 none false := ⟨rfl, by decide +kernel, fun h => absurd h (by decide), fun _ => (x_t5 (List.mem_of_getElem? (i := 178) rfl) rfl), fun h => absurd h (by decide)⟩
theorem zy_157 : z_yok 157 7 prog_9_method_56_code 5 none false := ⟨rfl, by decide +kernel, fun h => absurd h (by decide), fun _ => (x_t5 (List.mem_of_getElem? (i := 182) rfl) rfl), fun h => absurd h (by decide)⟩
theorem zy_158 : z_yok 158 7 prog_9_method_48_code 3 none false := ⟨rfl, by decide +kernel, fun h => absurd h (by decide), fun _ => (x_t5 (List.mem_of_getElem? (i := 186) rfl) rfl), fun h => absurd h (by decide)⟩
theorem zy_159 : z_yok 159 7 prog_9_method_47_code 2 none false := ⟨rfl, by decide +kernel, fun h => absurd h (by decide), fun _ => (x_t5 (List.mem_of_getElem? (i := 190) rfl) rfl), fun h => absurd h (by decide)⟩
theorem zy_160 : z_yok 160 7 prog_9_method_55_code 5 none false := ⟨rfl, by decide +kernel, fun h => absurd h (by decide), fun _ => (x_t5 (List.mem_of_getElem? (i := 194) rfl) rfl), fun h => absurd h (by decide)⟩
theorem zy_161 : z_yok 161 7 prog_9_method_53_code 4 (some FieldType.int) false := ⟨rfl, by decide +kernel, fun h => absurd h (by decide), fun _ => (x_t5 (List.mem_of_getElem? (i := 198) rfl) rfl), fun h => absurd h (by decide)⟩
theorem zy_162 : z_yok 162 7 prog_9_method_54_code 3 none false := ⟨rfl, by decide +kernel, fun h => absurd h (by decide), fun _ => (x_t5 (List.mem_of_getElem? (i := 202) rfl) rfl), fun h => absurd h (by decide)⟩
theorem zy_163 : z_yok 163 7 prog_9_method_59_code 6 none false := ⟨rfl, by decide +kernel, fun h => absurd h (by decide), fun _ => (x_t5 (List.mem_of_getElem? (i := 206) rfl) rfl), fun h => absurd h (by decide)⟩
theorem zy_164 : z_yok 164 7 prog_9_method_57_code 6 none false := ⟨rfl, by decide +kernel, fun h => absurd h (by decide), fun _ => (x_t5 (List.mem_of_getElem? (i := 212) rfl) rfl), fun h => absurd h (by decide)⟩
theorem zy_165 : z_yok 165 7 prog_9_method_52_code 5 none false := ⟨rfl, by decide +kernel, fun h => absurd h (by decide), fun _ => (x_t5 (List.mem_of_getElem? (i := 216) rfl) rfl), fun h => absurd h (by decide)⟩
theorem zy_166 : z_yok 166 7 prog_9_method_51_code 5 (some FieldType.long) false := ⟨rfl, by decide +kernel, fun h => absurd h (by decide), fun _ => (x_t5 (List.mem_of_getElem? (i := 219) rfl) rfl), fun h => absurd h (by decide)⟩
theorem zy_167 : z_yok 167 7 prog_9_method_50_code 5 (some FieldType.int) false := ⟨rfl, by decide +kernel, fun h => absurd h (by decide), fun _ => (x_t5 (List.mem_of_getElem? (i := 222) rfl) rfl), fun h => absurd h (by decide)⟩
theorem zy_168 : z_yok 168 7 prog_9_method_58_code 4 none false := ⟨rfl, by decide +kernel, fun h => absurd h (by decide), fun _ => (x_t5 (List.mem_of_getElem? (i := 226) rfl) rfl), fun h => absurd h (by decide)⟩
theorem zy_169 : z_yok 169 7 prog_9_method_49_code 3 none false := ⟨rfl, by decide +kernel, fun h => absurd h (by decide), fun _ => (x_t5 (List.mem_of_getElem? (i := 230) rfl) rfl), fun h => absurd h (by decide)⟩
theorem zy_170 : z_yok 170 7 prog_9_method_61_code 6 none false := ⟨rfl, by decide +kernel, fun h => absurd h (by decide), fun _ => (x_t5 (List.mem_of_getElem? (i := 234) rfl) rfl), fun h => absurd h (by decide)⟩
theorem zy_171 : z_yok 171 7 prog_9_method_60_code 5 (some FieldType.boolean) false := ⟨rfl, by decide +kernel, fun h => absurd h (by decide), fun _ => (x_t5 (List.mem_of_getElem? (i := 238) rfl) rfl), fun h => absurd h (by decide)⟩
theorem zy_172 : z_yok 172 7 prog_9_method_64_code 2 (some FieldType.int) false := ⟨rfl, by decide +kernel, fun h => absurd h (by decide), fun _ => (x_t6 (List.mem_of_getElem? (i := 2) rfl) rfl), fun h => absurd h (by decide)⟩
theorem zy_173 : z_yok 173 7 prog_9_method_66_code 3 (some FieldType.int) false := ⟨rfl, by decide +kernel, fun h => absurd h (by decide), fun _ => (x_t6 (List.mem_of_getElem? (i := 6) rfl) rfl), fun h => absurd h (by decide)⟩
theorem zy_174 : z_yok 174 7 prog_9_method_65_code 3 (some FieldType.boolean) false := ⟨rfl, by decide +kernel, fun h => absurd h (by decide), fun _ => (x_t6 (List.mem_of_getElem? (i := 10) rfl) rfl), fun h => absurd h (by decide)⟩
theorem zy_175 : z_yok 175 7 prog_9_method_67_code 4 (some FieldType.int) false := ⟨rfl, by decide +kernel, fun h => absurd h (by decide), fun _ => (x_t6 (List.mem_of_getElem? (i := 14) rfl) rfl), fun h => absurd h (by decide)⟩
theorem zy_176 : z_yok 176 7 prog_9_method_68_code 3 (some FieldType.long) false := ⟨rfl, by decide +kernel, fun h => absurd h (by decide), fun _ => (x_t6 (List.mem_of_getElem? (i := 18) rfl) rfl), fun h => absurd h (by decide)⟩
theorem zy_177 : z_yok 177 7 prog_9_method_69_code 5 (some FieldType.int) false := ⟨rfl, by decide +kernel, fun h => absurd h (by decide), fun _ => (x_t6 (List.mem_of_getElem? (i := 22) rfl) rfl), fun h => absurd h (by decide)⟩
theorem zy_178 : z_yok 178 7 prog_9_method_70_code 4 (some FieldType.int) false := ⟨rfl, by decide +kernel, fun h => absurd h (by decide), fun _ => (x_t6 (List.mem_of_getElem? (i := 26) rfl) rfl), fun h => absurd h (by decide)⟩
theorem zy_179 : z_yok 179 7 prog_9_method_71_code 3 (some FieldType.boolean) false := ⟨rfl, by decide +kernel, fun h => absurd h (by decide), fun _ => (x_t6 (List.mem_of_getElem? (i := 30) rfl) rfl), fun h => absurd h (by decide)⟩
theorem zy_180 : z_yok 180 7 prog_9_method_72_code 1 none false := ⟨rfl, by decide +kernel, fun h => absurd h (by decide), fun _ => (x_t6 (List.mem_of_getElem? (i := 34) rfl) rfl), fun h => absurd h (by decide)⟩
theorem ok_y : ∀ y own cc nL ret cons, zt_bi y = none → zt_codes[y]? = some (own, cc, nL, ret, cons) → z_yok y own cc nL ret cons := by
  intro y own cc nL ret cons hb h
  match y, h with
  | 0, h => cases h; exact zy_0
  | 1, h => cases h; exact zy_1
  | 2, h => cases h; exact zy_2
  | 3, h => cases h; exact zy_3
  | 4, h => cases h; exact zy_4
  | 5, h => cases h; exact zy_5
  | 6, h => cases h; exact zy_6
  | 7, h => cases h; exact zy_7
  | 8, h => cases h; exact zy_8
  | 9, h => cases h; exact zy_9
  | 10, h => cases h; exact zy_10
  | 11, h => cases h; exact zy_11
  | 12, h => cases h; exact zy_12
  | 13, h => cases h; exact zy_13
  | 14, h => cases h; exact zy_14
  | 15, h => cases h; exact zy_15
  | 16, h => cases h; exact zy_16
  | 17, h => cases h; exact zy_17
  | 18, h => cases h; exact zy_18
  | 19, h => cases h; exact zy_19
  | 20, h => cases h; exact zy_20
  | 21, h => cases h; exact zy_21
  | 22, h => cases h; exact zy_22
  | 23, h => cases h; exact zy_23
  | 24, h => cases h; exact zy_24
  | 25, h => cases h; exact zy_25
  | 26, h => cases h; exact zy_26
  | 27, h => cases h; exact zy_27
  | 28, h => cases h; exact zy_28
  | 29, h => cases h; exact zy_29
  | 30, h => cases h; exact zy_30
  | 31, h => cases h; exact zy_31
  | 32, h => cases h; exact zy_32
  | 33, h => cases h; exact zy_33
  | 34, h => cases h; exact zy_34
  | 35, h => cases h; exact zy_35
  | 36, h => cases h; exact zy_36
  | 37, h => cases h; exact zy_37
  | 38, h => cases h; exact zy_38
  | 39, h => cases h; exact zy_39
  | 40, h => cases h; exact zy_40
  | 41, h => cases h; exact zy_41
  | 42, h => cases h; exact zy_42
  | 43, h => cases h; exact zy_43
  | 44, h => cases h; exact zy_44
  | 45, h => cases h; exact zy_45
  | 46, h => cases h; exact zy_46
  | 47, h => cases h; exact zy_47
  | 48, h => cases hb
  | 49, h => cases hb
  | 50, h => cases h; exact zy_50
  | 51, h => cases h; exact zy_51
  | 52, h => cases h; exact zy_52
  | 53, h => cases h; exact zy_53
  | 54, h => cases h; exact zy_54
  | 55, h => cases h; exact zy_55
  | 56, h => cases h; exact zy_56
  | 57, h => cases h; exact zy_57
  | 58, h => cases h; exact zy_58
  | 59, h => cases h; exact zy_59
  | 60, h => cases h; exact zy_60
  | 61, h => cases h; exact zy_61
  | 62, h => cases h; exact zy_62
  | 63, h => cases h; exact zy_63
  | 64, h => cases h; exact zy_64
  | 65, h => cases h; exact zy_65
  | 66, h => cases h; exact zy_66
  | 67, h => cases h; exact zy_67
  | 68, h => cases h; exact zy_68
  | 69, h => cases h; exact zy_69
  | 70, h => cases h; exact zy_70
  | 71, h => cases h; exact zy_71
  | 72, h => cases h; exact zy_72
  | 73, h => cases h; exact zy_73
  | 74, h => cases h; exact zy_74
  | 75, h => cases h; exact zy_75
  | 76, h => cases h; exact zy_76
  | 77, h => cases h; exact zy_77
  | 78, h => cases h; exact zy_78
  | 79, h => cases h; exact zy_79
  | 80, h => cases h; exact zy_80
  | 81, h => cases h; exact zy_81
  | 82, h => cases h; exact zy_82
  | 83, h => cases h; exact zy_83
  | 84, h => cases h; exact zy_84
  | 85, h => cases h; exact zy_85
  | 86, h => cases h; exact zy_86
  | 87, h => cases h; exact zy_87
  | 88, h => cases h; exact zy_88
  | 89, h => cases h; exact zy_89
  | 90, h => cases h; exact zy_90
  | 91, h => cases h; exact zy_91
  | 92, h => cases h; exact zy_92
  | 93, h => cases h; exact zy_93
  | 94, h => cases h; exact zy_94
  | 95, h => cases h; exact zy_95
  | 96, h => cases h; exact zy_96
  | 97, h => cases h; exact zy_97
  | 98, h => cases h; exact zy_98
  | 99, h => cases h; exact zy_99
  | 100, h => cases h; exact zy_100
  | 101, h => cases h; exact zy_101
  | 102, h => cases h; exact zy_102
  | 103, h => cases h; exact zy_103
  | 104, h => cases h; exact zy_104
  | 105, h => cases h; exact zy_105
  | 106, h => cases h; exact zy_106
  | 107, h => cases h; exact zy_107
  | 108, h => cases h; exact zy_108
  | 109, h => cases h; exact zy_109
  | 110, h => cases h; exact zy_110
  | 111, h => cases h; exact zy_111
  | 112, h => cases h; exact zy_112
  | 113, h => cases h; exact zy_113
  | 114, h => cases h; exact zy_114
  | 115, h => cases h; exact zy_115
  | 116, h => cases h; exact zy_116
  | 117, h => cases h; exact zy_117
  | 118, h => cases h; exact zy_118
  | 119, h => cases h; exact zy_119
  | 120, h => cases h; exact zy_120
  | 121, h => cases h; exact zy_121
  | 122, h => cases h; exact zy_122
  | 123, h => cases h; exact zy_123
  | 124, h => cases h; exact zy_124
  | 125, h => cases h; exact zy_125
  | 126, h => cases h; exact zy_126
  | 127, h => cases h; exact zy_127
  | 128, h => cases h; exact zy_128
  | 129, h => cases h; exact zy_129
  | 130, h => cases h; exact zy_130
  | 131, h => cases h; exact zy_131
  | 132, h => cases h; exact zy_132
  | 133, h => cases h; exact zy_133
  | 134, h => cases h; exact zy_134
  | 135, h => cases h; exact zy_135
  | 136, h => cases h; exact zy_136
  | 137, h => cases h; exact zy_137
  | 138, h => cases h; exact zy_138
  | 139, h => cases h; exact zy_139
  | 140, h => cases h; exact zy_140
  | 141, h => cases h; exact zy_141
  | 142, h => cases h; exact zy_142
  | 143, h => cases h; exact zy_143
  | 144, h => cases h; exact zy_144
  | 145, h => cases h; exact zy_145
  | 146, h => cases h; exact zy_146
  | 147, h => cases h; exact zy_147
  | 148, h => cases h; exact zy_148
  | 149, h => cases h; exact zy_149
  | 150, h => cases h; exact zy_150
  | 151, h => cases h; exact zy_151
  | 152, h => cases h; exact zy_152
  | 153, h => cases h; exact zy_153
  | 154, h => cases h; exact zy_154
  | 155, h => cases h; exact zy_155
  | 156, h => cases h; exact zy_156
  | 157, h => cases h; exact zy_157
  | 158, h => cases h; exact zy_158
  | 159, h => cases h; exact zy_159
  | 160, h => cases h; exact zy_160
  | 161, h => cases h; exact zy_161
  | 162, h => cases h; exact zy_162
  | 163, h => cases h; exact zy_163
  | 164, h => cases h; exact zy_164
  | 165, h => cases h; exact zy_165
  | 166, h => cases h; exact zy_166
  | 167, h => cases h; exact zy_167
  | 168, h => cases h; exact zy_168
  | 169, h => cases h; exact zy_169
  | 170, h => cases h; exact zy_170
  | 171, h => cases h; exact zy_171
  | 172, h => cases h; exact zy_172
  | 173, h => cases h; exact zy_173
  | 174, h => cases h; exact zy_174
  | 175, h => cases h; exact zy_175
  | 176, h => cases h; exact zy_176
  | 177, h => cases h; exact zy_177
  | 178, h => cases h; exact zy_178
  | 179, h => cases h; exact zy_179
  | 180, h => cases h; exact zy_180
  | n + 181, h => cases h
