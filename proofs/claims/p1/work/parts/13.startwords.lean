/-! the environment at the law's start -/
def zt_tms : List Term := [.string zN5 213, .string zN5 244, .string zN5 246, .string zN5 248, .string zN5 250, .string zN5 104, .string zN5 114, .string zN5 116, .string zN6 50, .string zN6 145, .string zN6 147, .string zN6 149, .string zN6 151, .string zN6 156, .string zN6 158, .string zN6 160, .string zN6 162, .string zN6 78, .string zN6 84, .string zN6 116, .string zN6 92, .string zN6 118]
def zt_tm (i : Nat) : Term := zt_tms.getD i (.int 0)
theorem ok_xi : ∀ X ∈ x_xs, Cond.instantiable X 6 ∈ x_tbl := List.forall_mem_cons.mpr ⟨(x_t2 (List.mem_of_getElem? (i := 50) rfl) rfl), List.forall_mem_cons.mpr ⟨(x_t2 (List.mem_of_getElem? (i := 144) rfl) rfl), List.forall_mem_cons.mpr ⟨(x_t3 (List.mem_of_getElem? (i := 136) rfl) rfl), List.forall_mem_cons.mpr ⟨(x_t3 (List.mem_of_getElem? (i := 169) rfl) rfl), fun _ h => absurd h List.not_mem_nil⟩⟩⟩⟩
theorem ok_ck : ∀ c r, classes[c]? = some r → z_cok c := by
  intro c r h
  match c, h with
  | 0, _ => exact zk_0
  | 1, _ => exact zk_1
  | 2, _ => exact zk_2
  | 3, _ => exact zk_3
  | 4, _ => exact zk_4
  | 5, _ => exact zk_5
  | 6, _ => exact zk_6
  | 7, _ => exact zk_7
  | n + 8, h => cases h
theorem ok_ao : Cond.arrayOver (.object zN2) ∈ lw_tbl := List.mem_append_right _ (List.mem_append_left _ (List.mem_of_getElem? (i := 29) rfl))
theorem zo_s_5_0 : ∃ tx, Cond.stringRef (zt_cn 5) 213 tx ∈ lw_tbl := ⟨_, (List.mem_append_right _ (List.mem_append_right _ (List.mem_append_left _ (List.mem_of_getElem? (i := 216) rfl))))⟩
theorem zo_s_5_1 : ∃ tx, Cond.stringRef (zt_cn 5) 244 tx ∈ lw_tbl := ⟨_, (List.mem_append_right _ (List.mem_append_right _ (List.mem_append_right _ (List.mem_append_left _ (List.mem_of_getElem? (i := 52) rfl)))))⟩
theorem zo_s_5_2 : ∃ tx, Cond.stringRef (zt_cn 5) 246 tx ∈ lw_tbl := ⟨_, (List.mem_append_right _ (List.mem_append_right _ (List.mem_append_right _ (List.mem_append_left _ (List.mem_of_getElem? (i := 53) rfl)))))⟩
theorem zo_s_5_3 : ∃ tx, Cond.stringRef (zt_cn 5) 248 tx ∈ lw_tbl := ⟨_, (List.mem_append_right _ (List.mem_append_right _ (List.mem_append_right _ (List.mem_append_left _ (List.mem_of_getElem? (i := 54) rfl)))))⟩
theorem zo_s_5_4 : ∃ tx, Cond.stringRef (zt_cn 5) 250 tx ∈ lw_tbl := ⟨_, (List.mem_append_right _ (List.mem_append_right _ (List.mem_append_right _ (List.mem_append_left _ (List.mem_of_getElem? (i := 55) rfl)))))⟩
theorem zo_s_5_5 : ∃ tx, Cond.stringRef (zt_cn 5) 104 tx ∈ lw_tbl := ⟨_, (List.mem_append_right _ (List.mem_append_right _ (List.mem_append_right _ (List.mem_append_left _ (List.mem_of_getElem? (i := 112) rfl)))))⟩
theorem zo_s_5_6 : ∃ tx, Cond.stringRef (zt_cn 5) 114 tx ∈ lw_tbl := ⟨_, (List.mem_append_right _ (List.mem_append_right _ (List.mem_append_right _ (List.mem_append_left _ (List.mem_of_getElem? (i := 119) rfl)))))⟩
theorem zo_s_5_7 : ∃ tx, Cond.stringRef (zt_cn 5) 116 tx ∈ lw_tbl := ⟨_, (List.mem_append_right _ (List.mem_append_right _ (List.mem_append_right _ (List.mem_append_left _ (List.mem_of_getElem? (i := 120) rfl)))))⟩
theorem zo_s_6_0 : ∃ tx, Cond.stringRef (zt_cn 6) 50 tx ∈ lw_tbl := ⟨_, (List.mem_append_right _ (List.mem_append_right _ (List.mem_append_right _ (List.mem_append_left _ (List.mem_of_getElem? (i := 156) rfl)))))⟩
theorem zo_s_6_1 : ∃ tx, Cond.stringRef (zt_cn 6) 131 tx ∈ lw_tbl := ⟨_, (List.mem_append_right _ (List.mem_append_right _ (List.mem_append_right _ (List.mem_append_left _ (List.mem_of_getElem? (i := 189) rfl)))))⟩
theorem zo_s_6_2 : ∃ tx, Cond.stringRef (zt_cn 6) 133 tx ∈ lw_tbl := ⟨_, (List.mem_append_right _ (List.mem_append_right _ (List.mem_append_right _ (List.mem_append_left _ (List.mem_of_getElem? (i := 190) rfl)))))⟩
theorem zo_s_6_3 : ∃ tx, Cond.stringRef (zt_cn 6) 135 tx ∈ lw_tbl := ⟨_, (List.mem_append_right _ (List.mem_append_right _ (List.mem_append_right _ (List.mem_append_left _ (List.mem_of_getElem? (i := 191) rfl)))))⟩
theorem zo_s_6_4 : ∃ tx, Cond.stringRef (zt_cn 6) 145 tx ∈ lw_tbl := ⟨_, (List.mem_append_right _ (List.mem_append_right _ (List.mem_append_right _ (List.mem_append_left _ (List.mem_of_getElem? (i := 206) rfl)))))⟩
theorem zo_s_6_5 : ∃ tx, Cond.stringRef (zt_cn 6) 147 tx ∈ lw_tbl := ⟨_, (List.mem_append_right _ (List.mem_append_right _ (List.mem_append_right _ (List.mem_append_left _ (List.mem_of_getElem? (i := 211) rfl)))))⟩
theorem zo_s_6_6 : ∃ tx, Cond.stringRef (zt_cn 6) 149 tx ∈ lw_tbl := ⟨_, (List.mem_append_right _ (List.mem_append_right _ (List.mem_append_right _ (List.mem_append_left _ (List.mem_of_getElem? (i := 212) rfl)))))⟩
theorem zo_s_6_7 : ∃ tx, Cond.stringRef (zt_cn 6) 151 tx ∈ lw_tbl := ⟨_, (List.mem_append_right _ (List.mem_append_right _ (List.mem_append_right _ (List.mem_append_left _ (List.mem_of_getElem? (i := 213) rfl)))))⟩
theorem zo_s_6_8 : ∃ tx, Cond.stringRef (zt_cn 6) 156 tx ∈ lw_tbl := ⟨_, (List.mem_append_right _ (List.mem_append_right _ (List.mem_append_right _ (List.mem_append_left _ (List.mem_of_getElem? (i := 218) rfl)))))⟩
theorem zo_s_6_9 : ∃ tx, Cond.stringRef (zt_cn 6) 158 tx ∈ lw_tbl := ⟨_, (List.mem_append_right _ (List.mem_append_right _ (List.mem_append_right _ (List.mem_append_left _ (List.mem_of_getElem? (i := 219) rfl)))))⟩
theorem zo_s_6_10 : ∃ tx, Cond.stringRef (zt_cn 6) 160 tx ∈ lw_tbl := ⟨_, (List.mem_append_right _ (List.mem_append_right _ (List.mem_append_right _ (List.mem_append_left _ (List.mem_of_getElem? (i := 225) rfl)))))⟩
theorem zo_s_6_11 : ∃ tx, Cond.stringRef (zt_cn 6) 162 tx ∈ lw_tbl := ⟨_, (List.mem_append_right _ (List.mem_append_right _ (List.mem_append_right _ (List.mem_append_left _ (List.mem_of_getElem? (i := 226) rfl)))))⟩
theorem zo_s_6_12 : ∃ tx, Cond.stringRef (zt_cn 6) 78 tx ∈ lw_tbl := ⟨_, (List.mem_append_right _ (List.mem_append_right _ (List.mem_append_right _ (List.mem_append_right _ (List.mem_append_left _ (List.mem_of_getElem? (i := 22) rfl))))))⟩
theorem zo_s_6_13 : ∃ tx, Cond.stringRef (zt_cn 6) 84 tx ∈ lw_tbl := ⟨_, (List.mem_append_right _ (List.mem_append_right _ (List.mem_append_right _ (List.mem_append_right _ (List.mem_append_left _ (List.mem_of_getElem? (i := 27) rfl))))))⟩
theorem zo_s_6_14 : ∃ tx, Cond.stringRef (zt_cn 6) 116 tx ∈ lw_tbl := ⟨_, (List.mem_append_right _ (List.mem_append_right _ (List.mem_append_right _ (List.mem_append_right _ (List.mem_append_left _ (List.mem_of_getElem? (i := 36) rfl))))))⟩
theorem zo_s_6_15 : ∃ tx, Cond.stringRef (zt_cn 6) 92 tx ∈ lw_tbl := ⟨_, (List.mem_append_right _ (List.mem_append_right _ (List.mem_append_right _ (List.mem_append_right _ (List.mem_append_left _ (List.mem_of_getElem? (i := 37) rfl))))))⟩
theorem zo_s_6_16 : ∃ tx, Cond.stringRef (zt_cn 6) 118 tx ∈ lw_tbl := ⟨_, (List.mem_append_right _ (List.mem_append_right _ (List.mem_append_right _ (List.mem_append_right _ (List.mem_append_left _ (List.mem_of_getElem? (i := 42) rfl))))))⟩
theorem zo_s_r0 : ∀ q ∈ (zl_s.getD 0 []), (fun o (q : Nat × Nat) => ∃ tx, Cond.stringRef (zt_cn o) q.1 tx ∈ lw_tbl) 0 q := fun _ h => absurd h List.not_mem_nil
theorem zo_s_r1 : ∀ q ∈ (zl_s.getD 1 []), (fun o (q : Nat × Nat) => ∃ tx, Cond.stringRef (zt_cn o) q.1 tx ∈ lw_tbl) 1 q := fun _ h => absurd h List.not_mem_nil
theorem zo_s_r2 : ∀ q ∈ (zl_s.getD 2 []), (fun o (q : Nat × Nat) => ∃ tx, Cond.stringRef (zt_cn o) q.1 tx ∈ lw_tbl) 2 q := fun _ h => absurd h List.not_mem_nil
theorem zo_s_r3 : ∀ q ∈ (zl_s.getD 3 []), (fun o (q : Nat × Nat) => ∃ tx, Cond.stringRef (zt_cn o) q.1 tx ∈ lw_tbl) 3 q := fun _ h => absurd h List.not_mem_nil
theorem zo_s_r4 : ∀ q ∈ (zl_s.getD 4 []), (fun o (q : Nat × Nat) => ∃ tx, Cond.stringRef (zt_cn o) q.1 tx ∈ lw_tbl) 4 q := fun _ h => absurd h List.not_mem_nil
theorem zo_s_r5 : ∀ q ∈ (zl_s.getD 5 []), (fun o (q : Nat × Nat) => ∃ tx, Cond.stringRef (zt_cn o) q.1 tx ∈ lw_tbl) 5 q := List.forall_mem_cons.mpr ⟨zo_s_5_0, List.forall_mem_cons.mpr ⟨zo_s_5_1, List.forall_mem_cons.mpr ⟨zo_s_5_2, List.forall_mem_cons.mpr ⟨zo_s_5_3, List.forall_mem_cons.mpr ⟨zo_s_5_4, List.forall_mem_cons.mpr ⟨zo_s_5_5, List.forall_mem_cons.mpr ⟨zo_s_5_6, List.forall_mem_cons.mpr ⟨zo_s_5_7, fun _ h => absurd h List.not_mem_nil⟩⟩⟩⟩⟩⟩⟩⟩
theorem zo_s_r6 : ∀ q ∈ (zl_s.getD 6 []), (fun o (q : Nat × Nat) => ∃ tx, Cond.stringRef (zt_cn o) q.1 tx ∈ lw_tbl) 6 q := List.forall_mem_cons.mpr ⟨zo_s_6_0, List.forall_mem_cons.mpr ⟨zo_s_6_1, List.forall_mem_cons.mpr ⟨zo_s_6_2, List.forall_mem_cons.mpr ⟨zo_s_6_3, List.forall_mem_cons.mpr ⟨zo_s_6_4, List.forall_mem_cons.mpr ⟨zo_s_6_5, List.forall_mem_cons.mpr ⟨zo_s_6_6, List.forall_mem_cons.mpr ⟨zo_s_6_7, List.forall_mem_cons.mpr ⟨zo_s_6_8, List.forall_mem_cons.mpr ⟨zo_s_6_9, List.forall_mem_cons.mpr ⟨zo_s_6_10, List.forall_mem_cons.mpr ⟨zo_s_6_11, List.forall_mem_cons.mpr ⟨zo_s_6_12, List.forall_mem_cons.mpr ⟨zo_s_6_13, List.forall_mem_cons.mpr ⟨zo_s_6_14, List.forall_mem_cons.mpr ⟨zo_s_6_15, List.forall_mem_cons.mpr ⟨zo_s_6_16, fun _ h => absurd h List.not_mem_nil⟩⟩⟩⟩⟩⟩⟩⟩⟩⟩⟩⟩⟩⟩⟩⟩⟩
theorem zo_s_r7 : ∀ q ∈ (zl_s.getD 7 []), (fun o (q : Nat × Nat) => ∃ tx, Cond.stringRef (zt_cn o) q.1 tx ∈ lw_tbl) 7 q := fun _ h => absurd h List.not_mem_nil
theorem zo_s_r8 : ∀ q ∈ (zl_s.getD 8 []), (fun o (q : Nat × Nat) => ∃ tx, Cond.stringRef (zt_cn o) q.1 tx ∈ lw_tbl) 8 q := fun _ h => absurd h List.not_mem_nil
theorem zo_s_all : ∀ o r, zl_s[o]? = some r → ∀ q ∈ r, (fun o (q : Nat × Nat) => ∃ tx, Cond.stringRef (zt_cn o) q.1 tx ∈ lw_tbl) o q := by
  intro o r hr
  match o, hr with
  | 0, hr => cases hr; exact zo_s_r0
  | 1, hr => cases hr; exact zo_s_r1
  | 2, hr => cases hr; exact zo_s_r2
  | 3, hr => cases hr; exact zo_s_r3
  | 4, hr => cases hr; exact zo_s_r4
  | 5, hr => cases hr; exact zo_s_r5
  | 6, hr => cases hr; exact zo_s_r6
  | 7, hr => cases hr; exact zo_s_r7
  | 8, hr => cases hr; exact zo_s_r8
  | n + 9, hr => cases hr
theorem ok_s : ∀ o i k, zt_s o i = some k → ∃ tx, Cond.stringRef (zt_cn o) i tx ∈ lw_tbl := fun o i k h => z_row_in (P := fun o (q : Nat × Nat) => ∃ tx, Cond.stringRef (zt_cn o) q.1 tx ∈ lw_tbl) h zo_s_all
/-- the literals that stand twice: [(6, 131, 5), (6, 133, 6), (6, 135, 7)] -/
theorem ok_z1 : (Cond.laysStatic "java/lang/Throwable" "UNASSIGNED_STACK" "[Ljava/lang/StackTraceElement;") ∈ lw_tbl := (List.mem_append_right _ (List.mem_append_right _ (List.mem_append_left _ (List.mem_of_getElem? (i := 76) rfl))))
theorem ok_z2 : (Cond.laysStatic "java/lang/Throwable" "SUPPRESSED_SENTINEL" "Ljava/util/List;") ∈ lw_tbl := (List.mem_append_right _ (List.mem_append_right _ (List.mem_append_left _ (List.mem_of_getElem? (i := 78) rfl))))
theorem ok_z3 : (Cond.laysStatic "java/lang/String" "COMPACT_STRINGS" "Z") ∈ lw_tbl := (List.mem_append_right _ (List.mem_append_right _ (List.mem_append_left _ (List.mem_of_getElem? (i := 230) rfl))))
theorem ok_z4 : (Cond.laysStatic "jdk/internal/util/Preconditions" "SIOOBE_FORMATTER" "Ljava/util/function/BiFunction;") ∈ lw_tbl := (List.mem_append_right _ (List.mem_append_right _ (List.mem_append_right _ (List.mem_append_left _ (List.mem_of_getElem? (i := 7) rfl)))))
theorem ok_thr : Cond.initialized "java/lang/Throwable" ∈ x_tbl := (x_t1 (List.mem_of_getElem? (i := 9) rfl) rfl)
