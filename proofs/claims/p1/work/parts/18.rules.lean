/-! THE PURE PART, 2: a rule for each instruction. Ints stand as ji of an integer -/
def z_cat : Instr → Nat
  | .iload _ => 1 | .iload_n _ => 1 | .lload _ => 1 | .lload_n _ => 1 | .aload _ => 1 | .aload_n _ => 1
  | .istore _ => 1 | .istore_n _ => 1 | .lstore _ => 1 | .lstore_n _ => 1 | .astore _ => 1 | .astore_n _ => 1 | .iinc _ _ => 1
  | .ifCond _ _ => 2 | .if_icmp _ _ => 2 | .goto _ => 2 | .tableswitch _ _ _ _ => 2 | .lookupswitch _ _ => 2
  | .ldc _ => 3 | .ldc2_w _ => 3
  | .getfield _ => 4 | .iaload => 4 | .laload => 4 | .caload => 4 | .baload => 4 | .aaload => 4 | .arraylength => 4
  | .putfield _ => 5 | .iastore => 5 | .lastore => 5 | .castore => 5 | .bastore => 5 | .aastore => 5
  | .new _ => 6 | .newarray _ => 6 | .anewarray _ => 6
  | .ireturn => 7 | .lreturn => 7 | .areturn => 7 | .return_ => 7
  | .invokevirtual _ => 8 | .invokestatic _ => 8 | .invokespecial _ => 8
  | _ => 0
theorem c_stk {ins : Instr} {len : Nat} {st st' : List Value} (h : z_stk ins len st = some st') : z_cat ins = 0 := by
  unfold z_stk at h
  split at h <;> first | rfl | cases h
theorem c_ld {ins : Instr} {len : Nat} {q : Nat × Nat} (h : z_ld ins len = some q) : z_cat ins = 1 := by
  unfold z_ld at h
  split at h <;> first | rfl | cases h
theorem c_sto {ins : Instr} {len : Nat} {q : Nat × Nat} (h : z_sto ins len = some q) : z_cat ins = 1 ∧ z_ld ins len = none := by
  unfold z_sto at h
  split at h <;> first | exact ⟨rfl, rfl⟩ | cases h
theorem c_loc {nL : Nat} {ins : Instr} {len : Nat} {lv : z_L} {st : List Value} {r : z_L × List Value} (h : z_loc nL ins len lv st = some r) : z_cat ins = 1 := by
  unfold z_loc at h
  split at h
  · rename_i hq; exact c_ld hq
  · split at h
    · rename_i hq; exact (c_sto hq).1
    · split at h
      · rfl
      · cases h
theorem c_br {pc : Nat} {ins : Instr} {len : Nat} {st : List Value} {r : Nat × List Value} (h : z_br pc ins len st = some r) : z_cat ins = 2 := by
  unfold z_br at h
  split at h <;> first | rfl | cases h
theorem c_ldc {own : Nat} {ins : Instr} {len : Nat} {st st' : List Value} (h : z_ldc own ins len st = some st') : z_cat ins = 3 := by
  unfold z_ldc at h
  split at h <;> first | rfl | cases h
theorem c_rd {sc : Nat × (Nat → Int32)} {own : Nat} {τ : z_T} {ins : Instr} {len : Nat} {st st' : List Value} (h : z_rd sc own τ ins len st = some st') : z_cat ins = 4 := by
  unfold z_rd at h
  split at h <;> first | rfl | cases h
theorem c_wr {own : Nat} {cons : Bool} {τ : z_T} {ins : Instr} {len : Nat} {st : List Value} {r : List Value × z_T} (h : z_wr own cons τ ins len st = some r) : z_cat ins = 5 := by
  unfold z_wr at h
  split at h <;> first | rfl | cases h
theorem c_mk {own : Nat} {τ : z_T} {ins : Instr} {len : Nat} {st : List Value} {r : List Value × z_T} (h : z_mk own τ ins len st = some r) : z_cat ins = 6 := by
  unfold z_mk at h
  split at h <;> first | rfl | cases h
theorem c_ret {ins : Instr} {len : Nat} {st : List Value} {ret : Option FieldType} {r : Option Value} (h : z_ret ins len st ret = some r) : z_cat ins = 7 := by
  unfold z_ret at h
  split at h <;> first | rfl | cases h
theorem c_obj {fr lo own : Nat} {ins : Instr} {len : Nat} {st st' : List Value} (h : z_obj fr lo own ins len st = some st') : z_cat ins = 8 := by
  unfold z_obj at h
  split at h <;> first | rfl | cases h
theorem o_none {α : Type} {o : Option α} (h : ∀ a, o = some a → False) : o = none := by
  cases o with
  | none => rfl
  | some a => exact (h a rfl).elim
section CT
variable {sc : Nat × (Nat → Int32)} {fr lo y own nL : Nat} {cons : Bool} {ret : Option FieldType} {cc : ByteArray} {call : Nat → Nat → List Value → z_T → Option (z_O × z_T)} {pc : Nat} {lv lv' : z_L} {st st' : List Value} {τ τ' : z_T} {ins : Instr} {len k : Nat}
theorem n_stk (h : z_cat ins = k) (hk : k ≠ 0) : z_stk ins len st = none := o_none fun _ e => hk (h.symm.trans (c_stk e))
theorem n_loc (h : z_cat ins = k) (hk : k ≠ 1) : z_loc nL ins len lv st = none := o_none fun _ e => hk (h.symm.trans (c_loc e))
theorem n_br (h : z_cat ins = k) (hk : k ≠ 2) : z_br pc ins len st = none := o_none fun _ e => hk (h.symm.trans (c_br e))
theorem n_ldc (h : z_cat ins = k) (hk : k ≠ 3) : z_ldc own ins len st = none := o_none fun _ e => hk (h.symm.trans (c_ldc e))
theorem n_rd (h : z_cat ins = k) (hk : k ≠ 4) : z_rd sc own τ ins len st = none := o_none fun _ e => hk (h.symm.trans (c_rd e))
theorem n_wr (h : z_cat ins = k) (hk : k ≠ 5) : z_wr own cons τ ins len st = none := o_none fun _ e => hk (h.symm.trans (c_wr e))
theorem n_mk (h : z_cat ins = k) (hk : k ≠ 6) : z_mk own τ ins len st = none := o_none fun _ e => hk (h.symm.trans (c_mk e))
theorem n_ret (h : z_cat ins = k) (hk : k ≠ 7) : z_ret ins len st ret = none := o_none fun _ e => hk (h.symm.trans (c_ret e))
theorem n_obj (h : z_cat ins = k) (hk : k ≠ 8) : z_obj fr lo own ins len st = none := o_none fun _ e => hk (h.symm.trans (c_obj e))
theorem s_stk (hd : decode cc pc = .ok (ins, len)) (h : z_stk ins len st = some st') : z_step sc fr lo y own nL cons ret cc call pc lv st τ = some (.inl (pc + len, lv, st', τ)) := by
  unfold z_step
  rw [hd]
  simp only [h]
theorem s_loc (hd : decode cc pc = .ok (ins, len)) (h : z_loc nL ins len lv st = some (lv', st')) : z_step sc fr lo y own nL cons ret cc call pc lv st τ = some (.inl (pc + len, lv', st', τ)) := by
  have hc := c_loc h
  unfold z_step
  rw [hd]
  simp only [n_stk hc (by decide), h]
theorem s_br {pc' : Nat} (hd : decode cc pc = .ok (ins, len)) (h : z_br pc ins len st = some (pc', st')) : z_step sc fr lo y own nL cons ret cc call pc lv st τ = some (.inl (pc', lv, st', τ)) := by
  have hc := c_br h
  unfold z_step
  rw [hd]
  simp only [n_stk hc (by decide), n_loc hc (by decide), h]
theorem s_ldc (hd : decode cc pc = .ok (ins, len)) (h : z_ldc own ins len st = some st') : z_step sc fr lo y own nL cons ret cc call pc lv st τ = some (.inl (pc + len, lv, st', τ)) := by
  have hc := c_ldc h
  unfold z_step
  rw [hd]
  simp only [n_stk hc (by decide), n_loc hc (by decide), n_br hc (by decide), h]
theorem s_rd (hd : decode cc pc = .ok (ins, len)) (h : z_rd sc own τ ins len st = some st') : z_step sc fr lo y own nL cons ret cc call pc lv st τ = some (.inl (pc + len, lv, st', τ)) := by
  have hc := c_rd h
  unfold z_step
  rw [hd]
  simp only [n_stk hc (by decide), n_loc hc (by decide), n_br hc (by decide), n_ldc hc (by decide), h]
theorem s_wr (hd : decode cc pc = .ok (ins, len)) (h : z_wr own cons τ ins len st = some (st', τ')) : z_step sc fr lo y own nL cons ret cc call pc lv st τ = some (.inl (pc + len, lv, st', τ')) := by
  have hc := c_wr h
  unfold z_step
  rw [hd]
  simp only [n_stk hc (by decide), n_loc hc (by decide), n_br hc (by decide), n_ldc hc (by decide), n_rd hc (by decide), h]
theorem s_mk (hd : decode cc pc = .ok (ins, len)) (h : z_mk own τ ins len st = some (st', τ')) : z_step sc fr lo y own nL cons ret cc call pc lv st τ = some (.inl (pc + len, lv, st', τ')) := by
  have hc := c_mk h
  unfold z_step
  rw [hd]
  simp only [n_stk hc (by decide), n_loc hc (by decide), n_br hc (by decide), n_ldc hc (by decide), n_rd hc (by decide), n_wr hc (by decide), h]
theorem s_ret {v : Option Value} (hd : decode cc pc = .ok (ins, len)) (h : z_ret ins len st ret = some v) : z_step sc fr lo y own nL cons ret cc call pc lv st τ = some (.inr (.inl v, τ)) := by
  have hc := c_ret h
  unfold z_step
  rw [hd]
  simp only [n_stk hc (by decide), n_loc hc (by decide), n_br hc (by decide), n_ldc hc (by decide), n_rd hc (by decide), n_wr hc (by decide), n_mk hc (by decide), h]
theorem s_thr {r : z_O × z_T} (hh : zt_hs y = false) (hd : decode cc pc = .ok (ins, len)) (hc : z_cat ins = 6) (hm : z_mk own τ ins len st = none) (h : z_thr fr lo own cc pc ins len st τ = some r) : z_step sc fr lo y own nL cons ret cc call pc lv st τ = some (.inr r) := by
  unfold z_step
  rw [hd]
  simp only [n_stk hc (by decide), n_loc hc (by decide), n_br hc (by decide), n_ldc hc (by decide), n_rd hc (by decide), n_wr hc (by decide), hm, n_ret hc (by decide), n_obj hc (by decide), hh, h]
  rfl
theorem s_cal (hd : decode cc pc = .ok (ins, len)) (hc : z_cat ins = 8) (ho : z_obj fr lo own ins len st = none) : z_step sc fr lo y own nL cons ret cc call pc lv st τ = z_cal call fr lo own y pc ins len lv st τ := by
  have ht : z_thr fr lo own cc pc ins len st τ = none := by
    unfold z_thr
    split
    · cases hc
    · rfl
  unfold z_step
  rw [hd]
  simp only [n_stk hc (by decide), n_loc hc (by decide), n_br hc (by decide), n_ldc hc (by decide), n_rd hc (by decide), n_wr hc (by decide), n_mk hc (by decide), n_ret hc (by decide), ho, ht]
  split <;> rename_i h <;> first | rfl | (split at h <;> cases h)
end CT
abbrev ji (z : Int) : Int32 := Int32.ofInt z
abbrev jl (z : Int) : Int64 := Int64.ofInt z
theorem ji_t {x : Int} (h : -2147483648 ≤ x ∧ x < 2147483648) : (ji x).toInt = x := Int32.toInt_ofInt_of_le (by omega) (by omega)
theorem jl_t {x : Int} (h : -9223372036854775808 ≤ x ∧ x < 9223372036854775808) : (jl x).toInt = x := Int64.toInt_ofInt_of_le (by omega) (by omega)
theorem ji_eq {x y : Int} (hx : -2147483648 ≤ x ∧ x < 2147483648) (hy : -2147483648 ≤ y ∧ y < 2147483648) : ji x = ji y ↔ x = y := ⟨fun h => by rw [← ji_t hx, ← ji_t hy, h], fun h => by rw [h]⟩
theorem ji_lt {x y : Int} (hx : -2147483648 ≤ x ∧ x < 2147483648) (hy : -2147483648 ≤ y ∧ y < 2147483648) : ji x < ji y ↔ x < y := by rw [Int32.lt_iff_toInt_lt, ji_t hx, ji_t hy]
theorem ji_le {x y : Int} (hx : -2147483648 ≤ x ∧ x < 2147483648) (hy : -2147483648 ≤ y ∧ y < 2147483648) : ji x ≤ ji y ↔ x ≤ y := by rw [Int32.le_iff_toInt_le, ji_t hx, ji_t hy]
theorem ji_0 : (0 : Int32) = ji 0 := rfl
theorem ji_clamp {x : Int} (h : 0 ≤ x ∧ x < 2147483648) : (ji x).toNatClampNeg = x.toNat := by rw [Int32.toNatClampNeg, ji_t (by omega)]

section RU
variable {sc : Nat × (Nat → Int32)} {fr lo y own nL : Nat} {cons : Bool} {ret : Option FieldType} {cc : ByteArray} {pc : Nat} {L L' : List (Option Value)} {st st' : List Value} {τ τ' : z_T} {Q : z_O → z_T → Prop} {ins : Instr} {len : Nat}
theorem w_stk (hd : decode cc pc = .ok (ins, len)) (h : z_stk ins len st = some st') (k : w_P sc fr lo y own nL cons ret cc (pc + len) L st' τ Q) : w_P sc fr lo y own nL cons ret cc pc L st τ Q := w_next (fun _ lv hl => ⟨lv, hl, s_stk hd h⟩) k
theorem w_psh {v : Value} (hd : decode cc pc = .ok (ins, len)) (h : ∀ st, z_stk ins len st = some (v :: st)) (k : w_P sc fr lo y own nL cons ret cc (pc + len) L (v :: st) τ Q) : w_P sc fr lo y own nL cons ret cc pc L st τ Q := w_next (fun _ lv hl => ⟨lv, hl, s_stk hd (h st)⟩) k
theorem w_ldc {v : Value} (hd : decode cc pc = .ok (ins, len)) (h : ∀ st, z_ldc own ins len st = some (v :: st)) (k : w_P sc fr lo y own nL cons ret cc (pc + len) L (v :: st) τ Q) : w_P sc fr lo y own nL cons ret cc pc L st τ Q := w_next (fun _ lv hl => ⟨lv, hl, s_ldc hd (h st)⟩) k
theorem w_ld {i t : Nat} {v : Value} (hd : decode cc pc = .ok (ins, len)) (hi : z_ld ins len = some (i, t)) (hv : L[i]? = some (some v)) (ho : z_ok t v = true) (k : w_P sc fr lo y own nL cons ret cc (pc + len) L (v :: st) τ Q) : w_P sc fr lo y own nL cons ret cc pc L st τ Q :=
  w_next (fun _ lv hl => ⟨lv, hl, s_loc hd (by unfold z_loc; simp only [hi, hl i v hv, ho, if_true])⟩) k
theorem w_st1 {i t : Nat} {v : Value} (hd : decode cc pc = .ok (ins, len)) (hi : z_sto ins len = some (i, t)) (ht : t ≠ 1) (ho : z_ok t v = true) (hn : i < nL) (hL : l_put1 L i v = L') (k : w_P sc fr lo y own nL cons ret cc (pc + len) L' st τ Q) : w_P sc fr lo y own nL cons ret cc pc L (v :: st) τ Q :=
  w_next (fun _ lv hl => ⟨z_put1 lv i v, by rw [← hL]; exact hl.put1 i v, s_loc hd (by unfold z_loc; simp only [(c_sto hi).2, hi, ho, if_true, if_neg ht, if_pos hn])⟩) k
theorem w_st2 {i : Nat} {v : Value} (hd : decode cc pc = .ok (ins, len)) (hi : z_sto ins len = some (i, 1)) (ho : z_ok 1 v = true) (hn : i + 1 < nL) (hL : l_put2 L i v = L') (k : w_P sc fr lo y own nL cons ret cc (pc + len) L' st τ Q) : w_P sc fr lo y own nL cons ret cc pc L (v :: st) τ Q :=
  w_next (fun _ lv hl => ⟨z_put2 lv i v, by rw [← hL]; exact hl.put2 i v, s_loc hd (by unfold z_loc; simp only [(c_sto hi).2, hi, ho, if_true, if_pos hn])⟩) k
theorem w_inc {i : Nat} {x n : Int} (hd : decode cc pc = .ok (.iinc i n, 3)) (hv : L[i]? = some (some (.int (ji x)))) (hn : i < nL) (hL : l_put1 L i (.int (ji (x + n))) = L') (k : w_P sc fr lo y own nL cons ret cc (pc + 3) L' st τ Q) : w_P sc fr lo y own nL cons ret cc pc L st τ Q :=
  w_next (fun _ lv hl => ⟨z_put1 lv i (.int (ji (x + n))), by rw [← hL]; exact hl.put1 i _, s_loc hd (by
    unfold z_loc
    show (match z_lk lv i with | some (.int x) => if i < nL then some (z_put1 lv i (.int (x + Int32.ofInt n)), st) else none | _ => none) = _
    rw [hl i _ hv]
    show (if i < nL then some (z_put1 lv i (.int (Int32.ofInt x + Int32.ofInt n)), st) else none) = _
    rw [if_pos hn, ← Int32.ofInt_add])⟩) k
theorem w_goto {off : Int} {g : Nat} (hd : decode cc pc = .ok (.goto off, 3)) (hj : z_jmp pc off = some g) (k : w_P sc fr lo y own nL cons ret cc g L st τ Q) : w_P sc fr lo y own nL cons ret cc pc L st τ Q :=
  w_next (fun _ lv hl => ⟨lv, hl, s_br hd (by show (z_jmp pc off).map (fun g => (g, st)) = _; rw [hj]; rfl)⟩) k
theorem w_br {g : Nat} (hd : decode cc pc = .ok (ins, len)) (h : z_br pc ins len st = some (g, st')) (k : w_P sc fr lo y own nL cons ret cc g L st' τ Q) : w_P sc fr lo y own nL cons ret cc pc L st τ Q :=
  w_next (fun _ lv hl => ⟨lv, hl, s_br hd h⟩) k
theorem w_rd (hd : decode cc pc = .ok (ins, len)) (h : z_rd sc own τ ins len st = some st') (k : w_P sc fr lo y own nL cons ret cc (pc + len) L st' τ Q) : w_P sc fr lo y own nL cons ret cc pc L st τ Q := w_next (fun _ lv hl => ⟨lv, hl, s_rd hd h⟩) k
theorem w_wr (hd : decode cc pc = .ok (ins, len)) (h : z_wr own cons τ ins len st = some (st', τ')) (k : w_P sc fr lo y own nL cons ret cc (pc + len) L st' τ' Q) : w_P sc fr lo y own nL cons ret cc pc L st τ Q := w_next (fun _ lv hl => ⟨lv, hl, s_wr hd h⟩) k
theorem w_mk (hd : decode cc pc = .ok (ins, len)) (h : z_mk own τ ins len st = some (st', τ')) (k : w_P sc fr lo y own nL cons ret cc (pc + len) L st' τ' Q) : w_P sc fr lo y own nL cons ret cc pc L st τ Q := w_next (fun _ lv hl => ⟨lv, hl, s_mk hd h⟩) k
theorem w_ret {v : Option Value} (hd : decode cc pc = .ok (ins, len)) (h : z_ret ins len st ret = some v) (k : Q (.inl v) τ) : w_P sc fr lo y own nL cons ret cc pc L st τ Q := w_done (fun _ _ => s_ret hd h) k
theorem w_iret {x : Int} (hd : decode cc pc = .ok (.ireturn, 1)) (h : ret = some .int) (k : Q (.inl (some (.int (ji x)))) τ) : w_P sc fr lo y own nL cons ret cc pc L [.int (ji x)] τ Q := w_done (fun _ _ => s_ret hd (by rw [h]; rfl)) k
theorem w_zret {x : Int} (hd : decode cc pc = .ok (.ireturn, 1)) (h : ret = some .boolean) (hx : x = 0 ∨ x = 1) (k : Q (.inl (some (.int (ji x)))) τ) : w_P sc fr lo y own nL cons ret cc pc L [.int (ji x)] τ Q := w_done (fun _ _ => s_ret hd (by
  rw [h]
  rcases hx with rfl | rfl <;> rfl)) k
theorem w_thr {kd i ic : Nat} (hh : zt_hs y = false) (hd : decode cc pc = .ok (.new i, 3)) (hn : zt_n own i = none) (hx : zt_x own i = some (kd, ic)) (h1 : decode cc (pc + 3) = .ok (.dup, 1)) (h2 : decode cc (pc + 4) = .ok (.invokespecial ic, 3)) (h3 : decode cc (pc + 7) = .ok (.athrow, 1)) (hr : 1 ≤ τ.2.2.1 ∧ 6 ≤ τ.2.2.2 ∧ 5 < fr ∧ (st.map fun v => v.category).sum + 81 ≤ lo)
    (k : Q (.inr (kd, τ.2.1)) (τ.1, τ.2.1 + 1, τ.2.2.1 - 1, τ.2.2.2 - 6)) : w_P sc fr lo y own nL cons ret cc pc L st τ Q := w_done (fun _ _ => s_thr hh hd rfl (by
      show (match zt_n own i with | some ci => _ | none => none) = none
      rw [hn]) (by
      unfold z_thr
      simp only [hx, h1, h2, h3, true_and]
      rw [if_pos hr])) k
theorem w_icmp_eq {off : Int} {g : Nat} {x y' : Int} (hd : decode cc pc = .ok (.if_icmp .eq off, 3)) (hj : z_jmp pc off = some g) (hr : -2147483648 ≤ x ∧ x < 2147483648 ∧ -2147483648 ≤ y' ∧ y' < 2147483648) (k1 : x = y' → w_P sc fr lo y own nL cons ret cc g L st τ Q) (k2 : ¬ x = y' → w_P sc fr lo y own nL cons ret cc (pc + 3) L st τ Q) : w_P sc fr lo y own nL cons ret cc pc L (.int (ji y') :: .int (ji x) :: st) τ Q := by
  by_cases h : x = y'
  · refine w_br (g := g) hd ?_ (k1 h)
    show (z_jmp pc off).map _ = _
    rw [hj, Option.map_some, if_pos ((ji_eq (x := x) (y := y') (by omega) (by omega)).mpr h)]
  · refine w_br (g := pc + 3) hd ?_ (k2 (by omega))
    show (z_jmp pc off).map _ = _
    rw [hj, Option.map_some, if_neg (fun z => h ((ji_eq (x := x) (y := y') (by omega) (by omega)).mp z))]
theorem w_if_eq {off : Int} {g : Nat} {x : Int} (hd : decode cc pc = .ok (.ifCond .eq off, 3)) (hj : z_jmp pc off = some g) (hr : -2147483648 ≤ x ∧ x < 2147483648) (k1 : x = 0 → w_P sc fr lo y own nL cons ret cc g L st τ Q) (k2 : ¬ x = 0 → w_P sc fr lo y own nL cons ret cc (pc + 3) L st τ Q) : w_P sc fr lo y own nL cons ret cc pc L (.int (ji x) :: st) τ Q := by
  by_cases h : x = 0
  · refine w_br (g := g) hd ?_ (k1 h)
    show (z_jmp pc off).map _ = _
    rw [hj, Option.map_some, if_pos (show ji x = 0 from ((ji_eq (x := x) (y := 0) (by omega) (by omega)).mpr h))]
  · refine w_br (g := pc + 3) hd ?_ (k2 (by omega))
    show (z_jmp pc off).map _ = _
    rw [hj, Option.map_some, if_neg (show ¬ (ji x = 0) from (fun z => h ((ji_eq (x := x) (y := 0) (by omega) (by omega)).mp z)))]
theorem w_icmp_ne {off : Int} {g : Nat} {x y' : Int} (hd : decode cc pc = .ok (.if_icmp .ne off, 3)) (hj : z_jmp pc off = some g) (hr : -2147483648 ≤ x ∧ x < 2147483648 ∧ -2147483648 ≤ y' ∧ y' < 2147483648) (k1 : ¬ x = y' → w_P sc fr lo y own nL cons ret cc g L st τ Q) (k2 : x = y' → w_P sc fr lo y own nL cons ret cc (pc + 3) L st τ Q) : w_P sc fr lo y own nL cons ret cc pc L (.int (ji y') :: .int (ji x) :: st) τ Q := by
  by_cases h : x = y'
  · refine w_br (g := pc + 3) hd ?_ (k2 h)
    show (z_jmp pc off).map _ = _
    rw [hj, Option.map_some, if_pos ((ji_eq (x := x) (y := y') (by omega) (by omega)).mpr h)]
  · refine w_br (g := g) hd ?_ (k1 (by omega))
    show (z_jmp pc off).map _ = _
    rw [hj, Option.map_some, if_neg (fun z => h ((ji_eq (x := x) (y := y') (by omega) (by omega)).mp z))]
theorem w_if_ne {off : Int} {g : Nat} {x : Int} (hd : decode cc pc = .ok (.ifCond .ne off, 3)) (hj : z_jmp pc off = some g) (hr : -2147483648 ≤ x ∧ x < 2147483648) (k1 : ¬ x = 0 → w_P sc fr lo y own nL cons ret cc g L st τ Q) (k2 : x = 0 → w_P sc fr lo y own nL cons ret cc (pc + 3) L st τ Q) : w_P sc fr lo y own nL cons ret cc pc L (.int (ji x) :: st) τ Q := by
  by_cases h : x = 0
  · refine w_br (g := pc + 3) hd ?_ (k2 h)
    show (z_jmp pc off).map _ = _
    rw [hj, Option.map_some, if_pos (show ji x = 0 from ((ji_eq (x := x) (y := 0) (by omega) (by omega)).mpr h))]
  · refine w_br (g := g) hd ?_ (k1 (by omega))
    show (z_jmp pc off).map _ = _
    rw [hj, Option.map_some, if_neg (show ¬ (ji x = 0) from (fun z => h ((ji_eq (x := x) (y := 0) (by omega) (by omega)).mp z)))]
theorem w_icmp_lt {off : Int} {g : Nat} {x y' : Int} (hd : decode cc pc = .ok (.if_icmp .lt off, 3)) (hj : z_jmp pc off = some g) (hr : -2147483648 ≤ x ∧ x < 2147483648 ∧ -2147483648 ≤ y' ∧ y' < 2147483648) (k1 : x < y' → w_P sc fr lo y own nL cons ret cc g L st τ Q) (k2 : y' ≤ x → w_P sc fr lo y own nL cons ret cc (pc + 3) L st τ Q) : w_P sc fr lo y own nL cons ret cc pc L (.int (ji y') :: .int (ji x) :: st) τ Q := by
  by_cases h : x < y'
  · refine w_br (g := g) hd ?_ (k1 h)
    show (z_jmp pc off).map _ = _
    rw [hj, Option.map_some, if_pos ((ji_lt (x := x) (y := y') (by omega) (by omega)).mpr h)]
  · refine w_br (g := pc + 3) hd ?_ (k2 (by omega))
    show (z_jmp pc off).map _ = _
    rw [hj, Option.map_some, if_neg (fun z => h ((ji_lt (x := x) (y := y') (by omega) (by omega)).mp z))]
theorem w_if_lt {off : Int} {g : Nat} {x : Int} (hd : decode cc pc = .ok (.ifCond .lt off, 3)) (hj : z_jmp pc off = some g) (hr : -2147483648 ≤ x ∧ x < 2147483648) (k1 : x < 0 → w_P sc fr lo y own nL cons ret cc g L st τ Q) (k2 : 0 ≤ x → w_P sc fr lo y own nL cons ret cc (pc + 3) L st τ Q) : w_P sc fr lo y own nL cons ret cc pc L (.int (ji x) :: st) τ Q := by
  by_cases h : x < 0
  · refine w_br (g := g) hd ?_ (k1 h)
    show (z_jmp pc off).map _ = _
    rw [hj, Option.map_some, if_pos (show ji x < 0 from ((ji_lt (x := x) (y := 0) (by omega) (by omega)).mpr h))]
  · refine w_br (g := pc + 3) hd ?_ (k2 (by omega))
    show (z_jmp pc off).map _ = _
    rw [hj, Option.map_some, if_neg (show ¬ (ji x < 0) from (fun z => h ((ji_lt (x := x) (y := 0) (by omega) (by omega)).mp z)))]
theorem w_icmp_ge {off : Int} {g : Nat} {x y' : Int} (hd : decode cc pc = .ok (.if_icmp .ge off, 3)) (hj : z_jmp pc off = some g) (hr : -2147483648 ≤ x ∧ x < 2147483648 ∧ -2147483648 ≤ y' ∧ y' < 2147483648) (k1 : y' ≤ x → w_P sc fr lo y own nL cons ret cc g L st τ Q) (k2 : x < y' → w_P sc fr lo y own nL cons ret cc (pc + 3) L st τ Q) : w_P sc fr lo y own nL cons ret cc pc L (.int (ji y') :: .int (ji x) :: st) τ Q := by
  by_cases h : y' ≤ x
  · refine w_br (g := g) hd ?_ (k1 h)
    show (z_jmp pc off).map _ = _
    rw [hj, Option.map_some, if_pos ((ji_le (x := y') (y := x) (by omega) (by omega)).mpr h)]
  · refine w_br (g := pc + 3) hd ?_ (k2 (by omega))
    show (z_jmp pc off).map _ = _
    rw [hj, Option.map_some, if_neg (fun z => h ((ji_le (x := y') (y := x) (by omega) (by omega)).mp z))]
theorem w_if_ge {off : Int} {g : Nat} {x : Int} (hd : decode cc pc = .ok (.ifCond .ge off, 3)) (hj : z_jmp pc off = some g) (hr : -2147483648 ≤ x ∧ x < 2147483648) (k1 : 0 ≤ x → w_P sc fr lo y own nL cons ret cc g L st τ Q) (k2 : x < 0 → w_P sc fr lo y own nL cons ret cc (pc + 3) L st τ Q) : w_P sc fr lo y own nL cons ret cc pc L (.int (ji x) :: st) τ Q := by
  by_cases h : 0 ≤ x
  · refine w_br (g := g) hd ?_ (k1 h)
    show (z_jmp pc off).map _ = _
    rw [hj, Option.map_some, if_pos (show 0 ≤ ji x from ((ji_le (x := 0) (y := x) (by omega) (by omega)).mpr h))]
  · refine w_br (g := pc + 3) hd ?_ (k2 (by omega))
    show (z_jmp pc off).map _ = _
    rw [hj, Option.map_some, if_neg (show ¬ (0 ≤ ji x) from (fun z => h ((ji_le (x := 0) (y := x) (by omega) (by omega)).mp z)))]
theorem w_icmp_gt {off : Int} {g : Nat} {x y' : Int} (hd : decode cc pc = .ok (.if_icmp .gt off, 3)) (hj : z_jmp pc off = some g) (hr : -2147483648 ≤ x ∧ x < 2147483648 ∧ -2147483648 ≤ y' ∧ y' < 2147483648) (k1 : y' < x → w_P sc fr lo y own nL cons ret cc g L st τ Q) (k2 : x ≤ y' → w_P sc fr lo y own nL cons ret cc (pc + 3) L st τ Q) : w_P sc fr lo y own nL cons ret cc pc L (.int (ji y') :: .int (ji x) :: st) τ Q := by
  by_cases h : y' < x
  · refine w_br (g := g) hd ?_ (k1 h)
    show (z_jmp pc off).map _ = _
    rw [hj, Option.map_some, if_pos ((ji_lt (x := y') (y := x) (by omega) (by omega)).mpr h)]
  · refine w_br (g := pc + 3) hd ?_ (k2 (by omega))
    show (z_jmp pc off).map _ = _
    rw [hj, Option.map_some, if_neg (fun z => h ((ji_lt (x := y') (y := x) (by omega) (by omega)).mp z))]
theorem w_if_gt {off : Int} {g : Nat} {x : Int} (hd : decode cc pc = .ok (.ifCond .gt off, 3)) (hj : z_jmp pc off = some g) (hr : -2147483648 ≤ x ∧ x < 2147483648) (k1 : 0 < x → w_P sc fr lo y own nL cons ret cc g L st τ Q) (k2 : x ≤ 0 → w_P sc fr lo y own nL cons ret cc (pc + 3) L st τ Q) : w_P sc fr lo y own nL cons ret cc pc L (.int (ji x) :: st) τ Q := by
  by_cases h : 0 < x
  · refine w_br (g := g) hd ?_ (k1 h)
    show (z_jmp pc off).map _ = _
    rw [hj, Option.map_some, if_pos (show 0 < ji x from ((ji_lt (x := 0) (y := x) (by omega) (by omega)).mpr h))]
  · refine w_br (g := pc + 3) hd ?_ (k2 (by omega))
    show (z_jmp pc off).map _ = _
    rw [hj, Option.map_some, if_neg (show ¬ (0 < ji x) from (fun z => h ((ji_lt (x := 0) (y := x) (by omega) (by omega)).mp z)))]
theorem w_icmp_le {off : Int} {g : Nat} {x y' : Int} (hd : decode cc pc = .ok (.if_icmp .le off, 3)) (hj : z_jmp pc off = some g) (hr : -2147483648 ≤ x ∧ x < 2147483648 ∧ -2147483648 ≤ y' ∧ y' < 2147483648) (k1 : x ≤ y' → w_P sc fr lo y own nL cons ret cc g L st τ Q) (k2 : y' < x → w_P sc fr lo y own nL cons ret cc (pc + 3) L st τ Q) : w_P sc fr lo y own nL cons ret cc pc L (.int (ji y') :: .int (ji x) :: st) τ Q := by
  by_cases h : x ≤ y'
  · refine w_br (g := g) hd ?_ (k1 h)
    show (z_jmp pc off).map _ = _
    rw [hj, Option.map_some, if_pos ((ji_le (x := x) (y := y') (by omega) (by omega)).mpr h)]
  · refine w_br (g := pc + 3) hd ?_ (k2 (by omega))
    show (z_jmp pc off).map _ = _
    rw [hj, Option.map_some, if_neg (fun z => h ((ji_le (x := x) (y := y') (by omega) (by omega)).mp z))]
theorem w_if_le {off : Int} {g : Nat} {x : Int} (hd : decode cc pc = .ok (.ifCond .le off, 3)) (hj : z_jmp pc off = some g) (hr : -2147483648 ≤ x ∧ x < 2147483648) (k1 : x ≤ 0 → w_P sc fr lo y own nL cons ret cc g L st τ Q) (k2 : 0 < x → w_P sc fr lo y own nL cons ret cc (pc + 3) L st τ Q) : w_P sc fr lo y own nL cons ret cc pc L (.int (ji x) :: st) τ Q := by
  by_cases h : x ≤ 0
  · refine w_br (g := g) hd ?_ (k1 h)
    show (z_jmp pc off).map _ = _
    rw [hj, Option.map_some, if_pos (show ji x ≤ 0 from ((ji_le (x := x) (y := 0) (by omega) (by omega)).mpr h))]
  · refine w_br (g := pc + 3) hd ?_ (k2 (by omega))
    show (z_jmp pc off).map _ = _
    rw [hj, Option.map_some, if_neg (show ¬ (ji x ≤ 0) from (fun z => h ((ji_le (x := x) (y := 0) (by omega) (by omega)).mp z)))]
end RU
