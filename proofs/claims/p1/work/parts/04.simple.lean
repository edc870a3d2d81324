/-! THE INTERPRETER IS SOUND -/
def z_v (E : x_E) (B0 : Nat) : Value → Value
  | .float b => .ref (E.2.2.2.1 b.toNat)
  | .ref a => .ref (B0 + a)
  | v => v
theorem z_vc (E : x_E) (B0 : Nat) (v : Value) : (z_v E B0 v).category = v.category := by cases v <;> rfl
abbrev z_s (E : x_E) (B0 : Nat) (st : List Value) : List Value := st.map (z_v E B0)
abbrev z_l (E : x_E) (B0 : Nat) (lv : z_L) : List (Nat × Value) := lv.map fun q => (q.1, z_v E B0 q.2)
theorem z_sc (E : x_E) (B0 : Nat) (st : List Value) : ((z_s E B0 st).map fun v => v.category).sum = (st.map fun v => v.category).sum := by
  rw [List.map_map]
  congr 1
  exact List.map_congr_left (fun v _ => z_vc E B0 v)
/-- a cell as it lies: an array's class stands by the number of its type, a known cell by its place behind B0 -/
def z_e (E : x_E) (B0 : Nat) : va_E → va_E
  | .inl (t, n, .inr (.inr (.inr (.inr f)))) => .inl (E.2.1 t, n, .inr (.inr (.inr (.inr (fun j => (f j).map (B0 + ·))))))
  | .inl (t, x) => .inl (E.2.1 t, x)
  | .inr (ci, fs) => .inr (ci, fs.map (z_v E B0))
def z_AB (E : x_E) (B0 : Nat) (h : z_H) (H : Heap) : Prop := ∀ (a : Nat) (e : va_E), h a = some e → va_at E.1 classes (B0 + a, z_e E B0 e) H
theorem z_one {D : va_G} {cl : List vw_C} {q : Nat × va_E} {H : Heap} (h : va_at D cl q H) : va_P D cl [q] H := fun k x hx => by
  have hz : k < 1 := (List.getElem?_eq_some_iff.mp hx).1
  rw [show k = 0 by omega] at hx
  cases hx
  exact h
theorem z_lkm {lv : z_L} {i : Nat} {v : Value} (h : z_lk lv i = some v) : (i, v) ∈ lv := by
  unfold z_lk at h
  cases hf : lv.find? (fun q => q.1 == i) with
  | none => rw [hf] at h; cases h
  | some q =>
    rw [hf] at h
    have h1 := List.mem_of_find?_eq_some hf
    have h2 := List.find?_some hf
    obtain ⟨a, b⟩ := q
    simp at h2 h
    subst h2; subst h
    exact h1
theorem z_lkl {E : x_E} {B0 : Nat} {lv : z_L} {i nL : Nat} {v : Value} {ls : Array Slot} (hl : lv_has ls nL (z_l E B0 lv)) (h : z_lk lv i = some v) : ls[i]? = some (.val (z_v E B0 v)) :=
  hl.2.2 (i, z_v E B0 v) (List.mem_map.mpr ⟨(i, v), z_lkm h, rfl⟩)
theorem z_p1 (E : x_E) (B0 : Nat) (lv : z_L) (i : Nat) (v : Value) : (i, z_v E B0 v) :: (z_l E B0 lv).filter (fun q => !(q.1 == i) && !(q.1 + 1 == i && q.2.category == 2)) = z_l E B0 (z_put1 lv i v) := by
  simp [z_put1, z_l, List.filter_map, Function.comp_def, z_vc]
theorem z_p2 (E : x_E) (B0 : Nat) (lv : z_L) (i : Nat) (v : Value) : (i, z_v E B0 v) :: (z_l E B0 lv).filter (fun q => !(q.1 == i) && (!(q.1 == i + 1) && !(q.1 + 1 == i && q.2.category == 2))) = z_l E B0 (z_put2 lv i v) := by
  simp [z_put2, z_l, List.filter_map, Function.comp_def, z_vc]
theorem z_ok0 {v : Value} (h : z_ok 0 v = true) : ∃ x, v = .int x := by cases v <;> first | exact ⟨_, rfl⟩ | (simp [z_ok] at h)
theorem z_ok1 {v : Value} (h : z_ok 1 v = true) : ∃ x, v = .long x := by cases v <;> first | exact ⟨_, rfl⟩ | (simp [z_ok] at h)
theorem z_ok2 {v : Value} (E : x_E) (B0 : Nat) (h : z_ok 2 v = true) : ∃ x, z_v E B0 v = .ref x := by cases v <;> first | exact ⟨_, rfl⟩ | (simp [z_ok] at h)
theorem z_fit_ok (E : x_E) (B0 : Nat) {ci k : Nat} {v : Value} (h : z_fit ci k v = true) : narrow (zt_ty ci k) (z_v E B0 v) = z_v E B0 v ∧ fits (zt_ty ci k) (z_v E B0 v) = true := by
  cases v with
  | float b => simp [z_fit] at h
  | ref a =>
    simp only [z_fit, Bool.and_eq_true, decide_eq_true_eq] at h
    show narrow _ (.ref (B0 + a)) = .ref (B0 + a) ∧ fits _ (.ref (B0 + a)) = true
    generalize zt_ty ci k = ty at h ⊢
    cases ty <;> first | exact ⟨rfl, rfl⟩ | exact ⟨rfl, h.2⟩
  | int x => simp only [z_fit, Bool.and_eq_true, decide_eq_true_eq] at h; exact h
  | long x => simp only [z_fit, Bool.and_eq_true, decide_eq_true_eq] at h; exact h
  | double x => simp only [z_fit, Bool.and_eq_true, decide_eq_true_eq] at h; exact h
  | null => simp only [z_fit, Bool.and_eq_true, decide_eq_true_eq] at h; exact h
  | retAddr x => simp only [z_fit, Bool.and_eq_true, decide_eq_true_eq] at h; exact h
theorem z_flat_map {E : x_E} {B0 : Nat} {l : List Value} (h : ∀ v ∈ l, z_flat v = true) : l.map (z_v E B0) = l := by
  have h1 : l.map (z_v E B0) = l.map id := List.map_congr_left (fun v hv => by have h2 := h v hv; cases v <;> first | rfl | (simp [z_flat] at h2))
  rw [h1, List.map_id]
section ZS
variable {p : Program} {l : Launch} {e : Env} {R : Room} {s : State} {m : MethodId} {args : Array Value} {below : List Frame} {meth : Method} {c : Code} {H : Heap} {locs : List Loc} {cells slots : Nat} {Q : State → Prop}
variable {cc : ByteArray} {pc len nL B0 : Nat} {ls : Array Slot} {ins : Instr} {E : x_E} {st st' : List Value} {lv lv' : z_L}
set_option maxHeartbeats 1000000 in
theorem z_stk_ok (hx : p.tables.exec = Jvm.exec) (hb : c.code = cc) (hd : decode cc pc = .ok (ins, len)) (h : z_stk ins len st = some st')
    (k : W p l e R s m args below meth c H locs cells slots Q (F0 m (pc + len) ls (z_s E B0 st'))) : W p l e R s m args below meth c H locs cells slots Q (F0 m pc ls (z_s E B0 st)) := by
  unfold z_stk at h
  split at h
  · cases h; exact lv_iconst hx hb hd rfl k
  · cases h; exact lv_bipush hx hb hd rfl k
  · cases h; exact lv_sipush hx hb hd rfl k
  · cases h; exact lv_lconst hx hb hd rfl k
  · cases h; exact lv_iadd hx hb hd k
  · cases h; exact lv_isub hx hb hd k
  · cases h; exact lv_imul hx hb hd k
  · cases h; exact lv_iand hx hb hd k
  · cases h; exact lv_ishr hx hb hd k
  · cases h; exact lv_iushr hx hb hd rfl k
  · split at h
    · cases h
    · rename_i hn; cases h; exact lv_idiv hx hb hd hn k
  · split at h
    · cases h
    · rename_i hn; cases h; exact lv_irem hx hb hd hn k
  · cases h; exact lv_ineg hx hb hd k
  · cases h; exact lv_ladd hx hb hd k
  · cases h; exact lv_lsub hx hb hd k
  · cases h; exact lv_lmul hx hb hd k
  · split at h
    · cases h
    · rename_i hn; cases h; exact lv_ldiv hx hb hd hn k
  · split at h
    · cases h
    · rename_i hn; cases h; exact lv_lrem hx hb hd hn k
  · cases h; exact lv_lneg hx hb hd k
  · cases h; exact W.lcmp hx hb hd k
  · cases h; exact lv_i2l hx hb hd rfl k
  · cases h; exact lv_l2i hx hb hd rfl k
  · cases h; exact lv_i2c hx hb hd rfl k
  · split at h
    · rename_i h1; cases h; exact lv_dup hx hb hd (by rw [z_vc]; exact h1) k
    · cases h
  · split at h
    · rename_i h1; cases h; exact lv_dup_x1 hx hb hd (by rw [z_vc]; exact h1.1) (by rw [z_vc]; exact h1.2) k
    · cases h
  · split at h
    · rename_i h1; cases h; exact lv_dup_x2 hx hb hd (by rw [z_vc]; exact h1.1) (by rw [z_vc]; exact h1.2.1) (by rw [z_vc]; exact h1.2.2) k
    · cases h
  · split at h
    · rename_i h1; cases h; exact lv_dup2_11 hx hb hd (by rw [z_vc]; exact h1.1) (by rw [z_vc]; exact h1.2) k
    · cases h
  · split at h
    · rename_i h1; cases h; exact lv_pop hx hb hd (by rw [z_vc]; exact h1) k
    · cases h
  · cases h
set_option maxHeartbeats 1000000 in
theorem z_loc_ok (hx : p.tables.exec = Jvm.exec) (hb : c.code = cc) (hd : decode cc pc = .ok (ins, len)) (hl : lv_has ls nL (z_l E B0 lv)) (h : z_loc nL ins len lv st = some (lv', st'))
    (k : ∀ ls' : Array Slot, lv_has ls' nL (z_l E B0 lv') → W p l e R s m args below meth c H locs cells slots Q (F0 m (pc + len) ls' (z_s E B0 st'))) : W p l e R s m args below meth c H locs cells slots Q (F0 m pc ls (z_s E B0 st)) := by
  unfold z_loc at h
  split at h
  · rename_i i t hld
    split at h
    · rename_i v hv
      split at h
      · rename_i hok
        cases h
        have hlv := z_lkl hl hv
        unfold z_ld at hld
        split at hld
        · cases hld; obtain ⟨x, rfl⟩ := z_ok0 hok; exact lv_iload hx hb hd hlv (k ls hl)
        · cases hld; obtain ⟨x, rfl⟩ := z_ok0 hok; exact lv_iload_n hx hb hd rfl hlv (k ls hl)
        · cases hld; obtain ⟨x, rfl⟩ := z_ok1 hok; exact lv_lload hx hb hd hlv (k ls hl)
        · cases hld; obtain ⟨x, rfl⟩ := z_ok1 hok; exact lv_lload_n hx hb hd rfl hlv (k ls hl)
        · cases hld
          obtain ⟨x, hxe⟩ := z_ok2 E B0 hok
          have k1 := k ls hl
          rw [show z_s E B0 (v :: st) = z_v E B0 v :: z_s E B0 st from rfl, hxe] at k1
          rw [hxe] at hlv
          exact lv_aload hx hb hd hlv k1
        · cases hld
          obtain ⟨x, hxe⟩ := z_ok2 E B0 hok
          have k1 := k ls hl
          rw [show z_s E B0 (v :: st) = z_v E B0 v :: z_s E B0 st from rfl, hxe] at k1
          rw [hxe] at hlv
          exact lv_aload_n hx hb hd rfl hlv k1
        · cases hld
      · cases h
    · cases h
  · split at h
    · rename_i i t v st0 hst
      split at h
      · rename_i hok
        unfold z_sto at hst
        split at hst
        · cases hst; obtain ⟨x, rfl⟩ := z_ok0 hok
          simp only [Nat.zero_ne_one, if_false] at h
          split at h
          · rename_i hi; cases h; exact lv_istore hx hb hd hl hi (z_p1 E B0 lv _ (.int x)) (fun ls' hl' => k ls' hl')
          · cases h
        · cases hst; obtain ⟨x, rfl⟩ := z_ok0 hok
          simp only [Nat.zero_ne_one, if_false] at h
          split at h
          · rename_i hi; cases h; exact lv_istore_n hx hb hd rfl hl hi (z_p1 E B0 lv _ (.int x)) (fun ls' hl' => k ls' hl')
          · cases h
        · cases hst; obtain ⟨x, rfl⟩ := z_ok1 hok
          simp only [if_true] at h
          split at h
          · rename_i hi; cases h; exact lv_lstore hx hb hd hl hi (z_p2 E B0 lv _ (.long x)) (fun ls' hl' => k ls' hl')
          · cases h
        · cases hst; obtain ⟨x, rfl⟩ := z_ok1 hok
          simp only [if_true] at h
          split at h
          · rename_i hi; cases h; exact lv_lstore_n hx hb hd rfl hl hi (z_p2 E B0 lv _ (.long x)) (fun ls' hl' => k ls' hl')
          · cases h
        · cases hst
          obtain ⟨x, hxe⟩ := z_ok2 E B0 hok
          rw [if_neg (by decide)] at h
          split at h
          · rename_i hi; cases h
            rw [show z_s E B0 (v :: st') = z_v E B0 v :: z_s E B0 st' from rfl, hxe]
            exact lv_astore hx hb hd hl hi (by rw [← hxe]; exact z_p1 E B0 lv _ _) (fun ls' hl' => k ls' hl')
          · cases h
        · cases hst
          obtain ⟨x, hxe⟩ := z_ok2 E B0 hok
          rw [if_neg (by decide)] at h
          split at h
          · rename_i hi; cases h
            rw [show z_s E B0 (v :: st') = z_v E B0 v :: z_s E B0 st' from rfl, hxe]
            exact lv_astore_n hx hb hd rfl hl hi (by rw [← hxe]; exact z_p1 E B0 lv _ _) (fun ls' hl' => k ls' hl')
          · cases h
        · cases hst
      · cases h
    · split at h
      · rename_i i n h1 h2
        split at h
        · rename_i x hv
          split at h
          · rename_i hi
            cases h
            obtain ⟨k0, hk0⟩ := List.getElem?_of_mem (List.mem_map.mpr ⟨(i, Value.int x), z_lkm hv, rfl⟩ : (i, z_v E B0 (Value.int x)) ∈ z_l E B0 lv)
            exact lv_iinc hx hb hd hl (k := k0) hk0 rfl hi (z_p1 E B0 lv i (.int (x + Int32.ofInt n))) (fun ls' hl' => k ls' hl')
          · cases h
        · cases h
      · cases h
theorem z_jmp_ok {off : Int} {g : Nat} (h : z_jmp pc off = some g) : (pc : Int) + off = (g : Int) := by
  unfold z_jmp at h
  split at h
  · rename_i h0; cases h; omega
  · cases h
set_option maxHeartbeats 1000000 in
theorem z_br_ok {pc' : Nat} (hx : p.tables.exec = Jvm.exec) (hb : c.code = cc) (hd : decode cc pc = .ok (ins, len)) (h : z_br pc ins len st = some (pc', st'))
    (k : W p l e R s m args below meth c H locs cells slots Q (F0 m pc' ls (z_s E B0 st'))) : W p l e R s m args below meth c H locs cells slots Q (F0 m pc ls (z_s E B0 st)) := by
  unfold z_br at h
  split at h
  · obtain ⟨g, hg, he⟩ := Option.map_eq_some_iff.mp h; cases he
    exact lv_if_eq hx hb hd (z_jmp_ok hg) (fun q => by rw [if_pos q] at k; exact k) (fun q => by rw [if_neg q] at k; exact k)
  · obtain ⟨g, hg, he⟩ := Option.map_eq_some_iff.mp h; cases he
    exact lv_if_ne hx hb hd (z_jmp_ok hg) (fun q => by rw [if_neg q] at k; exact k) (fun q => by rw [if_pos q] at k; exact k)
  · obtain ⟨g, hg, he⟩ := Option.map_eq_some_iff.mp h; cases he
    exact lv_if_lt hx hb hd (z_jmp_ok hg) (fun q => by rw [if_pos q] at k; exact k) (fun q => by rw [if_neg q] at k; exact k)
  · obtain ⟨g, hg, he⟩ := Option.map_eq_some_iff.mp h; cases he
    exact lv_if_ge hx hb hd (z_jmp_ok hg) (fun q => by rw [if_pos q] at k; exact k) (fun q => by rw [if_neg q] at k; exact k)
  · obtain ⟨g, hg, he⟩ := Option.map_eq_some_iff.mp h; cases he
    exact lv_if_gt hx hb hd (z_jmp_ok hg) (fun q => by rw [if_pos q] at k; exact k) (fun q => by rw [if_neg q] at k; exact k)
  · obtain ⟨g, hg, he⟩ := Option.map_eq_some_iff.mp h; cases he
    exact lv_if_le hx hb hd (z_jmp_ok hg) (fun q => by rw [if_pos q] at k; exact k) (fun q => by rw [if_neg q] at k; exact k)
  · obtain ⟨g, hg, he⟩ := Option.map_eq_some_iff.mp h; cases he
    exact lv_icmp_eq hx hb hd (z_jmp_ok hg) (fun q => by rw [if_pos q] at k; exact k) (fun q => by rw [if_neg q] at k; exact k)
  · obtain ⟨g, hg, he⟩ := Option.map_eq_some_iff.mp h; cases he
    exact lv_icmp_ne hx hb hd (z_jmp_ok hg) (fun q => by rw [if_neg q] at k; exact k) (fun q => by rw [if_pos q] at k; exact k)
  · obtain ⟨g, hg, he⟩ := Option.map_eq_some_iff.mp h; cases he
    exact lv_icmp_lt hx hb hd (z_jmp_ok hg) (fun q => by rw [if_pos q] at k; exact k) (fun q => by rw [if_neg q] at k; exact k)
  · obtain ⟨g, hg, he⟩ := Option.map_eq_some_iff.mp h; cases he
    exact lv_icmp_ge hx hb hd (z_jmp_ok hg) (fun q => by rw [if_pos q] at k; exact k) (fun q => by rw [if_neg q] at k; exact k)
  · obtain ⟨g, hg, he⟩ := Option.map_eq_some_iff.mp h; cases he
    exact lv_icmp_gt hx hb hd (z_jmp_ok hg) (fun q => by rw [if_pos q] at k; exact k) (fun q => by rw [if_neg q] at k; exact k)
  · obtain ⟨g, hg, he⟩ := Option.map_eq_some_iff.mp h; cases he
    exact lv_icmp_le hx hb hd (z_jmp_ok hg) (fun q => by rw [if_pos q] at k; exact k) (fun q => by rw [if_neg q] at k; exact k)
  · obtain ⟨g, hg, he⟩ := Option.map_eq_some_iff.mp h; cases he
    exact lv_goto hx hb hd (z_jmp_ok hg) k
  · split at h
    · rename_i h1
      obtain ⟨g, hg, he⟩ := Option.map_eq_some_iff.mp h; cases he
      exact lv_tableOut hx hb hd h1 (z_jmp_ok hg) k
    · rename_i h1
      obtain ⟨off, ho, h2⟩ := Option.bind_eq_some_iff.mp h
      obtain ⟨g, hg, he⟩ := Option.map_eq_some_iff.mp h2; cases he
      exact lv_tableIn hx hb hd (fun q => h1 (Or.inl q)) (fun q => h1 (Or.inr q)) ho (z_jmp_ok hg) k
  · split at h
    · rename_i h1
      obtain ⟨g, hg, he⟩ := Option.map_eq_some_iff.mp h; cases he
      exact lv_lookup hx hb hd h1 rfl (z_jmp_ok hg) k
    · cases h
  · cases h
end ZS
