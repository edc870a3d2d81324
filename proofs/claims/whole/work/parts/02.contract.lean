/-! contracts of methods that return or throw; the words of the tables, once for all methods -/
theorem x_good {w : Cond} (h : w ∈ x_tbl) : (w.onTables && w.keeps) = true ∨ ∃ ty, w = .arrayClass ty := good_of_word (List.mem_filter.mp h).2
def x_N (U : State) : Prop := ∀ w ∈ x_nest, va_Nw w U
theorem x_Nt {w : Cond} (h : w ∈ x_nest) : w.onTables = true := by
  have hb := (List.mem_filter.mp h).2
  cases w <;> first | rfl | (simp [x_isNest] at hb; done)
theorem x_N.warm {s U : State} (hW : s.WarmedH U.vm) (h : x_N s) : x_N U := by
  intro w hw
  have hb := (List.mem_filter.mp hw).2
  have h1 := h w hw
  cases w <;> first | exact va_Nw.warmF hW h1 | exact va_Nw.warmM hW h1 | exact va_Nw.warmC hW h1 | exact va_Nw.warmD hW h1 | (simp [x_isNest] at hb; done)
/-- the cells that the law's run has made: from B0 on -/
def x_A (B0 : Nat) : Nat → Prop := fun q => B0 ≤ q
/-- a class's static field is laid in a cell below B0 -/
def x_LS (C n d : String) (B0 : Nat) (U : State) : Prop := ∃ (c : ClassId) (k : Class) (i : Nat) (f : Field) (a : Nat) (cell : Cell), U.vm.findClass C = some c ∧ U.fieldFound? C n d = some (c, k, i, f) ∧ f.isStatic = true ∧ k.statics = some a ∧ U.heap[a]? = some cell ∧ cell.vm.isStatics = true ∧ cell.cls = c ∧ f.slot < cell.slots.size ∧ k.staticTypes[f.slot]? = some f.type ∧ ¬ x_A B0 a
theorem x_LS.use {C n d : String} {B0 : Nat} {U : State} (args : Array Value) (h : x_LS C n d B0 U) : (Cond.laysStatic C n d).before args U = true := by
  obtain ⟨c, k, i, f, a, cell, h1, h2, h3, h4, h5, h6, h7, h8, h9, -⟩ := h
  exact Cond.laysStatic_of h1 h2 h3 h4 h5 h6 h7 h8 h9
theorem x_LS.of {C n d : String} {args : Array Value} {U : State} (h : (Cond.laysStatic C n d).before args U = true) : x_LS C n d U.heap.size U := by
  obtain ⟨c, k, i, f, a, cell, h1, h2, h3, h4, h5, h6, h7, h8, h9⟩ := Cond.laysStatic_spec h
  exact ⟨c, k, i, f, a, cell, h1, h2, h3, h4, h5, h6, h7, h8, h9, Nat.not_le.mpr (Array.getElem?_eq_some_iff.mp h5).1⟩
theorem x_LS.go {C n d : String} {B0 : Nat} {s U : State} (h : x_LS C n d B0 s) (hvm : s.vm.Alike U.vm) (hk : ∀ q, q < s.heap.size → ¬ x_A B0 q → U.heap[q]? = s.heap[q]?) : x_LS C n d B0 U := by
  obtain ⟨c, k, i, f, a, cell, h1, h2, h3, h4, h5, h6, h7, h8, h9, h10⟩ := h
  obtain ⟨k', hi', he⟩ := State.fieldFound?_setVm hvm h2
  exact ⟨c, k', i, f, a, cell, by rw [hvm.findClass]; exact h1, hi', h3, by rw [he]; exact h4, by rw [hk a (Array.getElem?_eq_some_iff.mp h5).1 h10]; exact h5, h6, h7, h8, by rw [he]; exact h9, h10⟩
/-- the two statics that a Throwable's constructor reads; they lie below B0 -/
def x_Th (B0 : Nat) (U : State) : Prop := va_Zq Bundle.tN "UNASSIGNED_STACK" Bundle.steD (x_A B0) U U.heap ∧ va_Zq Bundle.tN "SUPPRESSED_SENTINEL" Bundle.listD (x_A B0) U U.heap ∧ x_LS Bundle.tN "UNASSIGNED_STACK" Bundle.steD B0 U ∧ x_LS Bundle.tN "SUPPRESSED_SENTINEL" Bundle.listD B0 U
/-- classes and slots; array classes; exception classes; where the string literals lie (and, at 1000, the script); the script -/
abbrev x_E : Type := va_G × (Nat → ClassId) × (Nat → ClassId) × (Nat → Nat) × Nat × (Nat → Int32)
def x_xs : List String := ["java/lang/IndexOutOfBoundsException", "java/lang/IllegalArgumentException", "java/lang/IllegalStateException", "java/lang/UnsupportedOperationException"]
/-- the string literals: where the pools have them, and what they hold -/
def x_St (E : x_E) (B0 : Nat) (U : State) : Prop := (∀ own i k : Nat, zt_s own i = some k → ∃ tx : String, vk_R (zt_cn own) i tx (E.2.2.2.1 k) U) ∧ vk_S zt_sl.length zt_sl zt_sb E.2.2.2.1 (fun i => E.2.2.2.1 (2000 + i)) (x_A B0) U U.heap
/-- String's switch; which exceptions are none of another class; the script -/
def x_Mo (E : x_E) (B0 : Nat) (U : State) : Prop := (va_Z "java/lang/String" "COMPACT_STRINGS" "Z" (.int 1) (x_A B0) U U.heap ∧ va_Zq "jdk/internal/util/Preconditions" "SIOOBE_FORMATTER" "Ljava/util/function/BiFunction;" (x_A B0) U U.heap) ∧ (∀ i j : Nat, i < 4 → j < 4 → i ≠ j → U.vm.assignable (E.2.2.1 i) (E.2.2.1 j) = false) ∧ E.2.2.2.1 1000 < B0 ∧ va_X (E.2.2.2.1 1000) E.2.2.2.2.1 E.2.2.2.2.2 U U.heap
def x_EV (E : x_E) (B0 : Nat) (U : State) : Prop :=
  B0 ≤ U.heap.size ∧ va_K E.1 classes (x_tys E.2.1) U ∧ x_N U ∧ x_Th B0 U ∧ (∀ (i : Nat) (nm : String), x_xs[i]? = some nm → U.vm.findClass nm = some (E.2.2.1 i)) ∧ va_AO zt_treeN U ∧ x_St E B0 U ∧ x_Mo E B0 U
theorem x_EV.go {E : x_E} {B0 : Nat} {s U : State} (h : x_EV E B0 s) (hW : s.WarmedH U.vm) (hz : s.heap.size ≤ U.heap.size) (hk : ∀ q, q < s.heap.size → ¬ x_A B0 q → U.heap[q]? = s.heap[q]?) : x_EV E B0 U := by
  obtain ⟨h1, h2, h3, h4, h5, h6, ⟨h7, h8⟩, h9, h10, h11, h12⟩ := h
  refine ⟨Nat.le_trans h1 hz, va_K.moved hW.alike h2, x_N.warm hW h3, ⟨?_, ?_, h4.2.2.1.go hW.alike hk, h4.2.2.2.go hW.alike hk⟩, fun i nm hi => ?_, va_AO.moved hW.alike h6, ⟨fun own i k hs => ?_, ?_⟩, ?_, fun i j hi hj hij => ?_, h11, ?_⟩
  · exact (va_Zq.moved hW.alike h4.1).kept hk
  · exact (va_Zq.moved hW.alike h4.2.1).kept hk
  · rw [hW.alike.findClass]; exact h5 i nm hi
  · obtain ⟨tx, h9⟩ := h7 own i k hs
    exact ⟨tx, h9.warm hW⟩
  · exact (vk_S.moved hW.alike h8).kept hk
  · exact ⟨(va_Z.moved hW.alike h9.1).kept hk, (va_Zq.moved hW.alike h9.2).kept hk⟩
  · rw [hW.alike.assignable]; exact h10 i j hi hj hij
  · exact (va_X.moved hW.alike h12).kept (hk _ (Nat.lt_of_lt_of_le h11 h1) (Nat.not_le.mpr h11))
def x_rm (fr lo k n : Nat) : Room := { frames := fr, cells := k, slots := n, locals := lo }
/-- what lies below B0 is as it was; at most k new cells of n slots -/
def x_FE (B0 : Nat) (st : State) (t : State) (k n : Nat) : Prop :=
  (st.heap.size ≤ t.heap.size ∧ ∀ q : Nat, q < st.heap.size → ¬ x_A B0 q → t.heap[q]? = st.heap[q]?) ∧ st.WarmedH t.vm ∧ ∃ L : List Loc, st.sameButNew ({ t with vm := st.vm } : State) L k n ∧ ∀ q ∈ L, x_A B0 q.base
/-- THE CONTRACT: from every state with the environment x_EV, the arguments av, the world Pw and the room: the method comes back or throws, Qw of the heaps; at most k' new cells of n' slots -/
def x_C (l : Launch) (E : x_E) (B0 : Nat) (y : MethodName) (fr lo k n k' n' : Nat) (av : List Value) (Pw : Heap → Prop) (Qw : Heap → Outcome → Heap → Prop) : Prop :=
  MetFree l y (headSpec x_tbl (x_rm fr lo k n)) (fun a U => a = av.toArray ∧ x_EV E B0 U ∧ Pw U.heap) (fun _ _ _ _ _ => True) (fun _ st o t => Qw st.heap o t.heap ∧ x_FE B0 st t k' n')
def x_Q (below : List Frame) (s : State) (B0 k n : Nat) (Qw : Heap → Outcome → Heap → Prop) : State → Prop := fun t =>
  ∃ o, t.status = .running ∧ Ended t below o ∧ Qw s.heap o t.heap ∧ x_FE B0 s t k n
/-- what a method's walk begins with -/
def x_B (E : x_E) (B0 : Nat) (y : MethodName) (cc : ByteArray) (maxL : Nat) (ret : Option FieldType) (av : List Value) (p : Program) (s : State) (m : MethodId) (meth : Method) (c : Code) : Prop :=
  p.tables.exec = Jvm.exec ∧ c.code = cc ∧ meth.sig.returnType = ret ∧ meth.locks = false ∧ c.maxLocals = maxL ∧ s.vm.findClass y.cls = some m.cls ∧ meth.name = y.name ∧ (∀ w ∈ x_tbl, w.before av.toArray s = true) ∧ x_EV E B0 s
theorem x_C.ofW {l : Launch} {E : x_E} {B0 : Nat} {y : MethodName} {fr lo k n k' n' : Nat} {av : List Value} {Pw : Heap → Prop} {Qw : Heap → Outcome → Heap → Prop} {cc : ByteArray} {maxL : Nat} {ret : Option FieldType}
    (hy : plainName y.cls = true) (hw : Cond.code y cc maxL ret ∈ x_tbl)
    (body : ∀ (p : Program) (e : Env) (s : State) (m : MethodId) (below : List Frame) (meth : Method) (c : Code), x_B E B0 y cc maxL ret av p s m meth c → c.exceptionTable.toList = [] → Pw s.heap →
      W p l e (x_rm fr lo k n) s m av.toArray below meth c s.heap [] 0 0 (x_Q below s B0 k' n' Qw) (entryFrame m av.toArray maxL)) : x_C l E B0 y fr lo k n k' n' av Pw Qw := by
  refine MetFree.of_bodyS (code := cc) (maxLocals := maxL) (ret := ret) hy ?_ ?_
  · intro args s m h hn
    obtain ⟨meth, c, h1, h2, h3, h4, h5, h6, -, -⟩ := Cond.code_spec hn (atoms_spec (ws := x_tbl) h _ hw)
    exact ⟨meth, c, h1, h2, h3, h4, h5, h6⟩
  · intro p e s m args below meth c s₁ B hml hP _
    obtain ⟨rfl, hE, hPw⟩ := hP
    have hh0 : s₁.heap = s.heap := by rw [B.state]; rfl
    have hts : ∀ w ∈ x_tbl, w.before av.toArray s = true := atoms_spec (ws := x_tbl) B.pre
    have he : c.exceptionTable.toList = [] := by
      have h0 := B.noHandlers (hts _ hw)
      have h1 : c.exceptionTable.size = 0 := by simpa [Array.isEmpty] using h0
      exact List.eq_nil_of_length_eq_zero (by simpa using h1)
    obtain ⟨t, a1, o, b1, b2, b3⟩ := body p e s m below meth c ⟨B.exec, B.bytes, B.returns, B.notSynchronized, hml, findClass_of_methodNamed B.named, (name_of_methodNamed B.named B.method).1, hts, hE⟩ he hPw s₁ hh0 (Stand.of_body B)
    exact ⟨t, o, a1, b1, b2, b3⟩
section XA
variable {p : Program} {l : Launch} {e : Env} {R : Room} {s : State} {m : MethodId} {args : Array Value} {below : List Frame} {meth : Method} {c : Code} {H : Heap} {locs : List Loc} {cells slots : Nat} {Q Q' : State → Prop}
theorem x_mono {g : JFrame} (h : ∀ t, Q t → Q' t) (k : W p l e R s m args below meth c H locs cells slots Q g) : W p l e R s m args below meth c H locs cells slots Q' g := by
  intro T hT X
  obtain ⟨t, a, b⟩ := k T hT X
  exact ⟨t, a, h t b⟩
/-- the machine with the note 'x is thrown' over the frame g -/
def x_T (p : Program) (l : Launch) (e : Env) (R : Room) (s : State) (m : MethodId) (args : Array Value) (below : List Frame) (meth : Method) (c : Code) (H : Heap) (locs : List Loc) (cells slots : Nat) (Q : State → Prop) (g : JFrame) (x : Addr) : Prop :=
  ∀ T : State, T.heap = H → Stand p l e R s m args below meth c T locs cells slots → ∃ t, Steps p.tables e below ((T.setTop g).pushFrame (.throwing x)) t ∧ Q t
theorem x_endQ {B0 k n : Nat} {Qw : Heap → Outcome → Heap → Prop} {a : Array Value} (hS : va_S (x_A B0) s.heap H locs) (hc : cells ≤ k) (hn : slots ≤ n) :
    ∀ t, MQ below (fun _ st o t => Qw st.heap o t.heap ∧ t.heap = H) a s cells slots (x_A B0) t → x_Q below s B0 k n Qw t := by
  rintro t ⟨o, h1, h2, ⟨h3, h4⟩, L, ⟨⟨v, rfl⟩, hW, hs⟩, hL⟩
  refine ⟨.returned v, h1, h2, h3, ⟨by rw [h4]; exact hS.1, fun q hq hn => ?_⟩, hW, L, hs.mono hc hn, hL⟩
  rw [h4]
  exact hS.2.1 q hq hn
variable {cc : ByteArray} {B0 k n : Nat} {Qw : Heap → Outcome → Heap → Prop} {pc : Nat} {ls : Array Slot}
theorem x_iret {v : Int32} (hx : p.tables.exec = Jvm.exec) (hb : c.code = cc) (hr : meth.sig.returnType = some .int) (hk : meth.locks = false) (hS : va_S (x_A B0) s.heap H locs) (hc : cells ≤ k) (hn : slots ≤ n)
    (hq : Qw s.heap (.returned (some (.int v))) H) (hdg : decode cc pc = .ok (.ireturn, 1)) : W p l e R s m args below meth c H locs cells slots (x_Q below s B0 k n Qw) (F0 m pc ls [.int v]) :=
  x_mono (x_endQ hS hc hn) (W.iret hx hb hr (fun t ht _ => ⟨by rw [ht]; exact hq, ht⟩) hS.2.2 hdg hk)
theorem x_zret {v : Int32} {ty : FieldType} (hx : p.tables.exec = Jvm.exec) (hb : c.code = cc) (hr : meth.sig.returnType = some ty) (hk : meth.locks = false) (hnr : narrow ty (.int v) = .int v) (hS : va_S (x_A B0) s.heap H locs) (hc : cells ≤ k) (hn : slots ≤ n)
    (hq : Qw s.heap (.returned (some (.int v))) H) (hdg : decode cc pc = .ok (.ireturn, 1)) : W p l e R s m args below meth c H locs cells slots (x_Q below s B0 k n Qw) (F0 m pc ls [.int v]) :=
  x_mono (x_endQ hS hc hn) (W.zret hx hb hr hnr (fun t ht _ => ⟨by rw [ht]; exact hq, ht⟩) hS.2.2 hdg hk)
theorem x_lret {v : Int64} (hx : p.tables.exec = Jvm.exec) (hb : c.code = cc) (hr : meth.sig.returnType = some .long) (hk : meth.locks = false) (hS : va_S (x_A B0) s.heap H locs) (hc : cells ≤ k) (hn : slots ≤ n)
    (hq : Qw s.heap (.returned (some (.long v))) H) (hdg : decode cc pc = .ok (.lreturn, 1)) : W p l e R s m args below meth c H locs cells slots (x_Q below s B0 k n Qw) (F0 m pc ls [.long v]) :=
  x_mono (x_endQ hS hc hn) (W.lret hx hb hr (fun t ht _ => ⟨by rw [ht]; exact hq, ht⟩) hS.2.2 hdg hk)
theorem x_vret (hx : p.tables.exec = Jvm.exec) (hb : c.code = cc) (hr : meth.sig.returnType = none) (hk : meth.locks = false) (hS : va_S (x_A B0) s.heap H locs) (hc : cells ≤ k) (hn : slots ≤ n)
    (hq : Qw s.heap (.returned none) H) (hdg : decode cc pc = .ok (.return_, 1)) : W p l e R s m args below meth c H locs cells slots (x_Q below s B0 k n Qw) (F0 m pc ls []) :=
  x_mono (x_endQ hS hc hn) (W.vret hx hb hr (fun t ht _ => ⟨by rw [ht]; exact hq, ht⟩) hS.2.2 hdg hk)
theorem x_aret {a : Nat} {rt : FieldType} (hx : p.tables.exec = Jvm.exec) (hb : c.code = cc) (hr : meth.sig.returnType = some rt) (hk : meth.locks = false) (hrt : (∃ n, rt = .object n) ∨ ∃ t, rt = .array t) (hS : va_S (x_A B0) s.heap H locs) (hc : cells ≤ k) (hn : slots ≤ n)
    (hq : Qw s.heap (.returned (some (.ref a))) H) (hdg : decode cc pc = .ok (.areturn, 1)) : W p l e R s m args below meth c H locs cells slots (x_Q below s B0 k n Qw) (F0 m pc ls [.ref a]) :=
  x_mono (x_endQ hS hc hn) (W.aret hx hb hr hrt (Or.inr ⟨a, rfl⟩) (fun t ht _ => ⟨by rw [ht]; exact hq, ht⟩) hS.2.2 hdg hk)
/-- thrown, and not caught here -/
theorem x_out {x : Addr} {rest : List Value} (he : c.exceptionTable.toList = []) (hk : meth.locks = false) (hS : va_S (x_A B0) s.heap H locs) (hc : cells ≤ k) (hn : slots ≤ n)
    (hq : Qw s.heap (.threw x) H) : x_T p l e R s m args below meth c H locs cells slots (x_Q below s B0 k n Qw) (F0 m pc ls rest) x := by
  intro T hT X
  obtain ⟨h1, h2, h3, h4, h5⟩ := X.leaveThrown x (g := F0 m pc ls rest) rfl rfl rfl (by rw [he]; intro x hx; cases hx) hk
  refine ⟨_, h1, .threw x, h2, h3, ?_, ⟨?_, h4, locs, h5.mono hc hn, hS.2.2⟩⟩
  · show Qw s.heap (.threw x) T.heap
    rw [hT]; exact hq
  · show s.heap.size ≤ T.heap.size ∧ ∀ q : Nat, q < s.heap.size → ¬ x_A B0 q → T.heap[q]? = s.heap[q]?
    rw [hT]
    exact ⟨hS.1, hS.2.1⟩
end XA
/-! a call -/
def x_Is (s : State) (y : MethodName) (maxL : Nat) : Prop := ∃ (mk : MethodId) (meth : Method) (c : Code), s.methodNamed? y = some mk ∧ s.vm.method? mk = some meth ∧ meth.code = some c ∧ c.maxLocals = maxL ∧ parseMethodDescriptor y.desc = some meth.sig
theorem x_Is.of {s : State} {args : Array Value} {y : MethodName} {b : ByteArray} {maxL : Nat} {ret : Option FieldType} (h : (Cond.code y b maxL ret).before args s = true) : x_Is s y maxL := by
  obtain ⟨mk, hn⟩ := Cond.code_named h
  obtain ⟨meth, c, h1, h2, -, h4, -, -, -, h8⟩ := Cond.code_spec hn h
  exact ⟨mk, meth, c, hn, h1, h2, h4, h8⟩
def x_Go (p : Program) (l : Launch) (e : Env) (R : Room) (s : State) (m : MethodId) (args : Array Value) (below : List Frame) (meth : Method) (c : Code) (locs : List Loc) (cells slots : Nat) (y : MethodName) (As rest : List Value) (g : JFrame) (T : State) : Prop :=
  ∃ (mk : MethodId) (vm₁ : Vm), Stand p l e R s m args below meth c (T.setVm vm₁) locs cells slots ∧ s.methodNamed? y = some mk ∧
    ∀ target, Steps p.tables e below (doInvoke e ((T.setVm vm₁).setTop { g with stack := rest }) [] mk As.toArray).1 target → Steps p.tables e below (T.setTop g) target
abbrev x_np (y : MethodName) (n : Nat) : Prop := y.cls ≠ "java/lang/invoke/MethodHandle" ∧ y.cls ≠ "java/lang/invoke/VarHandle" ∧ (parseMethodDescriptor y.desc).map (fun d => d.parameters.length) = some n
section XG
variable {p : Program} {l : Launch} {e : Env} {R : Room} {s : State} {m : MethodId} {args : Array Value} {below : List Frame} {meth : Method} {c : Code} {locs : List Loc} {cells slots : Nat} {T : State}
variable {own host : String} {y : MethodName} {maxL n index : Nat} {As rest : List Value} {g : JFrame} {b : Addr}
theorem x_goS (X : Stand p l e R s m args below meth c T locs cells slots) (hx : p.tables.exec = Jvm.exec) (hI : x_Is s y maxL) (hy : x_np y n) (hown : s.vm.findClass own = some m.cls) (hl : (Cond.methodLink own index y).before args s = true) (hst : (Cond.static y).before args s = true) (hini : (Cond.initialized y.cls).before args s = true)
    (hg : g.method = m) (hn : As.length = n) (hstack : g.stack = As.reverse ++ rest) (hdg : decode c.code g.pc = .ok (.invokestatic index, 3)) : x_Go p l e R s m args below meth c locs cells slots y As rest g T := by
  obtain ⟨mk, methM, cM, hnamed, hmethM, -, -, hsig⟩ := hI
  obtain ⟨kP, hkP, -⟩ := className_of_methodNamed hnamed
  have hlen : As.length = methM.sig.parameters.length := by
    have h2 := hy.2.2
    rw [hsig] at h2
    exact hn.trans (Option.some.inj h2).symm
  obtain ⟨vm₁, X₁, st⟩ := X.invokestatic hx hown hl hnamed hmethM (Cond.static_spec hnamed hmethM hst) hkP (Cond.initialized_spec (findClass_of_methodNamed hnamed) hkP hini) ⟨hy.1, hy.2.1⟩ (g := g) hg (argsL := As) (rest := rest) hlen hstack hdg
  exact ⟨mk, vm₁, X₁, hnamed, fun target h => st target fun acts => by rw [doInvoke_state]; exact h⟩
theorem x_goSN (X : Stand p l e R s m args below meth c T locs cells slots) (hx : p.tables.exec = Jvm.exec) (hI : x_Is s y maxL) (hy : x_np y n) (hown : s.vm.findClass own = some m.cls) (hl : (Cond.methodLinkNest own index y host).before args s = true) (hst : (Cond.static y).before args s = true) (hini : (Cond.initialized y.cls).before args s = true)
    (hg : g.method = m) (hn : As.length = n) (hstack : g.stack = As.reverse ++ rest) (hdg : decode c.code g.pc = .ok (.invokestatic index, 3)) : x_Go p l e R s m args below meth c locs cells slots y As rest g T := by
  obtain ⟨mk, methM, cM, hnamed, hmethM, -, -, hsig⟩ := hI
  obtain ⟨kP, hkP, -⟩ := className_of_methodNamed hnamed
  have hlen : As.length = methM.sig.parameters.length := by
    have h2 := hy.2.2
    rw [hsig] at h2
    exact hn.trans (Option.some.inj h2).symm
  obtain ⟨vm₁, X₁, st⟩ := X.invokestaticNest hx hown hl hnamed hmethM (Cond.static_spec hnamed hmethM hst) hkP (Cond.initialized_spec (findClass_of_methodNamed hnamed) hkP hini) ⟨hy.1, hy.2.1⟩ (g := g) hg (argsL := As) (rest := rest) hlen hstack hdg
  exact ⟨mk, vm₁, X₁, hnamed, fun target h => st target fun acts => by rw [doInvoke_state]; exact h⟩
theorem x_goV (X : Stand p l e R s m args below meth c T locs cells slots) (hx : p.tables.exec = Jvm.exec) (hI : x_Is s y maxL) (hy : x_np y n) (hown : s.vm.findClass own = some m.cls) (hl : (Cond.methodLink own index y).before args s = true) (hin : (Cond.instanceMethod y).before args s = true) (hse : (Cond.selects y.cls y y).before args s = true)
    (hrc : ∃ cellB : Cell, T.heap[b]? = some cellB ∧ cellB.vm.isStatics = false ∧ s.vm.findClass y.cls = some cellB.cls)
    (hg : g.method = m) (hn : As.length = n) (hstack : g.stack = As.reverse ++ .ref b :: rest) (hdg : decode c.code g.pc = .ok (.invokevirtual index, 3)) : x_Go p l e R s m args below meth c locs cells slots y (.ref b :: As) rest g T := by
  obtain ⟨mk, methM, cM, hnamed, hmethM, -, -, hsig⟩ := hI
  obtain ⟨mk', methM', hnamed', hmethM', hstM, habM⟩ := Cond.instanceMethod_spec hin
  cases hnamed.symm.trans hnamed'
  cases hmethM.symm.trans hmethM'
  obtain ⟨cellB, hcell, hobj, hcls⟩ := hrc
  obtain ⟨c2, r2, m2, q1, q2, q3, q4, kP, hkP, hkPi⟩ := Cond.selects_spec hse
  cases hcls.symm.trans q1
  cases (State.methodFound?_of_named hnamed ⟨hy.1, hy.2.1⟩).symm.trans q2
  cases hnamed.symm.trans q3
  have hselP : selectMethod e.platform s.vm cellB.cls mk = .method mk := by rw [Launch.admits_selectMethod X.admits]; exact q4
  have hlen : As.length = methM.sig.parameters.length := by
    have h2 := hy.2.2
    rw [hsig] at h2
    exact hn.trans (Option.some.inj h2).symm
  obtain ⟨vm₁, X₁, st⟩ := X.invokevirtual hx hown hl hnamed hmethM hstM hkP hkPi ⟨hy.1, hy.2.1⟩ (a := b) (cell := cellB) hcell (fun z h => by rw [h] at hobj; cases hobj) hselP hmethM habM hkP hkPi (g := g) hg (argsL := As) (rest := rest) hlen hstack hdg
  exact ⟨mk, vm₁, X₁, hnamed, fun target h => st target fun acts => by rw [doInvoke_state]; exact h⟩
theorem x_goVN (X : Stand p l e R s m args below meth c T locs cells slots) (hx : p.tables.exec = Jvm.exec) (hI : x_Is s y maxL) (hy : x_np y n) (hown : s.vm.findClass own = some m.cls) (hl : (Cond.methodLinkNest own index y host).before args s = true) (hin : (Cond.instanceMethod y).before args s = true) (hse : (Cond.selects y.cls y y).before args s = true)
    (hrc : ∃ cellB : Cell, T.heap[b]? = some cellB ∧ cellB.vm.isStatics = false ∧ s.vm.findClass y.cls = some cellB.cls)
    (hg : g.method = m) (hn : As.length = n) (hstack : g.stack = As.reverse ++ .ref b :: rest) (hdg : decode c.code g.pc = .ok (.invokevirtual index, 3)) : x_Go p l e R s m args below meth c locs cells slots y (.ref b :: As) rest g T := by
  obtain ⟨mk, methM, cM, hnamed, hmethM, -, -, hsig⟩ := hI
  obtain ⟨mk', methM', hnamed', hmethM', hstM, habM⟩ := Cond.instanceMethod_spec hin
  cases hnamed.symm.trans hnamed'
  cases hmethM.symm.trans hmethM'
  obtain ⟨cellB, hcell, hobj, hcls⟩ := hrc
  obtain ⟨c2, r2, m2, q1, q2, q3, q4, kP, hkP, hkPi⟩ := Cond.selects_spec hse
  cases hcls.symm.trans q1
  cases (State.methodFound?_of_named hnamed ⟨hy.1, hy.2.1⟩).symm.trans q2
  cases hnamed.symm.trans q3
  have hselP : selectMethod e.platform s.vm cellB.cls mk = .method mk := by rw [Launch.admits_selectMethod X.admits]; exact q4
  have hlen : As.length = methM.sig.parameters.length := by
    have h2 := hy.2.2
    rw [hsig] at h2
    exact hn.trans (Option.some.inj h2).symm
  obtain ⟨vm₁, X₁, st⟩ := X.invokevirtualNest hx hown hl hnamed hmethM hstM hkP hkPi ⟨hy.1, hy.2.1⟩ (a := b) (cell := cellB) hcell (fun z h => by rw [h] at hobj; cases hobj) hselP hmethM habM hkP hkPi (g := g) hg (argsL := As) (rest := rest) hlen hstack hdg
  exact ⟨mk, vm₁, X₁, hnamed, fun target h => st target fun acts => by rw [doInvoke_state]; exact h⟩
theorem x_goI {bytes : ByteArray} (X : Stand p l e R s m args below meth c T locs cells slots) (hx : p.tables.exec = Jvm.exec) (hcode : (Cond.code y bytes maxL none).before args s = true) (hy : x_np y n) (hown : s.vm.findClass own = some m.cls) (hl : (Cond.methodLink own index y).before args s = true) (hin : (Cond.instanceMethod y).before args s = true) (hy1 : y.name = "<init>")
    (hg : g.method = m) (hn : As.length = n) (hstack : g.stack = As.reverse ++ .ref b :: rest) (hdg : decode c.code g.pc = .ok (.invokespecial index, 3)) : x_Go p l e R s m args below meth c locs cells slots y (.ref b :: As) rest g T := by
  subst hg
  have hpl : e.platform.magicAccessors = ({} : Platform).magicAccessors := by rw [X.admits.platform]
  have hlen : ∀ sig, parseMethodDescriptor y.desc = some sig → As.length = sig.parameters.length := fun sig h => by
    have h2 := hy.2.2
    rw [h] at h2
    exact hn.trans (Option.some.inj h2).symm
  obtain ⟨mk, methM, cM, kP, vm₁, hnamed, hmethM, hcodeM, -, hlocalsM, -, hkP, -, hW₁, st⟩ := Steps.initColdArgs (e := e) X.here hx X.warmed hpl hown hy1 ⟨hy.1, hy.2.1⟩ hl hin hcode (f := g) rfl hlen hstack hdg
  exact ⟨mk, vm₁, X.noted hW₁, hnamed, fun target h => st _ fun acts => by rw [doInvoke_state]; exact h⟩
theorem x_goIN {bytes : ByteArray} (X : Stand p l e R s m args below meth c T locs cells slots) (hx : p.tables.exec = Jvm.exec) (hcode : (Cond.code y bytes maxL none).before args s = true) (hy : x_np y n) (hown : s.vm.findClass own = some m.cls) (hl : (Cond.methodLinkNest own index y host).before args s = true) (hin : (Cond.instanceMethod y).before args s = true) (hy1 : y.name = "<init>")
    (hg : g.method = m) (hn : As.length = n) (hstack : g.stack = As.reverse ++ .ref b :: rest) (hdg : decode c.code g.pc = .ok (.invokespecial index, 3)) : x_Go p l e R s m args below meth c locs cells slots y (.ref b :: As) rest g T := by
  subst hg
  have hpl : e.platform.magicAccessors = ({} : Platform).magicAccessors := by rw [X.admits.platform]
  have hlen : ∀ sig, parseMethodDescriptor y.desc = some sig → As.length = sig.parameters.length := fun sig h => by
    have h2 := hy.2.2
    rw [h] at h2
    exact hn.trans (Option.some.inj h2).symm
  obtain ⟨mk, methM, cM, kP, vm₁, hnamed, hmethM, hcodeM, -, hlocalsM, -, hkP, -, hW₁, st⟩ := Steps.initColdArgsNest (e := e) X.here hx X.warmed hpl hown hy1 ⟨hy.1, hy.2.1⟩ hl hin hcode (f := g) rfl hlen hstack hdg
  exact ⟨mk, vm₁, X.noted hW₁, hnamed, fun target h => st _ fun acts => by rw [doInvoke_state]; exact h⟩
end XG
section XR
variable {p : Program} {l : Launch} {e : Env} {s : State} {m : MethodId} {args : Array Value} {below : List Frame} {meth : Method} {c : Code} {H : Heap} {locs : List Loc} {cells slots : Nat} {Q : State → Prop}
variable {E : x_E} {B0 : Nat} {y : MethodName} {fr lo k n fr' lo' k' n' k2 n2 maxL nL pc : Nat} {As rest st : List Value} {Pw : Heap → Prop} {Qw : Heap → Outcome → Heap → Prop} {ls : Array Slot} {ig : Instr}
theorem x_run (hgo : ∀ T : State, T.heap = H → Stand p l e (x_rm fr lo k n) s m args below meth c T locs cells slots → x_Go p l e (x_rm fr lo k n) s m args below meth c locs cells slots y As rest (F0 m pc ls st) T)
    (hC : x_C l E B0 y fr' lo' k' n' k2 n2 As Pw Qw) (hI : x_Is s y maxL) (hini : (Cond.initialized y.cls).before args s = true) (hml : c.maxLocals = nL) (hls : ls.size = nL) (hcat : (rest.map fun v => v.category).sum ≤ 8) (hdg : decode c.code pc = .ok (ig, 3))
    (hfr : fr' + 1 ≤ fr) (hlo : 8 + (maxL + 11) + lo' ≤ lo) (hk : cells + k' ≤ k) (hn : slots + n' ≤ n)
    (hts : ∀ w ∈ x_tbl, w.before args s = true) (hE : x_EV E B0 s) (hS : va_S (x_A B0) s.heap H locs) (hPw : Pw H)
    (kr : ∀ (v : Option Value) (H' : Heap) (locs' : List Loc), Qw H (.returned v) H' → H.size ≤ H'.size → va_S (x_A B0) s.heap H' locs' → W p l e (x_rm fr lo k n) s m args below meth c H' locs' (cells + k2) (slots + n2) Q (F0 m (pc + 3) ls (v.toList ++ rest)))
    (kt : ∀ (x : Addr) (H' : Heap) (locs' : List Loc), Qw H (.threw x) H' → H.size ≤ H'.size → va_S (x_A B0) s.heap H' locs' → x_T p l e (x_rm fr lo k n) s m args below meth c H' locs' (cells + k2) (slots + n2) Q (F0 m pc ls rest) x) :
    W p l e (x_rm fr lo k n) s m args below meth c H locs cells slots Q (F0 m pc ls st) := by
  intro T hT X
  obtain ⟨mk, vm₁, X₁, hnamed, hst⟩ := hgo T hT X
  obtain ⟨mk', methY, cY, hn', hmY, hcY, hlY, -⟩ := hI
  cases hnamed.symm.trans hn'
  have hal := X₁.warmed.alike
  have hnT : (T.setVm vm₁).methodNamed? y = some mk := X₁.named hnamed
  have hmT : (T.setVm vm₁).vm.method? mk = some methY := by rw [hal.method?]; exact hmY
  have hiT : (Cond.initialized y.cls).before As.toArray (T.setVm vm₁) = true := word_at X₁.warmed (Or.inl (by first | rfl | simp [Cond.onTables, Cond.keeps, Cond.steady])) hini
  obtain ⟨kY, hkY, -⟩ := className_of_methodNamed hnT
  have hinitY : kY.init = .initialized := Cond.initialized_spec (findClass_of_methodNamed hnT) hkY hiT
  have hAt : At (T.setVm vm₁) (F0 m pc ls rest).method c below := X₁.here
  have happ : (headSpec x_tbl (x_rm fr' lo' k' n')).appliesLoose y e.platform ((T.setVm vm₁).calling (F0 m pc ls rest) mk As.toArray) = true := by
    refine Spec.appliesLoose_calling (g := F0 m pc ls rest) hAt hdg hnT hkY hinitY (X₁.room_calling (g := F0 m pc ls rest) (R' := x_rm fr' lo' k' n') (hls.trans hml.symm) hmT hcY hfr ?_ ?_ ?_) (atoms_intro fun w hw => word_at X₁.warmed (x_good hw) (hts w hw))
    · show 2 * (F0 m pc ls rest).monitorRoom + (rest.map fun v => v.category).sum + (cY.maxLocals + 11) + lo' ≤ lo
      have : (F0 m pc ls rest).monitorRoom = 0 := rfl
      rw [this, hlY]; omega
    · exact hk
    · exact hn
  have hcal : ((T.setVm vm₁).calling (F0 m pc ls rest) mk As.toArray).heap = H := hT
  have hEc : x_EV E B0 ((T.setVm vm₁).calling (F0 m pc ls rest) mk As.toArray) := by
    refine hE.go (U := (T.setVm vm₁).calling (F0 m pc ls rest) mk As.toArray) X₁.warmed (by rw [hcal]; exact hS.1) (fun q h1 h2 => ?_)
    rw [hcal]
    exact hS.2.1 q h1 h2
  have hfrs : ((T.setVm vm₁).setTop (F0 m pc ls rest)).frames = .java (F0 m pc ls rest) :: below := by rw [State.frames_setTop' _ X₁.here.top, X₁.tail]
  obtain ⟨o, s₂, hsteps, -, hend, hQ, hF, hW₂, L, hsame, hL⟩ := Steps.callFree (acts := []) hC p X₁.admits X₁.cas X₁.clock (mid := [.java (F0 m pc ls rest)]) (below := below) (s := (T.setVm vm₁).setTop (F0 m pc ls rest)) (m := mk) (args := As.toArray) hfrs happ ⟨rfl, hEc, by rw [show (((T.setVm vm₁).setTop (F0 m pc ls rest)).pushFrame (.invoking mk As.toArray)).heap = H from hT]; exact hPw⟩ trivial
  rw [hfrs] at hend
  have hF' : H.size ≤ s₂.heap.size ∧ ∀ q : Nat, q < H.size → ¬ x_A B0 q → s₂.heap[q]? = H[q]? := by
    have h0 : (((T.setVm vm₁).setTop (F0 m pc ls rest)).pushFrame (.invoking mk As.toArray)).heap.size ≤ s₂.heap.size ∧ ∀ q : Nat, q < (((T.setVm vm₁).setTop (F0 m pc ls rest)).pushFrame (.invoking mk As.toArray)).heap.size → ¬ x_A B0 q → s₂.heap[q]? = (((T.setVm vm₁).setTop (F0 m pc ls rest)).pushFrame (.invoking mk As.toArray)).heap[q]? := hF
    rw [show (((T.setVm vm₁).setTop (F0 m pc ls rest)).pushFrame (.invoking mk As.toArray)).heap = H from hT] at h0
    exact h0
  have hS' : va_S (x_A B0) s.heap s₂.heap (locs ++ L) := by
    refine ⟨Nat.le_trans hS.1 hF'.1, fun q h1 h2 => ?_, fun q hq => ?_⟩
    · rw [hF'.2 q (Nat.lt_of_lt_of_le h1 hS.1) h2]
      exact hS.2.1 q h1 h2
    · rcases List.mem_append.mp hq with h | h
      · exact hS.2.2 q h
      · exact hL q h
  have hQ' : Qw H o s₂.heap := by
    have h0 : Qw (((T.setVm vm₁).setTop (F0 m pc ls rest)).pushFrame (.invoking mk As.toArray)).heap o s₂.heap := hQ
    rw [show (((T.setVm vm₁).setTop (F0 m pc ls rest)).pushFrame (.invoking mk As.toArray)).heap = H from hT] at h0
    exact h0
  cases o with
  | returned v =>
    obtain ⟨T', X', -, -, ht⟩ := X₁.outOf (g := F0 m pc ls rest) rfl hdg (mk := mk) (a := As.toArray) (t := s₂) (L := L) (k := k2) (n := n2) hend hW₂ hsame
    have hh : T'.heap = s₂.heap := by rw [ht]; rfl
    obtain ⟨t, a1, b1⟩ := kr v s₂.heap (locs ++ L) hQ' hF'.1 hS' T' hh X'
    exact ⟨t, hst t (hsteps.trans (by rw [ht]; exact a1)), b1⟩
  | threw x =>
    obtain ⟨T', X', -, -, ht⟩ := X₁.outOfThrown (g := F0 m pc ls rest) rfl (mk := mk) (a := As.toArray) (t := s₂) (L := L) (k := k2) (n := n2) hend hW₂ hsame
    have hh : T'.heap = s₂.heap := by rw [ht]; rfl
    obtain ⟨t, a1, b1⟩ := kt x s₂.heap (locs ++ L) hQ' hF'.1 hS' T' hh X'
    exact ⟨t, hst t (hsteps.trans (by rw [ht]; exact a1)), b1⟩
end XR
/-! an own exception is made and thrown -/
theorem x_same0 {T : State} {th : Thread} {f : List Frame} (hth : T.threads[T.cur]? = some th) : (T.setFrames f).sameButNew (T.setVm (T.setFrames f).vm) [] 0 0 := by
  have h1 : T.setVm (T.setFrames f).vm = T := rfl
  have h2 : (T.setFrames f).heap = T.heap := rfl
  have h3 : (T.setFrames f).slotsUsed = T.slotsUsed := rfl
  rw [h1]
  refine ⟨?_, Nat.le_refl _, Nat.le_refl _, ?_, ?_, fun a c h => ⟨c, h, rfl, rfl, fun _ _ => rfl⟩⟩
  · rw [State.setFrames_setFrames, State.setFrames_self hth]
  · have hd : T.heap.toList.drop T.heap.size = [] := List.drop_eq_nil_of_le (by simp)
    rw [h2, h3, hd]; rfl
  · have hd : T.heap.toList.drop T.heap.size = [] := List.drop_eq_nil_of_le (by simp)
    rw [h2, hd]; exact Nat.le_refl _
theorem x_ofSet {A B : State} {F : List Frame} {locs : List Loc} {k n : Nat} (h : (A.setFrames F).sameButNew B locs k n) : A.sameButNew B locs k n := by
  obtain ⟨h1, h2⟩ := h
  rw [State.setFrames_setFrames] at h1
  exact ⟨h1, h2⟩
theorem x_isRef {C n d : String} {A : Nat → Prop} {U : State} (args : Array Value) (h : va_Zq C n d A U U.heap) : (Cond.isRef (.static C n d)).before args U = true := by
  rcases h with ⟨cf, kf, fi, f, a, cell, h1, h2, h3, h4, h5, h6, h7, -⟩ | ⟨t, cf, kf, fi, f, a, cell, h1, h2, h3, h4, h5, h6, h7, -⟩ <;>
    simp [Cond.before, Cond.holds, Cond.value, Term.eval, State.fieldNamed?, h1, h2, h4, h5, h6, h7]
theorem x_hears {s U : State} {m : MethodId} {below : List Frame} (h : ∀ x, U.vm.method? x = s.vm.method? x) : U.hears m below = s.hears m below := by
  unfold State.hears
  cases below with
  | nil => simp [h]
  | cons f r => cases f <;> simp [State.code?_eq, h]
theorem x_rebase {p : Program} {l : Launch} {e : Env} {R R' : Room} {s : State} {m : MethodId} {args : Array Value} {below : List Frame} {meth : Method} {c : Code} {T : State} {locs : List Loc} {cells slots : Nat}
    (X : Stand p l e R s m args below meth c T locs cells slots) (hf : R'.frames ≤ R.frames) (hl : R'.locals ≤ R.locals) (hc : cells + R'.cells ≤ R.cells) (hs : slots + R'.slots ≤ R.slots) :
    Stand p l e R' (T.setFrames (.invoking m args :: below)) m args below meth c T [] 0 0 := by
  obtain ⟨g₀, hfr⟩ := X.frames_eq
  have hcur : T.cur < T.threads.size := State.cur_lt_of_frames hfr
  have hF : (T.setFrames (.invoking m args :: below)).frames = .invoking m args :: below := State.frames_setFrames _ hcur
  have hal := X.warmed.alike
  obtain ⟨th, hth, -⟩ := State.frames_cons hfr
  refine ⟨X.admits, X.cas, X.clock, hF, ?_, ?_, X.method', X.code, X.here, X.tail, State.WarmedH.refl _, (State.stackLimits_setFrames _ _ _).symm, (State.stackBytes_setFrames _ _).symm, ?_⟩
  · have r := X.room
    have hh := X.heapSize
    have hu := X.used
    have hbk := X.book
    have hL1 : (T.setFrames (.invoking m args :: below)).localsInUse = s.localsInUse := by
      rw [State.localsInUse_invoking hF X.method' X.code, State.localsInUse_invoking X.frames X.method X.code]
    have hL2 : (T.setFrames (.invoking m args :: below)).frames.length = s.frames.length := by rw [hF, X.frames]
    have hL3 : e.platform.stackLimits (T.setFrames (.invoking m args :: below)).me = e.platform.stackLimits s.me := by rw [State.stackLimits_setFrames, X.limits]
    have hL4 : (T.setFrames (.invoking m args :: below)).me.stackBytes = s.me.stackBytes := by rw [State.stackBytes_setFrames, X.bytes]
    have hL5 : (T.setFrames (.invoking m args :: below)).slotsTrue = T.slotsTrue := rfl
    have hL6 : (T.setFrames (.invoking m args :: below)).heap = T.heap := rfl
    have hL7 : (T.setFrames (.invoking m args :: below)).slotsUsed = T.slotsUsed := rfl
    simp only [State.hasRoom, Bool.and_eq_true, decide_eq_true_eq] at r ⊢
    obtain ⟨⟨⟨⟨r0, r1, r2, r3, r4, r5⟩, r6⟩, r7⟩, r8⟩ := r
    rw [hL1, hL2, hL3, hL4, hL5, hL6, hL7]
    exact ⟨⟨⟨⟨by omega, by omega, by omega, by omega, by omega, r5⟩, by omega⟩, by omega⟩, hbk⟩
  · rw [x_hears (s := s) (U := T.setFrames (.invoking m args :: below)) (fun x => hal.method? x)]
    exact X.hears
  · exact x_same0 hth

theorem x_fit {i : Nat} {X : String} (h : x_xs[i]? = some X) : Bundle.fit X = true := by
  have h1 : X ∈ x_xs := List.mem_of_getElem? h
  have h2 : ∀ z ∈ x_xs, Bundle.fit z = true := by decide +kernel
  exact h2 X h1
def x_X (E : x_E) (i : Nat) (x : Addr) (H : Heap) : Prop := i < 4 ∧ ∃ cell : Cell, H[x]? = some cell ∧ cell.vm = .none ∧ cell.cls = E.2.2.1 i
abbrev x_up : List String := ["java/lang/RuntimeException", "java/lang/Exception"]
abbrev x_r1 : Cond := .isRef (.static Bundle.tN "UNASSIGNED_STACK" Bundle.steD)
abbrev x_r2 : Cond := .isRef (.static Bundle.tN "SUPPRESSED_SENTINEL" Bundle.listD)
abbrev x_r3 : Cond := .laysStatic Bundle.tN "UNASSIGNED_STACK" Bundle.steD
abbrev x_r4 : Cond := .laysStatic Bundle.tN "SUPPRESSED_SENTINEL" Bundle.listD
set_option maxHeartbeats 1000000 in
theorem x_throw {p : Program} {l : Launch} {e : Env} {s : State} {m : MethodId} {args : Array Value} {below : List Frame} {meth : Method} {c : Code} {H : Heap} {locs : List Loc} {cells slots : Nat} {cc : ByteArray} {k n k2 n2 fr lo nL : Nat} {Qw : Heap → Outcome → Heap → Prop} {pc : Nat} {ls : Array Slot} {st : List Value} {E : x_E} {B0 : Nat} {own X : String} {ia ic : Nat}
    (htr : l.stackTraces = false) (hx : p.tables.exec = Jvm.exec) (hb : c.code = cc) (he : c.exceptionTable.toList = []) (hk : meth.locks = false) (hml : c.maxLocals = nL) (hls : ls.size = nL) (hown : s.vm.findClass own = some m.cls) (hts : ∀ w ∈ x_tbl, w.before args s = true) (hE : x_EV E B0 s) (hS : va_S (x_A B0) s.heap H locs)
    (i : Nat) (hi : x_xs[i]? = some X) (hat : ∀ a ∈ Bundle.ownAtoms0 own ic X x_up, a ∈ x_tbl ∨ a ∈ x_nest ∨ a = x_r1 ∨ a = x_r2 ∨ a = x_r3 ∨ a = x_r4) (hcl : Cond.classLink own ia X ∈ x_tbl) (hin : Cond.instantiable X 6 ∈ x_tbl) (hini : Cond.initialized X ∈ x_tbl)
    (d0 : decode cc pc = .ok (.new ia, 3)) (d3 : decode cc (pc + 3) = .ok (.dup, 1)) (d4 : decode cc (pc + 4) = .ok (.invokespecial ic, 3)) (d7 : decode cc (pc + 7) = .ok (.athrow, 1))
    (hc : cells + 1 ≤ k) (hn : slots + 6 ≤ n) (hc2 : cells + 1 ≤ k2) (hn2 : slots + 6 ≤ n2) (hfr : 5 < fr) (hlo : (st.map fun v => v.category).sum + 81 ≤ lo)
    (hq : ∀ (x : Addr) (H' : Heap), x_X E i x H' → H.size ≤ H'.size → (∀ q, q < H.size → H'[q]? = H[q]?) → H'.size = H.size + 1 → x = H.size → Qw s.heap (.threw x) H') :
    W p l e (x_rm fr lo k n) s m args below meth c H locs cells slots (x_Q below s B0 k2 n2 Qw) (F0 m pc ls st) := by
  intro T hT X0
  have htr' : e.platform.stackTraces = false := by rw [X0.admits.platform]; exact htr
  have Y : Stand p l e (x_rm fr lo 1 6) (T.setFrames (.invoking m args :: below)) m args below meth c T [] 0 0 := x_rebase X0 (Nat.le_refl _) (Nat.le_refl _) hc hn
  have hW0 : s.WarmedH (T.setFrames (.invoking m args :: below)).vm := X0.warmed
  have hts' : ∀ w ∈ x_tbl, w.before args (T.setFrames (.invoking m args :: below)) = true := fun w hw => word_at hW0 (x_good hw) (hts w hw)
  have hE' : x_EV E B0 (T.setFrames (.invoking m args :: below)) := by
    refine hE.go hW0 (by show s.heap.size ≤ T.heap.size; rw [hT]; exact hS.1) (fun q h1 h2 => ?_)
    show T.heap[q]? = _
    rw [hT]
    exact hS.2.1 q h1 h2
  have hown' : (T.setFrames (.invoking m args :: below)).vm.findClass own = some m.cls := by rw [hW0.alike.findClass]; exact hown
  obtain ⟨vm₁, cX, kX, hfX, hkX, -, -, X₁, st1⟩ := Y.newCold hx (own := own) (C := X) (index := ia) (n := 6) hown' (hts' _ hcl) (hts' _ hin) (hts' _ hini) (g := F0 m pc ls st) rfl (by rw [hb]; exact d0) (by show 0 + 1 ≤ 1; omega) (by show 0 + 6 ≤ 6; omega)
  have hcellA : ((T.setVm vm₁).pushCell { cls := cX, slots := kX.instanceTypes.map defaultValue, vm := .none }).heap[T.heap.size]? = some (freshCell cX kX) := State.heap_pushCell_size _ _
  generalize hT1 : (T.setVm vm₁).pushCell { cls := cX, slots := kX.instanceTypes.map defaultValue, vm := .none } = T1 at X₁ st1 hcellA
  obtain ⟨U, hsteps, hrun, hend, hW, hsame, ce, hce, K⟩ := X₁.ctorThrow0 hx htr' (own := own) (cls := X) (names := x_up) (ic := ic) hown' (x_fit hi) (by decide +kernel)
    (fun a ha => by
      rcases hat a ha with h | h | rfl | rfl | rfl | rfl
      · exact hts' _ h
      · exact va_Nw.use (x_Nt h) (hE'.2.2.1 _ h)
      · exact x_isRef _ hE'.2.2.2.1.1
      · exact x_isRef _ hE'.2.2.2.1.2.1
      · exact x_LS.use _ hE'.2.2.2.1.2.2.1
      · exact x_LS.use _ hE'.2.2.2.1.2.2.2)
    (fun y hy => by cases hy) hfX hkX hcellA (Nat.le_refl _) (g := F0 m (pc + 4) ls (.ref T.heap.size :: .ref T.heap.size :: st)) rfl (hls.trans hml.symm) rfl rfl (rest := st) rfl (by rw [hb]; exact d4) (by rw [hb]; exact d7) (by rw [he]; intro x hx; cases hx)
    (by show 2 + 3 < fr; omega) (by
      show 2 * 0 + (1 + (st.map fun v => v.category).sum) + (13 * (2 + 1) + 41) ≤ lo
      omega) hk
  have hold : ∀ q, q < T.heap.size → U.heap[q]? = T.heap[q]? := fun q hq => by
    have h1 : (T.setFrames (.invoking m args :: below)).heap[q]? = some (T.heap[q]'hq) := Array.getElem?_eq_getElem hq
    have h2 := hsame.old_cell h1
    rw [Array.getElem?_eq_getElem hq]
    exact h2
  have hsz : T.heap.size ≤ U.heap.size := hsame.2.1
  refine ⟨U, ?_, .threw T.heap.size, hrun, hend, ?_, ⟨⟨?_, ?_⟩, State.WarmedH.trans X0.warmed hW, locs, ?_, hS.2.2⟩⟩
  · refine st1 _ ?_
    show Steps p.tables e below (T1.setTop (F0 m (pc + 3) ls (.ref T.heap.size :: st))) _
    jvm_step X₁.here [X₁.here.top, hx, hb, d3, Value.category]
    exact hsteps
  · refine hq _ _ ⟨(List.getElem?_eq_some_iff.mp hi).1, ce, hce, K.vm, ?_⟩ (by rw [← hT]; exact hsz) (fun q h => by rw [← hT] at h ⊢; exact hold q h) (by
      have h8 : T.heap.size < U.heap.size := (Array.getElem?_eq_some_iff.mp hce).1
      have h9 : U.heap.size ≤ T.heap.size + (0 + 1) := hsame.2.2.1
      rw [← hT]; omega) (by rw [hT])
    have h1 := hE'.2.2.2.2.1 i X hi
    exact Option.some.inj (K.cls.symm.trans h1)
  · rw [← hT] at hS; exact Nat.le_trans hS.1 hsz
  · intro q h1 h2
    rw [← hT] at hS
    rw [hold q (Nat.lt_of_lt_of_le h1 hS.1)]
    exact hS.2.1 q h1 h2
  · have h1 := (x_ofSet hsame).setVm s.vm
    have h2 := X0.same.trans h1
    rw [List.append_nil] at h2
    exact h2.mono (by omega) (by omega)
