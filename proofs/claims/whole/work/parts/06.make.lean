/-! making, returning, throwing, calling; then the whole -/
def z_K (p : Program) (l : Launch) (e : Env) (R : Room) (s : State) (m : MethodId) (args : Array Value) (below : List Frame) (meth : Method) (c : Code) (Q : State → Prop) (E : x_E) (B0 pc : Nat) (ls : Array Slot) (st : List Value) (τ : z_T) : Prop :=
  ∀ (H' : Heap) (locs' : List Loc) (cells' slots' : Nat), z_AB E B0 τ.1 H' → H'.size = B0 + τ.2.1 → cells' + τ.2.2.1 ≤ R.cells → slots' + τ.2.2.2 ≤ R.slots → va_S (x_A B0) s.heap H' locs' → W p l e R s m args below meth c H' locs' cells' slots' Q (F0 m pc ls (z_s E B0 st))
def z_End (E : x_E) (B0 : Nat) (o : z_O) (τ' : z_T) (H' : Heap) (o' : Outcome) : Prop :=
  z_AB E B0 τ'.1 H' ∧ H'.size = B0 + τ'.2.1 ∧ match o with
    | .inl v => o' = .returned (v.map (z_v E B0))
    | .inr (i, x) => o' = .threw (B0 + x) ∧ x_X E i (B0 + x) H'
theorem z_new_ok {τ τ' : z_T} {n : Nat} {e : va_E} (h : z_new τ n e = some τ') : 1 ≤ τ.2.2.1 ∧ n ≤ τ.2.2.2 ∧ τ' = (fun q => if q = τ.2.1 then some e else τ.1 q, τ.2.1 + 1, τ.2.2.1 - 1, τ.2.2.2 - n) := by
  unfold z_new at h
  split at h
  · rename_i h1
    cases h
    exact ⟨h1.1, h1.2, rfl⟩
  · cases h
section ZM
variable {p : Program} {l : Launch} {e : Env} {R : Room} {s : State} {m : MethodId} {args : Array Value} {below : List Frame} {meth : Method} {c : Code} {H : Heap} {locs : List Loc} {cells slots : Nat} {Q : State → Prop}
variable {cc : ByteArray} {pc len nL own B0 : Nat} {ls : Array Slot} {ins : Instr} {E : x_E} {st st' : List Value} {lv lv' : z_L} {τ τ' : z_T}
/-- a new array: what the row gives is a known cell -/
theorem z_mkA (hAB : z_AB E B0 τ.1 H) (hz : H.size = B0 + τ.2.1) (hS : va_S (x_A B0) s.heap H locs) {n : Nat} {e' : va_E} (hn : z_new τ n e' = some τ') (hcb : cells + τ.2.2.1 ≤ R.cells) (hsb : slots + τ.2.2.2 ≤ R.slots)
    (k : z_K p l e R s m args below meth c Q E B0 pc ls st' τ') {H' : Heap} (ha : va_at E.1 classes (B0 + τ.2.1, z_e E B0 e') H') (z1 : H'.size = H.size + 1) (o1 : ∀ q, q < H.size → H'[q]? = H[q]?) :
    W p l e R s m args below meth c H' locs (cells + 1) (slots + n) Q (F0 m pc ls (z_s E B0 st')) := by
  obtain ⟨h1, h2, rfl⟩ := z_new_ok hn
  refine k H' locs (cells + 1) (slots + n) ?_ ?_ ?_ ?_ ⟨by rw [z1]; exact Nat.le_succ_of_le hS.1, fun q h3 h4 => ?_, hS.2.2⟩
  · exact hAB.push hz ha o1
  · show H'.size = B0 + (τ.2.1 + 1)
    rw [z1, hz]; omega
  · show cells + 1 + (τ.2.2.1 - 1) ≤ R.cells
    omega
  · show slots + n + (τ.2.2.2 - n) ≤ R.slots
    omega
  · rw [o1 q (Nat.lt_of_lt_of_le h3 hS.1)]
    exact hS.2.1 q h3 h4
set_option maxHeartbeats 4000000 in
theorem z_mk_ok (okn : ∀ o i ci, zt_n o i = some ci → z_cok ci ∧ ∀ (C : String) (T : u_T) (N : Nat), classes[ci]? = some (C, T, N) → Cond.classLink (zt_cn o) i C ∈ x_tbl) (oka : ∀ o i, zt_a o i = true → Cond.classLink (zt_cn o) i zt_treeN ∈ x_tbl)
    (okA : Cond.arrayClass .int ∈ x_tbl ∧ Cond.arrayClass .long ∈ x_tbl ∧ Cond.arrayClass .char ∈ x_tbl ∧ Cond.arrayClass .boolean ∈ x_tbl)
    (hx : p.tables.exec = Jvm.exec) (hb : c.code = cc) (hown : s.vm.findClass (zt_cn own) = some m.cls) (hts : ∀ w ∈ x_tbl, w.before args s = true) (hE : x_EV E B0 s) (hAB : z_AB E B0 τ.1 H) (hz : H.size = B0 + τ.2.1) (hS : va_S (x_A B0) s.heap H locs) (hcb : cells + τ.2.2.1 ≤ R.cells) (hsb : slots + τ.2.2.2 ≤ R.slots) (hd : decode cc pc = .ok (ins, len)) (h : z_mk own τ ins len st = some (st', τ'))
    (k : z_K p l e R s m args below meth c Q E B0 (pc + len) ls st' τ') : W p l e R s m args below meth c H locs cells slots Q (F0 m pc ls (z_s E B0 st)) := by
  have hK := hE.2.1
  unfold z_mk at h
  split at h
  · split at h
    · rename_i i st0 ci hci
      obtain ⟨τ1, hn, he⟩ := Option.map_eq_some_iff.mp h
      cases he
      obtain ⟨h1, h2, -⟩ := z_new_ok hn
      obtain ⟨⟨C, T, N, hC, hin, hty, hnm, hdecl, hdl, hdf, hfl, hins, hini⟩, hcl⟩ := okn _ _ _ hci
      have hKn := hK.1 ci _ hC
      rw [hdl] at hn h2
      refine W.newcK hx hb hown (hts _ (hcl C T N hC)) (hts _ hins) (hts _ hini) rfl hd (by omega) (by omega) hKn.2.1 hz fun H' kC hkC e1 z1 o1 => ?_
      exact z_mkA hAB hz hS hn hcb hsb k (by
        show va_at E.1 classes (B0 + τ.2.1, .inr (ci, (z_dfl ci).map (z_v E B0))) H'
        rw [z_flat_map hfl]
        exact ⟨_, hC, (u_born (zt_ty ci) hts hin hKn hkC e1 hty).to hdf⟩) (by rw [hz]; exact z1) (by rw [hz]; exact o1)
    · cases h
  · split at h
    · cases h
    · rename_i n st0 hc0
      obtain ⟨τ1, hn, he⟩ := Option.map_eq_some_iff.mp h
      cases he
      obtain ⟨h1, h2, -⟩ := z_new_ok hn
      have hn0 : ¬ n < 0 := fun z => hc0 (Or.inl z)
      have hn1 : n.toNatClampNeg ≤ 100000 := Nat.le_of_not_lt (fun z => hc0 (Or.inr z))
      refine va_newaK (atype := .int) hx hb (hts _ okA.1) rfl hd rfl hn0 rfl (by show n.toNatClampNeg * 4 ≤ 536870912; omega) (by omega) (by omega) hz fun H' cA e1 z1 o1 hAr hNm => ?_
      have hcA : E.2.1 0 = cA := Option.some.inj ((hK.2 0 _ rfl).2.symm.trans hNm)
      subst hcA
      exact z_mkA hAB hz hS hn hcb hsb k e1 (by rw [hz]; exact z1) (by rw [hz]; exact o1)
  · split at h
    · cases h
    · rename_i n st0 hc0
      obtain ⟨τ1, hn, he⟩ := Option.map_eq_some_iff.mp h
      cases he
      obtain ⟨h1, h2, -⟩ := z_new_ok hn
      have hn0 : ¬ n < 0 := fun z => hc0 (Or.inl z)
      have hn1 : n.toNatClampNeg ≤ 100000 := Nat.le_of_not_lt (fun z => hc0 (Or.inr z))
      refine va_newaK (atype := .long) hx hb (hts _ okA.2.1) rfl hd rfl hn0 rfl (by show n.toNatClampNeg * 8 ≤ 536870912; omega) (by omega) (by omega) hz fun H' cA e1 z1 o1 hAr hNm => ?_
      have hcA : E.2.1 1 = cA := Option.some.inj ((hK.2 1 _ rfl).2.symm.trans hNm)
      subst hcA
      exact z_mkA hAB hz hS hn hcb hsb k e1 (by rw [hz]; exact z1) (by rw [hz]; exact o1)
  · split at h
    · cases h
    · rename_i n st0 hc0
      obtain ⟨τ1, hn, he⟩ := Option.map_eq_some_iff.mp h
      cases he
      obtain ⟨h1, h2, -⟩ := z_new_ok hn
      have hn0 : ¬ n < 0 := fun z => hc0 (Or.inl z)
      have hn1 : n.toNatClampNeg ≤ 100000 := Nat.le_of_not_lt (fun z => hc0 (Or.inr z))
      refine va_newaK (atype := .char) hx hb (hts _ okA.2.2.1) rfl hd rfl hn0 rfl (by show n.toNatClampNeg * 2 ≤ 536870912; omega) (by omega) (by omega) hz fun H' cA e1 z1 o1 hAr hNm => ?_
      have hcA : E.2.1 2 = cA := Option.some.inj ((hK.2 2 _ rfl).2.symm.trans hNm)
      subst hcA
      exact z_mkA hAB hz hS hn hcb hsb k e1 (by rw [hz]; exact z1) (by rw [hz]; exact o1)
  · split at h
    · cases h
    · rename_i n st0 hc0
      obtain ⟨τ1, hn, he⟩ := Option.map_eq_some_iff.mp h
      cases he
      obtain ⟨h1, h2, -⟩ := z_new_ok hn
      have hn0 : ¬ n < 0 := fun z => hc0 (Or.inl z)
      have hn1 : n.toNatClampNeg ≤ 100000 := Nat.le_of_not_lt (fun z => hc0 (Or.inr z))
      refine va_newaK (atype := .boolean) hx hb (hts _ okA.2.2.2) rfl hd rfl hn0 rfl (by show n.toNatClampNeg * 1 ≤ 536870912; omega) (by omega) (by omega) hz fun H' cA e1 z1 o1 hAr hNm => ?_
      have hcA : E.2.1 3 = cA := Option.some.inj ((hK.2 3 _ rfl).2.symm.trans hNm)
      subst hcA
      exact z_mkA hAB hz hS hn hcb hsb k e1 (by rw [hz]; exact z1) (by rw [hz]; exact o1)
  · split at h
    · cases h
    · rename_i i n st0 hc0
      obtain ⟨τ1, hn, he⟩ := Option.map_eq_some_iff.mp h
      cases he
      obtain ⟨h1, h2, -⟩ := z_new_ok hn
      have hn0 : ¬ n < 0 := fun z => hc0 (Or.inl z)
      have hn1 : n.toNatClampNeg ≤ 100000 := Nat.le_of_not_lt (fun z => hc0 (Or.inr (Or.inl z)))
      have hai : zt_a own i = true := Decidable.byContradiction (fun z => hc0 (Or.inr (Or.inr z)))
      refine W.anew hx hb hown (hts _ (oka _ _ hai)) (va_AO.use hE.2.2.2.2.2.1) rfl hd rfl hn0 (by omega) (by omega) (by omega) fun cA kA comp f1 f2 f3 f4 => ?_
      obtain ⟨kA', comp', -, -, -, hNm⟩ := (hK.2 4 _ rfl).2
      have hcA : E.2.1 4 = cA := Option.some.inj (hNm.symm.trans f1)
      subst hcA
      have k1 := z_mkA (R := R) (Q := Q) (p := p) (l := l) (e := e) (m := m) (args := args) (below := below) (meth := meth) (c := c) (ls := ls) (pc := pc + 3) (st' := .ref τ.2.1 :: st0) hAB hz hS hn hcb hsb k (H' := H.push ({ cls := E.2.1 4, slots := Array.replicate n.toNatClampNeg .null, vm := .none } : Cell)) (by
        show (H.push _)[B0 + τ.2.1]? = some (vp_cell _ _)
        rw [← hz, vp_cell_q, Array.getElem?_push_size, arrV_new]
        rfl) (by rw [Array.size_push]) (fun q hq => by rw [Array.getElem?_push, if_neg (Nat.ne_of_lt hq)])
      rw [hz]
      exact k1
  · cases h
end ZM
/-! what is known of the tables' entries -/
def x_Wk (y : MethodName) (maxL : Nat) (ret : Option FieldType) : Prop := (∃ b, Cond.code y b maxL ret ∈ x_tbl) ∨ ∃ b h, Cond.codeWith y b maxL ret h ∈ x_tbl
theorem x_Wc {y : MethodName} {b : ByteArray} {maxL : Nat} {ret : Option FieldType} (h : Cond.code y b maxL ret ∈ x_tbl) : x_Wk y maxL ret := Or.inl ⟨b, h⟩
theorem x_Ww {y : MethodName} {b : ByteArray} {maxL : Nat} {ret : Option FieldType} {hs : List (Nat × Nat × Nat × Nat)} (h : Cond.codeWith y b maxL ret hs ∈ x_tbl) : x_Wk y maxL ret := Or.inr ⟨b, hs, h⟩
theorem x_Wk.is {y : MethodName} {maxL : Nat} {ret : Option FieldType} {s : State} {args : Array Value} (h : x_Wk y maxL ret) (hts : ∀ w ∈ x_tbl, w.before args s = true) : x_Is s y maxL := by
  rcases h with ⟨b, h⟩ | ⟨b, hs, h⟩
  · exact x_Is.of (hts _ h)
  · obtain ⟨mk, meth, c, h0, h1, h2, -, h4, -, -, -, h8⟩ := Cond.codeWith_spec (hts _ h)
    exact ⟨mk, meth, c, h0, h1, h2, h4, h8⟩
def z_xok (own i kd ic : Nat) : Prop := ∃ X : String, x_xs[kd]? = some X ∧ (∀ a ∈ Bundle.ownAtoms0 (zt_cn own) ic X x_up, a ∈ x_tbl ∨ a ∈ x_nest ∨ a = x_r1 ∨ a = x_r2 ∨ a = x_r3 ∨ a = x_r4) ∧ Cond.classLink (zt_cn own) i X ∈ x_tbl ∧ Cond.instantiable X 6 ∈ x_tbl ∧ Cond.initialized X ∈ x_tbl
/-- what is known of a method by its number: kind (0 static, 1 virtual, 2 constructor), class, arguments, locals; and of a place that calls it -/
def z_mok (y kd ci na maxL : Nat) : Prop := ∃ ret : Option FieldType, x_Wk (zt_nm y) maxL ret ∧ Cond.initialized (zt_nm y).cls ∈ x_tbl ∧ x_np (zt_nm y) (if kd = 0 then na else na - 1) ∧
  (kd = 0 → Cond.static (zt_nm y) ∈ x_tbl) ∧ (kd = 1 → Cond.instanceMethod (zt_nm y) ∈ x_tbl ∧ Cond.selects (zt_nm y).cls (zt_nm y) (zt_nm y) ∈ x_tbl ∧ ∃ T N, classes[ci]? = some ((zt_nm y).cls, T, N)) ∧ (kd = 2 → Cond.instanceMethod (zt_nm y) ∈ x_tbl ∧ (zt_nm y).name = "<init>" ∧ ∃ b, Cond.code (zt_nm y) b maxL none ∈ x_tbl) ∧
  (kd = 3 → Cond.instanceMethod (zt_nm y) ∈ x_tbl ∧ Cond.selects (zt_nm y).cls (zt_nm y) (zt_nm y) ∈ x_tbl ∧ (zt_nm y).cls = "java/lang/String")
def z_lok (own i y kd : Nat) : Prop := (Cond.methodLink (zt_cn own) i (zt_nm y) ∈ x_tbl ∨ ∃ host, Cond.methodLinkNest (zt_cn own) i (zt_nm y) host ∈ x_nest) ∧ ∃ ci na maxL, zt_meth y = some (kd, ci, na, maxL)
def z_yok (y own : Nat) (cc : ByteArray) (nL : Nat) (ret : Option FieldType) (cons : Bool) : Prop := zt_cn own = (zt_nm y).cls ∧ plainName (zt_nm y).cls = true ∧ (cons = true → (zt_nm y).name = "<init>") ∧ (zt_hs y = false → Cond.code (zt_nm y) cc nL ret ∈ x_tbl) ∧
  (zt_hs y = true → Cond.codeWith (zt_nm y) cc nL ret ((z_hof y).map (·.1)) ∈ x_tbl ∧ ∀ q ∈ z_hof y, q.1.2.2.2 ≠ 0 ∧ q.2 < 4 ∧ ∃ X, x_xs[q.2]? = some X ∧ Cond.classLink (zt_nm y).cls q.1.2.2.2 X ∈ x_tbl)
