/-! a thrown object is caught by the method's own handler; its catch types may still be unresolved -/
section ZC
variable {e : Env} {s : State} {f : JFrame} {a : Addr}
theorem x_go_cold {Ec : CtlPost} {Q : Handler → Pre} {d : Bool} {acts : List Action} {x : ExceptionTableEntry} {t : List ExceptionTableEntry} {c : ClassId} {cell : Cell} {vm' : Vm} (hx : covers x f.pc = true) (h0 : x.catchType ≠ 0)
    (hg : (Jvm.resolveClass f.method.cls x.catchType).Gives e.toSetting s.vm (.ok c) vm') (hsz : vm'.classes.size ≤ s.vm.classes.size) (hcell : s.heap[a]? = some cell) (hobj : ∀ k, cell.vm ≠ .statics k) (hk : ∃ k, vm'.classes[cell.cls]? = some k) (hc : ∃ k, vm'.classes[c]? = some k) :
    wp (findHandler.go f a (x :: t)) Q Ec e d acts s ↔ if vm'.assignable cell.cls c = true then Q (.found x.handlerPc) d acts (s.setVm vm') else wp (findHandler.go f a t) Q Ec e d acts (s.setVm vm') := by
  simp only [covers] at hx
  obtain ⟨ha, ht⟩ := hg.op (op := VmOp.resolveClass f.method.cls x.catchType) rfl
  cases hfit : vm'.assignable cell.cls c <;> simp [findHandler.go, hx, h0, ha, ht, hsz, hcell, hobj, hk, hc, hfit, VmOp.dirties, VmOp.acts]
theorem x_stepCatch {r : List Frame} {pc : Nat} {vm' : Vm} (hfind : ∀ (Q : Handler → Pre) (Ec : CtlPost) (d : Bool) (acts : List Action), wp (findHandler f a) Q Ec e d acts s ↔ Q (.found pc) d acts (s.setVm vm')) :
    (stepThrowing e s a (.java f :: r)).Is ((s.setVm vm').setFrames (.java { f with pc := pc, stack := [.ref a] } :: r)) [] := by
  simp only [stepThrowing, searchFrame, vmDo]
  generalize hr : Sem.go _ e false [] s = res
  obtain ⟨as, rfl, ha⟩ := Sem.eq_ok_of hr (a := Handler.found pc) (s' := s.setVm vm') (acts' := []) (by simp [hfind _ _ _ _])
  exact ⟨rfl, ha⟩
theorem x_caught {tb : Tables} {T target : State} {g : JFrame} {c : Code} {below : List Frame} {pc : Nat} {vm' : Vm} (h : At T g.method c below)
    (hfind : ∀ (Q : Handler → Pre) (Ec : CtlPost) (d : Bool) (acts : List Action), wp (findHandler g a) Q Ec e d acts ((T.setTop g).pushFrame (.throwing a)) ↔ Q (.found pc) d acts (((T.setTop g).pushFrame (.throwing a)).setVm vm'))
    (hrest : Steps tb e below ((T.setVm vm').setTop { g with pc := pc, stack := [.ref a] }) target) : Steps tb e below ((T.setTop g).pushFrame (.throwing a)) target := by
  obtain ⟨hgo, hw⟩ := h.throwing a
  refine Steps.head hgo hw ?_
  rw [stepThread_throwing (frames_entered h.top _), (x_stepCatch (s := (T.setTop g).pushFrame (.throwing a)) hfind).1]
  obtain ⟨g₀, hg⟩ := Option.isSome_iff_exists.mp h.top
  obtain ⟨r, hr⟩ := State.topJava?_eq_some.mp hg
  have hr' : (T.setVm vm').frames = .java g₀ :: r := hr
  rw [State.pushFrame, State.setTop_of_frames _ hr, State.setFrames_setFrames]
  rw [State.setTop_of_frames _ hr'] at hrest
  rw [hr]
  have h9 : ((T.setFrames (.throwing a :: (T.setFrames (.java g :: r)).frames)).setVm vm').setFrames (.java { g with pc := pc, stack := [.ref a] } :: r) = (T.setVm vm').setFrames (.java { g with pc := pc, stack := [.ref a] } :: r) := by
    show ((T.setVm vm').setFrames _).setFrames _ = _
    rw [State.setFrames_setFrames]
  simp only [List.tail_cons]
  rw [h9]
  exact hrest
theorem x_srch {s₀ : State} {i : Nat} {cell : Cell} {xc : Nat → ClassId} {g : Nat} (hcell : s.heap[a]? = some cell) (hvm : cell.vm = .none) (hcl : cell.cls = xc i) (hi : i < 4) (hno : ∀ j k, j < 4 → k < 4 → j ≠ k → s₀.vm.assignable (xc j) (xc k) = false) (hyes : s₀.vm.assignable (xc i) (xc i) = true) (hex : ∀ j, j < 4 → ∃ k, s₀.vm.classes[xc j]? = some k) :
    ∀ (es : List ((Nat × Nat × Nat × Nat) × Nat)) (vm₀ : Vm), s₀.WarmedH vm₀ → (∀ q ∈ es, q.1.2.2.2 ≠ 0 ∧ q.2 < 4 ∧ s₀.vm.ClassLinks e.platform f.method.cls q.1.2.2.2 (xc q.2)) →
      (es.find? (fun q => decide (q.1.1 ≤ f.pc) && decide (f.pc < q.1.2.1) && q.2 == i)).map (·.1.2.2.1) = some g →
      ∃ vm', s₀.WarmedH vm' ∧ ∀ (Q : Handler → Pre) (Ec : CtlPost) (d : Bool) (acts : List Action), wp (findHandler.go f a (tableOf (es.map (·.1)))) Q Ec e d acts (s.setVm vm₀) ↔ Q (.found g) d acts (s.setVm vm')
  | [], _, _, _, h => by cases h
  | q :: es, vm₀, hW, hq, h => by
    have hq0 := hq q List.mem_cons_self
    have hqs : ∀ z ∈ es, z.1.2.2.2 ≠ 0 ∧ z.2 < 4 ∧ s₀.vm.ClassLinks e.platform f.method.cls z.1.2.2.2 (xc z.2) := fun z hz => hq z (List.mem_cons_of_mem _ hz)
    by_cases hcov : covers ⟨q.1.1, q.1.2.1, q.1.2.2.1, q.1.2.2.2⟩ f.pc = true
    · obtain ⟨hg, hW1, hr1⟩ := State.classEntry (e := e) hW hq0.2.2
      have hal := hW1.alike
      have hkk : ∀ j, j < 4 → ∃ k, (vm₀.noted f.method.cls q.1.2.2.2 (.cls (xc q.2))).classes[xc j]? = some k := fun j hj => by
        obtain ⟨k, hk⟩ := hex j hj
        obtain ⟨k', hk', -⟩ := hal.2.2 _ _ hk
        exact ⟨k', hk'⟩
      by_cases hqi : q.2 = i
      · refine ⟨_, hW1, fun Q Ec d acts => ?_⟩
        have hgo := x_go_cold (s := s.setVm vm₀) (f := f) (a := a) (Q := Q) (Ec := Ec) (d := d) (acts := acts) (x := ⟨q.1.1, q.1.2.1, q.1.2.2.1, q.1.2.2.2⟩) (t := tableOf (es.map (·.1))) hcov hq0.1 hg (by no_record) hcell (fun k z => by rw [hvm] at z; cases z) (by rw [hcl]; exact hkk i hi) (hkk _ hq0.2.1)
        refine hgo.trans ?_
        rw [if_pos (by rw [hal.assignable, hcl, hqi]; exact hyes)]
        have hf : (q :: es).find? (fun q => decide (q.1.1 ≤ f.pc) && decide (f.pc < q.1.2.1) && q.2 == i) = some q := by
          rw [List.find?_cons_of_pos]
          simp only [covers] at hcov
          simp only [hcov, hqi, Bool.true_and, beq_self_eq_true]
        rw [hf] at h
        cases h
        exact Iff.rfl
      · have hf : (q :: es).find? (fun q => decide (q.1.1 ≤ f.pc) && decide (f.pc < q.1.2.1) && q.2 == i) = es.find? (fun q => decide (q.1.1 ≤ f.pc) && decide (f.pc < q.1.2.1) && q.2 == i) := by
          rw [List.find?_cons_of_neg]
          simp [hqi]
        rw [hf] at h
        obtain ⟨vm', hW', hfin⟩ := x_srch hcell hvm hcl hi hno hyes hex es _ hW1 hqs h
        refine ⟨vm', hW', fun Q Ec d acts => ?_⟩
        have hgo := x_go_cold (s := s.setVm vm₀) (f := f) (a := a) (Q := Q) (Ec := Ec) (d := d) (acts := acts) (x := ⟨q.1.1, q.1.2.1, q.1.2.2.1, q.1.2.2.2⟩) (t := tableOf (es.map (·.1))) hcov hq0.1 hg (by no_record) hcell (fun k z => by rw [hvm] at z; cases z) (by rw [hcl]; exact hkk i hi) (hkk _ hq0.2.1)
        refine hgo.trans ?_
        rw [if_neg (by rw [hal.assignable, hcl, hno i q.2 hi hq0.2.1 (fun z => hqi z.symm)]; decide)]
        exact hfin Q Ec d acts
    · have hcov' : covers ⟨q.1.1, q.1.2.1, q.1.2.2.1, q.1.2.2.2⟩ f.pc = false := by simpa using hcov
      have hf : (q :: es).find? (fun q => decide (q.1.1 ≤ f.pc) && decide (f.pc < q.1.2.1) && q.2 == i) = es.find? (fun q => decide (q.1.1 ≤ f.pc) && decide (f.pc < q.1.2.1) && q.2 == i) := by
        rw [List.find?_cons_of_neg]
        simp only [covers] at hcov'
        simp [hcov']
      rw [hf] at h
      obtain ⟨vm', hW', hfin⟩ := x_srch hcell hvm hcl hi hno hyes hex es vm₀ hW hqs h
      exact ⟨vm', hW', fun Q Ec d acts => (W.findHandler_go_skip hcov').trans (hfin Q Ec d acts)⟩
end ZC
theorem z_HO.with {p : Program} {l : Launch} {e : Env} {R : Room} {s : State} {m : MethodId} {args : Array Value} {below : List Frame} {meth : Method} {c : Code} {E : x_E} {B0 CB SB y own nL : Nat} {cc : ByteArray} {ret : Option FieldType} {cons : Bool} (hy : z_yok y own cc nL ret cons) (hhs : zt_hs y = true)
    (htb : c.exceptionTable.toList = tableOf ((z_hof y).map (·.1))) (hown : s.vm.findClass (zt_nm y).cls = some m.cls) (hts : ∀ w ∈ x_tbl, w.before args s = true) (hE : x_EV E B0 s) : z_HO p l e R s m args below meth c E B0 CB SB y := by
  intro pc i x ls rest H locs cells slots hX hS
  cases hz : zt_h y pc i with
  | none => exact fun z => by rw [hhs] at z; cases z
  | some g =>
    intro Q k T hT X
    obtain ⟨hi, cell, h1, h2, h3⟩ := hX
    have hpl : e.platform.magicAccessors = ({} : Platform).magicAccessors := by rw [X.admits.platform]
    have hxs := hE.2.2.2.2.1
    have hM := hE.2.2.2.2.2.2.2
    obtain ⟨nm, hnm⟩ : ∃ nm, x_xs[i]? = some nm := ⟨x_xs[i]'hi, List.getElem?_eq_getElem hi⟩
    have hyes : s.vm.assignable (E.2.2.1 i) (E.2.2.1 i) = true := by
      obtain ⟨c1, c2, f1, f2, f3⟩ := Cond.castable_spec (va_Nw.use (A := args) (x_Nt (ok_cast nm (List.mem_of_getElem? hnm))) (hE.2.2.1 _ (ok_cast nm (List.mem_of_getElem? hnm))))
      cases f1.symm.trans (hxs i nm hnm)
      cases f2.symm.trans (hxs i nm hnm)
      exact f3
    have hex : ∀ j, j < 4 → ∃ k, s.vm.classes[E.2.2.1 j]? = some k := fun j hj => Vm.classAt_of_findClass (hxs j (x_xs[j]'hj) (List.getElem?_eq_getElem hj))
    have hcm := (hy.2.2.2.2 hhs).2
    have hq : ∀ q ∈ z_hof y, q.1.2.2.2 ≠ 0 ∧ q.2 < 4 ∧ s.vm.ClassLinks e.platform (F0 m pc ls rest).method.cls q.1.2.2.2 (E.2.2.1 q.2) := fun q hq => by
      obtain ⟨g1, g2, X1, g3, g4⟩ := hcm q hq
      obtain ⟨cc', hfcc, hcl⟩ := Cond.classLink_spec hown (hts _ g4) e.platform hpl
      cases hfcc.symm.trans (hxs q.2 X1 g3)
      exact ⟨g1, g2, hcl⟩
    have hvmT : ((T.setTop (F0 m pc ls rest)).pushFrame (.throwing (B0 + x))).vm = T.vm := Stand.throwing_vm T _ _
    have hhT : ((T.setTop (F0 m pc ls rest)).pushFrame (.throwing (B0 + x))).heap = T.heap := Stand.throwing_heap T _ _
    obtain ⟨vm', hW', hfin⟩ := x_srch (e := e) (s := (T.setTop (F0 m pc ls rest)).pushFrame (.throwing (B0 + x))) (f := F0 m pc ls rest) (a := B0 + x) (s₀ := s) (i := i) (cell := cell) (xc := E.2.2.1) (g := g) (by rw [hhT, hT]; exact h1) h2 h3 hi hM.2.1 hyes hex (z_hof y) T.vm X.warmed hq hz
    obtain ⟨t, a1, b1⟩ := k (T.setVm vm') hT (X.noted hW')
    refine ⟨t, x_caught X.here (fun Q Ec d acts => ?_) a1, b1⟩
    rw [W.findHandler_eq (meth := meth) (code := c) (by rw [hvmT]; exact X.method') X.code, htb]
    have h9 := hfin Q Ec d acts
    rw [← hvmT] at h9
    exact h9
