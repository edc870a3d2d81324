/-! the heap's instructions -/
theorem z_AB.set {E : x_E} {B0 : Nat} {h : z_H} {H H' : Heap} {a : Nat} {e' : va_E} (hAB : z_AB E B0 h H) (ha : va_at E.1 classes (B0 + a, z_e E B0 e') H') (ho : ∀ q, q ≠ B0 + a → H'[q]? = H[q]?) : z_AB E B0 (fun q => if q = a then some e' else h q) H' := by
  intro q e hq
  by_cases hqa : q = a
  · subst hqa
    simp only [if_true] at hq
    cases hq
    exact ha
  · simp only [hqa, if_false] at hq
    exact (hAB q e hq).kept (ho (B0 + q) (by omega))
theorem z_AB.push {E : x_E} {B0 n : Nat} {h : z_H} {H H' : Heap} {e' : va_E} (hAB : z_AB E B0 h H) (hz : H.size = B0 + n) (ha : va_at E.1 classes (B0 + n, z_e E B0 e') H') (ho : ∀ q, q < H.size → H'[q]? = H[q]?) : z_AB E B0 (fun q => if q = n then some e' else h q) H' := by
  intro q e hq
  by_cases hqa : q = n
  · subst hqa
    simp only [if_true] at hq
    cases hq
    exact ha
  · simp only [hqa, if_false] at hq
    exact (hAB q e hq).kept (ho (B0 + q) (hAB q e hq).lt)
theorem z_AB.old {E : x_E} {B0 : Nat} {h : z_H} {H H' : Heap} (hAB : z_AB E B0 h H) (ho : ∀ q, q < H.size → H'[q]? = H[q]?) : z_AB E B0 h H' := fun q e hq => (hAB q e hq).kept (ho (B0 + q) (hAB q e hq).lt)
def z_cok (ci : Nat) : Prop := ∃ (C : String) (T : u_T) (N : Nat), classes[ci]? = some (C, T, N) ∧ (∀ w ∈ u_ws C T N, w ∈ x_tbl) ∧ (∀ k, k < N → parseFieldDescriptor (T k).2.2.1 = some (zt_ty ci k)) ∧ (∀ a, a < N → ∀ b, b < N → a ≠ b → (T a).2.1 ≠ (T b).2.1) ∧ (∀ k, k < N → (T k).1 = C) ∧
  (z_dfl ci).length = N ∧ (∀ j, j < N → defaultValue (zt_ty ci j) = vp_V (z_dfl ci) j) ∧ (∀ v ∈ z_dfl ci, z_flat v = true) ∧ Cond.instantiable C N ∈ x_tbl ∧ Cond.initialized C ∈ x_tbl
def z_fok (own i ci k : Nat) : Prop := z_cok ci ∧ ∀ (C : String) (T : u_T) (N : Nat), classes[ci]? = some (C, T, N) → k < N ∧
  (Cond.fieldLink (zt_cn own) i C (T k).2.1 (T k).2.2.1 ∈ x_tbl ∨ ((T k).2.2.2 = false ∨ True) ∧ ∃ host, Cond.fieldLinkNest (zt_cn own) i C (T k).2.1 (T k).2.2.1 host ∈ x_nest)
section ZH
variable {p : Program} {l : Launch} {e : Env} {R : Room} {s : State} {m : MethodId} {args : Array Value} {below : List Frame} {meth : Method} {c : Code} {H : Heap} {locs : List Loc} {cells slots : Nat} {Q : State → Prop}
variable {cc : ByteArray} {pc len nL own B0 : Nat} {ls : Array Slot} {ins : Instr} {E : x_E} {st st' : List Value} {lv lv' : z_L} {τ τ' : z_T}
set_option maxHeartbeats 1000000 in
theorem z_ldc_ok (oki : ∀ o i x, zt_i o i = some x → Cond.constant (zt_cn o) i x ∈ x_tbl) (okl : ∀ o i x, zt_l o i = some x → Cond.constantLong (zt_cn o) i x ∈ x_tbl) (hx : p.tables.exec = Jvm.exec) (hb : c.code = cc) (hown : s.vm.findClass (zt_cn own) = some m.cls) (hts : ∀ w ∈ x_tbl, w.before args s = true) (hE : x_EV E B0 s) (hd : decode cc pc = .ok (ins, len)) (h : z_ldc own ins len st = some st')
    (k : W p l e R s m args below meth c H locs cells slots Q (F0 m (pc + len) ls (z_s E B0 st'))) : W p l e R s m args below meth c H locs cells slots Q (F0 m pc ls (z_s E B0 st)) := by
  unfold z_ldc at h
  split at h
  · split at h
    · rename_i i st0 j hj
      cases h
      obtain ⟨tx, hR⟩ := hE.2.2.2.2.2.2.1.1 own _ _ hj
      have hz : z_v E B0 (.float (UInt32.ofNat j)) = .ref (E.2.2.2.1 j) := by
        show Value.ref (E.2.2.2.1 (UInt32.ofNat j).toNat) = _
        rw [z_u32 (zt_s_lt hj)]
      have k1 := k
      rw [show z_s E B0 (.float (UInt32.ofNat j) :: st) = z_v E B0 (.float (UInt32.ofNat j)) :: z_s E B0 st from rfl, hz] at k1
      exact va_ldcS hx hb hown hR hd k1
    · obtain ⟨x, hxx, he⟩ := Option.map_eq_some_iff.mp h; cases he
      exact lv_ldc hx hb hown (hts _ (oki _ _ _ hxx)) hd k
  · obtain ⟨x, hxx, he⟩ := Option.map_eq_some_iff.mp h; cases he
    exact lv_ldc2 hx hb hown (hts _ (okl _ _ _ hxx)) hd k
  · cases h
set_option maxHeartbeats 2000000 in
theorem z_rd_ok (okf : ∀ o i ci k, zt_f o i = some (ci, k) → z_fok o i ci k) (hx : p.tables.exec = Jvm.exec) (hb : c.code = cc) (hown : s.vm.findClass (zt_cn own) = some m.cls) (hts : ∀ w ∈ x_tbl, w.before args s = true) (hE : x_EV E B0 s) (hAB : z_AB E B0 τ.1 H) (hS : va_S (x_A B0) s.heap H locs) (hd : decode cc pc = .ok (ins, len)) (h : z_rd E.2.2.2.2 own τ ins len st = some st')
    (k : W p l e R s m args below meth c H locs cells slots Q (F0 m (pc + len) ls (z_s E B0 st'))) : W p l e R s m args below meth c H locs cells slots Q (F0 m pc ls (z_s E B0 st)) := by
  have hK := hE.2.1
  unfold z_rd at h
  split at h
  · split at h
    · rename_i i a st0 _ _ ci j cj fs hf hcell
      split at h
      · rename_i hcc
        subst hcc
        obtain ⟨v, hv, he⟩ := Option.map_eq_some_iff.mp h
        cases he
        have hv' : (fs.map (z_v E B0))[j]? = some (z_v E B0 v) := by rw [List.getElem?_map, hv]; rfl
        obtain ⟨⟨C, T, N, hC, hin, hty, hnm, hdecl, -⟩, hlk⟩ := okf _ _ _ _ hf
        obtain ⟨hk, hlink⟩ := hlk C T N hC
        have hP := z_one (hAB a _ hcell)
        rcases hlink with hlink | ⟨-, host, hlink⟩
        · exact va_get (ci := ci) (C := C) (T := T) (N := N) (ref := C) hx hb hts hin hown hK hP 0 rfl hC j hk (hts _ hlink) (fun x hx' => by rw [hdecl j hk] at hx'; exact hx') hv' hd k
        · exact va_getN (ci := ci) (C := C) (T := T) (N := N) (ref := C) (host := host) hx hb hts hin hown hK hP 0 rfl hC j hk (va_Nw.use rfl (hE.2.2.1 _ hlink)) (fun x hx' => by rw [hdecl j hk] at hx'; exact hx') hv' hd k
      · cases h
    · cases h
  · split at h
    · rename_i i a st0 _ n f hcell
      split at h
      · cases h
      · rename_i hin
        cases h
        exact va_iald hx hb hK (z_one (hAB a _ hcell)) 0 0 rfl rfl hin hd k
    · cases h
  · split at h
    · rename_i i a st0 _ n f hcell
      split at h
      · cases h
      · rename_i hin
        cases h
        exact va_lald hx hb hK (z_one (hAB a _ hcell)) 0 1 rfl rfl hin hd k
    · cases h
  · split at h
    · rename_i i a st0 _ n f hcell
      split at h
      · cases h
      · rename_i hin
        cases h
        exact va_cald hx hb hK (z_one (hAB a _ hcell)) 0 2 rfl rfl hin hd k
    · cases h
  · split at h
    · rename_i i a st0 _ n f hcell
      split at h
      · cases h
      · rename_i hin
        cases h
        exact va_zald hx hb hK (z_one (hAB a _ hcell)) 0 3 rfl rfl hin hd k
    · cases h
  · split at h
    · rename_i i a st0 _ n f hcell
      split at h
      · cases h
      · rename_i hin
        cases h
        have k1 := k
        rw [show z_s E B0 (va_rf (f i.toNatClampNeg) :: st0) = z_v E B0 (va_rf (f i.toNatClampNeg)) :: z_s E B0 st0 from rfl, show z_v E B0 (va_rf (f i.toNatClampNeg)) = va_rf ((f i.toNatClampNeg).map (B0 + ·)) by cases f i.toNatClampNeg <;> rfl] at k1
        exact va_aldq hx hb hK (z_one (hAB a _ hcell)) 0 4 rfl rfl hin hd k1
    · cases h
  · split at h
    · rename_i h1
      obtain ⟨rfl, hin⟩ := h1
      cases h
      have hM := hE.2.2.2.2.2.2.2
      exact va_sld (L := E.2.2.2.2.1) (xs := E.2.2.2.2.2) hx hb hM.2.2.2 (Nat.lt_of_lt_of_le hM.2.2.1 hE.1) (Nat.not_le.mpr hM.2.2.1) hS hin hd k
    · cases h
  · split at h
    · rename_i h1
      subst h1
      cases h
      have hM := hE.2.2.2.2.2.2.2
      exact va_slen (L := E.2.2.2.2.1) (xs := E.2.2.2.2.2) hx hb hM.2.2.2 (Nat.lt_of_lt_of_le hM.2.2.1 hE.1) (Nat.not_le.mpr hM.2.2.1) hS hd k
    · cases h
  · split at h
    · rename_i a st0 _ t n x hcell
      split at h
      · rename_i ht
        cases h
        have hty : ∃ ty, (x_tys E.2.1)[t]? = some (E.2.1 t, ty) := by
          have h5 : ∀ n : Nat, n < 5 → n = 0 ∨ n = 1 ∨ n = 2 ∨ n = 3 ∨ n = 4 := by omega
          rcases h5 t ht with rfl | rfl | rfl | rfl | rfl <;> exact ⟨_, rfl⟩
        obtain ⟨ty, hty⟩ := hty
        have hP := z_one (hAB a _ hcell)
        obtain x | x | x | x | x := x
        · exact va_alen hx hb hK hP 0 t rfl hty rfl hd k
        · exact va_alen hx hb hK hP 0 t rfl hty rfl hd k
        · exact va_alen hx hb hK hP 0 t rfl hty rfl hd k
        · exact va_alen hx hb hK hP 0 t rfl hty rfl hd k
        · exact va_alen hx hb hK hP 0 t rfl hty rfl hd k
      · cases h
    · cases h
  · cases h
theorem z_arr {cA : ClassId} {n j : Nat} {f g : Nat → Int32} {x : Value} {H' : Heap} {a : Nat} (e : H'[a]? = some ((vp_cell cA (n, .inl f)).setSlot j x)) (hg : ∀ q, Value.int (g q) = if q = j then x else .int (f q)) : H'[a]? = some (vp_cell cA (n, .inl g)) := by
  rw [e, vp_cell_i, vp_cell_i, arrV_store]
  congr 2
  funext q
  rw [hg q]
  rfl
set_option maxHeartbeats 4000000 in
theorem z_wr_ok {cons : Bool} (okf : ∀ o i ci k, zt_f o i = some (ci, k) → z_fok o i ci k) (okt : ∃ T N, classes[zt_tree]? = some (zt_treeN, T, N)) (hcons : cons = true → meth.name = "<init>") (hx : p.tables.exec = Jvm.exec) (hb : c.code = cc) (hown : s.vm.findClass (zt_cn own) = some m.cls) (hts : ∀ w ∈ x_tbl, w.before args s = true) (hE : x_EV E B0 s) (hAB : z_AB E B0 τ.1 H) (hz : H.size = B0 + τ.2.1) (hS : va_S (x_A B0) s.heap H locs) (hd : decode cc pc = .ok (ins, len)) (h : z_wr own cons τ ins len st = some (st', τ'))
    (k : ∀ (H' : Heap) (locs' : List Loc), z_AB E B0 τ'.1 H' → H'.size = B0 + τ'.2.1 → τ'.2 = τ.2 → va_S (x_A B0) s.heap H' locs' → W p l e R s m args below meth c H' locs' cells slots Q (F0 m (pc + len) ls (z_s E B0 st'))) : W p l e R s m args below meth c H locs cells slots Q (F0 m pc ls (z_s E B0 st)) := by
  have hK := hE.2.1
  unfold z_wr at h
  split at h
  · split at h
    · rename_i i v a st0 _ _ ci j cj fs hf hcell
      split at h
      · rename_i hcc
        obtain ⟨rfl, hjl, hfit, hfin⟩ := hcc
        cases h
        obtain ⟨⟨C, T, N, hC, hin, hty, hnm, hdecl, -⟩, hlk⟩ := okf _ _ _ _ hf
        obtain ⟨hk, hlink⟩ := hlk C T N hC
        have hap := va_apart (own := C) (D := E.1) hts hin (zt_ty ci) hty hnm hK hC
        obtain ⟨r, h1, cell, q1, q2, q3, q4⟩ := hAB a _ hcell
        have hr : r = (C, T, N) := Option.some.inj (h1.symm.trans hC)
        subst hr
        obtain ⟨hSl, hfc, kC, hkC, hkind⟩ := hK.1 ci _ hC
        obtain ⟨cf, kf, fi, f, hi, hsl⟩ := hSl j hk
        have hi' : s.fieldFound? C (T j).2.1 (T j).2.2.1 = some (cf, kf, fi, f) := by rw [hdecl j hk] at hi; exact hi
        have hst := (u_facts hfc hkC (u_lays hts hin hk) hi).1
        have hlay := hts _ (hin _ (u_in_lay hk))
        unfold u_lay at hlay
        obtain ⟨hn, hft⟩ := z_fit_ok E B0 hfit
        have fin : ∀ H' : Heap, H'[B0 + a]? = some (cell.setSlot f.slot (z_v E B0 v)) → H'.size = H.size → (∀ q, q ≠ B0 + a → H'[q]? = H[q]?) → W p l e R s m args below meth c H' (locs ++ [⟨B0 + a, f.slot⟩]) cells slots Q (F0 m (pc + 3) ls (z_s E B0 st')) := by
          intro H' e1 e2 e3
          rw [hsl] at e1
          have hjl' : j < (fs.map (z_v E B0)).length := by rw [List.length_map]; exact hjl
          refine k H' _ (hAB.set (e' := .inr (ci, fs.set j v)) ?_ e3) (by rw [e2, hz]; rfl) rfl (hS.put e2 e3 (Nat.le_add_right B0 a))
          show va_at E.1 classes (B0 + a, .inr (ci, (fs.set j v).map (z_v E B0))) H'
          rw [List.map_set]
          exact ⟨_, hC, t_OB.to (V := updV (vp_V (fs.map (z_v E B0))) j (z_v E B0 v)) ⟨_, e1, q2, q3, t_set q4 hap hk _⟩ (fun j _ => vp_updV_set hjl' _ j)⟩
        cases hfn : (T j).2.2.2 with
        | false =>
          rw [if_neg (by rw [hfn]; decide)] at hlay
          have h6 := u_store hfc hkC hkind hlay hi (hty j hk) hn hft
          rcases hlink with hlink | ⟨-, host, hlink⟩
          · exact W.putK hx hb (f := f) ⟨hown, hts _ hlink, ⟨_, _, _, hi'⟩, hst⟩ (by rw [q2]; exact h6) q1 q3 (by rw [hsl]; exact k2_hasslot (q4 j hk)) rfl rfl hd fin
          · exact va_WputK hx hb (f := f) hown (va_Nw.use rfl (hE.2.2.1 _ hlink)) hi' hst (by rw [q2]; exact h6) q1 q3 (by rw [hsl]; exact k2_hasslot (q4 j hk)) rfl rfl hd fin
        | true =>
          rw [if_pos hfn] at hlay
          simp only [z_fin, hC, hfn, if_true, Bool.and_eq_true, beq_iff_eq] at hfin
          have hcf : m.cls = cf := by
            obtain ⟨_, _, c', _, _, _, -, -, hf', -, -, -, hown2, -⟩ := Cond.laysFinal_spec hlay
            have e1 : c' = cf := by have := hi.symm.trans hf'; simp at this; exact this.1.symm
            rw [hdecl j hk, ← hfin.2] at hown2
            rw [← e1]; exact Option.some.inj (hown.symm.trans hown2)
          have h6 := u_fits hfc hkC hkind (Or.inr hlay) hi (hty j hk) hn hft
          rcases hlink with hlink | ⟨hz1, host, hlink⟩
          · exact W.putFinK hx hb hown (hts _ hlink) hi' hst hcf (hcons hfin.1) (by rw [q2]; exact h6) q1 q3 (by rw [hsl]; exact k2_hasslot (q4 j hk)) rfl rfl hd fin
          · exact va_Wputf hx hb hown (va_Nw.use rfl (hE.2.2.1 _ hlink)) hi' hst (Or.inr ⟨hcf, hcons hfin.1⟩) q1 (by rw [q3]; exact fun h => by cases h) (by rw [hsl]; exact k2_hasslot (q4 j hk)) h6.1 (by rw [q2, q3]; exact h6.2) rfl rfl hd (fin _ (by have ha : B0 + a < H.size := (Array.getElem?_eq_some_iff.mp q1).1; simp [Array.getElem?_setIfInBounds, ha]) (by simp) (fun q hq => by simp [Array.getElem?_setIfInBounds, Ne.symm hq]))
      · cases h
    · cases h
  · split at h
    · rename_i x i a st0 _ n f hcell
      split at h
      · cases h
      · rename_i hc0
        cases h
        have hin : ¬ (i < 0 ∨ n ≤ i.toNatClampNeg) := hc0
        refine W.iast hx hb (hAB a _ hcell) ((hK.2 0 _ rfl).1 n (fun j => .int (f j))) (fun q => by cases q) (by show ¬ (i < 0 ∨ (arrV _ _ _).slots.size ≤ _); rw [arrV_size]; exact hin) rfl rfl hd fun H' e1 e2 e3 => ?_
        exact k H' _ (hAB.set (e' := .inl (0, n, .inl (upd f i.toNatClampNeg x))) (z_arr e1 (fun q => by by_cases hq : q = i.toNatClampNeg <;> simp [upd, hq])) e3) (by rw [e2, hz]; rfl) rfl (hS.put e2 e3 (Nat.le_add_right B0 a))
    · cases h
  · split at h
    · rename_i x i a st0 _ n f hcell
      split at h
      · cases h
      · rename_i hc0
        cases h
        have hin : ¬ (i < 0 ∨ n ≤ i.toNatClampNeg) := hc0
        refine W.last hx hb (hAB a _ hcell) ((hK.2 1 _ rfl).1 n (fun j => .long (f j))) (fun q => by cases q) (by show ¬ (i < 0 ∨ (arrV _ _ _).slots.size ≤ _); rw [arrV_size]; exact hin) rfl rfl hd fun H' e1 e2 e3 => ?_
        refine k H' _ (hAB.set (e' := .inl (1, n, .inr (.inl (vp_updL f i.toNatClampNeg x)))) ?_ e3) (by rw [e2, hz]; rfl) rfl (hS.put e2 e3 (Nat.le_add_right B0 a))
        show H'[B0 + a]? = some (vp_cell _ _)
        rw [e1]
        show some ((vp_cell _ _).setSlot _ _) = _
        rw [vp_cell_l, vp_cell_l, arrV_store]
        congr 2
        funext q
        by_cases hq : q = i.toNatClampNeg <;> simp [updV, vp_updL, hq]
    · cases h
  · split at h
    · rename_i x i a st0 _ n f hcell
      split at h
      · cases h
      · rename_i hc0
        cases h
        have hin : ¬ (i < 0 ∨ n ≤ i.toNatClampNeg) := hc0
        refine W.cast hx hb (hAB a _ hcell) ((hK.2 2 _ rfl).1 n (fun j => .int (f j))) (fun q => by cases q) (by show ¬ (i < 0 ∨ (arrV _ _ _).slots.size ≤ _); rw [arrV_size]; exact hin) rfl rfl hd fun H' e1 e2 e3 => ?_
        exact k H' _ (hAB.set (e' := .inl (2, n, .inl (upd f i.toNatClampNeg (vp_nar .char x)))) (z_arr e1 (fun q => by by_cases hq : q = i.toNatClampNeg <;> simp [upd, vp_nar, hq] <;> rfl)) e3) (by rw [e2, hz]; rfl) rfl (hS.put e2 e3 (Nat.le_add_right B0 a))
    · cases h
  · split at h
    · rename_i x i a st0 _ n f hcell
      split at h
      · cases h
      · rename_i hc0
        cases h
        have hin : ¬ (i < 0 ∨ n ≤ i.toNatClampNeg) := hc0
        refine W.zast hx hb (hAB a _ hcell) ((hK.2 3 _ rfl).1 n (fun j => .int (f j))) (fun q => by cases q) (by show ¬ (i < 0 ∨ (arrV _ _ _).slots.size ≤ _); rw [arrV_size]; exact hin) rfl rfl hd fun H' e1 e2 e3 => ?_
        exact k H' _ (hAB.set (e' := .inl (3, n, .inl (upd f i.toNatClampNeg (vp_nar .boolean x)))) (z_arr e1 (fun q => by by_cases hq : q = i.toNatClampNeg <;> simp [upd, vp_nar, hq] <;> rfl)) e3) (by rw [e2, hz]; rfl) rfl (hS.put e2 e3 (Nat.le_add_right B0 a))
    · cases h
  · split at h
    · rename_i v i a st0 _ _ n f cj fs hcell hcv
      split at h
      · cases h
      · rename_i hc0
        cases h
        have hin : ¬ (i < 0 ∨ n ≤ i.toNatClampNeg) := fun z => hc0 (z.elim Or.inl (fun z => Or.inr (Or.inl z)))
        have hcj : cj = zt_tree := Decidable.byContradiction (fun z => hc0 (Or.inr (Or.inr z)))
        subst hcj
        obtain ⟨T, N, hC⟩ := okt
        have hlt : i.toNatClampNeg < n := Nat.not_le.mp fun q => hin (Or.inr q)
        have h0 : ¬ i < 0 := fun q => hin (Or.inl q)
        obtain ⟨r', hr', cellV, g1, g2, g3, -⟩ := hAB v _ hcv
        have hcls := (hK.1 zt_tree _ hC).2
        obtain ⟨kA, comp, k1, k2, k3, -⟩ := (hK.2 4 _ rfl).2
        have hcomp : comp = E.1.1 zt_tree := Option.some.inj (k3.symm.trans hcls.1)
        subst hcomp
        obtain ⟨kC, hkC, -⟩ := hcls.2
        refine W.aast hx hb (hAB a _ hcell) (fun q h => by cases h) (fun h => by cases h) k1 k2 rfl hkC ⟨h0, by show _ < (arrV _ _ _).slots.size; rw [arrV_size]; exact hlt⟩ g1 (fun q h => by rw [g3] at h; cases h) (by rw [g2]; exact hkC) (by rw [g2]; exact va_assign hcls) rfl rfl hd fun H' e1 e2 e3 => ?_
        refine k H' _ (hAB.set (e' := .inl (4, n, .inr (.inr (.inr (.inr (va_up f i.toNatClampNeg (some v))))))) ?_ e3) (by rw [e2, hz]; rfl) rfl (hS.put e2 e3 (Nat.le_add_right B0 a))
        show H'[B0 + a]? = some (vp_cell _ _)
        rw [e1]
        show some ((vp_cell _ _).setSlot _ _) = _
        rw [vp_cell_q, vp_cell_q, arrV_store]
        congr 2
        funext q
        by_cases hq : q = i.toNatClampNeg <;> simp [updV, va_up, va_rf, hq, z_v]
    · cases h
  · cases h
end ZH
