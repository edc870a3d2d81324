/-! the end of a method, a throw, a call; the induction -/
section ZE
variable {p : Program} {l : Launch} {e : Env} {s : State} {m : MethodId} {args : Array Value} {below : List Frame} {meth : Method} {c : Code} {H : Heap} {locs : List Loc} {cells slots : Nat}
variable {cc : ByteArray} {pc len nL own B0 fr lo CB SB : Nat} {ls : Array Slot} {ins : Instr} {E : x_E} {st st' : List Value} {lv lv' : z_L} {τ τ' τ1 : z_T} {o : z_O} {ret : Option FieldType}
/-- what a method's walk comes to -/
abbrev z_Q (below : List Frame) (s : State) (E : x_E) (B0 CB SB : Nat) (o : z_O) (τ' : z_T) : State → Prop :=
  x_Q below s B0 (CB - τ'.2.2.1) (SB - τ'.2.2.2) (fun _ o' H' => z_End E B0 o τ' H' o' ∧ τ'.2.2.1 ≤ CB ∧ τ'.2.2.2 ≤ SB)
theorem z_ret_ok {v : Option Value} (hx : p.tables.exec = Jvm.exec) (hb : c.code = cc) (hr : meth.sig.returnType = ret) (hlk : meth.locks = false) (hAB : z_AB E B0 τ.1 H) (hz : H.size = B0 + τ.2.1) (hS : va_S (x_A B0) s.heap H locs) (hcb : cells + τ.2.2.1 ≤ CB) (hsb : slots + τ.2.2.2 ≤ SB) (hd : decode cc pc = .ok (ins, len)) (h : z_ret ins len st ret = some v) :
    W p l e (x_rm fr lo CB SB) s m args below meth c H locs cells slots (z_Q below s E B0 CB SB (.inl v) τ) (F0 m pc ls (z_s E B0 st)) := by
  have b1 : τ.2.2.1 ≤ CB := by omega
  have b2 : τ.2.2.2 ≤ SB := by omega
  have b3 : cells ≤ CB - τ.2.2.1 := by omega
  have b4 : slots ≤ SB - τ.2.2.2 := by omega
  unfold z_ret at h
  split at h
  · cases h; exact x_iret hx hb hr hlk hS b3 b4 ⟨⟨hAB, hz, rfl⟩, b1, b2⟩ hd
  · split at h
    · rename_i hn; cases h; exact x_zret hx hb hr hlk hn hS b3 b4 ⟨⟨hAB, hz, rfl⟩, b1, b2⟩ hd
    · cases h
  · cases h; exact x_lret hx hb hr hlk hS b3 b4 ⟨⟨hAB, hz, rfl⟩, b1, b2⟩ hd
  · cases h; exact x_aret hx hb hr hlk (Or.inl ⟨_, rfl⟩) hS b3 b4 ⟨⟨hAB, hz, rfl⟩, b1, b2⟩ hd
  · cases h; exact x_vret hx hb hr hlk hS b3 b4 ⟨⟨hAB, hz, rfl⟩, b1, b2⟩ hd
  · cases h
theorem z_obj_ok {Q : State → Prop} (oko : ∀ o i, zt_o o i = true → Cond.methodLink (zt_cn o) i objectInit ∈ x_tbl) (oki : Cond.instanceMethod objectInit ∈ x_tbl ∧ Cond.code objectInit ⟨#[0xb1]⟩ 1 none ∈ x_tbl)
    (hx : p.tables.exec = Jvm.exec) (hb : c.code = cc) (hml : c.maxLocals = nL) (hls : ls.size = nL) (hown : s.vm.findClass (zt_cn own) = some m.cls) (hts : ∀ w ∈ x_tbl, w.before args s = true) (hd : decode cc pc = .ok (ins, len)) (h : z_obj fr lo own ins len st = some st')
    (k : W p l e (x_rm fr lo CB SB) s m args below meth c H locs cells slots Q (F0 m (pc + len) ls (z_s E B0 st'))) : W p l e (x_rm fr lo CB SB) s m args below meth c H locs cells slots Q (F0 m pc ls (z_s E B0 st)) := by
  unfold z_obj at h
  split at h
  · split at h
    · rename_i h1
      cases h
      refine W.objInit hx hb hown (hts _ (oko _ _ h1.1)) (hts _ oki.1) (hts _ oki.2) rfl (hls.trans hml.symm) rfl hd h1.2.1 ?_ ?_
      · show 2 * 0 + ((z_s E B0 st').map fun v => v.category).sum + 12 ≤ lo
        rw [z_sc]; omega
      · exact k
    · cases h
  · cases h
set_option maxHeartbeats 1000000 in
theorem z_thr_ok (okx : ∀ o i kd ic, zt_x o i = some (kd, ic) → z_xok o i kd ic) (htr : l.stackTraces = false)
    (hx : p.tables.exec = Jvm.exec) (hb : c.code = cc) (he : c.exceptionTable.toList = []) (hlk : meth.locks = false) (hml : c.maxLocals = nL) (hls : ls.size = nL) (hown : s.vm.findClass (zt_cn own) = some m.cls) (hts : ∀ w ∈ x_tbl, w.before args s = true) (hE : x_EV E B0 s) (hAB : z_AB E B0 τ.1 H) (hz : H.size = B0 + τ.2.1) (hS : va_S (x_A B0) s.heap H locs) (hcb : cells + τ.2.2.1 ≤ CB) (hsb : slots + τ.2.2.2 ≤ SB) (hd : decode cc pc = .ok (ins, len)) (h : z_thr fr lo own cc pc ins len st τ = some (o, τ')) :
    W p l e (x_rm fr lo CB SB) s m args below meth c H locs cells slots (z_Q below s E B0 CB SB o τ') (F0 m pc ls (z_s E B0 st)) := by
  unfold z_thr at h
  split at h
  · split at h
    · rename_i i kd ic j hxx d3 d4 d7
      split at h
      · rename_i h1
        obtain ⟨rfl, c1, c2, c3, c4⟩ := h1
        cases h
        obtain ⟨X, g1, g2, g3, g4, g5⟩ := okx _ _ _ _ hxx
        refine x_throw htr hx hb he hlk hml hls hown hts hE hS kd g1 g2 g3 g4 g5 hd d3 d4 d7 (by omega) (by omega) (by show cells + 1 ≤ CB - (τ.2.2.1 - 1); omega) (by show slots + 6 ≤ SB - (τ.2.2.2 - 6); omega) c3 (by rw [z_sc]; exact c4) ?_
        intro x H' hX h2 h3 h4 h5
        refine ⟨⟨hAB.old h3, ?_, ?_⟩, ?_, ?_⟩
        · show H'.size = B0 + (τ.2.1 + 1)
          rw [h4, hz]; omega
        · show Outcome.threw x = Outcome.threw (B0 + τ.2.1) ∧ x_X E kd (B0 + τ.2.1) H'
          rw [← hz, ← h5]
          exact ⟨rfl, hX⟩
        · show τ.2.2.1 - 1 ≤ CB
          omega
        · show τ.2.2.2 - 6 ≤ SB
          omega
      · cases h
    · cases h
  · cases h
/-- what a callee gives -/
def z_Call (l : Launch) (E : x_E) (B0 fr : Nat) (call : Nat → Nat → List Value → z_T → Option (z_O × z_T)) : Prop :=
  ∀ lo y as τ o τ', call lo y as τ = some (o, τ') → x_C l E B0 (zt_nm y) fr lo τ.2.2.1 τ.2.2.2 (τ.2.2.1 - τ'.2.2.1) (τ.2.2.2 - τ'.2.2.2) (z_s E B0 as) (fun H => z_AB E B0 τ.1 H ∧ H.size = B0 + τ.2.1) (fun _ o' H' => z_End E B0 o τ' H' o' ∧ τ'.2.2.1 ≤ τ.2.2.1 ∧ τ'.2.2.2 ≤ τ.2.2.2)
/-- thrown into the method y's frame: caught, or not -/
def z_HO (p : Program) (l : Launch) (e : Env) (R : Room) (s : State) (m : MethodId) (args : Array Value) (below : List Frame) (meth : Method) (c : Code) (E : x_E) (B0 CB SB y : Nat) : Prop :=
  ∀ (pc i x : Nat) (ls : Array Slot) (rest : List Value) (H : Heap) (locs : List Loc) (cells slots : Nat), x_X E i (B0 + x) H → va_S (x_A B0) s.heap H locs → match zt_h y pc i with
    | none => zt_hs y = false → ∀ (k2 n2 : Nat) (Qw : Heap → Outcome → Heap → Prop), cells ≤ k2 → slots ≤ n2 → Qw s.heap (.threw (B0 + x)) H → x_T p l e R s m args below meth c H locs cells slots (x_Q below s B0 k2 n2 Qw) (F0 m pc ls rest) (B0 + x)
    | some g => ∀ Q : State → Prop, W p l e R s m args below meth c H locs cells slots Q (F0 m g ls [.ref (B0 + x)]) → x_T p l e R s m args below meth c H locs cells slots Q (F0 m pc ls rest) (B0 + x)
theorem z_HO.none {R : Room} {y : Nat} (hy : ∀ pc i, zt_h y pc i = none) (he : c.exceptionTable.toList = []) (hlk : meth.locks = false) : z_HO p l e R s m args below meth c E B0 CB SB y := by
  intro pc i x ls rest H locs cells slots hX hS
  rw [hy pc i]
  exact fun _ k2 n2 Qw h1 h2 h3 => x_out he hlk hS h1 h2 h3
set_option maxHeartbeats 4000000 in
theorem z_cal_ok {y : Nat} {call : Nat → Nat → List Value → z_T → Option (z_O × z_T)} (okm : ∀ y kd ci na maxL, zt_meth y = some (kd, ci, na, maxL) → z_mok y kd ci na maxL) (okv : ∀ o i y, zt_v o i = some y → z_lok o i y 1 ∨ z_lok o i y 3) (okc : ∀ o i y, zt_c o i = some y → z_lok o i y 0) (okk : ∀ o i y, zt_k o i = some y → z_lok o i y 2)
    (hcall : ∀ fr', fr' + 1 = fr → z_Call l E B0 fr' call) (hHO : z_HO p l e (x_rm fr lo CB SB) s m args below meth c E B0 CB SB y)
    (hx : p.tables.exec = Jvm.exec) (hb : c.code = cc) (hml : c.maxLocals = nL) (hl : lv_has ls nL (z_l E B0 lv)) (hown : s.vm.findClass (zt_cn own) = some m.cls) (hts : ∀ w ∈ x_tbl, w.before args s = true) (hE : x_EV E B0 s) (hAB : z_AB E B0 τ.1 H) (hz : H.size = B0 + τ.2.1) (hS : va_S (x_A B0) s.heap H locs) (hcb : cells + τ.2.2.1 ≤ CB) (hsb : slots + τ.2.2.2 ≤ SB) (hd : decode cc pc = .ok (ins, len)) {nx : z_X} (h : z_cal call fr lo own y pc ins len lv st τ = some nx)
    (k : ∀ (pc' : Nat) (st' : List Value) (τ' : z_T), nx = .inl (pc', lv, st', τ') → z_K p l e (x_rm fr lo CB SB) s m args below meth c (z_Q below s E B0 CB SB o τ1) E B0 pc' ls st' τ') (k2 : ∀ r, nx = .inr r → r = (o, τ1)) :
    W p l e (x_rm fr lo CB SB) s m args below meth c H locs cells slots (z_Q below s E B0 CB SB o τ1) (F0 m pc ls (z_s E B0 st)) := by
  unfold z_cal at h
  split at h
  · cases h
  · rename_i y' hinv
    split at h
    · cases h
    · rename_i kd ci na maxL hmt
      split at h
      · rename_i hc
        obtain ⟨c1, c2, c3, c4, c5, c6, c7⟩ := hc
        obtain ⟨ret0, m1, m2, m3, m4, m5, m6, m7⟩ := okm _ _ _ _ _ hmt
        cases hr : call (lo - (19 + maxL)) y' (st.take na).reverse τ with
        | none => rw [hr] at h; cases h
        | some q =>
          obtain ⟨o1, τ2⟩ := q
          rw [hr] at h
          have hC := hcall (fr - 1) (by omega) _ _ _ _ _ _ hr
          have hsplit : z_s E B0 st = ((z_s E B0 (st.take na).reverse).reverse) ++ z_s E B0 (st.drop na) := by
            rw [← List.map_reverse, List.reverse_reverse, ← List.map_append, List.take_append_drop]
          have hcat : ((z_s E B0 (st.drop na)).map fun v => v.category).sum ≤ 8 := by rw [z_sc]; exact c2
          have hlen : (z_s E B0 (st.take na).reverse).length = na := by simp [c1]
          have hd3 : decode c.code pc = .ok (ins, 3) := by
            have hl3 : len = 3 := by
              unfold z_inv at hinv
              split at hinv <;> first | rfl | (cases hinv; done)
            rw [hb, hd, hl3]
          have hd4 : decode cc pc = .ok (ins, 3) := by rw [← hb]; exact hd3
          have hgo : ∀ T : State, T.heap = H → Stand p l e (x_rm fr lo CB SB) s m args below meth c T locs cells slots → x_Go p l e (x_rm fr lo CB SB) s m args below meth c locs cells slots (zt_nm y') (z_s E B0 (st.take na).reverse) (z_s E B0 (st.drop na)) (F0 m pc ls (z_s E B0 st)) T := by
            intro T hT X
            unfold z_inv at hinv
            split at hinv
            · rcases okv _ _ _ hinv with ⟨hlk, ci', na', mL', hm'⟩ | ⟨hlk, ci', na', mL', hm'⟩
              rotate_left
              · rw [hmt] at hm'
                cases hm'
                obtain ⟨n1, n2, n3⟩ := m7 rfl
                have hrv := c7 rfl
                cases hq : (st.take na).reverse with
                | nil => rw [hq] at hrv; cases hrv
                | cons v as =>
                  rw [hq] at hrv hlen hsplit
                  cases v <;> try (simp [z_str] at hrv; done)
                  rename_i b
                  have hlt : b.toNat < zt_sl.length := by simpa [z_str] using hrv
                  have hvk := hE.2.2.2.2.2.2.1.2
                  have hrc := vk_recv hvk hlt hS
                  have hst : (F0 m pc ls (z_s E B0 st)).stack = (z_s E B0 as).reverse ++ .ref (E.2.2.2.1 b.toNat) :: z_s E B0 (st.drop na) := by
                    show z_s E B0 st = _
                    rw [hsplit]
                    simp [z_v]
                  have hn9 : (z_s E B0 as).length = na - 1 := by simp at hlen ⊢; omega
                  rcases hlk with hlk | ⟨host, hlk⟩
                  · exact x_goV X hx (m1.is hts) m3 hown (hts _ hlk) (hts _ n1) (hts _ n2) (by rw [hT, n3]; exact hrc) rfl hn9 hst hd3
                  · exact x_goVN X hx (m1.is hts) m3 hown (va_Nw.use rfl (hE.2.2.1 _ hlk)) (hts _ n1) (hts _ n2) (by rw [hT, n3]; exact hrc) rfl hn9 hst hd3
              rw [hmt] at hm'
              cases hm'
              obtain ⟨n1, n2, T0, N0, n3⟩ := m5 rfl
              have hrv := c5 rfl
              cases hq : (st.take na).reverse with
              | nil => rw [hq] at hrv; cases hrv
              | cons v as =>
                rw [hq] at hrv hlen hsplit
                cases v <;> try (simp [z_recv] at hrv; done)
                rename_i b
                simp only [z_recv] at hrv
                split at hrv
                · rename_i cj fs hcell
                  have hcj : ci = cj := by simpa using hrv
                  subst hcj
                  have hrc := va_recv hE.2.1 (z_one (hAB b _ hcell)) n3 (q0 := 0) rfl
                  have hst : (F0 m pc ls (z_s E B0 st)).stack = (z_s E B0 as).reverse ++ .ref (B0 + b) :: z_s E B0 (st.drop na) := by
                    show z_s E B0 st = _
                    rw [hsplit]
                    simp [z_v]
                  have hn9 : (z_s E B0 as).length = na - 1 := by simp at hlen ⊢; omega
                  rcases hlk with hlk | ⟨host, hlk⟩
                  · exact x_goV X hx (m1.is hts) m3 hown (hts _ hlk) (hts _ n1) (hts _ n2) (by rw [hT]; exact hrc) rfl hn9 hst hd3
                  · exact x_goVN X hx (m1.is hts) m3 hown (va_Nw.use rfl (hE.2.2.1 _ hlk)) (hts _ n1) (hts _ n2) (by rw [hT]; exact hrc) rfl hn9 hst hd3
                · cases hrv
            · obtain ⟨hlk, ci', na', mL', hm'⟩ := okc _ _ _ hinv
              rw [hmt] at hm'
              cases hm'
              rcases hlk with hlk | ⟨host, hlk⟩
              · exact x_goS X hx (m1.is hts) m3 hown (hts _ hlk) (hts _ (m4 rfl)) (hts _ m2) rfl hlen hsplit hd3
              · exact x_goSN X hx (m1.is hts) m3 hown (va_Nw.use rfl (hE.2.2.1 _ hlk)) (hts _ (m4 rfl)) (hts _ m2) rfl hlen hsplit hd3
            · obtain ⟨hlk, ci', na', mL', hm'⟩ := okk _ _ _ hinv
              rw [hmt] at hm'
              cases hm'
              obtain ⟨n1, n2, bs, n3⟩ := m6 rfl
              have hrv := c6 rfl
              cases hq : (st.take na).reverse with
              | nil => rw [hq] at hrv; cases hrv
              | cons v as =>
                rw [hq] at hrv hlen hsplit
                cases v <;> try (simp [z_isr] at hrv; done)
                rename_i b
                have hst : (F0 m pc ls (z_s E B0 st)).stack = (z_s E B0 as).reverse ++ .ref (B0 + b) :: z_s E B0 (st.drop na) := by
                  show z_s E B0 st = _
                  rw [hsplit]
                  simp [z_v]
                have hn9 : (z_s E B0 as).length = na - 1 := by simp at hlen ⊢; omega
                rcases hlk with hlk | ⟨host, hlk⟩
                · exact x_goI X hx (hts _ n3) m3 hown (hts _ hlk) (hts _ n1) n2 rfl hn9 hst hd3
                · exact x_goIN X hx (hts _ n3) m3 hown (va_Nw.use rfl (hE.2.2.1 _ hlk)) (hts _ n1) n2 rfl hn9 hst hd3
            · cases hinv
          refine x_run hgo hC (m1.is hts) (hts _ m2) hml hl.1 hcat hd3 (by omega) (by omega) hcb hsb hts hE hS ⟨hAB, hz⟩ ?_ ?_
          · intro v H' locs' hQ hsz hS'
            obtain ⟨⟨q1, q2, q3⟩, q4, q5⟩ := hQ
            cases o1 with
            | inl w =>
              cases q3
              cases h
              have k9 := k _ _ _ rfl H' locs' (cells + (τ.2.2.1 - τ2.2.2.1)) (slots + (τ.2.2.2 - τ2.2.2.2)) q1 q2 (by show _ ≤ CB; omega) (by show _ ≤ SB; omega) hS'
              cases w <;> exact k9
            | inr ix =>
              obtain ⟨i, x⟩ := ix
              cases q3.1
          · intro x H' locs' hQ hsz hS'
            obtain ⟨⟨q1, q2, q3⟩, q4, q5⟩ := hQ
            cases o1 with
            | inl w => cases q3
            | inr ix =>
              obtain ⟨i, x'⟩ := ix
              obtain ⟨q3, q6⟩ := q3
              cases q3
              have hh := hHO pc i x' ls (z_s E B0 (st.drop na)) H' locs' (cells + (τ.2.2.1 - τ2.2.2.1)) (slots + (τ.2.2.2 - τ2.2.2.2)) q6 hS'
              simp only [] at h
              split at h
              · rename_i hg
                rw [hg] at hh
                split at h
                · cases h
                rename_i hys
                cases h
                have k8 := k2 _ rfl
                cases k8
                exact hh (by simpa using hys) _ _ _ (by omega) (by omega) ⟨⟨q1, q2, rfl, q6⟩, by omega, by omega⟩
              · rename_i g hg
                rw [hg] at hh
                cases h
                exact hh _ (k _ _ _ rfl H' locs' _ _ q1 q2 (by show _ ≤ CB; omega) (by show _ ≤ SB; omega) hS')
      · cases h
set_option maxHeartbeats 4000000 in
theorem z_exec_ok {y : Nat} {cons : Bool} {call : Nat → Nat → List Value → z_T → Option (z_O × z_T)} (htr : l.stackTraces = false)
    (hcall : ∀ fr', fr' + 1 = fr → z_Call l E B0 fr' call) (hHO : z_HO p l e (x_rm fr lo CB SB) s m args below meth c E B0 CB SB y) (hhs : zt_hs y = false → c.exceptionTable.toList = []) (hcons : cons = true → meth.name = "<init>")
    (hx : p.tables.exec = Jvm.exec) (hb : c.code = cc) (hr : meth.sig.returnType = ret) (hlk : meth.locks = false) (hml : c.maxLocals = nL) (hown : s.vm.findClass (zt_cn own) = some m.cls) (hts : ∀ w ∈ x_tbl, w.before args s = true) (hE : x_EV E B0 s) :
    ∀ (N pc : Nat) (lv : z_L) (st : List Value) (τ : z_T) (ls : Array Slot) (H : Heap) (locs : List Loc) (cells slots : Nat), z_exec E.2.2.2.2 fr lo y own nL cons ret cc call N pc lv st τ = some (o, τ1) → lv_has ls nL (z_l E B0 lv) → z_AB E B0 τ.1 H → H.size = B0 + τ.2.1 → va_S (x_A B0) s.heap H locs → cells + τ.2.2.1 ≤ CB → slots + τ.2.2.2 ≤ SB →
      W p l e (x_rm fr lo CB SB) s m args below meth c H locs cells slots (z_Q below s E B0 CB SB o τ1) (F0 m pc ls (z_s E B0 st))
  | 0, _, _, _, _, _, _, _, _, _, h, _, _, _, _, _, _ => by cases h
  | N + 1, pc, lv, st, τ, ls, H, locs, cells, slots, h, hl, hAB, hz, hS, hcb, hsb => by
    have ih := z_exec_ok htr hcall hHO hhs hcons hx hb hr hlk hml hown hts hE N
    rw [z_exec] at h
    split at h
    · cases h
    · rename_i pc' lv' st' τ' hs
      unfold z_step at hs
      split at hs
      · cases hs
      · rename_i ins len hd
        split at hs
        · rename_i hq; cases hs; exact z_stk_ok hx hb hd hq (ih _ _ _ _ _ _ _ _ _ h hl hAB hz hS hcb hsb)
        · split at hs
          · rename_i hq; cases hs; exact z_loc_ok hx hb hd hl hq (fun ls' hl' => ih _ _ _ _ _ _ _ _ _ h hl' hAB hz hS hcb hsb)
          · split at hs
            · rename_i hq; cases hs; exact z_br_ok hx hb hd hq (ih _ _ _ _ _ _ _ _ _ h hl hAB hz hS hcb hsb)
            · split at hs
              · rename_i hq; cases hs; exact z_ldc_ok ok_i ok_l hx hb hown hts hE hd hq (ih _ _ _ _ _ _ _ _ _ h hl hAB hz hS hcb hsb)
              · split at hs
                · rename_i hq; cases hs; exact z_rd_ok ok_f hx hb hown hts hE hAB hS hd hq (ih _ _ _ _ _ _ _ _ _ h hl hAB hz hS hcb hsb)
                · split at hs
                  · rename_i hq; cases hs
                    exact z_wr_ok ok_f ok_t hcons hx hb hown hts hE hAB hz hS hd hq (fun H' locs' g1 g2 g3 g4 => ih _ _ _ _ _ _ _ _ _ h hl g1 g2 g4 (by rw [g3]; exact hcb) (by rw [g3]; exact hsb))
                  · split at hs
                    · rename_i hq; cases hs
                      exact z_mk_ok ok_n ok_a ok_A hx hb hown hts hE hAB hz hS hcb hsb hd hq (fun H' locs' c' s' g1 g2 g3 g4 g5 => ih _ _ _ _ _ _ _ _ _ h hl g1 g2 g5 g3 g4)
                    · split at hs
                      · cases hs
                      · split at hs
                        · rename_i hq; cases hs; exact z_obj_ok ok_o ok_oi hx hb hml hl.1 hown hts hd hq (ih _ _ _ _ _ _ _ _ _ h hl hAB hz hS hcb hsb)
                        · split at hs
                          · cases hs
                          · exact z_cal_ok ok_m ok_v ok_c ok_k hcall hHO hx hb hml hl hown hts hE hAB hz hS hcb hsb hd hs (fun pc2 st2 τ2 hn => by cases hn; exact fun H' locs' c' s' g1 g2 g3 g4 g5 => ih _ _ _ _ _ _ _ _ _ h hl g1 g2 g5 g3 g4) (fun r hn => by cases hn)
    · rename_i r hs
      cases h
      unfold z_step at hs
      split at hs
      · cases hs
      · rename_i ins len hd
        split at hs
        · cases hs
        · split at hs
          · cases hs
          · split at hs
            · cases hs
            · split at hs
              · cases hs
              · split at hs
                · cases hs
                · split at hs
                  · cases hs
                  · split at hs
                    · cases hs
                    · split at hs
                      · rename_i hq; cases hs; exact z_ret_ok hx hb hr hlk hAB hz hS hcb hsb hd hq
                      · split at hs
                        · cases hs
                        · split at hs
                          · rename_i hq
                            cases hs
                            split at hq
                            · cases hq
                            · rename_i hy
                              exact z_thr_ok ok_x htr hx hb (hhs (by simpa using hy)) hlk hml hl.1 hown hts hE hAB hz hS hcb hsb hd hq
                          · exact z_cal_ok ok_m ok_v ok_c ok_k hcall hHO hx hb hml hl hown hts hE hAB hz hS hcb hsb hd hs (fun pc2 st2 τ2 hn => by cases hn) (fun r hn => by cases hn; rfl)
end ZE
