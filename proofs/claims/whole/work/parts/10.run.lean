/-! a method's run, by its number; it is sound -/
theorem x_C.ofWH {l : Launch} {E : x_E} {B0 : Nat} {y : MethodName} {fr lo k n k' n' : Nat} {av : List Value} {Pw : Heap → Prop} {Qw : Heap → Outcome → Heap → Prop} {cc : ByteArray} {maxL : Nat} {ret : Option FieldType} {hs : List (Nat × Nat × Nat × Nat)}
    (hy : plainName y.cls = true) (hw : Cond.codeWith y cc maxL ret hs ∈ x_tbl)
    (body : ∀ (p : Program) (e : Env) (s : State) (m : MethodId) (below : List Frame) (meth : Method) (c : Code), x_B E B0 y cc maxL ret av p s m meth c → c.exceptionTable.toList = tableOf hs → Pw s.heap →
      W p l e (x_rm fr lo k n) s m av.toArray below meth c s.heap [] 0 0 (x_Q below s B0 k' n' Qw) (entryFrame m av.toArray maxL)) : x_C l E B0 y fr lo k n k' n' av Pw Qw := by
  refine MetFree.of_bodyS (code := cc) (maxLocals := maxL) (ret := ret) hy ?_ ?_
  · intro args s m h hn
    obtain ⟨mk, meth, c, h0, h1, h2, h3, h4, h5, h6, h7, -⟩ := Cond.codeWith_spec (atoms_spec (ws := x_tbl) h _ hw)
    cases hn.symm.trans h0
    exact ⟨meth, c, h1, h2, h3, h4, h6, h7⟩
  · intro p e s m args below meth c s₁ B hml hP _
    obtain ⟨rfl, hE, hPw⟩ := hP
    have hh0 : s₁.heap = s.heap := by rw [B.state]; rfl
    have hts : ∀ w ∈ x_tbl, w.before av.toArray s = true := atoms_spec (ws := x_tbl) B.pre
    have he : c.exceptionTable.toList = tableOf hs := by
      obtain ⟨mk, meth', c', h0, h1, h2, h3, h4, h5, -⟩ := Cond.codeWith_spec (hts _ hw)
      cases B.named.symm.trans h0
      cases B.method.symm.trans h1
      cases (Stand.of_body B).code.symm.trans h2
      rw [← h5, table_eq]
    obtain ⟨t, a1, o, b1, b2, b3⟩ := body p e s m below meth c ⟨B.exec, B.bytes, B.returns, B.notSynchronized, hml, findClass_of_methodNamed B.named, (name_of_methodNamed B.named B.method).1, hts, hE⟩ he hPw s₁ hh0 (Stand.of_body B)
    exact ⟨t, o, a1, b1, b2, b3⟩
/-- String.length, String.charAt of a literal -/
def z_bi (b fr lo : Nat) (as : List Value) (τ : z_T) : Option (z_O × z_T) := match b, as with
  | 0, [.float k] => if 5 ≤ fr ∧ 300 ≤ lo ∧ k.toNat < zt_sl.length then some (.inl (some (.int (Int32.ofNat (zt_sl.getD k.toNat 0)))), τ) else none
  | 1, [.float k, .int i] => if 5 ≤ fr ∧ 300 ≤ lo ∧ k.toNat < zt_sl.length ∧ ¬ (i < 0 ∨ zt_sl.getD k.toNat 0 ≤ i.toNatClampNeg) then some (.inl (some (.int ((zt_sb.getD k.toNat []).getD i.toNatClampNeg 0))), τ) else none
  | _, _ => none
def z_body (sc : Nat × (Nat → Int32)) (fr lo : Nat) (call : Nat → Nat → List Value → z_T → Option (z_O × z_T)) (N y : Nat) (as : List Value) (τ : z_T) : Option (z_O × z_T) :=
  match zt_bi y with
  | some b => z_bi b fr lo as τ
  | none => match zt_codes[y]? with
    | none => none
    | some (own, cc, nL, ret, cons) => if (as.map fun v => v.category).sum ≤ nL then z_exec sc fr lo y own nL cons ret cc call N 0 (lv_args 0 as) [] τ else none
def z_run (sc : Nat × (Nat → Int32)) (N : Nat) : Nat → Nat → Nat → List Value → z_T → Option (z_O × z_T)
  | 0, lo, y, as, τ => z_body sc 0 lo (fun _ _ _ _ => none) N y as τ
  | fr + 1, lo, y, as, τ => z_body sc (fr + 1) lo (z_run sc N fr) N y as τ
theorem z_lgl (vs : List Value) : (lg_sl vs).length = (vs.map fun v => v.category).sum := by
  induction vs with
  | nil => rfl
  | cons v t ih =>
    have h : lg_sl (v :: t) = (if v.category = 2 then [.val v, .second] else [.val v]) ++ lg_sl t := rfl
    rw [h, List.length_append, ih, List.map_cons, List.sum_cons]
    rcases lv_cat v with h1 | h1 <;> simp [h1]
theorem z_lar (E : x_E) (B0 : Nat) : ∀ (as : List Value) (i : Nat), z_l E B0 (lv_args i as) = lv_args i (z_s E B0 as)
  | [], _ => rfl
  | v :: t, i => by
    show (i, z_v E B0 v) :: z_l E B0 (lv_args (if v.category = 2 then i + 2 else i + 1) t) = (i, z_v E B0 v) :: lv_args (if (z_v E B0 v).category = 2 then i + 2 else i + 1) (z_s E B0 t)
    rw [z_vc, z_lar E B0 t]
theorem z_h_none {y : Nat} (h : zt_hs y = false) (pc i : Nat) : zt_h y pc i = none := by
  have h1 : z_hof y = [] := by simpa [zt_hs] using h
  unfold zt_h
  rw [h1]
  rfl
/-- the contracts of the two methods of String -/
def z_Bi (l : Launch) (E : x_E) (B0 : Nat) : Prop := ∀ b fr lo y as τ o τ', zt_bi y = some b → z_bi b fr lo as τ = some (o, τ') → x_C l E B0 (zt_nm y) fr lo τ.2.2.1 τ.2.2.2 (τ.2.2.1 - τ'.2.2.1) (τ.2.2.2 - τ'.2.2.2) (z_s E B0 as) (fun H => z_AB E B0 τ.1 H ∧ H.size = B0 + τ.2.1) (fun _ o' H' => z_End E B0 o τ' H' o' ∧ τ'.2.2.1 ≤ τ.2.2.1 ∧ τ'.2.2.2 ≤ τ.2.2.2)
set_option maxHeartbeats 1000000 in
theorem z_body_ok {l : Launch} {E : x_E} {B0 fr : Nat} {call : Nat → Nat → List Value → z_T → Option (z_O × z_T)} {N : Nat} (htr : l.stackTraces = false) (hbi : z_Bi l E B0) (hcall : ∀ fr', fr' + 1 = fr → z_Call l E B0 fr' call) : z_Call l E B0 fr (fun lo y as τ => z_body E.2.2.2.2 fr lo call N y as τ) := by
  intro lo y as τ o τ' h
  have h : z_body E.2.2.2.2 fr lo call N y as τ = some (o, τ') := h
  unfold z_body at h
  split at h
  · rename_i b hb
    exact hbi b fr lo y as τ o τ' hb h
  · rename_i hb
    split at h
    · cases h
    · rename_i own cc nL ret cons hc
      split at h
      · rename_i hlen
        have hy := ok_y y own cc nL ret cons hb hc
        have hlen' : (lg_sl (z_s E B0 as)).length ≤ nL := by rw [z_lgl, z_sc]; exact hlen
        have hl := lv_entry (z_s E B0 as) hlen'
        cases hhs : zt_hs y with
        | false =>
          refine x_C.ofW (cc := cc) (maxL := nL) (ret := ret) hy.2.1 (hy.2.2.2.1 hhs) ?_
          intro p e s m below meth c B he hPw
          obtain ⟨hx, hbb, hr, hlk, hml, hown, hnm, hts, hE⟩ := B
          rw [lg_entry_eq]
          exact z_exec_ok htr hcall (z_HO.none (z_h_none hhs) he hlk) (fun _ => he) (fun hc => by rw [hnm]; exact hy.2.2.1 hc) hx hbb hr hlk hml (by rw [hy.1]; exact hown) hts hE N 0 (lv_args 0 as) [] τ _ s.heap [] 0 0 h (by rw [z_lar]; exact hl) hPw.1 hPw.2 va_S.rf (by omega) (by omega)
        | true =>
          refine x_C.ofWH (cc := cc) (maxL := nL) (ret := ret) hy.2.1 (hy.2.2.2.2 hhs).1 ?_
          intro p e s m below meth c B he hPw
          obtain ⟨hx, hbb, hr, hlk, hml, hown, hnm, hts, hE⟩ := B
          rw [lg_entry_eq]
          exact z_exec_ok htr hcall (z_HO.with hy hhs he hown hts hE) (fun z => by rw [hhs] at z; cases z) (fun hc => by rw [hnm]; exact hy.2.2.1 hc) hx hbb hr hlk hml (by rw [hy.1]; exact hown) hts hE N 0 (lv_args 0 as) [] τ _ s.heap [] 0 0 h (by rw [z_lar]; exact hl) hPw.1 hPw.2 va_S.rf (by omega) (by omega)
      · cases h
theorem z_run_ok {l : Launch} {E : x_E} {B0 N : Nat} (htr : l.stackTraces = false) (hbi : z_Bi l E B0) : ∀ fr, z_Call l E B0 fr (z_run E.2.2.2.2 N fr)
  | 0 => z_body_ok (N := N) (call := fun _ _ _ _ => none) htr hbi (fun fr' h => by cases h)
  | fr + 1 => z_body_ok (N := N) (call := z_run E.2.2.2.2 N fr) htr hbi (fun fr' h => by
      cases h
      exact z_run_ok htr hbi fr)
