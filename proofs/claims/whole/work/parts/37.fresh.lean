/-! THE PURE PART, 21: making. While the objects are made, the heap is a list: l what stood before, r what is being made -/
def LH (l r : List va_E) (c s : Nat) : z_T := (fun q => (l ++ r)[q]?, l.length + r.length, c, s)
theorem LH_new {l r : List va_E} {c s n : Nat} {e : va_E} (h1 : 1 ≤ c) (h2 : n ≤ s) : z_new (LH l r c s) n e = some (LH l (r ++ [e]) (c - 1) (s - n)) := by
  unfold z_new
  rw [if_pos (show 1 ≤ (LH l r c s).2.2.1 ∧ n ≤ (LH l r c s).2.2.2 from ⟨h1, h2⟩)]
  unfold LH
  congr 1
  refine Prod.ext ?_ (Prod.ext ?_ rfl)
  · funext q
    show (if q = l.length + r.length then some e else (l ++ r)[q]?) = (l ++ (r ++ [e]))[q]?
    rw [← List.append_assoc, List.getElem?_append (l₁ := l ++ r)]
    by_cases hq : q = l.length + r.length
    · rw [if_pos hq, if_neg (by simp [hq])]
      subst hq
      simp
    · rw [if_neg hq]
      split
      · rfl
      · rename_i h3
        have h4 : l.length + r.length ≤ q := by simpa using h3
        rw [List.getElem?_eq_none (by simpa using h4), List.getElem?_eq_none (by simp; omega)]
  · show l.length + r.length + 1 = l.length + (r ++ [e]).length
    simp
    omega
theorem LH_get {l r : List va_E} {c s k a0 : Nat} (h : l.length = a0) : (LH l r c s).1 (a0 + k) = r[k]? := by
  subst h
  show (l ++ r)[l.length + k]? = r[k]?
  rw [List.getElem?_append_right (by omega), show l.length + k - l.length = k by omega]
theorem LH_set {l r : List va_E} {c s k a0 : Nat} {e : va_E} (h : l.length = a0) (hk : k < r.length) : z_set (LH l r c s) (a0 + k) e = LH l (r.set k e) c s := by
  subst h
  unfold z_set LH
  refine Prod.ext ?_ (Prod.ext ?_ rfl)
  · funext q
    show (if q = l.length + k then some e else (l ++ r)[q]?) = (l ++ r.set k e)[q]?
    by_cases hq : q = l.length + k
    · subst hq
      rw [if_pos rfl, List.getElem?_append_right (by omega), show l.length + k - l.length = k by omega, List.getElem?_set, if_pos rfl, if_pos hk]
    · rw [if_neg hq]
      by_cases hl : q < l.length
      · rw [List.getElem?_append_left hl, List.getElem?_append_left hl]
      · rw [List.getElem?_append_right (by omega), List.getElem?_append_right (by omega), List.getElem?_set, if_neg (by omega)]
  · show l.length + r.length = l.length + (r.set k e).length
    rw [List.length_set]
section FR
variable {sc : Nat × (Nat → Int32)} {fr lo y own nL : Nat} {cons : Bool} {ret : Option FieldType} {cc : ByteArray} {pc : Nat} {L L' : List (Option Value)} {st : List Value} {l r r' : List va_E} {c s c' s' a0 b : Nat} {Q : z_O → z_T → Prop}
theorem w_lnew {i ci n : Nat} (hl : l.length = a0) (hd : decode cc pc = .ok (.new i, 3)) (hn : zt_n own i = some ci) (hk : (z_dfl ci).length = n) (h : 1 ≤ c ∧ n ≤ s) (hr : r ++ [.inr (ci, z_dfl ci)] = r') (hb : a0 + r.length = b) (hc : c - 1 = c') (hs : s - n = s') (k : w_P sc fr lo y own nL cons ret cc (pc + 3) L (.ref b :: st) (LH l r' c' s') Q) : w_P sc fr lo y own nL cons ret cc pc L st (LH l r c s) Q := by
  refine w_mk hd ?_ k
  show (match zt_n own i with | some ci => (z_new (LH l r c s) (z_dfl ci).length (.inr (ci, z_dfl ci))).map fun τ' => (Value.ref (l.length + r.length) :: st, τ') | none => none) = _
  rw [hn]
  show (z_new (LH l r c s) (z_dfl ci).length (.inr (ci, z_dfl ci))).map _ = _
  rw [LH_new h.1 (by rw [hk]; exact h.2), hr, hc, hk, hs, hl, hb]
  rfl
theorem w_larr {n t : Nat} {z : Int} {e : va_E} {A : Instr} (hl : l.length = a0) (hd : decode cc pc = .ok (A, 2)) (hA : (A = .newarray .int ∧ e = .inl (0, n, .inl (fun _ => 0))) ∨ (A = .newarray .long ∧ e = .inl (1, n, .inr (.inl (fun _ => 0)))) ∨ (A = .newarray .char ∧ e = .inl (2, n, .inl (fun _ => 0))) ∨ (A = .newarray .boolean ∧ e = .inl (3, n, .inl (fun _ => 0)))) (hz : z = n ∧ n ≤ 100000) (h : 1 ≤ c ∧ n ≤ s) (hr : r ++ [e] = r') (hb : a0 + r.length = b) (hc : c - 1 = c') (hs : s - n = s') (k : w_P sc fr lo y own nL cons ret cc (pc + 2) L (.ref b :: st) (LH l r' c' s') Q) : w_P sc fr lo y own nL cons ret cc pc L (.int (ji z) :: st) (LH l r c s) Q := by
  have hcl : (ji z).toNatClampNeg = n := by rw [ji_clamp (by omega), hz.1]; simp
  have hng : ¬ (ji z < 0 ∨ 100000 < (ji z).toNatClampNeg) := by
    rw [hcl]
    rintro (w | w)
    · have := (ji_lt (x := z) (y := 0) (by omega) (by omega)).mp w
      omega
    · omega
  have hN : z_new (LH l r c s) n e = some (LH l r' c' s') := by rw [LH_new h.1 h.2, hr, hc, hs]
  have hB : (Value.ref (l.length + r.length)) = .ref b := by rw [hl, hb]
  refine w_mk hd ?_ k
  rcases hA with ⟨rfl, rfl⟩ | ⟨rfl, rfl⟩ | ⟨rfl, rfl⟩ | ⟨rfl, rfl⟩
  · show (if ji z < 0 ∨ 100000 < (ji z).toNatClampNeg then none else (z_new (LH l r c s) (ji z).toNatClampNeg (.inl (0, (ji z).toNatClampNeg, .inl (fun _ => 0)))).map fun τ' => (Value.ref (l.length + r.length) :: st, τ')) = _
    rw [if_neg hng, hcl, hN, hB]
    rfl
  · show (if ji z < 0 ∨ 100000 < (ji z).toNatClampNeg then none else (z_new (LH l r c s) (ji z).toNatClampNeg (.inl (1, (ji z).toNatClampNeg, .inr (.inl (fun _ => 0))))).map fun τ' => (Value.ref (l.length + r.length) :: st, τ')) = _
    rw [if_neg hng, hcl, hN, hB]
    rfl
  · show (if ji z < 0 ∨ 100000 < (ji z).toNatClampNeg then none else (z_new (LH l r c s) (ji z).toNatClampNeg (.inl (2, (ji z).toNatClampNeg, .inl (fun _ => 0)))).map fun τ' => (Value.ref (l.length + r.length) :: st, τ')) = _
    rw [if_neg hng, hcl, hN, hB]
    rfl
  · show (if ji z < 0 ∨ 100000 < (ji z).toNatClampNeg then none else (z_new (LH l r c s) (ji z).toNatClampNeg (.inl (3, (ji z).toNatClampNeg, .inl (fun _ => 0)))).map fun τ' => (Value.ref (l.length + r.length) :: st, τ')) = _
    rw [if_neg hng, hcl, hN, hB]
    rfl
theorem w_laa {n i : Nat} {z : Int} (hl : l.length = a0) (hd : decode cc pc = .ok (.anewarray i, 3)) (ha : zt_a own i = true) (hz : z = n ∧ n ≤ 100000) (h : 1 ≤ c ∧ n ≤ s) (hr : r ++ [.inl (4, n, .inr (.inr (.inr (.inr (fun _ => none)))))] = r') (hb : a0 + r.length = b) (hc : c - 1 = c') (hs : s - n = s') (k : w_P sc fr lo y own nL cons ret cc (pc + 3) L (.ref b :: st) (LH l r' c' s') Q) : w_P sc fr lo y own nL cons ret cc pc L (.int (ji z) :: st) (LH l r c s) Q := by
  have hcl : (ji z).toNatClampNeg = n := by rw [ji_clamp (by omega), hz.1]; simp
  have hng : ¬ (ji z < 0 ∨ 100000 < (ji z).toNatClampNeg ∨ zt_a own i ≠ true) := by
    rw [hcl]
    rintro (w | w | w)
    · have := (ji_lt (x := z) (y := 0) (by omega) (by omega)).mp w
      omega
    · omega
    · exact w ha
  have hN : z_new (LH l r c s) n (.inl (4, n, .inr (.inr (.inr (.inr (fun _ => none)))))) = some (LH l r' c' s') := by rw [LH_new h.1 h.2, hr, hc, hs]
  have hB : (Value.ref (l.length + r.length)) = .ref b := by rw [hl, hb]
  refine w_mk hd ?_ k
  show (if ji z < 0 ∨ 100000 < (ji z).toNatClampNeg ∨ zt_a own i ≠ true then none else (z_new (LH l r c s) (ji z).toNatClampNeg (.inl (4, (ji z).toNatClampNeg, .inr (.inr (.inr (.inr (fun _ => none))))))).map fun τ' => (Value.ref (l.length + r.length) :: st, τ')) = _
  rw [if_neg hng, hcl, hN, hB]
  rfl
theorem w_lput {i ci k j a : Nat} {v : Value} {fs : List Value} (hl : l.length = a0) (hd : decode cc pc = .ok (.putfield i, 3)) (hf : zt_f own i = some (ci, k)) (ha : a = a0 + j) (hj : r[j]? = some (.inr (ci, fs))) (hk : k < fs.length) (hfit : z_fit ci k v = true) (hfin : z_fin own cons ci k = true) (hr : r.set j (.inr (ci, fs.set k v)) = r') (kk : w_P sc fr lo y own nL cons ret cc (pc + 3) L st (LH l r' c s) Q) : w_P sc fr lo y own nL cons ret cc pc L (v :: .ref a :: st) (LH l r c s) Q := by
  refine w_wr hd ?_ kk
  show (match zt_f own i, (LH l r c s).1 a with | some (ci, k), some (.inr (cj, fs)) => if ci = cj ∧ k < fs.length ∧ z_fit ci k v = true ∧ z_fin own cons ci k = true then some (st, z_set (LH l r c s) a (.inr (cj, fs.set k v))) else none | _, _ => none) = _
  rw [ha, hf, LH_get hl, hj]
  show (if ci = ci ∧ k < fs.length ∧ z_fit ci k v = true ∧ z_fin own cons ci k = true then some (st, z_set (LH l r c s) (a0 + j) (.inr (ci, fs.set k v))) else none) = _
  rw [if_pos ⟨rfl, hk, hfit, hfin⟩, LH_set hl (List.getElem?_eq_some_iff.mp hj).1, hr]
theorem w_laast {n j a v jv : Nat} {i : Int} {f : Nat → Option Nat} {fs : List Value} (hl : l.length = a0) (hd : decode cc pc = .ok (.aastore, 1)) (ha : a = a0 + j) (hv : v = a0 + jv) (hj : r[j]? = some (.inl (4, n, .inr (.inr (.inr (.inr f)))))) (hjv : r[jv]? = some (.inr (zt_tree, fs))) (hi : 0 ≤ i ∧ i < n ∧ n < 2147483648) (hr : r.set j (.inl (4, n, .inr (.inr (.inr (.inr (va_up f i.toNat (some v))))))) = r') (kk : w_P sc fr lo y own nL cons ret cc (pc + 1) L st (LH l r' c s) Q) : w_P sc fr lo y own nL cons ret cc pc L (.ref v :: .int (ji i) :: .ref a :: st) (LH l r c s) Q := by
  refine w_wr hd ?_ kk
  show (match (LH l r c s).1 a, (LH l r c s).1 v with
    | some (.inl (4, n, .inr (.inr (.inr (.inr f))))), some (.inr (cj, _)) => if ji i < 0 ∨ n ≤ (ji i).toNatClampNeg ∨ cj ≠ zt_tree then none else some (st, z_set (LH l r c s) a (.inl (4, n, .inr (.inr (.inr (.inr (va_up f (ji i).toNatClampNeg (some v))))))))
    | _, _ => none) = _
  rw [show (LH l r c s).1 a = r[j]? by rw [ha, LH_get hl], show (LH l r c s).1 v = r[jv]? by rw [hv, LH_get hl], hj, hjv]
  show (if ji i < 0 ∨ n ≤ (ji i).toNatClampNeg ∨ zt_tree ≠ zt_tree then none else some (st, z_set (LH l r c s) a (.inl (4, n, .inr (.inr (.inr (.inr (va_up f (ji i).toNatClampNeg (some v))))))))) = _
  rw [if_neg (by
    rintro (z | z | z)
    · exact ji_in hi (Or.inl z)
    · exact ji_in hi (Or.inr z)
    · exact z rfl), ji_clamp (by omega), ha, LH_set hl (List.getElem?_eq_some_iff.mp hj).1, hr]
/-- Object's constructor -/
theorem w_lobj {i a : Nat} {τ : z_T} (hd : decode cc pc = .ok (.invokespecial i, 3)) (ho : zt_o own i = true) (hf : 1 ≤ fr) (hl : (st.map fun v => v.category).sum + 12 ≤ lo) (k : w_P sc fr lo y own nL cons ret cc (pc + 3) L st τ Q) : w_P sc fr lo y own nL cons ret cc pc L (.ref a :: st) τ Q := by
  refine w_next (fun call lv hlv => ⟨lv, hlv, ?_⟩) k
  have hc : z_cat (.invokespecial i) = 8 := rfl
  have h : z_obj fr lo own (.invokespecial i) 3 (.ref a :: st) = some st := by
    show (if zt_o own i = true ∧ 1 ≤ fr ∧ (st.map fun v => v.category).sum + 12 ≤ lo then some st else none) = _
    rw [if_pos ⟨ho, hf, hl⟩]
  unfold z_step
  rw [hd]
  simp only [n_stk hc (by decide), n_loc hc (by decide), n_br hc (by decide), n_ldc hc (by decide), n_rd hc (by decide), n_wr hc (by decide), n_mk hc (by decide), n_ret hc (by decide), h]
/-- a constructor of our own -/
theorem w_linit {y' ci na maxL i a : Nat} {as rest : List Value} {τ τ' : z_T} (hh : zt_hs y = false) (hd : decode cc pc = .ok (.invokespecial i, 3)) (ho : zt_o own i = false) (hi : zt_k own i = some y') (hm : zt_meth y' = some (2, ci, na, maxL)) (hst : (Value.ref a :: as).reverse ++ rest = st) (hna : (Value.ref a :: as).length = na) (hrest : (rest.map fun v => v.category).sum ≤ 8) (hfr : 1 ≤ fr) (hlo : 19 + maxL ≤ lo)
    (h : w_E sc (fr - 1) (lo - (19 + maxL)) y' (.ref a :: as) τ (.inl none) τ') (k : w_P sc fr lo y own nL cons ret cc (pc + 3) L rest τ' Q) : w_P sc fr lo y own nL cons ret cc pc L st τ Q :=
  w_cal hh hd rfl (by
    unfold z_obj
    split
    · rename_i h1 h2
      cases h1
      rw [if_neg (fun z => by rw [ho] at z; cases z.1)]
    · rfl) hi hm hst hna hrest hfr hlo (fun z => by cases z) (fun _ => rfl) (fun z => by cases z) (h.mono (by
    rintro o t ⟨rfl, rfl⟩
    exact k))
theorem LH_app {x : List va_E} : LH l (x ++ r) c s = LH (l ++ x) r c s := by
  unfold LH
  rw [List.append_assoc]
  refine Prod.ext rfl (Prod.ext ?_ rfl)
  show l.length + (x ++ r).length = (l ++ x).length + r.length
  simp
  omega
end FR
/-- a constructor of our own, on the object that was made last -/
theorem w_lcall {sc : Nat × (Nat → Int32)} {fr lo y own nL : Nat} {cons : Bool} {ret : Option FieldType} {cc : ByteArray} {pc : Nat} {L : List (Option Value)} {st : List Value} {l r r' : List va_E} {c s c' s' a0 : Nat} {Q : z_O → z_T → Prop} {y' ci na maxL i a : Nat} {as rest : List Value} {x e : List va_E} {ob : va_E} (hl : l.length = a0) (hh : zt_hs y = false) (hd : decode cc pc = .ok (.invokespecial i, 3)) (ho : zt_o own i = false) (hi : zt_k own i = some y') (hm : zt_meth y' = some (2, ci, na, maxL)) (hst : (Value.ref a :: as).reverse ++ rest = st) (hna : (Value.ref a :: as).length = na) (hrest : (rest.map fun v => v.category).sum ≤ 8) (hfr : 1 ≤ fr) (hlo : 19 + maxL ≤ lo) (hx : x ++ [ob] = r) (ha : a0 + x.length = a) (hr : x ++ e = r')
    (h : ∀ l' : List va_E, l'.length = a → w_E sc (fr - 1) (lo - (19 + maxL)) y' (.ref a :: as) (LH l' [ob] c s) (.inl none) (LH l' e c' s')) (k : w_P sc fr lo y own nL cons ret cc (pc + 3) L rest (LH l r' c' s') Q) : w_P sc fr lo y own nL cons ret cc pc L st (LH l r c s) Q := by
  subst hx
  subst hr
  rw [LH_app]
  rw [LH_app] at k
  exact w_linit hh hd ho hi hm hst hna hrest hfr hlo (h (l ++ x) (by rw [List.length_append, hl, ha])) k
