/-! THE PURE PART, 1: what a run of the interpreter comes to, as a weakest precondition; no fuel in sight -/
def z_cl (sc : Nat × (Nat → Int32)) (fr M : Nat) : Nat → Nat → List Value → z_T → Option (z_O × z_T) := match fr with
  | 0 => fun _ _ _ _ => none
  | f + 1 => z_run sc M f
/-- the listed locals, by their places -/
def l_has (lv : z_L) (L : List (Option Value)) : Prop := ∀ (i : Nat) (v : Value), L[i]? = some (some v) → z_lk lv i = some v
def l_clr (L : List (Option Value)) : Nat → List (Option Value)
  | 0 => L
  | j + 1 => match L[j]? with
    | some (some v) => if v.category = 2 then L.set j none else L
    | _ => L
def l_put1 (L : List (Option Value)) (i : Nat) (v : Value) : List (Option Value) := (l_clr L i).set i (some v)
def l_put2 (L : List (Option Value)) (i : Nat) (v : Value) : List (Option Value) := ((l_clr L i).set (i + 1) none).set i (some v)
def l_args : List Value → List (Option Value)
  | [] => []
  | v :: t => if v.category = 2 then some v :: none :: l_args t else some v :: l_args t
theorem z_lk_cons (q : Nat × Value) (lv : z_L) (i : Nat) : z_lk (q :: lv) i = if q.1 = i then some q.2 else z_lk lv i := by
  unfold z_lk
  rw [List.find?_cons]
  by_cases h : q.1 = i
  · simp [h]
  · have h2 : (q.1 == i) = false := by simpa using h
    rw [h2, if_neg h]
theorem z_lk_filter (p : Nat × Value → Bool) (i : Nat) (v : Value) (hp : p (i, v) = true) : ∀ lv : z_L, z_lk lv i = some v → z_lk (lv.filter p) i = some v
  | [], h => by cases h
  | q :: lv, h => by
    rw [z_lk_cons] at h
    by_cases hq : q.1 = i
    · rw [if_pos hq] at h
      have h2 : q = (i, v) := by
        cases q
        simp at hq h
        rw [hq, h]
      rw [h2, List.filter_cons_of_pos hp, z_lk_cons]
      simp
    · rw [if_neg hq] at h
      have ih := z_lk_filter p i v hp lv h
      by_cases hb : p q = true
      · rw [List.filter_cons_of_pos hb, z_lk_cons, if_neg hq]; exact ih
      · rw [List.filter_cons_of_neg hb]; exact ih
theorem l_clr_get {L : List (Option Value)} {i k : Nat} {w : Value} (h : (l_clr L i)[k]? = some (some w)) : L[k]? = some (some w) ∧ ¬ (k + 1 = i ∧ w.category = 2) := by
  unfold l_clr at h
  split at h
  · exact ⟨h, fun z => by omega⟩
  · rename_i j
    split at h
    · rename_i v hv
      split at h
      · rename_i hc
        rw [List.getElem?_set] at h
        split at h
        · split at h <;> cases h
        · rename_i hjk
          exact ⟨h, fun z => hjk (by omega)⟩
      · rename_i hc
        refine ⟨h, fun z => ?_⟩
        have : j = k := by omega
        subst this
        rw [hv] at h
        cases h
        exact hc z.2
    · rename_i hv
      refine ⟨h, fun z => ?_⟩
      have : j = k := by omega
      subst this
      exact hv _ h
theorem l_has.put1 {lv : z_L} {L : List (Option Value)} (h : l_has lv L) (i : Nat) (v : Value) : l_has (z_put1 lv i v) (l_put1 L i v) := by
  intro k w hk
  unfold z_put1
  rw [z_lk_cons]
  unfold l_put1 at hk
  rw [List.getElem?_set] at hk
  split at hk
  · rename_i hik
    split at hk
    · cases hk; rw [if_pos hik]
    · cases hk
  · rename_i hik
    rw [if_neg (by simpa using hik)]
    obtain ⟨h1, h2⟩ := l_clr_get hk
    refine z_lk_filter _ k w ?_ lv (h k w h1)
    have h3 : ¬ k = i := fun z => hik z.symm
    simp [h3]
    exact Decidable.not_and_iff_or_not.mp h2
theorem l_has.put2 {lv : z_L} {L : List (Option Value)} (h : l_has lv L) (i : Nat) (v : Value) : l_has (z_put2 lv i v) (l_put2 L i v) := by
  intro k w hk
  unfold z_put2
  rw [z_lk_cons]
  unfold l_put2 at hk
  rw [List.getElem?_set] at hk
  split at hk
  · rename_i hik
    split at hk
    · cases hk; rw [if_pos hik]
    · cases hk
  · rename_i hik
    rw [if_neg (by simpa using hik)]
    rw [List.getElem?_set] at hk
    split at hk
    · split at hk <;> cases hk
    · rename_i hik2
      obtain ⟨h1, h2⟩ := l_clr_get hk
      refine z_lk_filter _ k w ?_ lv (h k w h1)
      have h3 : ¬ k = i := fun z => hik z.symm
      have h4 : ¬ k = i + 1 := fun z => hik2 z.symm
      simp [h3, h4]
      exact Decidable.not_and_iff_or_not.mp h2
theorem l_has_args : ∀ (as : List Value) (n i : Nat) (v : Value), (l_args as)[i]? = some (some v) → z_lk (lv_args n as) (n + i) = some v
  | [], n, i, v, h => by simp [l_args] at h
  | a :: t, n, i, v, h => by
    show z_lk ((n, a) :: lv_args (if a.category = 2 then n + 2 else n + 1) t) (n + i) = some v
    rw [z_lk_cons]
    unfold l_args at h
    split at h
    · rename_i hc
      match i, h with
      | 0, h => simp at h; simp [h]
      | 1, h => simp at h
      | i + 2, h =>
        rw [if_neg (by simp), if_pos hc]
        have := l_has_args t (n + 2) i v (by simpa using h)
        rw [show n + (i + 2) = n + 2 + i by omega]; exact this
    · rename_i hc
      match i, h with
      | 0, h => simp at h; simp [h]
      | i + 1, h =>
        rw [if_neg (by simp), if_neg hc]
        have := l_has_args t (n + 1) i v (by simpa using h)
        rw [show n + (i + 1) = n + 1 + i by omega]; exact this
theorem l_has.ent (as : List Value) (k : Nat) : l_has (lv_args 0 as) (l_args as ++ List.replicate k none) := by
  intro i v h
  rw [List.getElem?_append] at h
  split at h
  · have := l_has_args as 0 i v h
    simpa using this
  · rw [List.getElem?_replicate] at h
    split at h <;> cases h
/-- the run from here comes to an end, with Q -/
def w_P (sc : Nat × (Nat → Int32)) (fr lo y own nL : Nat) (cons : Bool) (ret : Option FieldType) (cc : ByteArray) (pc : Nat) (L : List (Option Value)) (st : List Value) (τ : z_T) (Q : z_O → z_T → Prop) : Prop :=
  ∃ (o : z_O) (τ' : z_T), Q o τ' ∧ ∃ N0 : Nat, ∀ (N M : Nat) (lv : z_L), N0 ≤ N → N0 ≤ M → l_has lv L → z_exec sc fr lo y own nL cons ret cc (z_cl sc fr M) N pc lv st τ = some (o, τ')
/-- a call comes to an end, with Q -/
def w_S (sc : Nat × (Nat → Int32)) (fr lo y : Nat) (as : List Value) (τ : z_T) (Q : z_O → z_T → Prop) : Prop :=
  ∃ (o : z_O) (τ' : z_T), Q o τ' ∧ ∃ N0 : Nat, ∀ N : Nat, N0 ≤ N → z_run sc N fr lo y as τ = some (o, τ')
section WP
variable {sc : Nat × (Nat → Int32)} {fr lo y own nL : Nat} {cons : Bool} {ret : Option FieldType} {cc : ByteArray} {pc : Nat} {L L' : List (Option Value)} {st st' : List Value} {τ τ' : z_T} {Q Q' : z_O → z_T → Prop} {ins : Instr} {len : Nat}
theorem w_P.mono (h : ∀ o t, Q o t → Q' o t) (k : w_P sc fr lo y own nL cons ret cc pc L st τ Q) : w_P sc fr lo y own nL cons ret cc pc L st τ Q' := by
  obtain ⟨o, t, hQ, N0, h0⟩ := k
  exact ⟨o, t, h o t hQ, N0, h0⟩
theorem w_S.mono {as : List Value} (h : ∀ o t, Q o t → Q' o t) (k : w_S sc fr lo y as τ Q) : w_S sc fr lo y as τ Q' := by
  obtain ⟨o, t, hQ, N0, h0⟩ := k
  exact ⟨o, t, h o t hQ, N0, h0⟩
/-- fewer listed locals -/
theorem w_P.less (h : ∀ (i : Nat) (v : Value), L'[i]? = some (some v) → L[i]? = some (some v)) (k : w_P sc fr lo y own nL cons ret cc pc L' st τ Q) : w_P sc fr lo y own nL cons ret cc pc L st τ Q := by
  obtain ⟨o, t, hQ, N0, h0⟩ := k
  exact ⟨o, t, hQ, N0, fun N M lv h1 h2 h3 => h0 N M lv h1 h2 (fun i v hi => h3 i v (h i v hi))⟩
theorem z_run_eq (N : Nat) (as : List Value) : z_run sc N fr lo y as τ = z_body sc fr lo (z_cl sc fr N) N y as τ := by
  cases fr <;> rfl
theorem w_S.of {as : List Value} {L0 : List (Option Value)} (hy : zt_bi y = none) (hc : zt_codes[y]? = some (own, cc, nL, ret, cons)) (hn : (as.map fun v => v.category).sum ≤ nL) (hL : L0 = l_args as ++ List.replicate (nL - (l_args as).length) none)
    (k : w_P sc fr lo y own nL cons ret cc 0 L0 [] τ Q) : w_S sc fr lo y as τ Q := by
  obtain ⟨o, t, hQ, N0, h0⟩ := k
  refine ⟨o, t, hQ, N0, fun N h1 => ?_⟩
  rw [z_run_eq]
  unfold z_body
  rw [hy, hc]
  show (if _ then _ else _) = _
  rw [if_pos hn]
  exact h0 N N _ h1 h1 (by rw [hL]; exact l_has.ent as _)
theorem w_next {pc' : Nat} (h : ∀ call lv, l_has lv L → ∃ lv', l_has lv' L' ∧ z_step sc fr lo y own nL cons ret cc call pc lv st τ = some (.inl (pc', lv', st', τ'))) (k : w_P sc fr lo y own nL cons ret cc pc' L' st' τ' Q) : w_P sc fr lo y own nL cons ret cc pc L st τ Q := by
  obtain ⟨o, t, hQ, N0, h0⟩ := k
  refine ⟨o, t, hQ, N0 + 1, fun N M lv h1 h2 h3 => ?_⟩
  cases N with
  | zero => omega
  | succ N =>
    obtain ⟨lv', h4, h5⟩ := h (z_cl sc fr M) lv h3
    rw [z_exec, h5]
    exact h0 N M lv' (by omega) (by omega) h4
theorem w_done {o : z_O} (h : ∀ call lv, z_step sc fr lo y own nL cons ret cc call pc lv st τ = some (.inr (o, τ'))) (k : Q o τ') : w_P sc fr lo y own nL cons ret cc pc L st τ Q := by
  refine ⟨o, τ', k, 1, fun N M lv h1 h2 h3 => ?_⟩
  cases N with
  | zero => omega
  | succ N => rw [z_exec, h]
end WP
