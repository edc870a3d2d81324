/-! THE PURE PART, 3: the memory of the law's run. A cell's kind is fixed by its address: sh. What it holds: int and long fields, other fields, arrays' elements -/
def sh_l : List ((Nat × List Nat) ⊕ (Nat × Nat)) := [.inl (0, [4, 23, 38, 2]), .inr (4, 2), .inl (2, [4, 5, 6, 7, 8, 9, 10, 0]), .inr (0, 240), .inr (1, 240), .inr (0, 240), .inr (0, 240), .inr (0, 240), .inr (0, 240), .inl (1, [4, 0]), .inr (2, 240), .inl (2, [4, 5, 6, 7, 8, 9, 10, 0]), .inr (0, 240), .inr (1, 240), .inr (0, 240), .inr (0, 240), .inr (0, 240), .inr (0, 240), .inl (1, [4, 0]), .inr (2, 240), .inl (5, [4, 7, 8, 2, 2, 0, 0, 0, 0, 0]), .inl (3, [4, 5, 0]), .inr (0, 24), .inr (0, 24), .inl (4, [1, 0, 0]), .inr (0, 240), .inl (2, [4, 5, 6, 7, 8, 9, 10, 0]), .inr (0, 240), .inr (1, 240), .inr (0, 240), .inr (0, 240), .inr (0, 240), .inr (0, 240), .inl (1, [4, 0]), .inr (2, 240), .inl (6, [4, 7, 9, 2, 2]), .inl (3, [4, 5, 0]), .inr (0, 24), .inr (0, 24), .inl (1, [4, 0]), .inr (2, 480), .inr (2, 20), .inl (1, [4, 0]), .inr (2, 240), .inl (1, [4, 0]), .inr (2, 240), .inl (7, [0, 0, 4, 0, 0, 5, 6, 7, 8, 9, 10, 11, 12, 13, 14, 0, 0, 0, 0, 0, 15, 16, 17, 18, 0, 0, 0, 19, 20, 21, 0, 0, 0, 0, 22, 23, 24, 25, 26, 27, 28, 0, 29]), .inr (0, 240), .inr (0, 2), .inr (0, 384), .inr (1, 384), .inr (0, 384), .inr (0, 384), .inr (0, 384), .inr (0, 384), .inr (0, 384), .inr (0, 384), .inr (0, 720), .inr (0, 9), .inr (0, 9), .inr (0, 9), .inr (0, 9), .inr (0, 24), .inr (0, 24), .inr (0, 240), .inr (0, 12), .inr (0, 12), .inr (3, 12), .inr (3, 12), .inr (3, 12), .inr (0, 12), .inr (0, 300), .inr (0, 600), .inr (1, 1)]
def sh (a : Nat) : Option ((Nat × List Nat) ⊕ (Nat × Nat)) := sh_l[a]?
/-- int and long fields; other fields (and the trees of the two slots); elements -/
abbrev Mem : Type := (Nat → Nat → Int) × (Nat → Nat → Value) × (Nat → Int → Int)
def m_fl (μ : Mem) (a k : Nat) : Nat → Value
  | 0 => .int (ji (μ.1 a k))
  | 1 => .long (jl (μ.1 a k))
  | 2 => μ.2.1 a k
  | n + 3 => .ref (a + n)
def m_fs (μ : Mem) (a : Nat) : Nat → List Nat → List Value
  | _, [] => []
  | k, t :: ts => m_fl μ a k t :: m_fs μ a (k + 1) ts
def m_rf : Value → Option Nat
  | .ref b => some b
  | _ => none
def m_ar (μ : Mem) (a : Nat) : Nat → Nat → va_E
  | 1, n => .inl (1, n, .inr (.inl (fun i => jl (μ.2.2 a (i : Int)))))
  | 4, n => .inl (4, n, .inr (.inr (.inr (.inr (fun i => m_rf (μ.2.1 a i))))))
  | t, n => .inl (t, n, .inl (fun i => ji (μ.2.2 a (i : Int))))
def hp (μ : Mem) : z_H := fun a => match sh a with
  | none => none
  | some (.inl (ci, tys)) => some (.inr (ci, m_fs μ a 0 tys))
  | some (.inr (t, n)) => some (m_ar μ a t n)
def stI (μ : Mem) (a k : Nat) (v : Int) : Mem := (fun b m => if b = a ∧ m = k then v else μ.1 b m, μ.2)
def stR (μ : Mem) (a k : Nat) (v : Value) : Mem := (μ.1, fun b m => if b = a ∧ m = k then v else μ.2.1 b m, μ.2.2)
def stA (μ : Mem) (a : Nat) (i v : Int) : Mem := (μ.1, μ.2.1, fun b m => if b = a ∧ m = i then v else μ.2.2 b m)
theorem m_fs_get (μ : Mem) (a : Nat) : ∀ (tys : List Nat) (j k : Nat), (m_fs μ a j tys)[k]? = (tys[k]?).map (m_fl μ a (j + k))
  | [], j, k => by simp [m_fs]
  | t :: ts, j, 0 => by simp [m_fs]
  | t :: ts, j, k + 1 => by
    show (m_fs μ a (j + 1) ts)[k]? = _
    rw [m_fs_get μ a ts (j + 1) k, List.getElem?_cons_succ, show j + 1 + k = j + (k + 1) by omega]
theorem m_fs_len (μ : Mem) (a : Nat) : ∀ (tys : List Nat) (j : Nat), (m_fs μ a j tys).length = tys.length
  | [], _ => rfl
  | t :: ts, j => by simp [m_fs, m_fs_len μ a ts (j + 1)]
theorem hp_o {μ : Mem} {a ci : Nat} {tys : List Nat} (h : sh a = some (.inl (ci, tys))) : hp μ a = some (.inr (ci, m_fs μ a 0 tys)) := by
  unfold hp
  rw [h]
theorem hp_a {μ : Mem} {a t n : Nat} (h : sh a = some (.inr (t, n))) : hp μ a = some (m_ar μ a t n) := by
  unfold hp
  rw [h]
theorem m_fs_ext {μ ν : Mem} {a : Nat} {tys : List Nat} (h : ∀ k t, tys[k]? = some t → m_fl μ a k t = m_fl ν a k t) : m_fs μ a 0 tys = m_fs ν a 0 tys := by
  apply List.ext_getElem?
  intro k
  rw [m_fs_get, m_fs_get]
  cases hk : tys[k]? with
  | none => rfl
  | some t => simp [h k t hk]
theorem hp_ext {μ ν : Mem} {a : Nat} (h1 : ∀ k, μ.1 a k = ν.1 a k) (h2 : ∀ k, μ.2.1 a k = ν.2.1 a k) (h3 : ∀ i, μ.2.2 a i = ν.2.2 a i) : hp μ a = hp ν a := by
  unfold hp
  split
  · rfl
  · rw [m_fs_ext (ν := ν)]
    intro k t _
    unfold m_fl
    split <;> first | rw [h1] | rw [h2] | rfl
  · congr 1
    unfold m_ar
    split <;> simp only [h2, h3]
theorem m_set {μ ν : Mem} {ρ : Nat × Nat × Nat} {a : Nat} {e : va_E} (he : hp ν a = some e) (h : ∀ b, b ≠ a → hp ν b = hp μ b) : z_set (hp μ, ρ) a e = (hp ν, ρ) := by
  unfold z_set
  congr 1
  funext q
  by_cases hq : q = a
  · rw [if_pos hq, hq, he]
  · rw [if_neg hq, h q hq]
theorem m_setF {μ ν : Mem} {a ci k t : Nat} {tys : List Nat} {v : Value} (hs : sh a = some (.inl (ci, tys))) (ht : tys[k]? = some t) (hv : m_fl ν a k t = v) (h : ∀ m u, m ≠ k → m_fl ν a m u = m_fl μ a m u) : hp ν a = some (.inr (ci, (m_fs μ a 0 tys).set k v)) := by
  rw [hp_o hs]
  congr 3
  apply List.ext_getElem?
  intro m
  rw [m_fs_get, List.getElem?_set, m_fs_get, m_fs_len, Nat.zero_add]
  have hk : k < tys.length := (List.getElem?_eq_some_iff.mp ht).1
  by_cases hm : k = m
  · subst hm
    rw [if_pos rfl, if_pos hk, ht]
    simp [hv]
  · rw [if_neg hm]
    cases hu : tys[m]? with
    | none => rfl
    | some u => simp [h m u (fun z => hm z.symm)]
theorem stI_o {μ : Mem} {a k b : Nat} {v : Int} (h : b ≠ a) : hp (stI μ a k v) b = hp μ b := hp_ext (fun m => if_neg (fun z => h z.1)) (fun _ => rfl) (fun _ => rfl)
theorem stR_o {μ : Mem} {a k b : Nat} {v : Value} (h : b ≠ a) : hp (stR μ a k v) b = hp μ b := hp_ext (fun _ => rfl) (fun m => if_neg (fun z => h z.1)) (fun _ => rfl)
theorem stA_o {μ : Mem} {a b : Nat} {i v : Int} (h : b ≠ a) : hp (stA μ a i v) b = hp μ b := hp_ext (fun _ => rfl) (fun _ => rfl) (fun m => if_neg (fun z => h z.1))
section MR
variable {sc : Nat × (Nat → Int32)} {fr lo y own nL : Nat} {cons : Bool} {ret : Option FieldType} {cc : ByteArray} {pc : Nat} {L L' : List (Option Value)} {st : List Value} {μ : Mem} {ρ : Nat × Nat × Nat} {Q : z_O → z_T → Prop}
theorem w_get {i ci k t a : Nat} {tys : List Nat} {v : Value} (hd : decode cc pc = .ok (.getfield i, 3)) (hf : zt_f own i = some (ci, k)) (hs : sh a = some (.inl (ci, tys))) (ht : tys[k]? = some t) (hv : m_fl μ a k t = v) (kk : w_P sc fr lo y own nL cons ret cc (pc + 3) L (v :: st) (hp μ, ρ) Q) : w_P sc fr lo y own nL cons ret cc pc L (.ref a :: st) (hp μ, ρ) Q := by
  refine w_rd hd ?_ kk
  show (match zt_f own i, hp μ a with | some (ci, k), some (.inr (cj, fs)) => if ci = cj then (fs[k]?).map fun v => v :: st else none | _, _ => none) = _
  rw [hf, hp_o hs]
  show (if ci = ci then _ else _) = _
  rw [if_pos rfl, m_fs_get, ht, Nat.zero_add, Option.map_some, Option.map_some, hv]
theorem w_getI {i ci k a : Nat} {tys : List Nat} (hd : decode cc pc = .ok (.getfield i, 3)) (hf : zt_f own i = some (ci, k)) (hs : sh a = some (.inl (ci, tys))) (ht : tys[k]? = some 0) (kk : w_P sc fr lo y own nL cons ret cc (pc + 3) L (.int (ji (μ.1 a k)) :: st) (hp μ, ρ) Q) : w_P sc fr lo y own nL cons ret cc pc L (.ref a :: st) (hp μ, ρ) Q := w_get hd hf hs ht rfl kk
theorem w_getJ {i ci k a : Nat} {tys : List Nat} (hd : decode cc pc = .ok (.getfield i, 3)) (hf : zt_f own i = some (ci, k)) (hs : sh a = some (.inl (ci, tys))) (ht : tys[k]? = some 1) (kk : w_P sc fr lo y own nL cons ret cc (pc + 3) L (.long (jl (μ.1 a k)) :: st) (hp μ, ρ) Q) : w_P sc fr lo y own nL cons ret cc pc L (.ref a :: st) (hp μ, ρ) Q := w_get hd hf hs ht rfl kk
theorem w_getR {i ci k a : Nat} {tys : List Nat} {v : Value} (hd : decode cc pc = .ok (.getfield i, 3)) (hf : zt_f own i = some (ci, k)) (hs : sh a = some (.inl (ci, tys))) (ht : tys[k]? = some 2) (hv : μ.2.1 a k = v) (kk : w_P sc fr lo y own nL cons ret cc (pc + 3) L (v :: st) (hp μ, ρ) Q) : w_P sc fr lo y own nL cons ret cc pc L (.ref a :: st) (hp μ, ρ) Q := w_get hd hf hs ht hv kk
theorem w_getF {i ci k a n b : Nat} {tys : List Nat} (hd : decode cc pc = .ok (.getfield i, 3)) (hf : zt_f own i = some (ci, k)) (hs : sh a = some (.inl (ci, tys))) (ht : tys[k]? = some (n + 3)) (hb : a + n = b) (kk : w_P sc fr lo y own nL cons ret cc (pc + 3) L (.ref b :: st) (hp μ, ρ) Q) : w_P sc fr lo y own nL cons ret cc pc L (.ref a :: st) (hp μ, ρ) Q := w_get hd hf hs ht (by rw [← hb]; rfl) kk
theorem w_put {i ci k a t : Nat} {tys : List Nat} {v : Value} {ν : Mem} (hd : decode cc pc = .ok (.putfield i, 3)) (hf : zt_f own i = some (ci, k)) (hs : sh a = some (.inl (ci, tys))) (ht : tys[k]? = some t) (hfit : z_fit ci k v = true) (hfin : z_fin own cons ci k = true) (hv : m_fl ν a k t = v) (h : ∀ m u, m ≠ k → m_fl ν a m u = m_fl μ a m u) (ho : ∀ b, b ≠ a → hp ν b = hp μ b) (kk : w_P sc fr lo y own nL cons ret cc (pc + 3) L st (hp ν, ρ) Q) : w_P sc fr lo y own nL cons ret cc pc L (v :: .ref a :: st) (hp μ, ρ) Q := by
  refine w_wr hd ?_ kk
  show (match zt_f own i, hp μ a with | some (ci, k), some (.inr (cj, fs)) => if ci = cj ∧ k < fs.length ∧ z_fit ci k v = true ∧ z_fin own cons ci k = true then some (st, z_set (hp μ, ρ) a (.inr (cj, fs.set k v))) else none | _, _ => none) = _
  rw [hf, hp_o hs]
  show (if _ then some (st, z_set (hp μ, ρ) a (.inr (ci, (m_fs μ a 0 tys).set k v))) else none) = _
  rw [if_pos ⟨rfl, by rw [m_fs_len]; exact (List.getElem?_eq_some_iff.mp ht).1, hfit, hfin⟩, m_set (m_setF hs ht hv h) ho]
theorem w_putI {i ci k a : Nat} {v : Int} {tys : List Nat} (hd : decode cc pc = .ok (.putfield i, 3)) (hf : zt_f own i = some (ci, k)) (hs : sh a = some (.inl (ci, tys))) (ht : tys[k]? = some 0) (hfit : z_fit ci k (.int (ji v)) = true) (hfin : z_fin own cons ci k = true) (kk : w_P sc fr lo y own nL cons ret cc (pc + 3) L st (hp (stI μ a k v), ρ) Q) : w_P sc fr lo y own nL cons ret cc pc L (.int (ji v) :: .ref a :: st) (hp μ, ρ) Q := by
  refine w_put hd hf hs ht hfit hfin (by simp [m_fl, stI]) (fun m u hm => ?_) (fun b hb => stI_o hb) kk
  unfold m_fl
  split <;> simp [stI, hm]
theorem w_putJ {i ci k a : Nat} {v : Int} {tys : List Nat} (hd : decode cc pc = .ok (.putfield i, 3)) (hf : zt_f own i = some (ci, k)) (hs : sh a = some (.inl (ci, tys))) (ht : tys[k]? = some 1) (hfit : z_fit ci k (.long (jl v)) = true) (hfin : z_fin own cons ci k = true) (kk : w_P sc fr lo y own nL cons ret cc (pc + 3) L st (hp (stI μ a k v), ρ) Q) : w_P sc fr lo y own nL cons ret cc pc L (.long (jl v) :: .ref a :: st) (hp μ, ρ) Q := by
  refine w_put hd hf hs ht hfit hfin (by simp [m_fl, stI]) (fun m u hm => ?_) (fun b hb => stI_o hb) kk
  unfold m_fl
  split <;> simp [stI, hm]
theorem w_putR {i ci k a b : Nat} {tys : List Nat} (hd : decode cc pc = .ok (.putfield i, 3)) (hf : zt_f own i = some (ci, k)) (hs : sh a = some (.inl (ci, tys))) (ht : tys[k]? = some 2) (hfit : z_fit ci k (.ref b) = true) (hfin : z_fin own cons ci k = true) (kk : w_P sc fr lo y own nL cons ret cc (pc + 3) L st (hp (stR μ a k (.ref b)), ρ) Q) : w_P sc fr lo y own nL cons ret cc pc L (.ref b :: .ref a :: st) (hp μ, ρ) Q := by
  refine w_put hd hf hs ht hfit hfin (by simp [m_fl, stR]) (fun m u hm => ?_) (fun b hb => stR_o hb) kk
  unfold m_fl
  split <;> simp [stR, hm]
theorem ji_in {i : Int} {n : Nat} (h : 0 ≤ i ∧ i < n ∧ n < 2147483648) : ¬ (ji i < 0 ∨ n ≤ (ji i).toNatClampNeg) := by
  rw [ji_clamp (by omega)]
  have : ¬ ji i < 0 := fun z => by
    have := (ji_lt (x := i) (y := 0) (by omega) (by omega)).mp z
    omega
  rintro (z | z)
  · exact this z
  · omega
theorem w_iald {a n : Nat} {i : Int} (hd : decode cc pc = .ok (.iaload, 1)) (hs : sh a = some (.inr (0, n))) (hi : 0 ≤ i ∧ i < n ∧ n < 2147483648) (kk : w_P sc fr lo y own nL cons ret cc (pc + 1) L (.int (ji (μ.2.2 a i)) :: st) (hp μ, ρ) Q) : w_P sc fr lo y own nL cons ret cc pc L (.int (ji i) :: .ref a :: st) (hp μ, ρ) Q := by
  refine w_rd hd ?_ kk
  show (match hp μ a with | some (.inl (0, n, .inl f)) => if ji i < 0 ∨ n ≤ (ji i).toNatClampNeg then none else some (Value.int (f (ji i).toNatClampNeg) :: st) | _ => none) = _
  rw [hp_a hs]
  show (if ji i < 0 ∨ n ≤ (ji i).toNatClampNeg then none else some (Value.int (ji (μ.2.2 a ((ji i).toNatClampNeg : Int))) :: st)) = _
  rw [if_neg (ji_in hi), ji_clamp (by omega), Int.toNat_of_nonneg hi.1]
theorem w_cald {a n : Nat} {i : Int} (hd : decode cc pc = .ok (.caload, 1)) (hs : sh a = some (.inr (2, n))) (hi : 0 ≤ i ∧ i < n ∧ n < 2147483648) (kk : w_P sc fr lo y own nL cons ret cc (pc + 1) L (.int (ji (μ.2.2 a i)) :: st) (hp μ, ρ) Q) : w_P sc fr lo y own nL cons ret cc pc L (.int (ji i) :: .ref a :: st) (hp μ, ρ) Q := by
  refine w_rd hd ?_ kk
  show (match hp μ a with | some (.inl (2, n, .inl f)) => if ji i < 0 ∨ n ≤ (ji i).toNatClampNeg then none else some (Value.int (f (ji i).toNatClampNeg) :: st) | _ => none) = _
  rw [hp_a hs]
  show (if ji i < 0 ∨ n ≤ (ji i).toNatClampNeg then none else some (Value.int (ji (μ.2.2 a ((ji i).toNatClampNeg : Int))) :: st)) = _
  rw [if_neg (ji_in hi), ji_clamp (by omega), Int.toNat_of_nonneg hi.1]
theorem w_bald {a n : Nat} {i : Int} (hd : decode cc pc = .ok (.baload, 1)) (hs : sh a = some (.inr (3, n))) (hi : 0 ≤ i ∧ i < n ∧ n < 2147483648) (kk : w_P sc fr lo y own nL cons ret cc (pc + 1) L (.int (ji (μ.2.2 a i)) :: st) (hp μ, ρ) Q) : w_P sc fr lo y own nL cons ret cc pc L (.int (ji i) :: .ref a :: st) (hp μ, ρ) Q := by
  refine w_rd hd ?_ kk
  show (match hp μ a with | some (.inl (3, n, .inl f)) => if ji i < 0 ∨ n ≤ (ji i).toNatClampNeg then none else some (Value.int (f (ji i).toNatClampNeg) :: st) | _ => none) = _
  rw [hp_a hs]
  show (if ji i < 0 ∨ n ≤ (ji i).toNatClampNeg then none else some (Value.int (ji (μ.2.2 a ((ji i).toNatClampNeg : Int))) :: st)) = _
  rw [if_neg (ji_in hi), ji_clamp (by omega), Int.toNat_of_nonneg hi.1]
theorem w_lald {a n : Nat} {i : Int} (hd : decode cc pc = .ok (.laload, 1)) (hs : sh a = some (.inr (1, n))) (hi : 0 ≤ i ∧ i < n ∧ n < 2147483648) (kk : w_P sc fr lo y own nL cons ret cc (pc + 1) L (.long (jl (μ.2.2 a i)) :: st) (hp μ, ρ) Q) : w_P sc fr lo y own nL cons ret cc pc L (.int (ji i) :: .ref a :: st) (hp μ, ρ) Q := by
  refine w_rd hd ?_ kk
  show (match hp μ a with | some (.inl (1, n, .inr (.inl f))) => if ji i < 0 ∨ n ≤ (ji i).toNatClampNeg then none else some (Value.long (f (ji i).toNatClampNeg) :: st) | _ => none) = _
  rw [hp_a hs]
  show (if ji i < 0 ∨ n ≤ (ji i).toNatClampNeg then none else some (Value.long (jl (μ.2.2 a ((ji i).toNatClampNeg : Int))) :: st)) = _
  rw [if_neg (ji_in hi), ji_clamp (by omega), Int.toNat_of_nonneg hi.1]
theorem w_iast {a n : Nat} {i v : Int} (hd : decode cc pc = .ok (.iastore, 1)) (hs : sh a = some (.inr (0, n))) (hi : 0 ≤ i ∧ i < n ∧ n < 2147483648) (kk : w_P sc fr lo y own nL cons ret cc (pc + 1) L st (hp (stA μ a i v), ρ) Q) : w_P sc fr lo y own nL cons ret cc pc L (.int (ji v) :: .int (ji i) :: .ref a :: st) (hp μ, ρ) Q := by
  refine w_wr hd ?_ kk
  show (match hp μ a with | some (.inl (0, n, .inl f)) => if ji i < 0 ∨ n ≤ (ji i).toNatClampNeg then none else some (st, z_set (hp μ, ρ) a (.inl (0, n, .inl (upd f (ji i).toNatClampNeg (ji v))))) | _ => none) = _
  rw [hp_a hs]
  show (if ji i < 0 ∨ n ≤ (ji i).toNatClampNeg then none else some (st, z_set (hp μ, ρ) a (.inl (0, n, .inl (upd (fun i => ji (μ.2.2 a (i : Int))) (ji i).toNatClampNeg (ji v)))))) = _
  rw [if_neg (ji_in hi), ji_clamp (by omega), m_set (ν := stA μ a i v) _ (fun b hb => stA_o hb)]
  rw [hp_a hs]
  show some (Sum.inl (0, n, Sum.inl (fun j : Nat => ji ((stA μ a i v).2.2 a (j : Int))))) = some (Sum.inl (0, n, Sum.inl (upd (fun j : Nat => ji (μ.2.2 a (j : Int))) i.toNat (ji v))))
  congr 5
  funext j
  unfold upd
  by_cases hj : j = i.toNat
  · rw [if_pos hj]
    simp only [stA]
    rw [if_pos ⟨trivial, by omega⟩]
  · rw [if_neg hj]
    simp only [stA]
    rw [if_neg (fun z => hj (by omega))]
theorem nar_c {v : Int} (h : 0 ≤ v ∧ v < 65536) : vp_nar .char (ji v) = ji v := by
  have h1 : narrow .char (.int (ji v)) = .int ((ji v).toUInt32 % 65536).toInt32 := rfl
  unfold vp_nar
  rw [h1]
  show ((ji v).toUInt32 % 65536).toInt32 = ji v
  obtain ⟨n, rfl⟩ : ∃ n : Nat, v = n := ⟨v.toNat, by omega⟩
  have hn : n < 65536 := by omega
  have h2 : ji (n : Int) = Int32.ofNat n := rfl
  have h3 : (Int32.ofNat n).toUInt32 = UInt32.ofNat n := rfl
  have h4 : UInt32.ofNat n % 65536 = UInt32.ofNat n := by
    apply UInt32.toNat_inj.mp
    rw [UInt32.toNat_mod, UInt32.toNat_ofNat_of_lt' (show n < 4294967296 by omega)]
    exact Nat.mod_eq_of_lt hn
  rw [h2, h3, h4]
  rfl
theorem nar_b {v : Int} (h : v = 0 ∨ v = 1) : vp_nar .boolean (ji v) = ji v := by
  rcases h with rfl | rfl <;> rfl
theorem w_cast {a n : Nat} {i v : Int} (hd : decode cc pc = .ok (.castore, 1)) (hs : sh a = some (.inr (2, n))) (hi : 0 ≤ i ∧ i < n ∧ n < 2147483648) (hv : 0 ≤ v ∧ v < 65536) (kk : w_P sc fr lo y own nL cons ret cc (pc + 1) L st (hp (stA μ a i v), ρ) Q) : w_P sc fr lo y own nL cons ret cc pc L (.int (ji v) :: .int (ji i) :: .ref a :: st) (hp μ, ρ) Q := by
  refine w_wr hd ?_ kk
  show (match hp μ a with | some (.inl (2, n, .inl f)) => if ji i < 0 ∨ n ≤ (ji i).toNatClampNeg then none else some (st, z_set (hp μ, ρ) a (.inl (2, n, .inl (upd f (ji i).toNatClampNeg (vp_nar .char (ji v)))))) | _ => none) = _
  rw [hp_a hs]
  show (if ji i < 0 ∨ n ≤ (ji i).toNatClampNeg then none else some (st, z_set (hp μ, ρ) a (.inl (2, n, .inl (upd (fun i => ji (μ.2.2 a (i : Int))) (ji i).toNatClampNeg (vp_nar .char (ji v))))))) = _
  rw [if_neg (ji_in hi), ji_clamp (by omega), nar_c hv, m_set (ν := stA μ a i v) _ (fun b hb => stA_o hb)]
  rw [hp_a hs]
  show some (Sum.inl (2, n, Sum.inl (fun j : Nat => ji ((stA μ a i v).2.2 a (j : Int))))) = some (Sum.inl (2, n, Sum.inl (upd (fun j : Nat => ji (μ.2.2 a (j : Int))) i.toNat (ji v))))
  congr 5
  funext j
  unfold upd
  by_cases hj : j = i.toNat
  · rw [if_pos hj]
    simp only [stA]
    rw [if_pos ⟨trivial, by omega⟩]
  · rw [if_neg hj]
    simp only [stA]
    rw [if_neg (fun z => hj (by omega))]
theorem w_bast {a n : Nat} {i v : Int} (hd : decode cc pc = .ok (.bastore, 1)) (hs : sh a = some (.inr (3, n))) (hi : 0 ≤ i ∧ i < n ∧ n < 2147483648) (hv : v = 0 ∨ v = 1) (kk : w_P sc fr lo y own nL cons ret cc (pc + 1) L st (hp (stA μ a i v), ρ) Q) : w_P sc fr lo y own nL cons ret cc pc L (.int (ji v) :: .int (ji i) :: .ref a :: st) (hp μ, ρ) Q := by
  refine w_wr hd ?_ kk
  show (match hp μ a with | some (.inl (3, n, .inl f)) => if ji i < 0 ∨ n ≤ (ji i).toNatClampNeg then none else some (st, z_set (hp μ, ρ) a (.inl (3, n, .inl (upd f (ji i).toNatClampNeg (vp_nar .boolean (ji v)))))) | _ => none) = _
  rw [hp_a hs]
  show (if ji i < 0 ∨ n ≤ (ji i).toNatClampNeg then none else some (st, z_set (hp μ, ρ) a (.inl (3, n, .inl (upd (fun i => ji (μ.2.2 a (i : Int))) (ji i).toNatClampNeg (vp_nar .boolean (ji v))))))) = _
  rw [if_neg (ji_in hi), ji_clamp (by omega), nar_b hv, m_set (ν := stA μ a i v) _ (fun b hb => stA_o hb)]
  rw [hp_a hs]
  show some (Sum.inl (3, n, Sum.inl (fun j : Nat => ji ((stA μ a i v).2.2 a (j : Int))))) = some (Sum.inl (3, n, Sum.inl (upd (fun j : Nat => ji (μ.2.2 a (j : Int))) i.toNat (ji v))))
  congr 5
  funext j
  unfold upd
  by_cases hj : j = i.toNat
  · rw [if_pos hj]
    simp only [stA]
    rw [if_pos ⟨trivial, by omega⟩]
  · rw [if_neg hj]
    simp only [stA]
    rw [if_neg (fun z => hj (by omega))]
theorem w_last {a n : Nat} {i v : Int} (hd : decode cc pc = .ok (.lastore, 1)) (hs : sh a = some (.inr (1, n))) (hi : 0 ≤ i ∧ i < n ∧ n < 2147483648) (kk : w_P sc fr lo y own nL cons ret cc (pc + 1) L st (hp (stA μ a i v), ρ) Q) : w_P sc fr lo y own nL cons ret cc pc L (.long (jl v) :: .int (ji i) :: .ref a :: st) (hp μ, ρ) Q := by
  refine w_wr hd ?_ kk
  show (match hp μ a with | some (.inl (1, n, .inr (.inl f))) => if ji i < 0 ∨ n ≤ (ji i).toNatClampNeg then none else some (st, z_set (hp μ, ρ) a (.inl (1, n, .inr (.inl (vp_updL f (ji i).toNatClampNeg (jl v)))))) | _ => none) = _
  rw [hp_a hs]
  show (if ji i < 0 ∨ n ≤ (ji i).toNatClampNeg then none else some (st, z_set (hp μ, ρ) a (.inl (1, n, .inr (.inl (vp_updL (fun i => jl (μ.2.2 a (i : Int))) (ji i).toNatClampNeg (jl v))))))) = _
  rw [if_neg (ji_in hi), ji_clamp (by omega), m_set (ν := stA μ a i v) _ (fun b hb => stA_o hb)]
  rw [hp_a hs]
  show some (Sum.inl (1, n, Sum.inr (Sum.inl (fun j : Nat => jl ((stA μ a i v).2.2 a (j : Int)))))) = some (Sum.inl (1, n, Sum.inr (Sum.inl (vp_updL (fun j : Nat => jl (μ.2.2 a (j : Int))) i.toNat (jl v)))))
  congr 6
  funext j
  unfold vp_updL
  by_cases hj : j = i.toNat
  · rw [if_pos hj]
    simp only [stA]
    rw [if_pos ⟨trivial, by omega⟩]
  · rw [if_neg hj]
    simp only [stA]
    rw [if_neg (fun z => hj (by omega))]
end MR
/-- a call ends just so -/
abbrev w_E (sc : Nat × (Nat → Int32)) (fr lo y : Nat) (as : List Value) (τ : z_T) (o : z_O) (τ' : z_T) : Prop := w_S sc fr lo y as τ (fun o' t => o' = o ∧ t = τ')
section CR
variable {sc : Nat × (Nat → Int32)} {fr lo y own nL : Nat} {cons : Bool} {ret : Option FieldType} {cc : ByteArray} {pc : Nat} {L L' : List (Option Value)} {st : List Value} {τ τ' : z_T} {Q : z_O → z_T → Prop} {ins : Instr}
theorem w_cal {y' kd ci na maxL : Nat} {as rest : List Value} (hh : zt_hs y = false) (hd : decode cc pc = .ok (ins, 3)) (hc : z_cat ins = 8) (ho : z_obj fr lo own ins 3 st = none) (hi : z_inv own ins 3 = some y') (hm : zt_meth y' = some (kd, ci, na, maxL)) (hst : as.reverse ++ rest = st) (hna : as.length = na) (hrest : (rest.map fun v => v.category).sum ≤ 8) (hfr : 1 ≤ fr) (hlo : 19 + maxL ≤ lo) (h1 : kd = 1 → z_recv ci τ as = true) (h2 : kd = 2 → z_isr as = true) (h3 : kd = 3 → z_str as = true)
    (k : w_S sc (fr - 1) (lo - (19 + maxL)) y' as τ (fun o τ' => match o with
      | .inl v => w_P sc fr lo y own nL cons ret cc (pc + 3) L (v.toList ++ rest) τ' Q
      | .inr r => Q (.inr r) τ')) : w_P sc fr lo y own nL cons ret cc pc L st τ Q := by
  obtain ⟨o, t, hQ, N1, hN1⟩ := k
  have htk : (st.take na).reverse = as := by
    rw [← hst, ← hna, List.take_append_of_le_length (by simp), List.take_of_length_le (by simp), List.reverse_reverse]
  have hdr : st.drop na = rest := by
    rw [← hst, ← hna]
    simp
  have hln : na ≤ st.length := by rw [← hst, ← hna]; simp
  have hcl : ∀ M, N1 ≤ M → z_cl sc fr M (lo - (19 + maxL)) y' as τ = some (o, t) := by
    intro M hM
    cases fr with
    | zero => omega
    | succ f => exact hN1 M hM
  have hz : ∀ M lv, N1 ≤ M → z_step sc fr lo y own nL cons ret cc (z_cl sc fr M) pc lv st τ = match o with
      | .inl v => some (.inl (pc + 3, lv, v.toList ++ rest, t))
      | .inr r => some (.inr (.inr r, t)) := by
    intro M lv hM
    rw [s_cal hd hc ho]
    unfold z_cal
    simp only [hi, hm]
    rw [if_pos ⟨hln, by rw [hdr]; exact hrest, hfr, hlo, by rw [htk]; exact h1, by rw [htk]; exact h2, by rw [htk]; exact h3⟩, htk, hcl M hM, hdr]
    cases o with
    | inl v => rfl
    | inr r =>
      obtain ⟨i, x⟩ := r
      show (match zt_h y pc i with | none => _ | some g => _) = _
      rw [z_h_none hh pc i]
      show (if zt_hs y = true then none else _) = _
      rw [hh, if_neg (by decide)]
  cases o with
  | inl v =>
    obtain ⟨o2, t2, hQ2, N2, hN2⟩ := hQ
    refine ⟨o2, t2, hQ2, N1 + N2 + 1, fun N M lv hN hM hl => ?_⟩
    cases N with
    | zero => omega
    | succ N =>
      rw [z_exec, hz M lv (by omega)]
      exact hN2 N M lv (by omega) (by omega) hl
  | inr r =>
    refine ⟨.inr r, t, hQ, N1 + 1, fun N M lv hN hM hl => ?_⟩
    cases N with
    | zero => omega
    | succ N => rw [z_exec, hz M lv (by omega)]
theorem z_recv_o {μ : Mem} {ρ : Nat × Nat × Nat} {a ci : Nat} {tys : List Nat} {as : List Value} (hs : sh a = some (.inl (ci, tys))) : z_recv ci (hp μ, ρ) (.ref a :: as) = true := by
  show (match hp μ a with | some (.inr (cj, _)) => ci == cj | _ => false) = true
  rw [hp_o hs]
  simp
end CR
