/-! THE PURE PART, 24: rules for texts, longs, quotients, switches -/
/-- a literal's length, its letters -/
def slen (k : Nat) : Int := (zt_sl.getD k 0 : Nat)
def sch (k : Nat) (i : Int) : Int := ((zt_sb.getD k []).getD i.toNat 0).toInt
theorem slen_le {k : Nat} (h : k < 22) : 0 ≤ slen k ∧ slen k ≤ 7 := by
  have h1 : ∀ k : Fin 22, 0 ≤ slen k.val ∧ slen k.val ≤ 7 := by decide
  exact h1 ⟨k, h⟩
theorem sch_in {k : Nat} (h : k < 22) {i : Int} (hi : 0 ≤ i ∧ i < slen k) : 32 ≤ sch k i ∧ sch k i ≤ 126 := by
  have h1 : ∀ (k : Fin 22) (i : Fin 7), (i.val : Int) < slen k.val → 32 ≤ sch k.val (i.val : Int) ∧ sch k.val (i.val : Int) ≤ 126 := by decide +kernel
  have h2 := slen_le h
  have h3 := h1 ⟨k, h⟩ ⟨i.toNat, by omega⟩ (by simp only; omega)
  have h4 : ((i.toNat : Nat) : Int) = i := Int.toNat_of_nonneg hi.1
  simp only [h4] at h3
  exact h3
section R3
variable {sc : Nat × (Nat → Int32)} {fr lo y own nL : Nat} {cons : Bool} {ret : Option FieldType} {cc : ByteArray} {pc : Nat} {L L' : List (Option Value)} {st : List Value} {τ τ' : z_T} {μ : Mem} {ρ : Nat × Nat × Nat} {Q : z_O → z_T → Prop}
theorem w_lds {i k : Nat} (hd : decode cc pc = .ok (.ldc i, 2)) (h : zt_s own i = some k) (kk : w_P sc fr lo y own nL cons ret cc (pc + 2) L (.float (UInt32.ofNat k) :: st) τ Q) : w_P sc fr lo y own nL cons ret cc pc L st τ Q := w_ldc hd (fun st => by
  show (match zt_s own i with | some k => some (Value.float (UInt32.ofNat k) :: st) | none => (zt_i own i).map fun x => .int x :: st) = _
  rw [h]) kk
theorem w_ldl {i : Nat} {x : Int} (hd : decode cc pc = .ok (.ldc2_w i, 3)) (h : zt_l own i = some (jl x)) (kk : w_P sc fr lo y own nL cons ret cc (pc + 3) L (.long (jl x) :: st) τ Q) : w_P sc fr lo y own nL cons ret cc pc L st τ Q := w_ldc hd (fun st => by
  show (zt_l own i).map (fun x => Value.long x :: st) = _
  rw [h]
  rfl) kk
theorem w_slen {i k ci maxL : Nat} {rest : List Value} (hh : zt_hs y = false) (hd : decode cc pc = .ok (.invokevirtual i, 3)) (hi : zt_v own i = some 48) (hm : zt_meth 48 = some (3, ci, 1, maxL)) (hk : k < 22) (hrest : (rest.map fun v => v.category).sum ≤ 8) (hfr : 6 ≤ fr) (hlo : 319 + maxL ≤ lo) (kk : w_P sc fr lo y own nL cons ret cc (pc + 3) L (.int (ji (slen k)) :: rest) τ Q) : w_P sc fr lo y own nL cons ret cc pc L (.float (UInt32.ofNat k) :: rest) τ Q := by
  have hu : (UInt32.ofNat k).toNat = k := z_u32 (by omega)
  have hl : (zt_sl.length : Nat) = 22 := rfl
  refine w_cal (as := [.float (UInt32.ofNat k)]) (rest := rest) hh hd rfl rfl hi hm rfl rfl hrest (by omega) (by omega) (fun z => by cases z) (fun z => by cases z) (fun _ => ?_) ⟨.inl (some (.int (ji (slen k)))), τ, kk, 0, fun N _ => ?_⟩
  · show decide ((UInt32.ofNat k).toNat < zt_sl.length) = true
    rw [hu, hl]
    exact decide_eq_true hk
  · rw [z_run_eq]
    show (if 5 ≤ fr - 1 ∧ 300 ≤ lo - (19 + maxL) ∧ (UInt32.ofNat k).toNat < zt_sl.length then some ((.inl (some (.int (Int32.ofNat (zt_sl.getD (UInt32.ofNat k).toNat 0)))) : z_O), τ) else none) = _
    rw [hu, if_pos ⟨by omega, by omega, by omega⟩]
    rfl
theorem w_schr {i k ci maxL : Nat} {j : Int} {rest : List Value} (hh : zt_hs y = false) (hd : decode cc pc = .ok (.invokevirtual i, 3)) (hi : zt_v own i = some 49) (hm : zt_meth 49 = some (3, ci, 2, maxL)) (hk : k < 22) (hj : 0 ≤ j ∧ j < slen k) (hrest : (rest.map fun v => v.category).sum ≤ 8) (hfr : 6 ≤ fr) (hlo : 319 + maxL ≤ lo) (kk : w_P sc fr lo y own nL cons ret cc (pc + 3) L (.int (ji (sch k j)) :: rest) τ Q) : w_P sc fr lo y own nL cons ret cc pc L (.int (ji j) :: .float (UInt32.ofNat k) :: rest) τ Q := by
  have hu : (UInt32.ofNat k).toNat = k := z_u32 (by omega)
  have hl : (zt_sl.length : Nat) = 22 := rfl
  have h7 := slen_le hk
  refine w_cal (as := [.float (UInt32.ofNat k), .int (ji j)]) (rest := rest) hh hd rfl rfl hi hm rfl rfl hrest (by omega) (by omega) (fun z => by cases z) (fun z => by cases z) (fun _ => ?_) ⟨.inl (some (.int (ji (sch k j)))), τ, kk, 0, fun N _ => ?_⟩
  · show decide ((UInt32.ofNat k).toNat < zt_sl.length) = true
    rw [hu, hl]
    exact decide_eq_true hk
  · rw [z_run_eq]
    show (if 5 ≤ fr - 1 ∧ 300 ≤ lo - (19 + maxL) ∧ (UInt32.ofNat k).toNat < zt_sl.length ∧ ¬ (ji j < 0 ∨ zt_sl.getD (UInt32.ofNat k).toNat 0 ≤ (ji j).toNatClampNeg) then some ((.inl (some (.int ((zt_sb.getD (UInt32.ofNat k).toNat []).getD (ji j).toNatClampNeg 0))) : z_O), τ) else none) = _
    have hs : (zt_sl.getD k 0 : Nat) = (slen k).toNat := by unfold slen; simp
    rw [hu, if_pos ⟨by omega, by omega, by omega, by rw [hs]; exact ji_in ⟨by omega, by omega, by omega⟩⟩, ji_clamp (by omega)]
    unfold sch
    rw [show ji ((zt_sb.getD k []).getD j.toNat 0).toInt = (zt_sb.getD k []).getD j.toNat 0 from Int32.ofInt_toInt _]
theorem w_ladd {x z : Int} (hd : decode cc pc = .ok (.ladd, 1)) (k : w_P sc fr lo y own nL cons ret cc (pc + 1) L (.long (jl (x + z)) :: st) τ Q) : w_P sc fr lo y own nL cons ret cc pc L (.long (jl z) :: .long (jl x) :: st) τ Q := w_stk hd (by show some (Value.long (Int64.ofInt x + Int64.ofInt z) :: st) = some (Value.long (Int64.ofInt (x + z)) :: st); rw [Int64.ofInt_add]) k
theorem w_lsub {x z : Int} (hd : decode cc pc = .ok (.lsub, 1)) (k : w_P sc fr lo y own nL cons ret cc (pc + 1) L (.long (jl (x - z)) :: st) τ Q) : w_P sc fr lo y own nL cons ret cc pc L (.long (jl z) :: .long (jl x) :: st) τ Q := w_stk hd (by show some (Value.long (Int64.ofInt x - Int64.ofInt z) :: st) = some (Value.long (Int64.ofInt (x - z)) :: st); rw [Int64.ofInt_sub]) k
theorem w_lmul {x z : Int} (hd : decode cc pc = .ok (.lmul, 1)) (k : w_P sc fr lo y own nL cons ret cc (pc + 1) L (.long (jl (x * z)) :: st) τ Q) : w_P sc fr lo y own nL cons ret cc pc L (.long (jl z) :: .long (jl x) :: st) τ Q := w_stk hd (by show some (Value.long (Int64.ofInt x * Int64.ofInt z) :: st) = some (Value.long (Int64.ofInt (x * z)) :: st); rw [Int64.ofInt_mul]) k
theorem w_lneg {x : Int} (hd : decode cc pc = .ok (.lneg, 1)) (k : w_P sc fr lo y own nL cons ret cc (pc + 1) L (.long (jl (-x)) :: st) τ Q) : w_P sc fr lo y own nL cons ret cc pc L (.long (jl x) :: st) τ Q := w_stk hd (by show some (Value.long (-(Int64.ofInt x)) :: st) = some (Value.long (Int64.ofInt (-x)) :: st); rw [Int64.ofInt_neg]) k
theorem jl_eq {x y : Int} (hx : -9223372036854775808 ≤ x ∧ x < 9223372036854775808) (hy : -9223372036854775808 ≤ y ∧ y < 9223372036854775808) : jl x = jl y ↔ x = y := ⟨fun h => by rw [← jl_t hx, ← jl_t hy, h], fun h => by rw [h]⟩
theorem jl_lt {x y : Int} (hx : -9223372036854775808 ≤ x ∧ x < 9223372036854775808) (hy : -9223372036854775808 ≤ y ∧ y < 9223372036854775808) : jl x < jl y ↔ x < y := by rw [Int64.lt_iff_toInt_lt, jl_t hx, jl_t hy]
def lcm (x z : Int) : Int := if z < x then 1 else if x = z then 0 else -1
theorem lcm_ge (x z : Int) : 0 ≤ lcm x z ↔ z ≤ x := by unfold lcm; split <;> (try split) <;> omega
theorem lcm_gt (x z : Int) : 0 < lcm x z ↔ z < x := by unfold lcm; split <;> (try split) <;> omega
theorem lcm_eq (x z : Int) : lcm x z = 0 ↔ x = z := by unfold lcm; split <;> (try split) <;> omega
theorem lcm_in (x z : Int) : -1 ≤ lcm x z ∧ lcm x z ≤ 1 := by unfold lcm; split <;> (try split) <;> omega
theorem w_lcmp {x z : Int} (hd : decode cc pc = .ok (.lcmp, 1)) (hr : (-9223372036854775808 ≤ x ∧ x < 9223372036854775808) ∧ -9223372036854775808 ≤ z ∧ z < 9223372036854775808) (k : w_P sc fr lo y own nL cons ret cc (pc + 1) L (.int (ji (lcm x z)) :: st) τ Q) : w_P sc fr lo y own nL cons ret cc pc L (.long (jl z) :: .long (jl x) :: st) τ Q := w_stk hd (by
  show some (Value.int (if jl x > jl z then 1 else if jl x = jl z then 0 else -1) :: st) = some (Value.int (ji (lcm x z)) :: st)
  unfold lcm
  by_cases h1 : z < x
  · rw [if_pos h1, if_pos (show jl z < jl x from (jl_lt hr.2 hr.1).mpr h1)]
    rfl
  · rw [if_neg h1, if_neg (show ¬ jl z < jl x from fun w => h1 ((jl_lt hr.2 hr.1).mp w))]
    by_cases h2 : x = z
    · rw [if_pos h2, if_pos ((jl_eq hr.1 hr.2).mpr h2)]
      rfl
    · rw [if_neg h2, if_neg (fun w => h2 ((jl_eq hr.1 hr.2).mp w))]
      rfl) k
theorem w_l2i {x : Int} (hd : decode cc pc = .ok (.l2i, 1)) (hx : -9223372036854775808 ≤ x ∧ x < 9223372036854775808) (k : w_P sc fr lo y own nL cons ret cc (pc + 1) L (.int (ji x) :: st) τ Q) : w_P sc fr lo y own nL cons ret cc pc L (.long (jl x) :: st) τ Q := w_stk hd (by
  show some (Value.int (jl x).toInt32 :: st) = _
  have h : (jl x).toInt32 = ji x := by
    rw [← Int64.ofInt_toInt (jl x)] 
    rw [Int64.toInt32_ofInt, jl_t hx]
  rw [h]) k
theorem w_ldiv {x z : Int} (hd : decode cc pc = .ok (.ldiv, 1)) (hx : -9223372036854775808 ≤ x ∧ x < 9223372036854775808) (hz : 0 < z ∧ z < 9223372036854775808) (k : w_P sc fr lo y own nL cons ret cc (pc + 1) L (.long (jl (x.tdiv z)) :: st) τ Q) : w_P sc fr lo y own nL cons ret cc pc L (.long (jl z) :: .long (jl x) :: st) τ Q := w_stk hd (by
  show (if jl z = 0 then none else some (Value.long (jl x / jl z) :: st)) = _
  rw [if_neg (fun w => by have := (jl_eq (x := z) (y := 0) (by omega) (by omega)).mp w; omega), ← Int64.ofInt_tdiv (by simpa [Int64.minValue] using hx.1) (by show x ≤ 9223372036854775807; omega) (by show -9223372036854775808 ≤ z; omega) (by show z ≤ 9223372036854775807; omega)]) k
theorem w_lrem {x z : Int} (hd : decode cc pc = .ok (.lrem, 1)) (hx : -9223372036854775808 ≤ x ∧ x < 9223372036854775808) (hz : 0 < z ∧ z < 9223372036854775808) (k : w_P sc fr lo y own nL cons ret cc (pc + 1) L (.long (jl (x.tmod z)) :: st) τ Q) : w_P sc fr lo y own nL cons ret cc pc L (.long (jl z) :: .long (jl x) :: st) τ Q := w_stk hd (by
  show (if jl z = 0 then none else some (Value.long (jl x - jl x / jl z * jl z) :: st)) = _
  rw [if_neg (fun w => by have := (jl_eq (x := z) (y := 0) (by omega) (by omega)).mp w; omega), ← Int64.ofInt_tdiv (by simpa [Int64.minValue] using hx.1) (by show x ≤ 9223372036854775807; omega) (by show -9223372036854775808 ≤ z; omega) (by show z ≤ 9223372036854775807; omega), ← Int64.ofInt_mul, ← Int64.ofInt_sub, Int.tmod_def, Int.mul_comm]) k
theorem w_idiv {x z : Int} (hd : decode cc pc = .ok (.idiv, 1)) (hx : -2147483648 ≤ x ∧ x < 2147483648) (hz : 0 < z ∧ z < 2147483648) (k : w_P sc fr lo y own nL cons ret cc (pc + 1) L (.int (ji (x.tdiv z)) :: st) τ Q) : w_P sc fr lo y own nL cons ret cc pc L (.int (ji z) :: .int (ji x) :: st) τ Q := w_stk hd (by
  show (if ji z = 0 then none else some (Value.int (ji x / ji z) :: st)) = _
  rw [if_neg (fun w => by have := (ji_eq (x := z) (y := 0) (by omega) (by omega)).mp w; omega), ← Int32.ofInt_tdiv (by simpa [Int32.minValue] using hx.1) (by show x ≤ 2147483647; omega) (by show -2147483648 ≤ z; omega) (by show z ≤ 2147483647; omega)]) k
theorem w_irem {x z : Int} (hd : decode cc pc = .ok (.irem, 1)) (hx : -2147483648 ≤ x ∧ x < 2147483648) (hz : 0 < z ∧ z < 2147483648) (k : w_P sc fr lo y own nL cons ret cc (pc + 1) L (.int (ji (x.tmod z)) :: st) τ Q) : w_P sc fr lo y own nL cons ret cc pc L (.int (ji z) :: .int (ji x) :: st) τ Q := w_stk hd (by
  show (if ji z = 0 then none else some (Value.int (ji x - ji x / ji z * ji z) :: st)) = _
  rw [if_neg (fun w => by have := (ji_eq (x := z) (y := 0) (by omega) (by omega)).mp w; omega), ← Int32.ofInt_tdiv (by simpa [Int32.minValue] using hx.1) (by show x ≤ 2147483647; omega) (by show -2147483648 ≤ z; omega) (by show z ≤ 2147483647; omega), ← Int32.ofInt_mul, ← Int32.ofInt_sub, Int.tmod_def, Int.mul_comm]) k
theorem w_tsw {d a b : Int} {offs : Array Int} {len g : Nat} {x : Int} (hd : decode cc pc = .ok (.tableswitch d a b offs, len)) (hr : -2147483648 ≤ x ∧ x < 2147483648) (h : (if x < a ∨ b < x then z_jmp pc d else (offs[(x - a).toNat]?).bind fun off => z_jmp pc off) = some g) (k : w_P sc fr lo y own nL cons ret cc g L st τ Q) : w_P sc fr lo y own nL cons ret cc pc L (.int (ji x) :: st) τ Q := by
  refine w_br (g := g) hd ?_ k
  show (if (ji x).toInt < a ∨ b < (ji x).toInt then (z_jmp pc d).map fun g => (g, st) else (offs[((ji x).toInt - a).toNat]?).bind fun off => (z_jmp pc off).map fun g => (g, st)) = _
  rw [ji_t hr]
  split
  · rename_i h1
    rw [if_pos h1] at h
    rw [h]
    rfl
  · rename_i h1
    rw [if_neg h1] at h
    cases ho : offs[(x - a).toNat]? with
    | none => rw [ho] at h; cases h
    | some off =>
      rw [ho] at h
      show (z_jmp pc off).map _ = _
      rw [show z_jmp pc off = some g from h]
      rfl
theorem w_lsw {d : Int} {ps : Array (Int × Int)} {len g : Nat} {x : Int} (hd : decode cc pc = .ok (.lookupswitch d ps, len)) (hr : -2147483648 ≤ x ∧ x < 2147483648) (hs : (ps.toList.zip (ps.toList.drop 1)).all (fun (a, next) => a.1 < next.1) = true) (h : z_jmp pc (Op.lookupswitch.offset ps.toList d x) = some g) (k : w_P sc fr lo y own nL cons ret cc g L st τ Q) : w_P sc fr lo y own nL cons ret cc pc L (.int (ji x) :: st) τ Q := by
  refine w_br (g := g) hd ?_ k
  show (if (ps.toList.zip (ps.toList.drop 1)).all (fun (a, next) => a.1 < next.1) = true then (z_jmp pc (Op.lookupswitch.offset ps.toList d (ji x).toInt)).map fun g => (g, st) else none) = _
  rw [if_pos hs, ji_t hr, h]
  rfl
/-- a call that ends with one of several outcomes -/
theorem w_cVq {y' ci na maxL i a : Nat} {tys : List Nat} {as rest : List Value} {Q0 : z_O → z_T → Prop} (hh : zt_hs y = false) (hd : decode cc pc = .ok (.invokevirtual i, 3)) (hi : zt_v own i = some y') (hm : zt_meth y' = some (1, ci, na, maxL)) (hs : sh a = some (.inl (ci, tys))) (hst : (Value.ref a :: as).reverse ++ rest = st) (hna : (Value.ref a :: as).length = na) (hrest : (rest.map fun v => v.category).sum ≤ 8) (hfr : 1 ≤ fr) (hlo : 19 + maxL ≤ lo)
    (h : w_S sc (fr - 1) (lo - (19 + maxL)) y' (.ref a :: as) (hp μ, ρ) Q0) (k : ∀ v t, Q0 (.inl v) t → w_P sc fr lo y own nL cons ret cc (pc + 3) L (v.toList ++ rest) t Q) (kx : ∀ r t, Q0 (.inr r) t → Q (.inr r) t) : w_P sc fr lo y own nL cons ret cc pc L st (hp μ, ρ) Q :=
  w_cal hh hd rfl rfl hi hm hst hna hrest hfr hlo (fun _ => z_recv_o hs) (fun z => by cases z) (fun z => by cases z) (h.mono (by
    intro o t h0
    cases o with
    | inl v => exact k v t h0
    | inr r => exact kx r t h0))
theorem w_cSq {y' ci na maxL i : Nat} {as rest : List Value} {Q0 : z_O → z_T → Prop} (hh : zt_hs y = false) (hd : decode cc pc = .ok (.invokestatic i, 3)) (hi : zt_c own i = some y') (hm : zt_meth y' = some (0, ci, na, maxL)) (hst : as.reverse ++ rest = st) (hna : as.length = na) (hrest : (rest.map fun v => v.category).sum ≤ 8) (hfr : 1 ≤ fr) (hlo : 19 + maxL ≤ lo)
    (h : w_S sc (fr - 1) (lo - (19 + maxL)) y' as τ Q0) (k : ∀ v t, Q0 (.inl v) t → w_P sc fr lo y own nL cons ret cc (pc + 3) L (v.toList ++ rest) t Q) (kx : ∀ r t, Q0 (.inr r) t → Q (.inr r) t) : w_P sc fr lo y own nL cons ret cc pc L st τ Q :=
  w_cal hh hd rfl rfl hi hm hst hna hrest hfr hlo (fun z => by cases z) (fun z => by cases z) (fun z => by cases z) (h.mono (by
    intro o t h0
    cases o with
    | inl v => exact k v t h0
    | inr r => exact kx r t h0))
end R3
/-- writing what is there; writing twice -/
theorem stI_self (μ : Mem) (a k : Nat) : stI μ a k (μ.1 a k) = μ := by
  refine Prod.ext ?_ rfl
  funext b m
  show (if b = a ∧ m = k then μ.1 a k else μ.1 b m) = μ.1 b m
  split
  · rename_i h
    rw [h.1, h.2]
  · rfl
theorem stI_stI (μ : Mem) (a k : Nat) (u v : Int) : stI (stI μ a k u) a k v = stI μ a k v := by
  refine Prod.ext ?_ rfl
  funext b m
  show (if b = a ∧ m = k then v else if b = a ∧ m = k then u else μ.1 b m) = (if b = a ∧ m = k then v else μ.1 b m)
  split <;> rfl
theorem stI_at (μ : Mem) (a k : Nat) (v : Int) : (stI μ a k v).1 a k = v := if_pos ⟨rfl, rfl⟩
theorem stA_at (μ : Mem) (a : Nat) (i v : Int) : (stA μ a i v).2.2 a i = v := if_pos ⟨rfl, rfl⟩
/-- spaces from p on are passed -/
def skn (T : Int → Int) (n : Int) : Nat → Int → Int
  | 0, p => p
  | f + 1, p => if p < n ∧ T p = 32 then skn T n f (p + 1) else p
def sk (T : Int → Int) (n p : Int) : Int := skn T n (n - p).toNat p
theorem sk_eq (T : Int → Int) (n p : Int) : sk T n p = if p < n ∧ T p = 32 then sk T n (p + 1) else p := by
  unfold sk
  by_cases h : p < n ∧ T p = 32
  · rw [if_pos h, show (n - p).toNat = (n - (p + 1)).toNat + 1 by omega]
    show (if p < n ∧ T p = 32 then skn T n (n - (p + 1)).toNat (p + 1) else p) = _
    rw [if_pos h]
  · rw [if_neg h]
    cases hf : (n - p).toNat with
    | zero => rfl
    | succ f =>
      show (if p < n ∧ T p = 32 then skn T n f (p + 1) else p) = _
      rw [if_neg h]
theorem sk_ind {T : Int → Int} {n : Int} (P : Int → Prop) (h1 : ∀ p, ¬ (p < n ∧ T p = 32) → P p) (h2 : ∀ p, p < n → T p = 32 → P (p + 1) → P p) (p : Int) : P p := by
  have : ∀ (m : Nat) (p : Int), (n - p).toNat = m → P p := by
    intro m
    induction m using Nat.strongRecOn with
    | ind m ih =>
      intro p hp
      by_cases h : p < n ∧ T p = 32
      · exact h2 p h.1 h.2 (ih (n - (p + 1)).toNat (by omega) (p + 1) rfl)
      · exact h1 p h
  exact this _ p rfl
theorem sk_ge (T : Int → Int) (n p : Int) : p ≤ sk T n p := by
  refine sk_ind (T := T) (n := n) (fun p => p ≤ sk T n p) (fun p h => ?_) (fun p h1 h2 ih => ?_) p
  · show p ≤ sk T n p
    rw [sk_eq, if_neg h]
    exact Int.le_refl p
  · show p ≤ sk T n p
    rw [sk_eq, if_pos ⟨h1, h2⟩]
    have ih : p + 1 ≤ sk T n (p + 1) := ih
    omega
theorem sk_le (T : Int → Int) (n p : Int) (h : p ≤ n) : sk T n p ≤ n := by
  refine sk_ind (T := T) (n := n) (fun p => p ≤ n → sk T n p ≤ n) (fun p h => ?_) (fun p h1 h2 ih => ?_) p h
  · intro hp
    rw [sk_eq, if_neg h]
    exact hp
  · intro _
    rw [sk_eq, if_pos ⟨h1, h2⟩]
    exact ih (by omega)
theorem sk_big (T : Int → Int) (n p : Int) (h : n ≤ p) : sk T n p = p := by rw [sk_eq, if_neg (by omega)]
theorem sk_no (T : Int → Int) (n p : Int) : ¬ (sk T n p < n ∧ T (sk T n p) = 32) := by
  refine sk_ind (T := T) (n := n) (fun p => ¬ (sk T n p < n ∧ T (sk T n p) = 32)) (fun p h => ?_) (fun p h1 h2 ih => ?_) p
  · show ¬ (sk T n p < n ∧ T (sk T n p) = 32)
    rw [sk_eq, if_neg h]
    exact h
  · show ¬ (sk T n p < n ∧ T (sk T n p) = 32)
    rw [sk_eq, if_pos ⟨h1, h2⟩]
    exact ih
theorem sk_sk (T : Int → Int) (n p : Int) : sk T n (sk T n p) = sk T n p := by
  rw [sk_eq, if_neg (sk_no T n p)]
theorem sk_cong {T T' : Int → Int} {n : Int} (h : ∀ k, 0 ≤ k → k < n → T k = T' k) (p : Int) (hp : 0 ≤ p) : sk T n p = sk T' n p := by
  refine sk_ind (T := T) (n := n) (fun p => 0 ≤ p → sk T n p = sk T' n p) (fun p h1 hp => ?_) (fun p h1 h2 ih hp => ?_) p hp
  · rw [sk_eq, if_neg h1, sk_eq, if_neg]
    rintro ⟨h3, h4⟩
    exact h1 ⟨h3, by rw [h p hp h3]; exact h4⟩
  · rw [sk_eq, if_pos ⟨h1, h2⟩, sk_eq T', if_pos ⟨h1, by rw [← h p hp h1]; exact h2⟩]
    exact ih (by omega)
