/-! THE INTERPRETER: the machine on a heap of known cells: a method's run as a function. zt_..: the tables of the constant pools, by the number of the class and the place -/
abbrev z_H : Type := Nat → Option va_E
/-- the known cells; the heap's size; how many cells, slots may still be made -/
abbrev z_T : Type := z_H × Nat × Nat × Nat
/-- returned, or thrown: which exception, and where it lies -/
abbrev z_O : Type := Option Value ⊕ (Nat × Nat)
abbrev z_L : Type := List (Nat × Value)
abbrev z_X : Type := (Nat × z_L × List Value × z_T) ⊕ (z_O × z_T)
def z_lk (lv : z_L) (i : Nat) : Option Value := (lv.find? (fun q => q.1 == i)).map (·.2)
def z_set (τ : z_T) (a : Nat) (e : va_E) : z_T := (fun q => if q = a then some e else τ.1 q, τ.2)
def z_jmp (pc : Nat) (off : Int) : Option Nat := if 0 ≤ (pc : Int) + off then some ((pc : Int) + off).toNat else none
/-- instructions that touch the operand stack alone -/
def z_stk : Instr → Nat → List Value → Option (List Value)
  | .iconst n, 1, st => some (.int (Int32.ofInt n) :: st)
  | .bipush n, 2, st => some (.int (Int8.ofInt n).toInt32 :: st)
  | .sipush n, 3, st => some (.int (Int16.ofInt n).toInt32 :: st)
  | .lconst n, 1, st => some (.long (Int64.ofNat (n : Nat)) :: st)
  | .iadd, 1, .int y :: .int x :: st => some (.int (x + y) :: st)
  | .isub, 1, .int y :: .int x :: st => some (.int (x - y) :: st)
  | .imul, 1, .int y :: .int x :: st => some (.int (x * y) :: st)
  | .iand, 1, .int y :: .int x :: st => some (.int (x &&& y) :: st)
  | .ishr, 1, .int y :: .int x :: st => some (.int (x >>> (y &&& 31)) :: st)
  | .iushr, 1, .int y :: .int x :: st => some (.int (x.toUInt32 >>> (y.toUInt32 &&& Int32.toUInt32 31)).toInt32 :: st)
  | .idiv, 1, .int y :: .int x :: st => if y = 0 then none else some (.int (x / y) :: st)
  | .irem, 1, .int y :: .int x :: st => if y = 0 then none else some (.int (x - x / y * y) :: st)
  | .ineg, 1, .int x :: st => some (.int (-x) :: st)
  | .ladd, 1, .long y :: .long x :: st => some (.long (x + y) :: st)
  | .lsub, 1, .long y :: .long x :: st => some (.long (x - y) :: st)
  | .lmul, 1, .long y :: .long x :: st => some (.long (x * y) :: st)
  | .ldiv, 1, .long y :: .long x :: st => if y = 0 then none else some (.long (x / y) :: st)
  | .lrem, 1, .long y :: .long x :: st => if y = 0 then none else some (.long (x - x / y * y) :: st)
  | .lneg, 1, .long x :: st => some (.long (-x) :: st)
  | .lcmp, 1, .long y :: .long x :: st => some (.int (lg_cmp x y) :: st)
  | .i2l, 1, .int x :: st => some (.long x.toInt64 :: st)
  | .l2i, 1, .long x :: st => some (.int x.toInt32 :: st)
  | .i2c, 1, .int x :: st => some (.int (x.toUInt32 % 65536).toInt32 :: st)
  | .dup, 1, v :: st => if v.category = 1 then some (v :: v :: st) else none
  | .dup_x1, 1, v :: w :: st => if v.category = 1 ∧ w.category = 1 then some (v :: w :: v :: st) else none
  | .dup_x2, 1, v :: w :: u :: st => if v.category = 1 ∧ w.category = 1 ∧ u.category = 1 then some (v :: w :: u :: v :: st) else none
  | .dup2, 1, v :: w :: st => if v.category = 1 ∧ w.category = 1 then some (v :: w :: v :: w :: st) else none
  | .pop, 1, v :: st => if v.category = 1 then some st else none
  | _, _, _ => none
def z_ld : Instr → Nat → Option (Nat × Nat)
  | .iload i, 2 => some (i, 0)
  | .iload_n i, 1 => some (i.val, 0)
  | .lload i, 2 => some (i, 1)
  | .lload_n i, 1 => some (i.val, 1)
  | .aload i, 2 => some (i, 2)
  | .aload_n i, 1 => some (i.val, 2)
  | _, _ => none
def z_sto : Instr → Nat → Option (Nat × Nat)
  | .istore i, 2 => some (i, 0)
  | .istore_n i, 1 => some (i.val, 0)
  | .lstore i, 2 => some (i, 1)
  | .lstore_n i, 1 => some (i.val, 1)
  | .astore i, 2 => some (i, 2)
  | .astore_n i, 1 => some (i.val, 2)
  | _, _ => none
def z_ok : Nat → Value → Bool
  | 0, .int _ => true
  | 1, .long _ => true
  | 2, .ref _ => true
  | 2, .float _ => true
  | _, _ => false
def z_put1 (lv : z_L) (i : Nat) (v : Value) : z_L := (i, v) :: lv.filter (fun q => !(q.1 == i) && !(q.1 + 1 == i && q.2.category == 2))
def z_put2 (lv : z_L) (i : Nat) (v : Value) : z_L := (i, v) :: lv.filter (fun q => !(q.1 == i) && (!(q.1 == i + 1) && !(q.1 + 1 == i && q.2.category == 2)))
/-- loads, stores, iinc -/
def z_loc (nL : Nat) (ins : Instr) (len : Nat) (lv : z_L) (st : List Value) : Option (z_L × List Value) :=
  match z_ld ins len with
  | some (i, t) => match z_lk lv i with
    | some v => if z_ok t v = true then some (lv, v :: st) else none
    | none => none
  | none => match z_sto ins len, st with
    | some (i, t), v :: st => if z_ok t v = true then (if t = 1 then (if i + 1 < nL then some (z_put2 lv i v, st) else none) else (if i < nL then some (z_put1 lv i v, st) else none)) else none
    | _, st => match ins, len with
      | .iinc i n, 3 => match z_lk lv i with
        | some (.int x) => if i < nL then some (z_put1 lv i (.int (x + Int32.ofInt n)), st) else none
        | _ => none
      | _, _ => none
/-- branches: where it goes on, and the stack -/
def z_br (pc : Nat) : Instr → Nat → List Value → Option (Nat × List Value)
  | .ifCond .eq off, 3, .int x :: st => (z_jmp pc off).map fun g => (if x = 0 then g else pc + 3, st)
  | .ifCond .ne off, 3, .int x :: st => (z_jmp pc off).map fun g => (if x = 0 then pc + 3 else g, st)
  | .ifCond .lt off, 3, .int x :: st => (z_jmp pc off).map fun g => (if x < 0 then g else pc + 3, st)
  | .ifCond .ge off, 3, .int x :: st => (z_jmp pc off).map fun g => (if 0 ≤ x then g else pc + 3, st)
  | .ifCond .gt off, 3, .int x :: st => (z_jmp pc off).map fun g => (if 0 < x then g else pc + 3, st)
  | .ifCond .le off, 3, .int x :: st => (z_jmp pc off).map fun g => (if x ≤ 0 then g else pc + 3, st)
  | .if_icmp .eq off, 3, .int y :: .int x :: st => (z_jmp pc off).map fun g => (if x = y then g else pc + 3, st)
  | .if_icmp .ne off, 3, .int y :: .int x :: st => (z_jmp pc off).map fun g => (if x = y then pc + 3 else g, st)
  | .if_icmp .lt off, 3, .int y :: .int x :: st => (z_jmp pc off).map fun g => (if x < y then g else pc + 3, st)
  | .if_icmp .ge off, 3, .int y :: .int x :: st => (z_jmp pc off).map fun g => (if y ≤ x then g else pc + 3, st)
  | .if_icmp .gt off, 3, .int y :: .int x :: st => (z_jmp pc off).map fun g => (if y < x then g else pc + 3, st)
  | .if_icmp .le off, 3, .int y :: .int x :: st => (z_jmp pc off).map fun g => (if x ≤ y then g else pc + 3, st)
  | .goto off, 3, st => (z_jmp pc off).map fun g => (g, st)
  | .tableswitch dflt lo hi offs, _, .int x :: st => if x.toInt < lo ∨ hi < x.toInt then (z_jmp pc dflt).map fun g => (g, st) else (offs[(x.toInt - lo).toNat]?).bind fun off => (z_jmp pc off).map fun g => (g, st)
  | .lookupswitch dflt ps, _, .int x :: st => if (ps.toList.zip (ps.toList.drop 1)).all (fun (a, next) => a.1 < next.1) = true then (z_jmp pc (Op.lookupswitch.offset ps.toList dflt x.toInt)).map fun g => (g, st) else none
  | _, _, _ => none
/-- constants of the pool: strings stand as floats -/
def z_ldc (own : Nat) : Instr → Nat → List Value → Option (List Value)
  | .ldc i, 2, st => match zt_s own i with
    | some k => some (.float (UInt32.ofNat k) :: st)
    | none => (zt_i own i).map fun x => .int x :: st
  | .ldc2_w i, 3, st => (zt_l own i).map fun x => .long x :: st
  | _, _, _ => none
/-- reading the heap -/
def z_rd (sc : Nat × (Nat → Int32)) (own : Nat) (τ : z_T) : Instr → Nat → List Value → Option (List Value)
  | .getfield i, 3, .ref a :: st => match zt_f own i, τ.1 a with
    | some (ci, k), some (.inr (cj, fs)) => if ci = cj then (fs[k]?).map fun v => v :: st else none
    | _, _ => none
  | .iaload, 1, .int i :: .ref a :: st => match τ.1 a with
    | some (.inl (0, n, .inl f)) => if i < 0 ∨ n ≤ i.toNatClampNeg then none else some (.int (f i.toNatClampNeg) :: st)
    | _ => none
  | .laload, 1, .int i :: .ref a :: st => match τ.1 a with
    | some (.inl (1, n, .inr (.inl f))) => if i < 0 ∨ n ≤ i.toNatClampNeg then none else some (.long (f i.toNatClampNeg) :: st)
    | _ => none
  | .caload, 1, .int i :: .ref a :: st => match τ.1 a with
    | some (.inl (2, n, .inl f)) => if i < 0 ∨ n ≤ i.toNatClampNeg then none else some (.int (f i.toNatClampNeg) :: st)
    | _ => none
  | .baload, 1, .int i :: .ref a :: st => match τ.1 a with
    | some (.inl (3, n, .inl f)) => if i < 0 ∨ n ≤ i.toNatClampNeg then none else some (.int (f i.toNatClampNeg) :: st)
    | _ => none
  | .aaload, 1, .int i :: .ref a :: st => match τ.1 a with
    | some (.inl (4, n, .inr (.inr (.inr (.inr f))))) => if i < 0 ∨ n ≤ i.toNatClampNeg then none else some (va_rf (f i.toNatClampNeg) :: st)
    | _ => none
  | .iaload, 1, .int i :: .float b :: st => if b = 1000 ∧ ¬ (i < 0 ∨ sc.1 ≤ i.toNatClampNeg) then some (.int (sc.2 i.toNatClampNeg) :: st) else none
  | .arraylength, 1, .float b :: st => if b = 1000 then some (.int (Int32.ofNat sc.1) :: st) else none
  | .arraylength, 1, .ref a :: st => match τ.1 a with
    | some (.inl (t, n, _)) => if t < 5 then some (.int (Int32.ofNat n) :: st) else none
    | _ => none
  | _, _, _ => none
/-- writing the heap; 'cons': the method is a constructor -/
def z_wr (own : Nat) (cons : Bool) (τ : z_T) : Instr → Nat → List Value → Option (List Value × z_T)
  | .putfield i, 3, v :: .ref a :: st => match zt_f own i, τ.1 a with
    | some (ci, k), some (.inr (cj, fs)) => if ci = cj ∧ k < fs.length ∧ z_fit ci k v = true ∧ z_fin own cons ci k = true then some (st, z_set τ a (.inr (cj, fs.set k v))) else none
    | _, _ => none
  | .iastore, 1, .int x :: .int i :: .ref a :: st => match τ.1 a with
    | some (.inl (0, n, .inl f)) => if i < 0 ∨ n ≤ i.toNatClampNeg then none else some (st, z_set τ a (.inl (0, n, .inl (upd f i.toNatClampNeg x))))
    | _ => none
  | .lastore, 1, .long x :: .int i :: .ref a :: st => match τ.1 a with
    | some (.inl (1, n, .inr (.inl f))) => if i < 0 ∨ n ≤ i.toNatClampNeg then none else some (st, z_set τ a (.inl (1, n, .inr (.inl (vp_updL f i.toNatClampNeg x)))))
    | _ => none
  | .castore, 1, .int x :: .int i :: .ref a :: st => match τ.1 a with
    | some (.inl (2, n, .inl f)) => if i < 0 ∨ n ≤ i.toNatClampNeg then none else some (st, z_set τ a (.inl (2, n, .inl (upd f i.toNatClampNeg (vp_nar .char x)))))
    | _ => none
  | .bastore, 1, .int x :: .int i :: .ref a :: st => match τ.1 a with
    | some (.inl (3, n, .inl f)) => if i < 0 ∨ n ≤ i.toNatClampNeg then none else some (st, z_set τ a (.inl (3, n, .inl (upd f i.toNatClampNeg (vp_nar .boolean x)))))
    | _ => none
  | .aastore, 1, .ref v :: .int i :: .ref a :: st => match τ.1 a, τ.1 v with
    | some (.inl (4, n, .inr (.inr (.inr (.inr f))))), some (.inr (cj, _)) => if i < 0 ∨ n ≤ i.toNatClampNeg ∨ cj ≠ zt_tree then none else some (st, z_set τ a (.inl (4, n, .inr (.inr (.inr (.inr (va_up f i.toNatClampNeg (some v))))))))
    | _, _ => none
  | _, _, _ => none
/-- one more cell, of n slots -/
def z_new (τ : z_T) (n : Nat) (e : va_E) : Option z_T := if 1 ≤ τ.2.2.1 ∧ n ≤ τ.2.2.2 then some (fun q => if q = τ.2.1 then some e else τ.1 q, τ.2.1 + 1, τ.2.2.1 - 1, τ.2.2.2 - n) else none
/-- making: an object, an array -/
def z_mk (own : Nat) (τ : z_T) : Instr → Nat → List Value → Option (List Value × z_T)
  | .new i, 3, st => match zt_n own i with
    | some ci => (z_new τ (z_dfl ci).length (.inr (ci, z_dfl ci))).map fun τ' => (.ref τ.2.1 :: st, τ')
    | none => none
  | .newarray .int, 2, .int n :: st => if n < 0 ∨ 100000 < n.toNatClampNeg then none else (z_new τ n.toNatClampNeg (.inl (0, n.toNatClampNeg, .inl (fun _ => 0)))).map fun τ' => (.ref τ.2.1 :: st, τ')
  | .newarray .long, 2, .int n :: st => if n < 0 ∨ 100000 < n.toNatClampNeg then none else (z_new τ n.toNatClampNeg (.inl (1, n.toNatClampNeg, .inr (.inl (fun _ => 0))))).map fun τ' => (.ref τ.2.1 :: st, τ')
  | .newarray .char, 2, .int n :: st => if n < 0 ∨ 100000 < n.toNatClampNeg then none else (z_new τ n.toNatClampNeg (.inl (2, n.toNatClampNeg, .inl (fun _ => 0)))).map fun τ' => (.ref τ.2.1 :: st, τ')
  | .newarray .boolean, 2, .int n :: st => if n < 0 ∨ 100000 < n.toNatClampNeg then none else (z_new τ n.toNatClampNeg (.inl (3, n.toNatClampNeg, .inl (fun _ => 0)))).map fun τ' => (.ref τ.2.1 :: st, τ')
  | .anewarray i, 3, .int n :: st => if n < 0 ∨ 100000 < n.toNatClampNeg ∨ zt_a own i ≠ true then none else (z_new τ n.toNatClampNeg (.inl (4, n.toNatClampNeg, .inr (.inr (.inr (.inr (fun _ => none))))))).map fun τ' => (.ref τ.2.1 :: st, τ')
  | _, _, _ => none
/-- the end: a return -/
def z_ret : Instr → Nat → List Value → Option FieldType → Option (Option Value)
  | .ireturn, 1, [.int x], some .int => some (some (.int x))
  | .ireturn, 1, [.int x], some .boolean => if narrow .boolean (.int x) = .int x then some (some (.int x)) else none
  | .lreturn, 1, [.long x], some .long => some (some (.long x))
  | .areturn, 1, [.ref a], some (.object _) => some (some (.ref a))
  | .return_, 1, [], none => some none
  | _, _, _, _ => none
/-- a call: the method, how many arguments (with the object), whether the object must be looked at -/
def z_inv (own : Nat) : Instr → Nat → Option Nat
  | .invokevirtual i, 3 => zt_v own i
  | .invokestatic i, 3 => zt_c own i
  | .invokespecial i, 3 => zt_k own i
  | _, _ => none
/-- an own exception: new, dup, its constructor, athrow -/
def z_thr (fr lo own : Nat) (cc : ByteArray) (pc : Nat) (ins : Instr) (len : Nat) (st : List Value) (τ : z_T) : Option (z_O × z_T) :=
  match ins, len with
  | .new i, 3 => match zt_x own i, decode cc (pc + 3), decode cc (pc + 4), decode cc (pc + 7) with
    | some (kd, ic), .ok (.dup, 1), .ok (.invokespecial j, 3), .ok (.athrow, 1) =>
      if j = ic ∧ 1 ≤ τ.2.2.1 ∧ 6 ≤ τ.2.2.2 ∧ 5 < fr ∧ (st.map fun v => v.category).sum + 81 ≤ lo then some (.inr (kd, τ.2.1), (τ.1, τ.2.1 + 1, τ.2.2.1 - 1, τ.2.2.2 - 6)) else none
    | _, _, _, _ => none
  | _, _ => none
/-- is the receiver an object of the method's class -/
def z_recv (ci : Nat) (τ : z_T) : List Value → Bool
  | .ref b :: _ => match τ.1 b with
    | some (.inr (cj, _)) => ci == cj
    | _ => false
  | _ => false
def z_isr : List Value → Bool
  | .ref _ :: _ => true
  | _ => false
def z_str : List Value → Bool
  | .float b :: _ => decide (b.toNat < zt_sl.length)
  | _ => false
/-- Object's constructor -/
def z_obj (fr lo own : Nat) : Instr → Nat → List Value → Option (List Value)
  | .invokespecial i, 3, .ref _ :: st => if zt_o own i = true ∧ 1 ≤ fr ∧ (st.map fun v => v.category).sum + 12 ≤ lo then some st else none
  | _, _, _ => none
/-- a call; 'call' runs the callee in what room is left -/
def z_cal (call : Nat → Nat → List Value → z_T → Option (z_O × z_T)) (fr lo own y : Nat) (pc : Nat) (ins : Instr) (len : Nat) (lv : z_L) (st : List Value) (τ : z_T) : Option z_X :=
  match z_inv own ins len with
  | none => none
  | some y' => match zt_meth y' with
    | none => none
    | some (kd, ci, na, maxL) =>
      if na ≤ st.length ∧ ((st.drop na).map fun v => v.category).sum ≤ 8 ∧ 1 ≤ fr ∧ 19 + maxL ≤ lo ∧ (kd = 1 → z_recv ci τ (st.take na).reverse = true) ∧ (kd = 2 → z_isr (st.take na).reverse = true) ∧ (kd = 3 → z_str (st.take na).reverse = true) then
        match call (lo - (19 + maxL)) y' (st.take na).reverse τ with
        | some (.inl v, τ') => some (.inl (pc + 3, lv, v.toList ++ st.drop na, τ'))
        | some (.inr (i, x), τ') => match zt_h y pc i with
          | none => if zt_hs y = true then none else some (.inr (.inr (i, x), τ'))
          | some g => some (.inl (g, lv, [.ref x], τ'))
        | none => none
      else none
/-- one step -/
def z_step (sc : Nat × (Nat → Int32)) (fr lo y own nL : Nat) (cons : Bool) (ret : Option FieldType) (cc : ByteArray) (call : Nat → Nat → List Value → z_T → Option (z_O × z_T)) (pc : Nat) (lv : z_L) (st : List Value) (τ : z_T) : Option z_X :=
  match decode cc pc with
  | .error _ => none
  | .ok (ins, len) => match z_stk ins len st with
    | some st' => some (.inl (pc + len, lv, st', τ))
    | none => match z_loc nL ins len lv st with
      | some (lv', st') => some (.inl (pc + len, lv', st', τ))
      | none => match z_br pc ins len st with
        | some (pc', st') => some (.inl (pc', lv, st', τ))
        | none => match z_ldc own ins len st with
          | some st' => some (.inl (pc + len, lv, st', τ))
          | none => match z_rd sc own τ ins len st with
            | some st' => some (.inl (pc + len, lv, st', τ))
            | none => match z_wr own cons τ ins len st with
              | some (st', τ') => some (.inl (pc + len, lv, st', τ'))
              | none => match z_mk own τ ins len st with
                | some (st', τ') => some (.inl (pc + len, lv, st', τ'))
                | none => match z_ret ins len st ret with
                  | some v => some (.inr (.inl v, τ))
                  | none => match z_obj fr lo own ins len st with
                    | some st' => some (.inl (pc + len, lv, st', τ))
                    | none => match (if zt_hs y = true then none else z_thr fr lo own cc pc ins len st τ) with
                      | some r => some (.inr r)
                      | none => z_cal call fr lo own y pc ins len lv st τ
def z_exec (sc : Nat × (Nat → Int32)) (fr lo y own nL : Nat) (cons : Bool) (ret : Option FieldType) (cc : ByteArray) (call : Nat → Nat → List Value → z_T → Option (z_O × z_T)) : Nat → Nat → z_L → List Value → z_T → Option (z_O × z_T)
  | 0, _, _, _, _ => none
  | N + 1, pc, lv, st, τ => match z_step sc fr lo y own nL cons ret cc call pc lv st τ with
    | none => none
    | some (.inl (pc', lv', st', τ')) => z_exec sc fr lo y own nL cons ret cc call N pc' lv' st' τ'
    | some (.inr r) => some r
