/-! THE PURE PART, 5: more rules: arithmetic, fields by their types, calls -/
theorem fit_I {ci k : Nat} {x : Int32} (h : zt_ty ci k = .int) : z_fit ci k (.int x) = true := by
  show (decide (narrow (zt_ty ci k) (.int x) = .int x) && fits (zt_ty ci k) (.int x)) = true
  rw [h]
  simp [narrow, fits]
theorem fit_Z {ci k : Nat} {v : Int} (h : zt_ty ci k = .boolean) (hv : v = 0 ∨ v = 1) : z_fit ci k (.int (ji v)) = true := by
  show (decide (narrow (zt_ty ci k) (.int (ji v)) = .int (ji v)) && fits (zt_ty ci k) (.int (ji v))) = true
  rw [h]
  rcases hv with rfl | rfl <;> decide
theorem fit_J {ci k : Nat} {x : Int64} (h : zt_ty ci k = .long) : z_fit ci k (.long x) = true := by
  show (decide (narrow (zt_ty ci k) (.long x) = .long x) && fits (zt_ty ci k) (.long x)) = true
  rw [h]
  simp [narrow, fits]
theorem fit_R {ci k b : Nat} {n : String} (h : zt_ty ci k = .object n) : z_fit ci k (.ref b) = true := by
  show (decide (narrow (zt_ty ci k) (.ref b) = .ref b) && fits (zt_ty ci k) (.ref b)) = true
  rw [h]
  simp [narrow, fits]
section R2
variable {sc : Nat × (Nat → Int32)} {fr lo y own nL : Nat} {cons : Bool} {ret : Option FieldType} {cc : ByteArray} {pc : Nat} {L L' : List (Option Value)} {st : List Value} {τ τ' : z_T} {μ : Mem} {ρ : Nat × Nat × Nat} {Q : z_O → z_T → Prop}
theorem w_iadd {x z : Int} (hd : decode cc pc = .ok (.iadd, 1)) (k : w_P sc fr lo y own nL cons ret cc (pc + 1) L (.int (ji (x + z)) :: st) τ Q) : w_P sc fr lo y own nL cons ret cc pc L (.int (ji z) :: .int (ji x) :: st) τ Q := w_stk hd (by show some (Value.int (Int32.ofInt x + Int32.ofInt z) :: st) = some (Value.int (Int32.ofInt (x + z)) :: st); rw [Int32.ofInt_add]) k
theorem w_isub {x z : Int} (hd : decode cc pc = .ok (.isub, 1)) (k : w_P sc fr lo y own nL cons ret cc (pc + 1) L (.int (ji (x - z)) :: st) τ Q) : w_P sc fr lo y own nL cons ret cc pc L (.int (ji z) :: .int (ji x) :: st) τ Q := w_stk hd (by show some (Value.int (Int32.ofInt x - Int32.ofInt z) :: st) = some (Value.int (Int32.ofInt (x - z)) :: st); rw [Int32.ofInt_sub]) k
theorem w_imul {x z : Int} (hd : decode cc pc = .ok (.imul, 1)) (k : w_P sc fr lo y own nL cons ret cc (pc + 1) L (.int (ji (x * z)) :: st) τ Q) : w_P sc fr lo y own nL cons ret cc pc L (.int (ji z) :: .int (ji x) :: st) τ Q := w_stk hd (by show some (Value.int (Int32.ofInt x * Int32.ofInt z) :: st) = some (Value.int (Int32.ofInt (x * z)) :: st); rw [Int32.ofInt_mul]) k
theorem w_ineg {x : Int} (hd : decode cc pc = .ok (.ineg, 1)) (k : w_P sc fr lo y own nL cons ret cc (pc + 1) L (.int (ji (-x)) :: st) τ Q) : w_P sc fr lo y own nL cons ret cc pc L (.int (ji x) :: st) τ Q := w_stk hd (by show some (Value.int (-(Int32.ofInt x)) :: st) = some (Value.int (Int32.ofInt (-x)) :: st); rw [Int32.ofInt_neg]) k
theorem w_i2c {x : Int} (hd : decode cc pc = .ok (.i2c, 1)) (hx : 0 ≤ x ∧ x < 65536) (k : w_P sc fr lo y own nL cons ret cc (pc + 1) L (.int (ji x) :: st) τ Q) : w_P sc fr lo y own nL cons ret cc pc L (.int (ji x) :: st) τ Q := w_stk hd (by
  show some (Value.int ((ji x).toUInt32 % 65536).toInt32 :: st) = _
  have h : ((ji x).toUInt32 % 65536).toInt32 = ji x := nar_c hx
  rw [h]) k
theorem w_con {n : Int} (hd : decode cc pc = .ok (.iconst n, 1)) (k : w_P sc fr lo y own nL cons ret cc (pc + 1) L (.int (ji n) :: st) τ Q) : w_P sc fr lo y own nL cons ret cc pc L st τ Q := w_stk hd rfl k
theorem w_bip {n : Int} (hd : decode cc pc = .ok (.bipush n, 2)) (h : (Int8.ofInt n).toInt32 = ji n) (k : w_P sc fr lo y own nL cons ret cc (pc + 2) L (.int (ji n) :: st) τ Q) : w_P sc fr lo y own nL cons ret cc pc L st τ Q := w_stk hd (by show some (Value.int (Int8.ofInt n).toInt32 :: st) = _; rw [h]) k
theorem w_sip {n : Int} (hd : decode cc pc = .ok (.sipush n, 3)) (h : (Int16.ofInt n).toInt32 = ji n) (k : w_P sc fr lo y own nL cons ret cc (pc + 3) L (.int (ji n) :: st) τ Q) : w_P sc fr lo y own nL cons ret cc pc L st τ Q := w_stk hd (by show some (Value.int (Int16.ofInt n).toInt32 :: st) = _; rw [h]) k
theorem w_alen {a t n : Nat} (hd : decode cc pc = .ok (.arraylength, 1)) (hs : sh a = some (.inr (t, n))) (ht : t < 5) (k : w_P sc fr lo y own nL cons ret cc (pc + 1) L (.int (ji (n : Int)) :: st) (hp μ, ρ) Q) : w_P sc fr lo y own nL cons ret cc pc L (.ref a :: st) (hp μ, ρ) Q := by
  refine w_rd hd ?_ k
  show (match hp μ a with | some (.inl (t, n, _)) => if t < 5 then some (Value.int (Int32.ofNat n) :: st) else none | _ => none) = _
  rw [hp_a hs]
  have h : ∃ X, m_ar μ a t n = .inl (t, n, X) := by
    unfold m_ar
    split <;> exact ⟨_, rfl⟩
  obtain ⟨X, h⟩ := h
  rw [h]
  show (if t < 5 then some (Value.int (Int32.ofNat n) :: st) else none) = _
  rw [if_pos ht]
  rfl
theorem w_gI {i ci k a : Nat} {x : Int} {tys : List Nat} (hd : decode cc pc = .ok (.getfield i, 3)) (hf : zt_f own i = some (ci, k)) (hs : sh a = some (.inl (ci, tys))) (ht : tys[k]? = some 0) (hv : μ.1 a k = x) (kk : w_P sc fr lo y own nL cons ret cc (pc + 3) L (.int (ji x) :: st) (hp μ, ρ) Q) : w_P sc fr lo y own nL cons ret cc pc L (.ref a :: st) (hp μ, ρ) Q := w_getI hd hf hs ht (by rw [hv]; exact kk)
theorem w_gJ {i ci k a : Nat} {x : Int} {tys : List Nat} (hd : decode cc pc = .ok (.getfield i, 3)) (hf : zt_f own i = some (ci, k)) (hs : sh a = some (.inl (ci, tys))) (ht : tys[k]? = some 1) (hv : μ.1 a k = x) (kk : w_P sc fr lo y own nL cons ret cc (pc + 3) L (.long (jl x) :: st) (hp μ, ρ) Q) : w_P sc fr lo y own nL cons ret cc pc L (.ref a :: st) (hp μ, ρ) Q := w_getJ hd hf hs ht (by rw [hv]; exact kk)
theorem w_aI {a n : Nat} {i x : Int} (hd : decode cc pc = .ok (.iaload, 1)) (hs : sh a = some (.inr (0, n))) (hi : 0 ≤ i ∧ i < n ∧ n < 2147483648) (hv : μ.2.2 a i = x) (kk : w_P sc fr lo y own nL cons ret cc (pc + 1) L (.int (ji x) :: st) (hp μ, ρ) Q) : w_P sc fr lo y own nL cons ret cc pc L (.int (ji i) :: .ref a :: st) (hp μ, ρ) Q := w_iald hd hs hi (by rw [hv]; exact kk)
theorem w_aC {a n : Nat} {i x : Int} (hd : decode cc pc = .ok (.caload, 1)) (hs : sh a = some (.inr (2, n))) (hi : 0 ≤ i ∧ i < n ∧ n < 2147483648) (hv : μ.2.2 a i = x) (kk : w_P sc fr lo y own nL cons ret cc (pc + 1) L (.int (ji x) :: st) (hp μ, ρ) Q) : w_P sc fr lo y own nL cons ret cc pc L (.int (ji i) :: .ref a :: st) (hp μ, ρ) Q := w_cald hd hs hi (by rw [hv]; exact kk)
theorem w_aB {a n : Nat} {i x : Int} (hd : decode cc pc = .ok (.baload, 1)) (hs : sh a = some (.inr (3, n))) (hi : 0 ≤ i ∧ i < n ∧ n < 2147483648) (hv : μ.2.2 a i = x) (kk : w_P sc fr lo y own nL cons ret cc (pc + 1) L (.int (ji x) :: st) (hp μ, ρ) Q) : w_P sc fr lo y own nL cons ret cc pc L (.int (ji i) :: .ref a :: st) (hp μ, ρ) Q := w_bald hd hs hi (by rw [hv]; exact kk)
theorem w_aL {a n : Nat} {i x : Int} (hd : decode cc pc = .ok (.laload, 1)) (hs : sh a = some (.inr (1, n))) (hi : 0 ≤ i ∧ i < n ∧ n < 2147483648) (hv : μ.2.2 a i = x) (kk : w_P sc fr lo y own nL cons ret cc (pc + 1) L (.long (jl x) :: st) (hp μ, ρ) Q) : w_P sc fr lo y own nL cons ret cc pc L (.int (ji i) :: .ref a :: st) (hp μ, ρ) Q := w_lald hd hs hi (by rw [hv]; exact kk)
/-- a call of an instance method that comes back: nothing, a value -/
theorem w_cV0 {y' ci na maxL i a : Nat} {tys : List Nat} {as rest : List Value} (hh : zt_hs y = false) (hd : decode cc pc = .ok (.invokevirtual i, 3)) (hi : zt_v own i = some y') (hm : zt_meth y' = some (1, ci, na, maxL)) (hs : sh a = some (.inl (ci, tys))) (hst : (Value.ref a :: as).reverse ++ rest = st) (hna : (Value.ref a :: as).length = na) (hrest : (rest.map fun v => v.category).sum ≤ 8) (hfr : 1 ≤ fr) (hlo : 19 + maxL ≤ lo)
    (h : w_E sc (fr - 1) (lo - (19 + maxL)) y' (.ref a :: as) (hp μ, ρ) (.inl none) τ') (k : w_P sc fr lo y own nL cons ret cc (pc + 3) L rest τ' Q) : w_P sc fr lo y own nL cons ret cc pc L st (hp μ, ρ) Q :=
  w_cal hh hd rfl rfl hi hm hst hna hrest hfr hlo (fun _ => z_recv_o hs) (fun z => by cases z) (fun z => by cases z) (h.mono (by
    rintro o t ⟨rfl, rfl⟩
    exact k))
theorem w_cV1 {y' ci na maxL i a : Nat} {tys : List Nat} {as rest : List Value} {v : Value} (hh : zt_hs y = false) (hd : decode cc pc = .ok (.invokevirtual i, 3)) (hi : zt_v own i = some y') (hm : zt_meth y' = some (1, ci, na, maxL)) (hs : sh a = some (.inl (ci, tys))) (hst : (Value.ref a :: as).reverse ++ rest = st) (hna : (Value.ref a :: as).length = na) (hrest : (rest.map fun v => v.category).sum ≤ 8) (hfr : 1 ≤ fr) (hlo : 19 + maxL ≤ lo)
    (h : w_E sc (fr - 1) (lo - (19 + maxL)) y' (.ref a :: as) (hp μ, ρ) (.inl (some v)) τ') (k : w_P sc fr lo y own nL cons ret cc (pc + 3) L (v :: rest) τ' Q) : w_P sc fr lo y own nL cons ret cc pc L st (hp μ, ρ) Q :=
  w_cal hh hd rfl rfl hi hm hst hna hrest hfr hlo (fun _ => z_recv_o hs) (fun z => by cases z) (fun z => by cases z) (h.mono (by
    rintro o t ⟨rfl, rfl⟩
    exact k))
theorem w_cS0 {y' ci na maxL i : Nat} {as rest : List Value} (hh : zt_hs y = false) (hd : decode cc pc = .ok (.invokestatic i, 3)) (hi : zt_c own i = some y') (hm : zt_meth y' = some (0, ci, na, maxL)) (hst : as.reverse ++ rest = st) (hna : as.length = na) (hrest : (rest.map fun v => v.category).sum ≤ 8) (hfr : 1 ≤ fr) (hlo : 19 + maxL ≤ lo)
    (h : w_E sc (fr - 1) (lo - (19 + maxL)) y' as τ (.inl none) τ') (k : w_P sc fr lo y own nL cons ret cc (pc + 3) L rest τ' Q) : w_P sc fr lo y own nL cons ret cc pc L st τ Q :=
  w_cal hh hd rfl rfl hi hm hst hna hrest hfr hlo (fun z => by cases z) (fun z => by cases z) (fun z => by cases z) (h.mono (by
    rintro o t ⟨rfl, rfl⟩
    exact k))
theorem w_cS1 {y' ci na maxL i : Nat} {as rest : List Value} {v : Value} (hh : zt_hs y = false) (hd : decode cc pc = .ok (.invokestatic i, 3)) (hi : zt_c own i = some y') (hm : zt_meth y' = some (0, ci, na, maxL)) (hst : as.reverse ++ rest = st) (hna : as.length = na) (hrest : (rest.map fun v => v.category).sum ≤ 8) (hfr : 1 ≤ fr) (hlo : 19 + maxL ≤ lo)
    (h : w_E sc (fr - 1) (lo - (19 + maxL)) y' as τ (.inl (some v)) τ') (k : w_P sc fr lo y own nL cons ret cc (pc + 3) L (v :: rest) τ' Q) : w_P sc fr lo y own nL cons ret cc pc L st τ Q :=
  w_cal hh hd rfl rfl hi hm hst hna hrest hfr hlo (fun z => by cases z) (fun z => by cases z) (fun z => by cases z) (h.mono (by
    rintro o t ⟨rfl, rfl⟩
    exact k))
end R2
