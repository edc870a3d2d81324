/-! THE PURE PART, 35: the law's own code: the script, the switch, a pair of calls -/
def a15 (x : Int32) : Int := (x &&& 15).toInt
theorem a15_r (x : Int32) : 0 ≤ a15 x ∧ a15 x ≤ 15 := by
  have h1 : (x &&& 15).toBitVec.toNat ≤ 15 := by
    rw [Int32.toBitVec_and, BitVec.toNat_and]
    exact Nat.and_le_right
  have h2 : a15 x = ((x &&& 15).toBitVec.toNat : Int) := by
    show (x &&& 15).toBitVec.toInt = _
    exact BitVec.toInt_eq_toNat_of_lt (by omega)
  omega
/-- the script's int at i -/
def scv (sc : Nat × (Nat → Int32)) (i : Int) : Int := (sc.2 i.toNat).toInt
theorem scv_in (sc : Nat × (Nat → Int32)) (i : Int) : -2147483648 ≤ scv sc i ∧ scv sc i < 2147483648 := by
  unfold scv
  have h1 := Int32.minValue_le_toInt (sc.2 i.toNat)
  have h2 := Int32.toInt_lt (sc.2 i.toNat)
  have h3 := Int32.le_toInt (sc.2 i.toNat)
  omega
section LW
variable {sc : Nat × (Nat → Int32)} {fr lo y own nL : Nat} {cons : Bool} {ret : Option FieldType} {cc : ByteArray} {pc : Nat} {L L' : List (Option Value)} {st : List Value} {τ τ' : z_T} {μ : Mem} {ρ : Nat × Nat × Nat} {Q : z_O → z_T → Prop}
theorem w_and15 {x : Int32} (hd : decode cc pc = .ok (.iand, 1)) (k : w_P sc fr lo y own nL cons ret cc (pc + 1) L (.int (ji (a15 x)) :: st) τ Q) : w_P sc fr lo y own nL cons ret cc pc L (.int (ji 15) :: .int x :: st) τ Q := w_stk hd (by
  show some (Value.int (x &&& 15) :: st) = some (Value.int (Int32.ofInt (x &&& 15).toInt) :: st)
  rw [Int32.ofInt_toInt]) k
theorem w_scr {i : Int} (hd : decode cc pc = .ok (.iaload, 1)) (hi : 0 ≤ i ∧ i < sc.1 ∧ sc.1 < 2147483648) (k : w_P sc fr lo y own nL cons ret cc (pc + 1) L (.int (ji (scv sc i)) :: st) τ Q) : w_P sc fr lo y own nL cons ret cc pc L (.int (ji i) :: .float 1000 :: st) τ Q := by
  refine w_rd hd ?_ k
  show (if (1000 : UInt32) = 1000 ∧ ¬ (ji i < 0 ∨ sc.1 ≤ (ji i).toNatClampNeg) then some (Value.int (sc.2 (ji i).toNatClampNeg) :: st) else none) = _
  rw [if_pos ⟨rfl, ji_in hi⟩, ji_clamp (by omega)]
  unfold scv
  rw [show ji ((sc.2 i.toNat).toInt) = sc.2 i.toNat from Int32.ofInt_toInt _]
theorem w_scl (hd : decode cc pc = .ok (.arraylength, 1)) (k : w_P sc fr lo y own nL cons ret cc (pc + 1) L (.int (ji (sc.1 : Int)) :: st) τ Q) : w_P sc fr lo y own nL cons ret cc pc L (.float 1000 :: st) τ Q := by
  refine w_rd hd ?_ k
  show (if (1000 : UInt32) = 1000 then some (Value.int (Int32.ofNat sc.1) :: st) else none) = _
  rw [if_pos rfl]
  rfl
end LW
theorem lc_read {sc : Nat × (Nat → Int32)} {μ μ1 μ2 : Mem} {ρ ρ1 ρ2 : Nat × Nat × Nat} {Q : z_O → z_T → Prop} {i r b : Int} (hi : 0 ≤ i ∧ i + 3 < sc.1 ∧ sc.1 ≤ 2048) (hC : w_E sc (2048 - 1) (84000 - (19 + 4)) 23 [.ref 0, .int (ji (scv sc (i + 1))), .ref 73] (hp μ, ρ) (.inl (some (.int (ji r)))) (hp μ1, ρ1)) (hM : w_E sc (2048 - 1) (84000 - (19 + 4)) 115 [.ref 46, .int (ji (scv sc (i + 1)))] (hp μ1, ρ1) (.inl (some (.int (ji b)))) (hp μ2, ρ2)) (ht : μ2.1 46 0 = r) (hr : 0 ≤ r ∧ r ≤ 3) (ho : r = 0 → μ2.2.2 73 0 = b) (hb : -2147483648 ≤ b ∧ b < 2147483648) (hor : r = 0 → -9223372036854775808 ≤ μ2.2.2 73 0 ∧ μ2.2.2 73 0 < 9223372036854775808) (K : w_P sc 2048 84000 9999 8 8 false ret code 742 [some (.float 1000), some (.ref 0), some (.ref 46), some (.ref 73), some (.int (ji i)), none, none, none] [] (hp μ2, ρ2) Q) : w_P sc 2048 84000 9999 8 8 false ret code 186 [some (.float 1000), some (.ref 0), some (.ref 46), some (.ref 73), some (.int (ji i)), none, none, none] [] (hp μ, ρ) Q := by
  refine w_ld d_L_186 rfl rfl rfl ?_
  refine w_ld d_L_187 rfl rfl rfl ?_
  refine w_ld d_L_188 rfl rfl rfl ?_
  refine w_con d_L_190 ?_
  refine w_iadd d_L_191 ?_
  refine w_scr d_L_192 (by omega) ?_
  refine w_ld d_L_193 rfl rfl rfl ?_
  refine w_cS1 (as := [_, _, _]) (rest := _) (by decide) d_L_194 (by rfl) (by rfl) (by rfl) (by rfl) (Nat.le_of_ble_eq_true rfl) (by omega) (by omega) hC ?_
  refine w_st1 (L' := [_, _, _, _, _, _, _, _]) d_L_197 rfl (by decide) rfl (by decide) rfl ?_
  refine w_ld d_L_199 rfl rfl rfl ?_
  refine w_ld d_L_200 rfl rfl rfl ?_
  refine w_ld d_L_201 rfl rfl rfl ?_
  refine w_con d_L_203 ?_
  refine w_iadd d_L_204 ?_
  refine w_scr d_L_205 (by omega) ?_
  refine w_cV1 (as := [_]) (rest := _) (by decide) d_L_206 (by rfl) (by rfl) rfl (by rfl) (by rfl) (Nat.le_of_ble_eq_true rfl) (by omega) (by omega) hM ?_
  refine w_st1 (L' := [_, _, _, _, _, _, _, _]) d_L_209 rfl (by decide) rfl (by decide) rfl ?_
  refine w_ld d_L_211 rfl rfl rfl ?_
  refine w_cV1 (as := []) (rest := _) (by decide) d_L_212 (by rfl) (by rfl) rfl (by rfl) (by rfl) (Nat.le_of_ble_eq_true rfl) (by omega) (by omega) m_thrown ?_
  refine w_ld d_L_215 rfl rfl rfl ?_
  refine w_icmp_eq (g := 222) d_L_217 (by decide) (by omega) (fun h => ?_) (fun h => absurd ht h)
  refine w_ld d_L_222 rfl rfl rfl ?_
  refine w_if_ne (g := 239) d_L_224 (by decide) (by omega) (fun h2 => ?_) (fun h2 => ?_)
  · refine w_goto (g := 742) d_L_239 (by decide) (w_P.le K ⟨rfl, rfl, rfl, rfl, rfl, trivial⟩)
  · refine w_ld d_L_227 rfl rfl rfl ?_
    refine w_con d_L_228 ?_
    refine w_aL d_L_229 rfl (by omega) rfl ?_
    refine w_ld d_L_230 rfl rfl rfl ?_
    refine w_i2l d_L_232 hb ?_
    refine w_lcmp d_L_233 (by have := hor h2; omega) ?_
    refine w_if_eq (g := 239) d_L_234 (by decide) (by have := lcm_in (μ2.2.2 73 0) b; omega) (fun h3 => ?_) (fun h3 => absurd ((lcm_eq _ _).mpr (ho h2)) h3)
    refine w_goto (g := 742) d_L_239 (by decide) (w_P.le K ⟨rfl, rfl, rfl, rfl, rfl, trivial⟩)
theorem lc_write {sc : Nat × (Nat → Int32)} {μ μ1 μ2 : Mem} {ρ ρ1 ρ2 : Nat × Nat × Nat} {Q : z_O → z_T → Prop} {i r b : Int} (hi : 0 ≤ i ∧ i + 3 < sc.1 ∧ sc.1 ≤ 2048) (hC : w_E sc (2048 - 1) (84000 - (19 + 4)) 70 [.ref 0, .int (ji (scv sc (i + 1))), .ref 73] (hp μ, ρ) (.inl (some (.int (ji r)))) (hp μ1, ρ1)) (hM : w_E sc (2048 - 1) (84000 - (19 + 3)) 153 [.ref 46, .int (ji (scv sc (i + 1)))] (hp μ1, ρ1) (.inl (some (.int (ji b)))) (hp μ2, ρ2)) (ht : μ2.1 46 0 = r) (hr : 0 ≤ r ∧ r ≤ 3) (ho : r = 0 → μ2.2.2 73 0 = b) (hb : -2147483648 ≤ b ∧ b < 2147483648) (hor : r = 0 → -9223372036854775808 ≤ μ2.2.2 73 0 ∧ μ2.2.2 73 0 < 9223372036854775808) (K : w_P sc 2048 84000 9999 8 8 false ret code 742 [some (.float 1000), some (.ref 0), some (.ref 46), some (.ref 73), some (.int (ji i)), none, none, none] [] (hp μ2, ρ2) Q) : w_P sc 2048 84000 9999 8 8 false ret code 255 [some (.float 1000), some (.ref 0), some (.ref 46), some (.ref 73), some (.int (ji i)), none, none, none] [] (hp μ, ρ) Q := by
  refine w_ld d_L_255 rfl rfl rfl ?_
  refine w_ld d_L_256 rfl rfl rfl ?_
  refine w_ld d_L_257 rfl rfl rfl ?_
  refine w_con d_L_259 ?_
  refine w_iadd d_L_260 ?_
  refine w_scr d_L_261 (by omega) ?_
  refine w_ld d_L_262 rfl rfl rfl ?_
  refine w_cS1 (as := [_, _, _]) (rest := _) (by decide) d_L_263 (by rfl) (by rfl) (by rfl) (by rfl) (Nat.le_of_ble_eq_true rfl) (by omega) (by omega) hC ?_
  refine w_st1 (L' := [_, _, _, _, _, _, _, _]) d_L_266 rfl (by decide) rfl (by decide) rfl ?_
  refine w_ld d_L_268 rfl rfl rfl ?_
  refine w_ld d_L_269 rfl rfl rfl ?_
  refine w_ld d_L_270 rfl rfl rfl ?_
  refine w_con d_L_272 ?_
  refine w_iadd d_L_273 ?_
  refine w_scr d_L_274 (by omega) ?_
  refine w_cV1 (as := [_]) (rest := _) (by decide) d_L_275 (by rfl) (by rfl) rfl (by rfl) (by rfl) (Nat.le_of_ble_eq_true rfl) (by omega) (by omega) hM ?_
  refine w_st1 (L' := [_, _, _, _, _, _, _, _]) d_L_278 rfl (by decide) rfl (by decide) rfl ?_
  refine w_ld d_L_280 rfl rfl rfl ?_
  refine w_cV1 (as := []) (rest := _) (by decide) d_L_281 (by rfl) (by rfl) rfl (by rfl) (by rfl) (Nat.le_of_ble_eq_true rfl) (by omega) (by omega) m_thrown ?_
  refine w_ld d_L_284 rfl rfl rfl ?_
  refine w_icmp_eq (g := 291) d_L_286 (by decide) (by omega) (fun h => ?_) (fun h => absurd ht h)
  refine w_ld d_L_291 rfl rfl rfl ?_
  refine w_if_ne (g := 308) d_L_293 (by decide) (by omega) (fun h2 => ?_) (fun h2 => ?_)
  · refine w_goto (g := 742) d_L_308 (by decide) (w_P.le K ⟨rfl, rfl, rfl, rfl, rfl, trivial⟩)
  · refine w_ld d_L_296 rfl rfl rfl ?_
    refine w_con d_L_297 ?_
    refine w_aL d_L_298 rfl (by omega) rfl ?_
    refine w_ld d_L_299 rfl rfl rfl ?_
    refine w_i2l d_L_301 hb ?_
    refine w_lcmp d_L_302 (by have := hor h2; omega) ?_
    refine w_if_eq (g := 308) d_L_303 (by decide) (by have := lcm_in (μ2.2.2 73 0) b; omega) (fun h3 => ?_) (fun h3 => absurd ((lcm_eq _ _).mpr (ho h2)) h3)
    refine w_goto (g := 742) d_L_308 (by decide) (w_P.le K ⟨rfl, rfl, rfl, rfl, rfl, trivial⟩)
theorem lc_values {sc : Nat × (Nat → Int32)} {μ μ1 μ2 : Mem} {ρ ρ1 ρ2 : Nat × Nat × Nat} {Q : z_O → z_T → Prop} {i r b : Int} (hi : 0 ≤ i ∧ i + 3 < sc.1 ∧ sc.1 ≤ 2048) (hC : w_E sc (2048 - 1) (84000 - (19 + 4)) 95 [.ref 0, .int (ji (scv sc (i + 1))), .ref 73] (hp μ, ρ) (.inl (some (.int (ji r)))) (hp μ1, ρ1)) (hM : w_E sc (2048 - 1) (84000 - (19 + 2)) 172 [.ref 46, .int (ji (scv sc (i + 1)))] (hp μ1, ρ1) (.inl (some (.int (ji b)))) (hp μ2, ρ2)) (ht : μ2.1 46 0 = r) (hr : 0 ≤ r ∧ r ≤ 3) (ho : r = 0 → μ2.2.2 73 0 = b) (hb : -2147483648 ≤ b ∧ b < 2147483648) (hor : r = 0 → -9223372036854775808 ≤ μ2.2.2 73 0 ∧ μ2.2.2 73 0 < 9223372036854775808) (K : w_P sc 2048 84000 9999 8 8 false ret code 742 [some (.float 1000), some (.ref 0), some (.ref 46), some (.ref 73), some (.int (ji i)), none, none, none] [] (hp μ2, ρ2) Q) : w_P sc 2048 84000 9999 8 8 false ret code 311 [some (.float 1000), some (.ref 0), some (.ref 46), some (.ref 73), some (.int (ji i)), none, none, none] [] (hp μ, ρ) Q := by
  refine w_ld d_L_311 rfl rfl rfl ?_
  refine w_ld d_L_312 rfl rfl rfl ?_
  refine w_ld d_L_313 rfl rfl rfl ?_
  refine w_con d_L_315 ?_
  refine w_iadd d_L_316 ?_
  refine w_scr d_L_317 (by omega) ?_
  refine w_ld d_L_318 rfl rfl rfl ?_
  refine w_cS1 (as := [_, _, _]) (rest := _) (by decide) d_L_319 (by rfl) (by rfl) (by rfl) (by rfl) (Nat.le_of_ble_eq_true rfl) (by omega) (by omega) hC ?_
  refine w_st1 (L' := [_, _, _, _, _, _, _, _]) d_L_322 rfl (by decide) rfl (by decide) rfl ?_
  refine w_ld d_L_324 rfl rfl rfl ?_
  refine w_ld d_L_325 rfl rfl rfl ?_
  refine w_ld d_L_326 rfl rfl rfl ?_
  refine w_con d_L_328 ?_
  refine w_iadd d_L_329 ?_
  refine w_scr d_L_330 (by omega) ?_
  refine w_cV1 (as := [_]) (rest := _) (by decide) d_L_331 (by rfl) (by rfl) rfl (by rfl) (by rfl) (Nat.le_of_ble_eq_true rfl) (by omega) (by omega) hM ?_
  refine w_st1 (L' := [_, _, _, _, _, _, _, _]) d_L_334 rfl (by decide) rfl (by decide) rfl ?_
  refine w_ld d_L_336 rfl rfl rfl ?_
  refine w_cV1 (as := []) (rest := _) (by decide) d_L_337 (by rfl) (by rfl) rfl (by rfl) (by rfl) (Nat.le_of_ble_eq_true rfl) (by omega) (by omega) m_thrown ?_
  refine w_ld d_L_340 rfl rfl rfl ?_
  refine w_icmp_eq (g := 347) d_L_342 (by decide) (by omega) (fun h => ?_) (fun h => absurd ht h)
  refine w_ld d_L_347 rfl rfl rfl ?_
  refine w_if_ne (g := 364) d_L_349 (by decide) (by omega) (fun h2 => ?_) (fun h2 => ?_)
  · refine w_goto (g := 742) d_L_364 (by decide) (w_P.le K ⟨rfl, rfl, rfl, rfl, rfl, trivial⟩)
  · refine w_ld d_L_352 rfl rfl rfl ?_
    refine w_con d_L_353 ?_
    refine w_aL d_L_354 rfl (by omega) rfl ?_
    refine w_ld d_L_355 rfl rfl rfl ?_
    refine w_i2l d_L_357 hb ?_
    refine w_lcmp d_L_358 (by have := hor h2; omega) ?_
    refine w_if_eq (g := 364) d_L_359 (by decide) (by have := lcm_in (μ2.2.2 73 0) b; omega) (fun h3 => ?_) (fun h3 => absurd ((lcm_eq _ _).mpr (ho h2)) h3)
    refine w_goto (g := 742) d_L_364 (by decide) (w_P.le K ⟨rfl, rfl, rfl, rfl, rfl, trivial⟩)
theorem lc_kind {sc : Nat × (Nat → Int32)} {μ μ1 μ2 : Mem} {ρ ρ1 ρ2 : Nat × Nat × Nat} {Q : z_O → z_T → Prop} {i r b : Int} (hi : 0 ≤ i ∧ i + 3 < sc.1 ∧ sc.1 ≤ 2048) (hC : w_E sc (2048 - 1) (84000 - (19 + 5)) 97 [.ref 0, .int (ji (scv sc (i + 1))), .int (ji (scv sc (i + 2))), .ref 73] (hp μ, ρ) (.inl (some (.int (ji r)))) (hp μ1, ρ1)) (hM : w_E sc (2048 - 1) (84000 - (19 + 3)) 173 [.ref 46, .int (ji (scv sc (i + 1))), .int (ji (scv sc (i + 2)))] (hp μ1, ρ1) (.inl (some (.int (ji b)))) (hp μ2, ρ2)) (ht : μ2.1 46 0 = r) (hr : 0 ≤ r ∧ r ≤ 3) (ho : r = 0 → μ2.2.2 73 0 = b) (hb : -2147483648 ≤ b ∧ b < 2147483648) (hor : r = 0 → -9223372036854775808 ≤ μ2.2.2 73 0 ∧ μ2.2.2 73 0 < 9223372036854775808) (K : w_P sc 2048 84000 9999 8 8 false ret code 742 [some (.float 1000), some (.ref 0), some (.ref 46), some (.ref 73), some (.int (ji i)), none, none, none] [] (hp μ2, ρ2) Q) : w_P sc 2048 84000 9999 8 8 false ret code 367 [some (.float 1000), some (.ref 0), some (.ref 46), some (.ref 73), some (.int (ji i)), none, none, none] [] (hp μ, ρ) Q := by
  refine w_ld d_L_367 rfl rfl rfl ?_
  refine w_ld d_L_368 rfl rfl rfl ?_
  refine w_ld d_L_369 rfl rfl rfl ?_
  refine w_con d_L_371 ?_
  refine w_iadd d_L_372 ?_
  refine w_scr d_L_373 (by omega) ?_
  refine w_ld d_L_374 rfl rfl rfl ?_
  refine w_ld d_L_375 rfl rfl rfl ?_
  refine w_con d_L_377 ?_
  refine w_iadd d_L_378 ?_
  refine w_scr d_L_379 (by omega) ?_
  refine w_ld d_L_380 rfl rfl rfl ?_
  refine w_cS1 (as := [_, _, _, _]) (rest := _) (by decide) d_L_381 (by rfl) (by rfl) (by rfl) (by rfl) (Nat.le_of_ble_eq_true rfl) (by omega) (by omega) hC ?_
  refine w_st1 (L' := [_, _, _, _, _, _, _, _]) d_L_384 rfl (by decide) rfl (by decide) rfl ?_
  refine w_ld d_L_386 rfl rfl rfl ?_
  refine w_ld d_L_387 rfl rfl rfl ?_
  refine w_ld d_L_388 rfl rfl rfl ?_
  refine w_con d_L_390 ?_
  refine w_iadd d_L_391 ?_
  refine w_scr d_L_392 (by omega) ?_
  refine w_ld d_L_393 rfl rfl rfl ?_
  refine w_ld d_L_394 rfl rfl rfl ?_
  refine w_con d_L_396 ?_
  refine w_iadd d_L_397 ?_
  refine w_scr d_L_398 (by omega) ?_
  refine w_cV1 (as := [_, _]) (rest := _) (by decide) d_L_399 (by rfl) (by rfl) rfl (by rfl) (by rfl) (Nat.le_of_ble_eq_true rfl) (by omega) (by omega) hM ?_
  refine w_st1 (L' := [_, _, _, _, _, _, _, _]) d_L_402 rfl (by decide) rfl (by decide) rfl ?_
  refine w_ld d_L_404 rfl rfl rfl ?_
  refine w_cV1 (as := []) (rest := _) (by decide) d_L_405 (by rfl) (by rfl) rfl (by rfl) (by rfl) (Nat.le_of_ble_eq_true rfl) (by omega) (by omega) m_thrown ?_
  refine w_ld d_L_408 rfl rfl rfl ?_
  refine w_icmp_eq (g := 415) d_L_410 (by decide) (by omega) (fun h => ?_) (fun h => absurd ht h)
  refine w_ld d_L_415 rfl rfl rfl ?_
  refine w_if_ne (g := 432) d_L_417 (by decide) (by omega) (fun h2 => ?_) (fun h2 => ?_)
  · refine w_goto (g := 742) d_L_432 (by decide) (w_P.le K ⟨rfl, rfl, rfl, rfl, rfl, trivial⟩)
  · refine w_ld d_L_420 rfl rfl rfl ?_
    refine w_con d_L_421 ?_
    refine w_aL d_L_422 rfl (by omega) rfl ?_
    refine w_ld d_L_423 rfl rfl rfl ?_
    refine w_i2l d_L_425 hb ?_
    refine w_lcmp d_L_426 (by have := hor h2; omega) ?_
    refine w_if_eq (g := 432) d_L_427 (by decide) (by have := lcm_in (μ2.2.2 73 0) b; omega) (fun h3 => ?_) (fun h3 => absurd ((lcm_eq _ _).mpr (ho h2)) h3)
    refine w_goto (g := 742) d_L_432 (by decide) (w_P.le K ⟨rfl, rfl, rfl, rfl, rfl, trivial⟩)
theorem lc_size {sc : Nat × (Nat → Int32)} {μ μ1 μ2 : Mem} {ρ ρ1 ρ2 : Nat × Nat × Nat} {Q : z_O → z_T → Prop} {i r b : Int} (hi : 0 ≤ i ∧ i + 3 < sc.1 ∧ sc.1 ≤ 2048) (hC : w_E sc (2048 - 1) (84000 - (19 + 5)) 100 [.ref 0, .int (ji (scv sc (i + 1))), .int (ji (scv sc (i + 2))), .ref 73] (hp μ, ρ) (.inl (some (.int (ji r)))) (hp μ1, ρ1)) (hM : w_E sc (2048 - 1) (84000 - (19 + 4)) 175 [.ref 46, .int (ji (scv sc (i + 1))), .int (ji (scv sc (i + 2)))] (hp μ1, ρ1) (.inl (some (.int (ji b)))) (hp μ2, ρ2)) (ht : μ2.1 46 0 = r) (hr : 0 ≤ r ∧ r ≤ 3) (ho : r = 0 → μ2.2.2 73 0 = b) (hb : -2147483648 ≤ b ∧ b < 2147483648) (hor : r = 0 → -9223372036854775808 ≤ μ2.2.2 73 0 ∧ μ2.2.2 73 0 < 9223372036854775808) (K : w_P sc 2048 84000 9999 8 8 false ret code 742 [some (.float 1000), some (.ref 0), some (.ref 46), some (.ref 73), some (.int (ji i)), none, none, none] [] (hp μ2, ρ2) Q) : w_P sc 2048 84000 9999 8 8 false ret code 435 [some (.float 1000), some (.ref 0), some (.ref 46), some (.ref 73), some (.int (ji i)), none, none, none] [] (hp μ, ρ) Q := by
  refine w_ld d_L_435 rfl rfl rfl ?_
  refine w_ld d_L_436 rfl rfl rfl ?_
  refine w_ld d_L_437 rfl rfl rfl ?_
  refine w_con d_L_439 ?_
  refine w_iadd d_L_440 ?_
  refine w_scr d_L_441 (by omega) ?_
  refine w_ld d_L_442 rfl rfl rfl ?_
  refine w_ld d_L_443 rfl rfl rfl ?_
  refine w_con d_L_445 ?_
  refine w_iadd d_L_446 ?_
  refine w_scr d_L_447 (by omega) ?_
  refine w_ld d_L_448 rfl rfl rfl ?_
  refine w_cS1 (as := [_, _, _, _]) (rest := _) (by decide) d_L_449 (by rfl) (by rfl) (by rfl) (by rfl) (Nat.le_of_ble_eq_true rfl) (by omega) (by omega) hC ?_
  refine w_st1 (L' := [_, _, _, _, _, _, _, _]) d_L_452 rfl (by decide) rfl (by decide) rfl ?_
  refine w_ld d_L_454 rfl rfl rfl ?_
  refine w_ld d_L_455 rfl rfl rfl ?_
  refine w_ld d_L_456 rfl rfl rfl ?_
  refine w_con d_L_458 ?_
  refine w_iadd d_L_459 ?_
  refine w_scr d_L_460 (by omega) ?_
  refine w_ld d_L_461 rfl rfl rfl ?_
  refine w_ld d_L_462 rfl rfl rfl ?_
  refine w_con d_L_464 ?_
  refine w_iadd d_L_465 ?_
  refine w_scr d_L_466 (by omega) ?_
  refine w_cV1 (as := [_, _]) (rest := _) (by decide) d_L_467 (by rfl) (by rfl) rfl (by rfl) (by rfl) (Nat.le_of_ble_eq_true rfl) (by omega) (by omega) hM ?_
  refine w_st1 (L' := [_, _, _, _, _, _, _, _]) d_L_470 rfl (by decide) rfl (by decide) rfl ?_
  refine w_ld d_L_472 rfl rfl rfl ?_
  refine w_cV1 (as := []) (rest := _) (by decide) d_L_473 (by rfl) (by rfl) rfl (by rfl) (by rfl) (Nat.le_of_ble_eq_true rfl) (by omega) (by omega) m_thrown ?_
  refine w_ld d_L_476 rfl rfl rfl ?_
  refine w_icmp_eq (g := 483) d_L_478 (by decide) (by omega) (fun h => ?_) (fun h => absurd ht h)
  refine w_ld d_L_483 rfl rfl rfl ?_
  refine w_if_ne (g := 500) d_L_485 (by decide) (by omega) (fun h2 => ?_) (fun h2 => ?_)
  · refine w_goto (g := 742) d_L_500 (by decide) (w_P.le K ⟨rfl, rfl, rfl, rfl, rfl, trivial⟩)
  · refine w_ld d_L_488 rfl rfl rfl ?_
    refine w_con d_L_489 ?_
    refine w_aL d_L_490 rfl (by omega) rfl ?_
    refine w_ld d_L_491 rfl rfl rfl ?_
    refine w_i2l d_L_493 hb ?_
    refine w_lcmp d_L_494 (by have := hor h2; omega) ?_
    refine w_if_eq (g := 500) d_L_495 (by decide) (by have := lcm_in (μ2.2.2 73 0) b; omega) (fun h3 => ?_) (fun h3 => absurd ((lcm_eq _ _).mpr (ho h2)) h3)
    refine w_goto (g := 742) d_L_500 (by decide) (w_P.le K ⟨rfl, rfl, rfl, rfl, rfl, trivial⟩)
theorem lc_number {sc : Nat × (Nat → Int32)} {μ μ1 μ2 : Mem} {ρ ρ1 ρ2 : Nat × Nat × Nat} {Q : z_O → z_T → Prop} {i r b : Int} (hi : 0 ≤ i ∧ i + 3 < sc.1 ∧ sc.1 ≤ 2048) (hC : w_E sc (2048 - 1) (84000 - (19 + 5)) 102 [.ref 0, .int (ji (scv sc (i + 1))), .int (ji (scv sc (i + 2))), .ref 73] (hp μ, ρ) (.inl (some (.int (ji r)))) (hp μ1, ρ1)) (hM : w_E sc (2048 - 1) (84000 - (19 + 3)) 176 [.ref 46, .int (ji (scv sc (i + 1))), .int (ji (scv sc (i + 2)))] (hp μ1, ρ1) (.inl (some (.long (jl b)))) (hp μ2, ρ2)) (ht : μ2.1 46 0 = r) (hr : 0 ≤ r ∧ r ≤ 3) (ho : r = 0 → μ2.2.2 73 0 = b) (hb : -9223372036854775808 ≤ b ∧ b < 9223372036854775808) (hor : r = 0 → -9223372036854775808 ≤ μ2.2.2 73 0 ∧ μ2.2.2 73 0 < 9223372036854775808) (K : w_P sc 2048 84000 9999 8 8 false ret code 742 [some (.float 1000), some (.ref 0), some (.ref 46), some (.ref 73), some (.int (ji i)), none, none, none] [] (hp μ2, ρ2) Q) : w_P sc 2048 84000 9999 8 8 false ret code 503 [some (.float 1000), some (.ref 0), some (.ref 46), some (.ref 73), some (.int (ji i)), none, none, none] [] (hp μ, ρ) Q := by
  refine w_ld d_L_503 rfl rfl rfl ?_
  refine w_ld d_L_504 rfl rfl rfl ?_
  refine w_ld d_L_505 rfl rfl rfl ?_
  refine w_con d_L_507 ?_
  refine w_iadd d_L_508 ?_
  refine w_scr d_L_509 (by omega) ?_
  refine w_ld d_L_510 rfl rfl rfl ?_
  refine w_ld d_L_511 rfl rfl rfl ?_
  refine w_con d_L_513 ?_
  refine w_iadd d_L_514 ?_
  refine w_scr d_L_515 (by omega) ?_
  refine w_ld d_L_516 rfl rfl rfl ?_
  refine w_cS1 (as := [_, _, _, _]) (rest := _) (by decide) d_L_517 (by rfl) (by rfl) (by rfl) (by rfl) (Nat.le_of_ble_eq_true rfl) (by omega) (by omega) hC ?_
  refine w_st1 (L' := [_, _, _, _, _, _, _, _]) d_L_520 rfl (by decide) rfl (by decide) rfl ?_
  refine w_ld d_L_522 rfl rfl rfl ?_
  refine w_ld d_L_523 rfl rfl rfl ?_
  refine w_ld d_L_524 rfl rfl rfl ?_
  refine w_con d_L_526 ?_
  refine w_iadd d_L_527 ?_
  refine w_scr d_L_528 (by omega) ?_
  refine w_ld d_L_529 rfl rfl rfl ?_
  refine w_ld d_L_530 rfl rfl rfl ?_
  refine w_con d_L_532 ?_
  refine w_iadd d_L_533 ?_
  refine w_scr d_L_534 (by omega) ?_
  refine w_cV1 (as := [_, _]) (rest := _) (by decide) d_L_535 (by rfl) (by rfl) rfl (by rfl) (by rfl) (Nat.le_of_ble_eq_true rfl) (by omega) (by omega) hM ?_
  refine w_st2 (L' := [_, _, _, _, _, _, _, _]) d_L_538 rfl rfl (by decide) rfl ?_
  refine w_ld d_L_540 rfl rfl rfl ?_
  refine w_cV1 (as := []) (rest := _) (by decide) d_L_541 (by rfl) (by rfl) rfl (by rfl) (by rfl) (Nat.le_of_ble_eq_true rfl) (by omega) (by omega) m_thrown ?_
  refine w_ld d_L_544 rfl rfl rfl ?_
  refine w_icmp_eq (g := 551) d_L_546 (by decide) (by omega) (fun h => ?_) (fun h => absurd ht h)
  refine w_ld d_L_551 rfl rfl rfl ?_
  refine w_if_ne (g := 567) d_L_553 (by decide) (by omega) (fun h2 => ?_) (fun h2 => ?_)
  · refine w_goto (g := 742) d_L_567 (by decide) (w_P.le K ⟨rfl, rfl, rfl, rfl, rfl, trivial⟩)
  · refine w_ld d_L_556 rfl rfl rfl ?_
    refine w_con d_L_557 ?_
    refine w_aL d_L_558 rfl (by omega) rfl ?_
    refine w_ld d_L_559 rfl rfl rfl ?_
    refine w_lcmp d_L_561 (by have := hor h2; omega) ?_
    refine w_if_eq (g := 567) d_L_562 (by decide) (by have := lcm_in (μ2.2.2 73 0) b; omega) (fun h3 => ?_) (fun h3 => absurd ((lcm_eq _ _).mpr (ho h2)) h3)
    refine w_goto (g := 742) d_L_567 (by decide) (w_P.le K ⟨rfl, rfl, rfl, rfl, rfl, trivial⟩)
theorem lc_letter {sc : Nat × (Nat → Int32)} {μ μ1 μ2 : Mem} {ρ ρ1 ρ2 : Nat × Nat × Nat} {Q : z_O → z_T → Prop} {i r b : Int} (hi : 0 ≤ i ∧ i + 3 < sc.1 ∧ sc.1 ≤ 2048) (hC : w_E sc (2048 - 1) (84000 - (19 + 6)) 104 [.ref 0, .int (ji (scv sc (i + 1))), .int (ji (scv sc (i + 2))), .int (ji (scv sc (i + 3))), .ref 73] (hp μ, ρ) (.inl (some (.int (ji r)))) (hp μ1, ρ1)) (hM : w_E sc (2048 - 1) (84000 - (19 + 5)) 177 [.ref 46, .int (ji (scv sc (i + 1))), .int (ji (scv sc (i + 2))), .int (ji (scv sc (i + 3)))] (hp μ1, ρ1) (.inl (some (.int (ji b)))) (hp μ2, ρ2)) (ht : μ2.1 46 0 = r) (hr : 0 ≤ r ∧ r ≤ 3) (ho : r = 0 → μ2.2.2 73 0 = b) (hb : -2147483648 ≤ b ∧ b < 2147483648) (hor : r = 0 → -9223372036854775808 ≤ μ2.2.2 73 0 ∧ μ2.2.2 73 0 < 9223372036854775808) (K : w_P sc 2048 84000 9999 8 8 false ret code 742 [some (.float 1000), some (.ref 0), some (.ref 46), some (.ref 73), some (.int (ji i)), none, none, none] [] (hp μ2, ρ2) Q) : w_P sc 2048 84000 9999 8 8 false ret code 570 [some (.float 1000), some (.ref 0), some (.ref 46), some (.ref 73), some (.int (ji i)), none, none, none] [] (hp μ, ρ) Q := by
  refine w_ld d_L_570 rfl rfl rfl ?_
  refine w_ld d_L_571 rfl rfl rfl ?_
  refine w_ld d_L_572 rfl rfl rfl ?_
  refine w_con d_L_574 ?_
  refine w_iadd d_L_575 ?_
  refine w_scr d_L_576 (by omega) ?_
  refine w_ld d_L_577 rfl rfl rfl ?_
  refine w_ld d_L_578 rfl rfl rfl ?_
  refine w_con d_L_580 ?_
  refine w_iadd d_L_581 ?_
  refine w_scr d_L_582 (by omega) ?_
  refine w_ld d_L_583 rfl rfl rfl ?_
  refine w_ld d_L_584 rfl rfl rfl ?_
  refine w_con d_L_586 ?_
  refine w_iadd d_L_587 ?_
  refine w_scr d_L_588 (by omega) ?_
  refine w_ld d_L_589 rfl rfl rfl ?_
  refine w_cS1 (as := [_, _, _, _, _]) (rest := _) (by decide) d_L_590 (by rfl) (by rfl) (by rfl) (by rfl) (Nat.le_of_ble_eq_true rfl) (by omega) (by omega) hC ?_
  refine w_st1 (L' := [_, _, _, _, _, _, _, _]) d_L_593 rfl (by decide) rfl (by decide) rfl ?_
  refine w_ld d_L_595 rfl rfl rfl ?_
  refine w_ld d_L_596 rfl rfl rfl ?_
  refine w_ld d_L_597 rfl rfl rfl ?_
  refine w_con d_L_599 ?_
  refine w_iadd d_L_600 ?_
  refine w_scr d_L_601 (by omega) ?_
  refine w_ld d_L_602 rfl rfl rfl ?_
  refine w_ld d_L_603 rfl rfl rfl ?_
  refine w_con d_L_605 ?_
  refine w_iadd d_L_606 ?_
  refine w_scr d_L_607 (by omega) ?_
  refine w_ld d_L_608 rfl rfl rfl ?_
  refine w_ld d_L_609 rfl rfl rfl ?_
  refine w_con d_L_611 ?_
  refine w_iadd d_L_612 ?_
  refine w_scr d_L_613 (by omega) ?_
  refine w_cV1 (as := [_, _, _]) (rest := _) (by decide) d_L_614 (by rfl) (by rfl) rfl (by rfl) (by rfl) (Nat.le_of_ble_eq_true rfl) (by omega) (by omega) hM ?_
  refine w_st1 (L' := [_, _, _, _, _, _, _, _]) d_L_617 rfl (by decide) rfl (by decide) rfl ?_
  refine w_ld d_L_619 rfl rfl rfl ?_
  refine w_cV1 (as := []) (rest := _) (by decide) d_L_620 (by rfl) (by rfl) rfl (by rfl) (by rfl) (Nat.le_of_ble_eq_true rfl) (by omega) (by omega) m_thrown ?_
  refine w_ld d_L_623 rfl rfl rfl ?_
  refine w_icmp_eq (g := 630) d_L_625 (by decide) (by omega) (fun h => ?_) (fun h => absurd ht h)
  refine w_ld d_L_630 rfl rfl rfl ?_
  refine w_if_ne (g := 647) d_L_632 (by decide) (by omega) (fun h2 => ?_) (fun h2 => ?_)
  · refine w_goto (g := 742) d_L_647 (by decide) (w_P.le K ⟨rfl, rfl, rfl, rfl, rfl, trivial⟩)
  · refine w_ld d_L_635 rfl rfl rfl ?_
    refine w_con d_L_636 ?_
    refine w_aL d_L_637 rfl (by omega) rfl ?_
    refine w_ld d_L_638 rfl rfl rfl ?_
    refine w_i2l d_L_640 hb ?_
    refine w_lcmp d_L_641 (by have := hor h2; omega) ?_
    refine w_if_eq (g := 647) d_L_642 (by decide) (by have := lcm_in (μ2.2.2 73 0) b; omega) (fun h3 => ?_) (fun h3 => absurd ((lcm_eq _ _).mpr (ho h2)) h3)
    refine w_goto (g := 742) d_L_647 (by decide) (w_P.le K ⟨rfl, rfl, rfl, rfl, rfl, trivial⟩)
theorem lc_pick {sc : Nat × (Nat → Int32)} {μ μ1 μ2 : Mem} {ρ ρ1 ρ2 : Nat × Nat × Nat} {Q : z_O → z_T → Prop} {i r b : Int} (hi : 0 ≤ i ∧ i + 3 < sc.1 ∧ sc.1 ≤ 2048) (hC : w_E sc (2048 - 1) (84000 - (19 + 5)) 106 [.ref 0, .int (ji (scv sc (i + 1))), .int (ji (scv sc (i + 2))), .ref 73] (hp μ, ρ) (.inl (some (.int (ji r)))) (hp μ1, ρ1)) (hM : w_E sc (2048 - 1) (84000 - (19 + 4)) 178 [.ref 46, .int (ji (scv sc (i + 1))), .int (ji (scv sc (i + 2)))] (hp μ1, ρ1) (.inl (some (.int (ji b)))) (hp μ2, ρ2)) (ht : μ2.1 46 0 = r) (hr : 0 ≤ r ∧ r ≤ 3) (ho : r = 0 → μ2.2.2 73 0 = b) (hb : -2147483648 ≤ b ∧ b < 2147483648) (hor : r = 0 → -9223372036854775808 ≤ μ2.2.2 73 0 ∧ μ2.2.2 73 0 < 9223372036854775808) (K : w_P sc 2048 84000 9999 8 8 false ret code 742 [some (.float 1000), some (.ref 0), some (.ref 46), some (.ref 73), some (.int (ji i)), none, none, none] [] (hp μ2, ρ2) Q) : w_P sc 2048 84000 9999 8 8 false ret code 650 [some (.float 1000), some (.ref 0), some (.ref 46), some (.ref 73), some (.int (ji i)), none, none, none] [] (hp μ, ρ) Q := by
  refine w_ld d_L_650 rfl rfl rfl ?_
  refine w_ld d_L_651 rfl rfl rfl ?_
  refine w_ld d_L_652 rfl rfl rfl ?_
  refine w_con d_L_654 ?_
  refine w_iadd d_L_655 ?_
  refine w_scr d_L_656 (by omega) ?_
  refine w_ld d_L_657 rfl rfl rfl ?_
  refine w_ld d_L_658 rfl rfl rfl ?_
  refine w_con d_L_660 ?_
  refine w_iadd d_L_661 ?_
  refine w_scr d_L_662 (by omega) ?_
  refine w_ld d_L_663 rfl rfl rfl ?_
  refine w_cS1 (as := [_, _, _, _]) (rest := _) (by decide) d_L_664 (by rfl) (by rfl) (by rfl) (by rfl) (Nat.le_of_ble_eq_true rfl) (by omega) (by omega) hC ?_
  refine w_st1 (L' := [_, _, _, _, _, _, _, _]) d_L_667 rfl (by decide) rfl (by decide) rfl ?_
  refine w_ld d_L_669 rfl rfl rfl ?_
  refine w_ld d_L_670 rfl rfl rfl ?_
  refine w_ld d_L_671 rfl rfl rfl ?_
  refine w_con d_L_673 ?_
  refine w_iadd d_L_674 ?_
  refine w_scr d_L_675 (by omega) ?_
  refine w_ld d_L_676 rfl rfl rfl ?_
  refine w_ld d_L_677 rfl rfl rfl ?_
  refine w_con d_L_679 ?_
  refine w_iadd d_L_680 ?_
  refine w_scr d_L_681 (by omega) ?_
  refine w_cV1 (as := [_, _]) (rest := _) (by decide) d_L_682 (by rfl) (by rfl) rfl (by rfl) (by rfl) (Nat.le_of_ble_eq_true rfl) (by omega) (by omega) hM ?_
  refine w_st1 (L' := [_, _, _, _, _, _, _, _]) d_L_685 rfl (by decide) rfl (by decide) rfl ?_
  refine w_ld d_L_687 rfl rfl rfl ?_
  refine w_cV1 (as := []) (rest := _) (by decide) d_L_688 (by rfl) (by rfl) rfl (by rfl) (by rfl) (Nat.le_of_ble_eq_true rfl) (by omega) (by omega) m_thrown ?_
  refine w_ld d_L_691 rfl rfl rfl ?_
  refine w_icmp_eq (g := 698) d_L_693 (by decide) (by omega) (fun h => ?_) (fun h => absurd ht h)
  refine w_ld d_L_698 rfl rfl rfl ?_
  refine w_if_ne (g := 715) d_L_700 (by decide) (by omega) (fun h2 => ?_) (fun h2 => ?_)
  · refine w_goto (g := 742) d_L_715 (by decide) (w_P.le K ⟨rfl, rfl, rfl, rfl, rfl, trivial⟩)
  · refine w_ld d_L_703 rfl rfl rfl ?_
    refine w_con d_L_704 ?_
    refine w_aL d_L_705 rfl (by omega) rfl ?_
    refine w_ld d_L_706 rfl rfl rfl ?_
    refine w_i2l d_L_708 hb ?_
    refine w_lcmp d_L_709 (by have := hor h2; omega) ?_
    refine w_if_eq (g := 715) d_L_710 (by decide) (by have := lcm_in (μ2.2.2 73 0) b; omega) (fun h3 => ?_) (fun h3 => absurd ((lcm_eq _ _).mpr (ho h2)) h3)
    refine w_goto (g := 742) d_L_715 (by decide) (w_P.le K ⟨rfl, rfl, rfl, rfl, rfl, trivial⟩)
