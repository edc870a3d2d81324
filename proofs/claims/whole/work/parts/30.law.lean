/-! THE PURE PART, 14: calls under handlers; contracts: the law's own asking methods -/
section HC
variable {sc : Nat × (Nat → Int32)} {fr lo y own nL : Nat} {cons : Bool} {ret : Option FieldType} {cc : ByteArray} {pc : Nat} {L L' : List (Option Value)} {st : List Value} {τ τ' : z_T} {μ : Mem} {ρ : Nat × Nat × Nat} {Q : z_O → z_T → Prop} {ins : Instr}
theorem w_cal3 {y' kd ci na maxL : Nat} {as rest : List Value} {o : z_O} {t : z_T} (hd : decode cc pc = .ok (ins, 3)) (hc : z_cat ins = 8) (ho : z_obj fr lo own ins 3 st = none) (hi : z_inv own ins 3 = some y') (hm : zt_meth y' = some (kd, ci, na, maxL)) (hst : as.reverse ++ rest = st) (hna : as.length = na) (hrest : (rest.map fun v => v.category).sum ≤ 8) (hfr : 1 ≤ fr) (hlo : 19 + maxL ≤ lo) (h1 : kd = 1 → z_recv ci τ as = true) (h2 : kd = 2 → z_isr as = true) (h3 : kd = 3 → z_str as = true)
    (h : w_E sc (fr - 1) (lo - (19 + maxL)) y' as τ o t) (k : match o with
      | .inl v => w_P sc fr lo y own nL cons ret cc (pc + 3) L (v.toList ++ rest) t Q
      | .inr (i, x) => ∃ g, zt_h y pc i = some g ∧ w_P sc fr lo y own nL cons ret cc g L [.ref x] t Q) : w_P sc fr lo y own nL cons ret cc pc L st τ Q := by
  obtain ⟨o', t', ⟨rfl, rfl⟩, N1, hN1⟩ := h
  have htk : (st.take na).reverse = as := by
    rw [← hst, ← hna, List.take_append_of_le_length (by simp), List.take_of_length_le (by simp), List.reverse_reverse]
  have hdr : st.drop na = rest := by
    rw [← hst, ← hna]
    simp
  have hln : na ≤ st.length := by rw [← hst, ← hna]; simp
  have hcl : ∀ M, N1 ≤ M → z_cl sc fr M (lo - (19 + maxL)) y' as τ = some (o', t') := by
    intro M hM
    cases fr with
    | zero => omega
    | succ f => exact hN1 M hM
  have hz : ∀ M lv, N1 ≤ M → z_step sc fr lo y own nL cons ret cc (z_cl sc fr M) pc lv st τ = match (some (o', t') : Option (z_O × z_T)) with
        | some (.inl v, τ') => some (.inl (pc + 3, lv, v.toList ++ rest, τ'))
        | some (.inr (i, x), τ') => match zt_h y pc i with
          | none => if zt_hs y = true then none else some (.inr (.inr (i, x), τ'))
          | some g => some (.inl (g, lv, [.ref x], τ'))
        | none => none := by
    intro M lv hM
    rw [s_cal hd hc ho]
    unfold z_cal
    simp only [hi, hm]
    rw [if_pos ⟨hln, by rw [hdr]; exact hrest, hfr, hlo, by rw [htk]; exact h1, by rw [htk]; exact h2, by rw [htk]; exact h3⟩, htk, hcl M hM, hdr]
    cases o' with
    | inl v => rfl
    | inr r =>
      obtain ⟨i, x⟩ := r
      show (match zt_h y pc i with | none => _ | some g => _) = (match zt_h y pc i with | none => _ | some g => _)
      cases zt_h y pc i <;> rfl
  cases o' with
  | inl v =>
    obtain ⟨o2, t2, hQ2, N2, hN2⟩ := k
    refine ⟨o2, t2, hQ2, N1 + N2 + 1, fun N M lv hN hM hl => ?_⟩
    cases N with
    | zero => omega
    | succ N =>
      rw [z_exec, hz M lv (by omega)]
      exact hN2 N M lv (by omega) (by omega) hl
  | inr r =>
    obtain ⟨i, x⟩ := r
    obtain ⟨g, hg, o2, t2, hQ2, N2, hN2⟩ := k
    refine ⟨o2, t2, hQ2, N1 + N2 + 1, fun N M lv hN hM hl => ?_⟩
    cases N with
    | zero => omega
    | succ N =>
      rw [z_exec, hz M lv (by omega)]
      simp only [hg]
      exact hN2 N M lv (by omega) (by omega) hl
theorem w_hV1 {y' ci na maxL i a : Nat} {tys : List Nat} {as rest : List Value} {v : Value} (hd : decode cc pc = .ok (.invokevirtual i, 3)) (hi : zt_v own i = some y') (hm : zt_meth y' = some (1, ci, na, maxL)) (hs : sh a = some (.inl (ci, tys))) (hst : (Value.ref a :: as).reverse ++ rest = st) (hna : (Value.ref a :: as).length = na) (hrest : (rest.map fun v => v.category).sum ≤ 8) (hfr : 1 ≤ fr) (hlo : 19 + maxL ≤ lo)
    (h : w_E sc (fr - 1) (lo - (19 + maxL)) y' (.ref a :: as) (hp μ, ρ) (.inl (some v)) τ') (k : w_P sc fr lo y own nL cons ret cc (pc + 3) L (v :: rest) τ' Q) : w_P sc fr lo y own nL cons ret cc pc L st (hp μ, ρ) Q :=
  w_cal3 hd rfl rfl hi hm hst hna hrest hfr hlo (fun _ => z_recv_o hs) (fun z => by cases z) (fun z => by cases z) h k
theorem w_hVx {y' ci na maxL i a g kd x : Nat} {tys : List Nat} {as rest : List Value} (hg : zt_h y pc kd = some g) (hd : decode cc pc = .ok (.invokevirtual i, 3)) (hi : zt_v own i = some y') (hm : zt_meth y' = some (1, ci, na, maxL)) (hs : sh a = some (.inl (ci, tys))) (hst : (Value.ref a :: as).reverse ++ rest = st) (hna : (Value.ref a :: as).length = na) (hrest : (rest.map fun v => v.category).sum ≤ 8) (hfr : 1 ≤ fr) (hlo : 19 + maxL ≤ lo)
    (h : w_E sc (fr - 1) (lo - (19 + maxL)) y' (.ref a :: as) (hp μ, ρ) (.inr (kd, x)) τ') (k : w_P sc fr lo y own nL cons ret cc g L [.ref x] τ' Q) : w_P sc fr lo y own nL cons ret cc pc L st (hp μ, ρ) Q :=
  w_cal3 hd rfl rfl hi hm hst hna hrest hfr hlo (fun _ => z_recv_o hs) (fun z => by cases z) (fun z => by cases z) h ⟨g, hg, k⟩
end HC
theorem l_values {sc : Nat × (Nat → Int32)} {fr lo : Nat} {μ : Mem} {ρ : Nat × Nat × Nat} {k : Int} (hk : k = 0 ∨ k = 1) {t : Nat} (hT : isT t) (ht : μ.2.1 1 k.toNat = .ref t) (hc : 0 ≤ μ.1 t 7 ∧ μ.1 t 7 ≤ 240) (hf : 20 ≤ fr) (hl : 700 ≤ lo) : w_E sc fr lo 95 [.ref 0, .int (ji k), .ref 73] (hp μ, ρ) (.inl (some (.int (ji 0)))) (hp (stA μ 73 0 (μ.1 t 7)), ρ) := by
  refine w_S.of (L0 := [some (.ref 0), some (.int (ji k)), some (.ref 73), none]) rfl rfl (Nat.le_of_ble_eq_true rfl) (by rfl) ?_
  refine w_ld d_95_0 rfl rfl rfl ?_
  refine w_con d_95_1 ?_
  refine w_ld d_95_2 rfl rfl rfl ?_
  refine w_ld d_95_3 rfl rfl rfl ?_
  refine w_hV1 (as := [_]) (rest := _) d_95_4 (by rfl) (by rfl) (by first | rfl | assumption) (by rfl) (by rfl) (Nat.le_of_ble_eq_true rfl) (by omega) (by omega) (t_values hk hT ht (by omega) (by omega)) ?_
  refine w_i2l d_95_7 (by omega) ?_
  refine w_last d_95_8 (by first | rfl | assumption) (by omega) ?_
  refine w_goto (g := 15) d_95_9 (by decide) ?_
  refine w_con d_95_15 ?_
  refine w_iret d_95_16 rfl ?_
  exact ⟨rfl, rfl⟩
theorem l_valuesx {sc : Nat × (Nat → Int32)} {fr lo : Nat} {μ : Mem} {ρ : Nat × Nat × Nat} {k : Int} (hk : -2147483648 ≤ k ∧ k < 2147483648) (h01 : ¬ (k = 0 ∨ k = 1)) (hf : 20 ≤ fr) (hl : 700 ≤ lo) (hr : 1 ≤ ρ.2.1 ∧ 6 ≤ ρ.2.2) : w_E sc fr lo 95 [.ref 0, .int (ji k), .ref 73] (hp μ, ρ) (.inl (some (.int (ji 1)))) (hp μ, ρ.1 + 1, ρ.2.1 - 1, ρ.2.2 - 6) := by
  refine w_S.of (L0 := [some (.ref 0), some (.int (ji k)), some (.ref 73), none]) rfl rfl (Nat.le_of_ble_eq_true rfl) (by rfl) ?_
  refine w_ld d_95_0 rfl rfl rfl ?_
  refine w_con d_95_1 ?_
  refine w_ld d_95_2 rfl rfl rfl ?_
  refine w_ld d_95_3 rfl rfl rfl ?_
  refine w_hVx (g := 12) (as := [_]) (rest := _) (by decide) d_95_4 (by rfl) (by rfl) (by first | rfl | assumption) (by rfl) (by rfl) (Nat.le_of_ble_eq_true rfl) (by omega) (by omega) (t_valuesx hk h01 (by omega) (by omega) hr) ?_
  refine w_st1 (L' := [_, _, _, _]) d_95_12 rfl (by decide) rfl (by decide) rfl ?_
  refine w_con d_95_13 ?_
  refine w_iret d_95_14 rfl ?_
  exact ⟨rfl, rfl⟩
theorem l_kind {sc : Nat × (Nat → Int32)} {fr lo : Nat} {μ : Mem} {ρ : Nat × Nat × Nat} {k : Int} (hk : k = 0 ∨ k = 1) {t : Nat} (hT : isT t) (ht : μ.2.1 1 k.toNat = .ref t) (hc : 0 ≤ μ.1 t 7 ∧ μ.1 t 7 ≤ 240) {v : Int} (hv : 0 ≤ v ∧ v < μ.1 t 7) (hb : -2147483648 ≤ μ.2.2 (t + 1) v ∧ μ.2.2 (t + 1) v < 2147483648) (hf : 20 ≤ fr) (hl : 700 ≤ lo) : w_E sc fr lo 97 [.ref 0, .int (ji k), .int (ji v), .ref 73] (hp μ, ρ) (.inl (some (.int (ji 0)))) (hp (stA μ 73 0 (μ.2.2 (t + 1) v)), ρ) := by
  refine w_S.of (L0 := [some (.ref 0), some (.int (ji k)), some (.int (ji v)), some (.ref 73), none]) rfl rfl (Nat.le_of_ble_eq_true rfl) (by rfl) ?_
  refine w_ld d_97_0 rfl rfl rfl ?_
  refine w_con d_97_1 ?_
  refine w_ld d_97_2 rfl rfl rfl ?_
  refine w_ld d_97_3 rfl rfl rfl ?_
  refine w_ld d_97_4 rfl rfl rfl ?_
  refine w_hV1 (as := [_, _]) (rest := _) d_97_5 (by rfl) (by rfl) (by first | rfl | assumption) (by rfl) (by rfl) (Nat.le_of_ble_eq_true rfl) (by omega) (by omega) (t_kind hk hT ht hc hv (by omega) (by omega)) ?_
  refine w_i2l d_97_8 (by omega) ?_
  refine w_last d_97_9 (by first | rfl | assumption) (by omega) ?_
  refine w_goto (g := 17) d_97_10 (by decide) ?_
  refine w_con d_97_17 ?_
  refine w_iret d_97_18 rfl ?_
  exact ⟨rfl, rfl⟩
theorem l_kindx1 {sc : Nat × (Nat → Int32)} {fr lo : Nat} {μ : Mem} {ρ : Nat × Nat × Nat} {k : Int} (hk : -2147483648 ≤ k ∧ k < 2147483648) {v : Int} (h01 : ¬ (k = 0 ∨ k = 1)) (hf : 20 ≤ fr) (hl : 700 ≤ lo) (hr : 1 ≤ ρ.2.1 ∧ 6 ≤ ρ.2.2) : w_E sc fr lo 97 [.ref 0, .int (ji k), .int (ji v), .ref 73] (hp μ, ρ) (.inl (some (.int (ji 1)))) (hp μ, ρ.1 + 1, ρ.2.1 - 1, ρ.2.2 - 6) := by
  refine w_S.of (L0 := [some (.ref 0), some (.int (ji k)), some (.int (ji v)), some (.ref 73), none]) rfl rfl (Nat.le_of_ble_eq_true rfl) (by rfl) ?_
  refine w_ld d_97_0 rfl rfl rfl ?_
  refine w_con d_97_1 ?_
  refine w_ld d_97_2 rfl rfl rfl ?_
  refine w_ld d_97_3 rfl rfl rfl ?_
  refine w_ld d_97_4 rfl rfl rfl ?_
  refine w_hVx (g := 13) (as := [_, _]) (rest := _) (by decide) d_97_5 (by rfl) (by rfl) (by first | rfl | assumption) (by rfl) (by rfl) (Nat.le_of_ble_eq_true rfl) (by omega) (by omega) (t_kindx1 hk h01 (by omega) (by omega) hr) ?_
  refine w_st1 (L' := [_, _, _, _, _]) d_97_13 rfl (by decide) rfl (by decide) rfl ?_
  refine w_con d_97_15 ?_
  refine w_iret d_97_16 rfl ?_
  exact ⟨rfl, rfl⟩
theorem l_kindx2 {sc : Nat × (Nat → Int32)} {fr lo : Nat} {μ : Mem} {ρ : Nat × Nat × Nat} {k : Int} (hk : k = 0 ∨ k = 1) {t : Nat} (hT : isT t) (ht : μ.2.1 1 k.toNat = .ref t) (hc : 0 ≤ μ.1 t 7 ∧ μ.1 t 7 ≤ 240) {v : Int} (hv0 : -2147483648 ≤ v ∧ v < 2147483648) (hv : ¬ (0 ≤ v ∧ v < μ.1 t 7)) (hf : 20 ≤ fr) (hl : 700 ≤ lo) (hr : 1 ≤ ρ.2.1 ∧ 6 ≤ ρ.2.2) : w_E sc fr lo 97 [.ref 0, .int (ji k), .int (ji v), .ref 73] (hp μ, ρ) (.inl (some (.int (ji 1)))) (hp μ, ρ.1 + 1, ρ.2.1 - 1, ρ.2.2 - 6) := by
  refine w_S.of (L0 := [some (.ref 0), some (.int (ji k)), some (.int (ji v)), some (.ref 73), none]) rfl rfl (Nat.le_of_ble_eq_true rfl) (by rfl) ?_
  refine w_ld d_97_0 rfl rfl rfl ?_
  refine w_con d_97_1 ?_
  refine w_ld d_97_2 rfl rfl rfl ?_
  refine w_ld d_97_3 rfl rfl rfl ?_
  refine w_ld d_97_4 rfl rfl rfl ?_
  refine w_hVx (g := 13) (as := [_, _]) (rest := _) (by decide) d_97_5 (by rfl) (by rfl) (by first | rfl | assumption) (by rfl) (by rfl) (Nat.le_of_ble_eq_true rfl) (by omega) (by omega) (t_kindx2 hk hT ht hc hv0 hv (by omega) (by omega) hr) ?_
  refine w_st1 (L' := [_, _, _, _, _]) d_97_13 rfl (by decide) rfl (by decide) rfl ?_
  refine w_con d_97_15 ?_
  refine w_iret d_97_16 rfl ?_
  exact ⟨rfl, rfl⟩
theorem l_number {sc : Nat × (Nat → Int32)} {fr lo : Nat} {μ : Mem} {ρ : Nat × Nat × Nat} {k : Int} (hk : k = 0 ∨ k = 1) {t : Nat} (hT : isT t) (ht : μ.2.1 1 k.toNat = .ref t) (hc : 0 ≤ μ.1 t 7 ∧ μ.1 t 7 ≤ 240) {v : Int} (hv : 0 ≤ v ∧ v < μ.1 t 7) (hf : 20 ≤ fr) (hl : 700 ≤ lo) : w_E sc fr lo 102 [.ref 0, .int (ji k), .int (ji v), .ref 73] (hp μ, ρ) (.inl (some (.int (ji 0)))) (hp (stA μ 73 0 (μ.2.2 (t + 2) v)), ρ) := by
  refine w_S.of (L0 := [some (.ref 0), some (.int (ji k)), some (.int (ji v)), some (.ref 73), none]) rfl rfl (Nat.le_of_ble_eq_true rfl) (by rfl) ?_
  refine w_ld d_102_0 rfl rfl rfl ?_
  refine w_con d_102_1 ?_
  refine w_ld d_102_2 rfl rfl rfl ?_
  refine w_ld d_102_3 rfl rfl rfl ?_
  refine w_ld d_102_4 rfl rfl rfl ?_
  refine w_hV1 (as := [_, _]) (rest := _) d_102_5 (by rfl) (by rfl) (by first | rfl | assumption) (by rfl) (by rfl) (Nat.le_of_ble_eq_true rfl) (by omega) (by omega) (t_number hk hT ht hc hv (by omega) (by omega)) ?_
  refine w_last d_102_8 (by first | rfl | assumption) (by omega) ?_
  refine w_goto (g := 16) d_102_9 (by decide) ?_
  refine w_con d_102_16 ?_
  refine w_iret d_102_17 rfl ?_
  exact ⟨rfl, rfl⟩
theorem l_numberx1 {sc : Nat × (Nat → Int32)} {fr lo : Nat} {μ : Mem} {ρ : Nat × Nat × Nat} {k : Int} (hk : -2147483648 ≤ k ∧ k < 2147483648) {v : Int} (h01 : ¬ (k = 0 ∨ k = 1)) (hf : 20 ≤ fr) (hl : 700 ≤ lo) (hr : 1 ≤ ρ.2.1 ∧ 6 ≤ ρ.2.2) : w_E sc fr lo 102 [.ref 0, .int (ji k), .int (ji v), .ref 73] (hp μ, ρ) (.inl (some (.int (ji 1)))) (hp μ, ρ.1 + 1, ρ.2.1 - 1, ρ.2.2 - 6) := by
  refine w_S.of (L0 := [some (.ref 0), some (.int (ji k)), some (.int (ji v)), some (.ref 73), none]) rfl rfl (Nat.le_of_ble_eq_true rfl) (by rfl) ?_
  refine w_ld d_102_0 rfl rfl rfl ?_
  refine w_con d_102_1 ?_
  refine w_ld d_102_2 rfl rfl rfl ?_
  refine w_ld d_102_3 rfl rfl rfl ?_
  refine w_ld d_102_4 rfl rfl rfl ?_
  refine w_hVx (g := 12) (as := [_, _]) (rest := _) (by decide) d_102_5 (by rfl) (by rfl) (by first | rfl | assumption) (by rfl) (by rfl) (Nat.le_of_ble_eq_true rfl) (by omega) (by omega) (t_numberx1 hk h01 (by omega) (by omega) hr) ?_
  refine w_st1 (L' := [_, _, _, _, _]) d_102_12 rfl (by decide) rfl (by decide) rfl ?_
  refine w_con d_102_14 ?_
  refine w_iret d_102_15 rfl ?_
  exact ⟨rfl, rfl⟩
theorem l_numberx2 {sc : Nat × (Nat → Int32)} {fr lo : Nat} {μ : Mem} {ρ : Nat × Nat × Nat} {k : Int} (hk : k = 0 ∨ k = 1) {t : Nat} (hT : isT t) (ht : μ.2.1 1 k.toNat = .ref t) (hc : 0 ≤ μ.1 t 7 ∧ μ.1 t 7 ≤ 240) {v : Int} (hv0 : -2147483648 ≤ v ∧ v < 2147483648) (hv : ¬ (0 ≤ v ∧ v < μ.1 t 7)) (hf : 20 ≤ fr) (hl : 700 ≤ lo) (hr : 1 ≤ ρ.2.1 ∧ 6 ≤ ρ.2.2) : w_E sc fr lo 102 [.ref 0, .int (ji k), .int (ji v), .ref 73] (hp μ, ρ) (.inl (some (.int (ji 1)))) (hp μ, ρ.1 + 1, ρ.2.1 - 1, ρ.2.2 - 6) := by
  refine w_S.of (L0 := [some (.ref 0), some (.int (ji k)), some (.int (ji v)), some (.ref 73), none]) rfl rfl (Nat.le_of_ble_eq_true rfl) (by rfl) ?_
  refine w_ld d_102_0 rfl rfl rfl ?_
  refine w_con d_102_1 ?_
  refine w_ld d_102_2 rfl rfl rfl ?_
  refine w_ld d_102_3 rfl rfl rfl ?_
  refine w_ld d_102_4 rfl rfl rfl ?_
  refine w_hVx (g := 12) (as := [_, _]) (rest := _) (by decide) d_102_5 (by rfl) (by rfl) (by first | rfl | assumption) (by rfl) (by rfl) (Nat.le_of_ble_eq_true rfl) (by omega) (by omega) (t_numberx2 hk hT ht hc hv0 hv (by omega) (by omega) hr) ?_
  refine w_st1 (L' := [_, _, _, _, _]) d_102_12 rfl (by decide) rfl (by decide) rfl ?_
  refine w_con d_102_14 ?_
  refine w_iret d_102_15 rfl ?_
  exact ⟨rfl, rfl⟩
theorem l_size {sc : Nat × (Nat → Int32)} {fr lo : Nat} {μ : Mem} {ρ : Nat × Nat × Nat} {k : Int} (hk : k = 0 ∨ k = 1) {t : Nat} (hT : isT t) (ht : μ.2.1 1 k.toNat = .ref t) (hc : 0 ≤ μ.1 t 7 ∧ μ.1 t 7 ≤ 240) {v : Int} (hv : 0 ≤ v ∧ v < μ.1 t 7) (hkd : 0 ≤ μ.2.2 (t + 1) v ∧ μ.2.2 (t + 1) v ≤ 12) (hb : -2147483648 ≤ μ.2.2 (t + 4) v ∧ μ.2.2 (t + 4) v < 2147483648 ∧ -2147483648 ≤ μ.2.2 (t + 5) v ∧ μ.2.2 (t + 5) v < 2147483648) (hf : 20 ≤ fr) (hl : 700 ≤ lo) : w_E sc fr lo 100 [.ref 0, .int (ji k), .int (ji v), .ref 73] (hp μ, ρ) (.inl (some (.int (ji 0)))) (hp (stA μ 73 0 (if μ.2.2 (t + 1) v < 8 then μ.2.2 (t + 4) v else μ.2.2 (t + 5) v)), ρ) := by
  refine w_S.of (L0 := [some (.ref 0), some (.int (ji k)), some (.int (ji v)), some (.ref 73), none]) rfl rfl (Nat.le_of_ble_eq_true rfl) (by rfl) ?_
  refine w_ld d_100_0 rfl rfl rfl ?_
  refine w_con d_100_1 ?_
  refine w_ld d_100_2 rfl rfl rfl ?_
  refine w_ld d_100_3 rfl rfl rfl ?_
  refine w_ld d_100_4 rfl rfl rfl ?_
  refine w_hV1 (as := [_, _]) (rest := _) d_100_5 (by rfl) (by rfl) (by first | rfl | assumption) (by rfl) (by rfl) (Nat.le_of_ble_eq_true rfl) (by omega) (by omega) (t_size hk hT ht hc hv (by omega) (by omega) hkd) ?_
  refine w_i2l d_100_8 (by split <;> omega) ?_
  refine w_last d_100_9 (by first | rfl | assumption) (by omega) ?_
  refine w_goto (g := 17) d_100_10 (by decide) ?_
  refine w_con d_100_17 ?_
  refine w_iret d_100_18 rfl ?_
  exact ⟨rfl, rfl⟩
theorem l_sizex1 {sc : Nat × (Nat → Int32)} {fr lo : Nat} {μ : Mem} {ρ : Nat × Nat × Nat} {k : Int} (hk : -2147483648 ≤ k ∧ k < 2147483648) {v : Int} (h01 : ¬ (k = 0 ∨ k = 1)) (hf : 20 ≤ fr) (hl : 700 ≤ lo) (hr : 1 ≤ ρ.2.1 ∧ 6 ≤ ρ.2.2) : w_E sc fr lo 100 [.ref 0, .int (ji k), .int (ji v), .ref 73] (hp μ, ρ) (.inl (some (.int (ji 1)))) (hp μ, ρ.1 + 1, ρ.2.1 - 1, ρ.2.2 - 6) := by
  refine w_S.of (L0 := [some (.ref 0), some (.int (ji k)), some (.int (ji v)), some (.ref 73), none]) rfl rfl (Nat.le_of_ble_eq_true rfl) (by rfl) ?_
  refine w_ld d_100_0 rfl rfl rfl ?_
  refine w_con d_100_1 ?_
  refine w_ld d_100_2 rfl rfl rfl ?_
  refine w_ld d_100_3 rfl rfl rfl ?_
  refine w_ld d_100_4 rfl rfl rfl ?_
  refine w_hVx (g := 13) (as := [_, _]) (rest := _) (by decide) d_100_5 (by rfl) (by rfl) (by first | rfl | assumption) (by rfl) (by rfl) (Nat.le_of_ble_eq_true rfl) (by omega) (by omega) (t_sizex1 hk h01 (by omega) (by omega) hr) ?_
  refine w_st1 (L' := [_, _, _, _, _]) d_100_13 rfl (by decide) rfl (by decide) rfl ?_
  refine w_con d_100_15 ?_
  refine w_iret d_100_16 rfl ?_
  exact ⟨rfl, rfl⟩
theorem l_sizex2 {sc : Nat × (Nat → Int32)} {fr lo : Nat} {μ : Mem} {ρ : Nat × Nat × Nat} {k : Int} (hk : k = 0 ∨ k = 1) {t : Nat} (hT : isT t) (ht : μ.2.1 1 k.toNat = .ref t) (hc : 0 ≤ μ.1 t 7 ∧ μ.1 t 7 ≤ 240) {v : Int} (hv0 : -2147483648 ≤ v ∧ v < 2147483648) (hv : ¬ (0 ≤ v ∧ v < μ.1 t 7)) (hf : 20 ≤ fr) (hl : 700 ≤ lo) (hr : 1 ≤ ρ.2.1 ∧ 6 ≤ ρ.2.2) : w_E sc fr lo 100 [.ref 0, .int (ji k), .int (ji v), .ref 73] (hp μ, ρ) (.inl (some (.int (ji 1)))) (hp μ, ρ.1 + 1, ρ.2.1 - 1, ρ.2.2 - 6) := by
  refine w_S.of (L0 := [some (.ref 0), some (.int (ji k)), some (.int (ji v)), some (.ref 73), none]) rfl rfl (Nat.le_of_ble_eq_true rfl) (by rfl) ?_
  refine w_ld d_100_0 rfl rfl rfl ?_
  refine w_con d_100_1 ?_
  refine w_ld d_100_2 rfl rfl rfl ?_
  refine w_ld d_100_3 rfl rfl rfl ?_
  refine w_ld d_100_4 rfl rfl rfl ?_
  refine w_hVx (g := 13) (as := [_, _]) (rest := _) (by decide) d_100_5 (by rfl) (by rfl) (by first | rfl | assumption) (by rfl) (by rfl) (Nat.le_of_ble_eq_true rfl) (by omega) (by omega) (t_sizex2 hk hT ht hc hv0 hv (by omega) (by omega) hr) ?_
  refine w_st1 (L' := [_, _, _, _, _]) d_100_13 rfl (by decide) rfl (by decide) rfl ?_
  refine w_con d_100_15 ?_
  refine w_iret d_100_16 rfl ?_
  exact ⟨rfl, rfl⟩
theorem l_letter {sc : Nat × (Nat → Int32)} {fr lo : Nat} {μ : Mem} {ρ : Nat × Nat × Nat} {k : Int} (hk : k = 0 ∨ k = 1) {t : Nat} (hT : isT t) (ht : μ.2.1 1 k.toNat = .ref t) (hc : 0 ≤ μ.1 t 7 ∧ μ.1 t 7 ≤ 240) {v : Int} (hv : 0 ≤ v ∧ v < μ.1 t 7) {i : Int} (hi : -2147483648 ≤ i ∧ i < 2147483648) (hws : 0 ≤ μ.2.2 (t + 4) v ∧ μ.2.2 (t + 4) v ≤ 240) (hwf : 0 ≤ μ.2.2 (t + 3) v ∧ μ.2.2 (t + 3) v ≤ 240) (hwc : 0 ≤ μ.1 (t + 7) 1 ∧ μ.1 (t + 7) 1 ≤ 240) (hch : ∀ q, 0 ≤ μ.2.2 (t + 7 + 1) q ∧ μ.2.2 (t + 7 + 1) q < 65536) (hf : 20 ≤ fr) (hl : 700 ≤ lo) : w_E sc fr lo 104 [.ref 0, .int (ji k), .int (ji v), .int (ji i), .ref 73] (hp μ, ρ) (.inl (some (.int (ji 0)))) (hp (stA μ 73 0 (if 0 ≤ i ∧ i < μ.2.2 (t + 4) v then (if 0 ≤ μ.2.2 (t + 3) v + i ∧ μ.2.2 (t + 3) v + i < μ.1 (t + 7) 1 then μ.2.2 (t + 7 + 1) (μ.2.2 (t + 3) v + i) else -1) else -1)), ρ) := by
  refine w_S.of (L0 := [some (.ref 0), some (.int (ji k)), some (.int (ji v)), some (.int (ji i)), some (.ref 73), none]) rfl rfl (Nat.le_of_ble_eq_true rfl) (by rfl) ?_
  refine w_ld d_104_0 rfl rfl rfl ?_
  refine w_con d_104_2 ?_
  refine w_ld d_104_3 rfl rfl rfl ?_
  refine w_ld d_104_4 rfl rfl rfl ?_
  refine w_ld d_104_5 rfl rfl rfl ?_
  refine w_ld d_104_6 rfl rfl rfl ?_
  refine w_hV1 (as := [_, _, _]) (rest := _) d_104_7 (by rfl) (by rfl) (by first | rfl | assumption) (by rfl) (by rfl) (Nat.le_of_ble_eq_true rfl) (by omega) (by omega) (t_letter hk hT ht hc hv (by omega) (by omega) hi hws hwf hwc) ?_
  refine w_i2l d_104_10 (by have e := hch (μ.2.2 (t + 3) v + i); split <;> (try split) <;> omega) ?_
  refine w_last d_104_11 (by first | rfl | assumption) (by omega) ?_
  refine w_goto (g := 19) d_104_12 (by decide) ?_
  refine w_con d_104_19 ?_
  refine w_iret d_104_20 rfl ?_
  exact ⟨rfl, rfl⟩
theorem l_letterx1 {sc : Nat × (Nat → Int32)} {fr lo : Nat} {μ : Mem} {ρ : Nat × Nat × Nat} {k : Int} (hk : -2147483648 ≤ k ∧ k < 2147483648) {v : Int} (h01 : ¬ (k = 0 ∨ k = 1)) {i : Int} (hf : 20 ≤ fr) (hl : 700 ≤ lo) (hr : 1 ≤ ρ.2.1 ∧ 6 ≤ ρ.2.2) : w_E sc fr lo 104 [.ref 0, .int (ji k), .int (ji v), .int (ji i), .ref 73] (hp μ, ρ) (.inl (some (.int (ji 1)))) (hp μ, ρ.1 + 1, ρ.2.1 - 1, ρ.2.2 - 6) := by
  refine w_S.of (L0 := [some (.ref 0), some (.int (ji k)), some (.int (ji v)), some (.int (ji i)), some (.ref 73), none]) rfl rfl (Nat.le_of_ble_eq_true rfl) (by rfl) ?_
  refine w_ld d_104_0 rfl rfl rfl ?_
  refine w_con d_104_2 ?_
  refine w_ld d_104_3 rfl rfl rfl ?_
  refine w_ld d_104_4 rfl rfl rfl ?_
  refine w_ld d_104_5 rfl rfl rfl ?_
  refine w_ld d_104_6 rfl rfl rfl ?_
  refine w_hVx (g := 15) (as := [_, _, _]) (rest := _) (by decide) d_104_7 (by rfl) (by rfl) (by first | rfl | assumption) (by rfl) (by rfl) (Nat.le_of_ble_eq_true rfl) (by omega) (by omega) (t_letterx1 hk h01 (by omega) (by omega) hr) ?_
  refine w_st1 (L' := [_, _, _, _, _, _]) d_104_15 rfl (by decide) rfl (by decide) rfl ?_
  refine w_con d_104_17 ?_
  refine w_iret d_104_18 rfl ?_
  exact ⟨rfl, rfl⟩
theorem l_letterx2 {sc : Nat × (Nat → Int32)} {fr lo : Nat} {μ : Mem} {ρ : Nat × Nat × Nat} {k : Int} (hk : k = 0 ∨ k = 1) {t : Nat} (hT : isT t) (ht : μ.2.1 1 k.toNat = .ref t) (hc : 0 ≤ μ.1 t 7 ∧ μ.1 t 7 ≤ 240) {v : Int} (hv0 : -2147483648 ≤ v ∧ v < 2147483648) (hv : ¬ (0 ≤ v ∧ v < μ.1 t 7)) {i : Int} (hf : 20 ≤ fr) (hl : 700 ≤ lo) (hr : 1 ≤ ρ.2.1 ∧ 6 ≤ ρ.2.2) : w_E sc fr lo 104 [.ref 0, .int (ji k), .int (ji v), .int (ji i), .ref 73] (hp μ, ρ) (.inl (some (.int (ji 1)))) (hp μ, ρ.1 + 1, ρ.2.1 - 1, ρ.2.2 - 6) := by
  refine w_S.of (L0 := [some (.ref 0), some (.int (ji k)), some (.int (ji v)), some (.int (ji i)), some (.ref 73), none]) rfl rfl (Nat.le_of_ble_eq_true rfl) (by rfl) ?_
  refine w_ld d_104_0 rfl rfl rfl ?_
  refine w_con d_104_2 ?_
  refine w_ld d_104_3 rfl rfl rfl ?_
  refine w_ld d_104_4 rfl rfl rfl ?_
  refine w_ld d_104_5 rfl rfl rfl ?_
  refine w_ld d_104_6 rfl rfl rfl ?_
  refine w_hVx (g := 15) (as := [_, _, _]) (rest := _) (by decide) d_104_7 (by rfl) (by rfl) (by first | rfl | assumption) (by rfl) (by rfl) (Nat.le_of_ble_eq_true rfl) (by omega) (by omega) (t_letterx2 hk hT ht hc hv0 hv (by omega) (by omega) hr) ?_
  refine w_st1 (L' := [_, _, _, _, _, _]) d_104_15 rfl (by decide) rfl (by decide) rfl ?_
  refine w_con d_104_17 ?_
  refine w_iret d_104_18 rfl ?_
  exact ⟨rfl, rfl⟩
theorem l_pick {sc : Nat × (Nat → Int32)} {fr lo : Nat} {μ : Mem} {ρ : Nat × Nat × Nat} {k : Int} (hk : k = 0 ∨ k = 1) {t : Nat} (hT : isT t) (ht : μ.2.1 1 k.toNat = .ref t) (hc : 0 ≤ μ.1 t 7 ∧ μ.1 t 7 ≤ 240) {v : Int} (hv : 0 ≤ v ∧ v < μ.1 t 7) (he : v < μ.2.2 (t + 6) v ∧ μ.2.2 (t + 6) v ≤ 240) (hf : 20 ≤ fr) (hl : 700 ≤ lo) : w_E sc fr lo 106 [.ref 0, .int (ji k), .int (ji v), .ref 73] (hp μ, ρ) (.inl (some (.int (ji 0)))) (hp (stA (stI (kpo μ t v (μ.2.2 (t + 6) v - v)) t 7 (μ.2.2 (t + 6) v - v)) 73 0 (μ.2.2 (t + 6) v - v)), ρ) := by
  refine w_S.of (L0 := [some (.ref 0), some (.int (ji k)), some (.int (ji v)), some (.ref 73), none]) rfl rfl (Nat.le_of_ble_eq_true rfl) (by rfl) ?_
  refine w_ld d_106_0 rfl rfl rfl ?_
  refine w_con d_106_1 ?_
  refine w_ld d_106_2 rfl rfl rfl ?_
  refine w_ld d_106_3 rfl rfl rfl ?_
  refine w_ld d_106_4 rfl rfl rfl ?_
  refine w_hV1 (as := [_, _]) (rest := _) d_106_5 (by rfl) (by rfl) (by first | rfl | assumption) (by rfl) (by rfl) (Nat.le_of_ble_eq_true rfl) (by omega) (by omega) (t_pick hk hT ht hc hv he (by omega) (by omega)) ?_
  refine w_i2l d_106_8 (by omega) ?_
  refine w_last d_106_9 (by first | rfl | assumption) (by omega) ?_
  refine w_goto (g := 17) d_106_10 (by decide) ?_
  refine w_con d_106_17 ?_
  refine w_iret d_106_18 rfl ?_
  exact ⟨rfl, rfl⟩
theorem l_pickx1 {sc : Nat × (Nat → Int32)} {fr lo : Nat} {μ : Mem} {ρ : Nat × Nat × Nat} {k : Int} (hk : -2147483648 ≤ k ∧ k < 2147483648) {v : Int} (h01 : ¬ (k = 0 ∨ k = 1)) (hf : 20 ≤ fr) (hl : 700 ≤ lo) (hr : 1 ≤ ρ.2.1 ∧ 6 ≤ ρ.2.2) : w_E sc fr lo 106 [.ref 0, .int (ji k), .int (ji v), .ref 73] (hp μ, ρ) (.inl (some (.int (ji 1)))) (hp μ, ρ.1 + 1, ρ.2.1 - 1, ρ.2.2 - 6) := by
  refine w_S.of (L0 := [some (.ref 0), some (.int (ji k)), some (.int (ji v)), some (.ref 73), none]) rfl rfl (Nat.le_of_ble_eq_true rfl) (by rfl) ?_
  refine w_ld d_106_0 rfl rfl rfl ?_
  refine w_con d_106_1 ?_
  refine w_ld d_106_2 rfl rfl rfl ?_
  refine w_ld d_106_3 rfl rfl rfl ?_
  refine w_ld d_106_4 rfl rfl rfl ?_
  refine w_hVx (g := 13) (as := [_, _]) (rest := _) (by decide) d_106_5 (by rfl) (by rfl) (by first | rfl | assumption) (by rfl) (by rfl) (Nat.le_of_ble_eq_true rfl) (by omega) (by omega) (t_pickx1 hk h01 (by omega) (by omega) hr) ?_
  refine w_st1 (L' := [_, _, _, _, _]) d_106_13 rfl (by decide) rfl (by decide) rfl ?_
  refine w_con d_106_15 ?_
  refine w_iret d_106_16 rfl ?_
  exact ⟨rfl, rfl⟩
theorem l_pickx2 {sc : Nat × (Nat → Int32)} {fr lo : Nat} {μ : Mem} {ρ : Nat × Nat × Nat} {k : Int} (hk : k = 0 ∨ k = 1) {t : Nat} (hT : isT t) (ht : μ.2.1 1 k.toNat = .ref t) (hc : 0 ≤ μ.1 t 7 ∧ μ.1 t 7 ≤ 240) {v : Int} (hv0 : -2147483648 ≤ v ∧ v < 2147483648) (hv : ¬ (0 ≤ v ∧ v < μ.1 t 7)) (hf : 20 ≤ fr) (hl : 700 ≤ lo) (hr : 1 ≤ ρ.2.1 ∧ 6 ≤ ρ.2.2) : w_E sc fr lo 106 [.ref 0, .int (ji k), .int (ji v), .ref 73] (hp μ, ρ) (.inl (some (.int (ji 1)))) (hp μ, ρ.1 + 1, ρ.2.1 - 1, ρ.2.2 - 6) := by
  refine w_S.of (L0 := [some (.ref 0), some (.int (ji k)), some (.int (ji v)), some (.ref 73), none]) rfl rfl (Nat.le_of_ble_eq_true rfl) (by rfl) ?_
  refine w_ld d_106_0 rfl rfl rfl ?_
  refine w_con d_106_1 ?_
  refine w_ld d_106_2 rfl rfl rfl ?_
  refine w_ld d_106_3 rfl rfl rfl ?_
  refine w_ld d_106_4 rfl rfl rfl ?_
  refine w_hVx (g := 13) (as := [_, _]) (rest := _) (by decide) d_106_5 (by rfl) (by rfl) (by first | rfl | assumption) (by rfl) (by rfl) (Nat.le_of_ble_eq_true rfl) (by omega) (by omega) (t_pickx2 hk hT ht hc hv0 hv (by omega) (by omega) hr) ?_
  refine w_st1 (L' := [_, _, _, _, _]) d_106_13 rfl (by decide) rfl (by decide) rfl ?_
  refine w_con d_106_15 ?_
  refine w_iret d_106_16 rfl ?_
  exact ⟨rfl, rfl⟩
