/-! THE PURE PART, 10: rules for the slots' row, for throwing and catching; contracts: the calls that ask -/
section TH
variable {sc : Nat × (Nat → Int32)} {fr lo y own nL : Nat} {cons : Bool} {ret : Option FieldType} {cc : ByteArray} {pc : Nat} {L L' : List (Option Value)} {st : List Value} {τ τ' : z_T} {μ : Mem} {ρ : Nat × Nat × Nat} {Q : z_O → z_T → Prop} {ins : Instr}
theorem w_aald {a n b : Nat} {i : Int} (hd : decode cc pc = .ok (.aaload, 1)) (hs : sh a = some (.inr (4, n))) (hi : 0 ≤ i ∧ i < n ∧ n < 2147483648) (hv : μ.2.1 a i.toNat = .ref b) (kk : w_P sc fr lo y own nL cons ret cc (pc + 1) L (.ref b :: st) (hp μ, ρ) Q) : w_P sc fr lo y own nL cons ret cc pc L (.int (ji i) :: .ref a :: st) (hp μ, ρ) Q := by
  refine w_rd hd ?_ kk
  show (match hp μ a with | some (.inl (4, n, .inr (.inr (.inr (.inr f))))) => if ji i < 0 ∨ n ≤ (ji i).toNatClampNeg then none else some (va_rf (f (ji i).toNatClampNeg) :: st) | _ => none) = _
  rw [hp_a hs]
  show (if ji i < 0 ∨ n ≤ (ji i).toNatClampNeg then none else some (va_rf (m_rf (μ.2.1 a (ji i).toNatClampNeg)) :: st)) = _
  rw [if_neg (ji_in hi), ji_clamp (by omega), hv]
  rfl
theorem w_aast {a n b : Nat} {i : Int} {tys : List Nat} (hd : decode cc pc = .ok (.aastore, 1)) (hs : sh a = some (.inr (4, n))) (hb : sh b = some (.inl (2, tys))) (hi : 0 ≤ i ∧ i < n ∧ n < 2147483648) (kk : w_P sc fr lo y own nL cons ret cc (pc + 1) L st (hp (stR μ a i.toNat (.ref b)), ρ) Q) : w_P sc fr lo y own nL cons ret cc pc L (.ref b :: .int (ji i) :: .ref a :: st) (hp μ, ρ) Q := by
  refine w_wr hd ?_ kk
  show (match hp μ a, hp μ b with | some (.inl (4, n, .inr (.inr (.inr (.inr f))))), some (.inr (cj, _)) => if ji i < 0 ∨ n ≤ (ji i).toNatClampNeg ∨ cj ≠ zt_tree then none else some (st, z_set (hp μ, ρ) a (.inl (4, n, .inr (.inr (.inr (.inr (va_up f (ji i).toNatClampNeg (some b)))))))) | _, _ => none) = _
  rw [hp_a hs, hp_o hb]
  show (if ji i < 0 ∨ n ≤ (ji i).toNatClampNeg ∨ 2 ≠ zt_tree then none else some (st, z_set (hp μ, ρ) a (.inl (4, n, .inr (.inr (.inr (.inr (va_up (fun i => m_rf (μ.2.1 a i)) (ji i).toNatClampNeg (some b))))))))) = _
  rw [if_neg (fun z => ji_in hi (z.elim Or.inl (fun z => z.elim Or.inr (fun z => absurd rfl z)))), ji_clamp (by omega), m_set (ν := stR μ a i.toNat (.ref b)) _ (fun b hb => stR_o hb)]
  rw [hp_a hs]
  show some (Sum.inl (4, n, Sum.inr (Sum.inr (Sum.inr (Sum.inr (fun j => m_rf ((stR μ a i.toNat (.ref b)).2.1 a j))))))) = some (Sum.inl (4, n, Sum.inr (Sum.inr (Sum.inr (Sum.inr (va_up (fun j => m_rf (μ.2.1 a j)) i.toNat (some b)))))))
  congr 8
  funext j
  unfold va_up
  by_cases hj : j = i.toNat
  · rw [if_pos hj]
    simp [stR, hj, m_rf]
  · rw [if_neg hj]
    simp [stR, hj]
theorem w_i2l {x : Int} (hd : decode cc pc = .ok (.i2l, 1)) (hx : -2147483648 ≤ x ∧ x < 2147483648) (k : w_P sc fr lo y own nL cons ret cc (pc + 1) L (.long (jl x) :: st) τ Q) : w_P sc fr lo y own nL cons ret cc pc L (.int (ji x) :: st) τ Q := w_stk hd (by
  show some (Value.long (ji x).toInt64 :: st) = _
  have h : (ji x).toInt64 = jl x := by
    apply Int64.toInt_inj.mp
    rw [Int32.toInt_toInt64, ji_t hx, jl_t (by omega)]
  rw [h]) k
theorem w_lcon0 (hd : decode cc pc = .ok (.lconst 0, 1)) (k : w_P sc fr lo y own nL cons ret cc (pc + 1) L (.long (jl 0) :: st) τ Q) : w_P sc fr lo y own nL cons ret cc pc L st τ Q := w_stk hd rfl k
theorem w_lcon1 (hd : decode cc pc = .ok (.lconst 1, 1)) (k : w_P sc fr lo y own nL cons ret cc (pc + 1) L (.long (jl 1) :: st) τ Q) : w_P sc fr lo y own nL cons ret cc pc L st τ Q := w_stk hd rfl k
/-- a call that throws, in a method without handlers -/
theorem w_cVx {y' ci na maxL i a : Nat} {tys : List Nat} {as rest : List Value} {r : Nat × Nat} (hh : zt_hs y = false) (hd : decode cc pc = .ok (.invokevirtual i, 3)) (hi : zt_v own i = some y') (hm : zt_meth y' = some (1, ci, na, maxL)) (hs : sh a = some (.inl (ci, tys))) (hst : (Value.ref a :: as).reverse ++ rest = st) (hna : (Value.ref a :: as).length = na) (hrest : (rest.map fun v => v.category).sum ≤ 8) (hfr : 1 ≤ fr) (hlo : 19 + maxL ≤ lo)
    (h : w_E sc (fr - 1) (lo - (19 + maxL)) y' (.ref a :: as) (hp μ, ρ) (.inr r) τ') (k : Q (.inr r) τ') : w_P sc fr lo y own nL cons ret cc pc L st (hp μ, ρ) Q :=
  w_cal hh hd rfl rfl hi hm hst hna hrest hfr hlo (fun _ => z_recv_o hs) (fun z => by cases z) (fun z => by cases z) (h.mono (by
    rintro o t ⟨rfl, rfl⟩
    exact k))
theorem w_cSx {y' ci na maxL i : Nat} {as rest : List Value} {r : Nat × Nat} (hh : zt_hs y = false) (hd : decode cc pc = .ok (.invokestatic i, 3)) (hi : zt_c own i = some y') (hm : zt_meth y' = some (0, ci, na, maxL)) (hst : as.reverse ++ rest = st) (hna : as.length = na) (hrest : (rest.map fun v => v.category).sum ≤ 8) (hfr : 1 ≤ fr) (hlo : 19 + maxL ≤ lo)
    (h : w_E sc (fr - 1) (lo - (19 + maxL)) y' as τ (.inr r) τ') (k : Q (.inr r) τ') : w_P sc fr lo y own nL cons ret cc pc L st τ Q :=
  w_cal hh hd rfl rfl hi hm hst hna hrest hfr hlo (fun z => by cases z) (fun z => by cases z) (fun z => by cases z) (h.mono (by
    rintro o t ⟨rfl, rfl⟩
    exact k))
end TH
theorem t_rs {sc : Nat × (Nat → Int32)} {fr lo : Nat} {μ : Mem} {ρ : Nat × Nat × Nat} {k : Int} (hk : k = 0 ∨ k = 1) : w_E sc fr lo 25 [.int (ji k)] (hp μ, ρ) (.inl none) (hp μ, ρ) := by
  refine w_S.of (L0 := [some (.int (ji k))]) rfl rfl (Nat.le_of_ble_eq_true rfl) (by rfl) ?_
  refine w_ld d_25_0 rfl rfl rfl ?_
  refine w_if_eq (g := 17) d_25_1 (by decide) (by omega) (fun h1 => ?_) (fun h1 => ?_)
  · refine w_ret d_25_17 rfl ?_
    exact ⟨rfl, rfl⟩
  · refine w_ld d_25_4 rfl rfl rfl ?_
    refine w_con d_25_5 ?_
    refine w_icmp_eq (g := 17) d_25_6 (by decide) (by omega) (fun h6 => ?_) (fun h6 => ?_)
    · refine w_ret d_25_17 rfl ?_
      exact ⟨rfl, rfl⟩
    · omega
theorem t_rsx {sc : Nat × (Nat → Int32)} {fr lo : Nat} {μ : Mem} {ρ : Nat × Nat × Nat} {k : Int} (hk : -2147483648 ≤ k ∧ k < 2147483648) (h01 : ¬ (k = 0 ∨ k = 1)) (hf : 6 ≤ fr) (hl : 81 ≤ lo) (hr : 1 ≤ ρ.2.1 ∧ 6 ≤ ρ.2.2) : w_E sc fr lo 25 [.int (ji k)] (hp μ, ρ) (.inr (0, ρ.1)) (hp μ, ρ.1 + 1, ρ.2.1 - 1, ρ.2.2 - 6) := by
  refine w_S.of (L0 := [some (.int (ji k))]) rfl rfl (Nat.le_of_ble_eq_true rfl) (by rfl) ?_
  refine w_ld d_25_0 rfl rfl rfl ?_
  refine w_if_eq (g := 17) d_25_1 (by decide) (by omega) (fun h1 => ?_) (fun h1 => ?_)
  · omega
  · refine w_ld d_25_4 rfl rfl rfl ?_
    refine w_con d_25_5 ?_
    refine w_icmp_eq (g := 17) d_25_6 (by decide) (by omega) (fun h6 => ?_) (fun h6 => ?_)
    · omega
    · refine w_thr rfl d_25_9 (by rfl) (by rfl) d_25_12 d_25_13 d_25_16 (show 1 ≤ ρ.2.1 ∧ 6 ≤ ρ.2.2 ∧ 5 < fr ∧ 0 + 81 ≤ lo by omega) ?_
      exact ⟨rfl, rfl⟩
theorem t_values {sc : Nat × (Nat → Int32)} {fr lo : Nat} {μ : Mem} {ρ : Nat × Nat × Nat} {k : Int} (hk : k = 0 ∨ k = 1) {t : Nat} (hT : isT t) (ht : μ.2.1 1 k.toNat = .ref t) (hf : 10 ≤ fr) (hl : 300 ≤ lo) : w_E sc fr lo 96 [.ref 0, .int (ji k)] (hp μ, ρ) (.inl (some (.int (ji (μ.1 t 7))))) (hp μ, ρ) := by
  obtain ⟨hT0, h1, h2, h3, h4, h5, h6, h7, h8⟩ := hT.sh
  refine w_S.of (L0 := [some (.ref 0), some (.int (ji k))]) rfl rfl (Nat.le_of_ble_eq_true rfl) (by rfl) ?_
  refine w_ld d_96_0 rfl rfl rfl ?_
  refine w_cS0 (as := [_]) (rest := _) rfl d_96_1 (by rfl) (by rfl) (by rfl) (by rfl) (Nat.le_of_ble_eq_true rfl) (by omega) (by omega) (t_rs hk) ?_
  refine w_ld d_96_4 rfl rfl rfl ?_
  refine w_getF d_96_5 (by rfl) (by first | rfl | assumption) (by rfl) (by rfl) ?_
  refine w_ld d_96_8 rfl rfl rfl ?_
  refine w_aald d_96_9 (by first | rfl | assumption) (by omega) (by assumption) ?_
  refine w_gI d_96_10 (by rfl) (by first | rfl | assumption) (by rfl) (by (try simp [stI, stA, stR]) <;> rfl) ?_
  refine w_iret d_96_13 rfl ?_
  exact ⟨rfl, rfl⟩
theorem t_valuesx {sc : Nat × (Nat → Int32)} {fr lo : Nat} {μ : Mem} {ρ : Nat × Nat × Nat} {k : Int} (hk : -2147483648 ≤ k ∧ k < 2147483648) (h01 : ¬ (k = 0 ∨ k = 1)) (hf : 10 ≤ fr) (hl : 300 ≤ lo) (hr : 1 ≤ ρ.2.1 ∧ 6 ≤ ρ.2.2) : w_E sc fr lo 96 [.ref 0, .int (ji k)] (hp μ, ρ) (.inr (0, ρ.1)) (hp μ, ρ.1 + 1, ρ.2.1 - 1, ρ.2.2 - 6) := by
  refine w_S.of (L0 := [some (.ref 0), some (.int (ji k))]) rfl rfl (Nat.le_of_ble_eq_true rfl) (by rfl) ?_
  refine w_ld d_96_0 rfl rfl rfl ?_
  refine w_cSx (as := [_]) (rest := _) rfl d_96_1 (by rfl) (by rfl) (by rfl) (by rfl) (Nat.le_of_ble_eq_true rfl) (by omega) (by omega) (t_rsx hk h01 (by omega) (by omega) hr) ?_
  exact ⟨rfl, rfl⟩
theorem t_rv {sc : Nat × (Nat → Int32)} {fr lo : Nat} {μ : Mem} {ρ : Nat × Nat × Nat} {k : Int} (hk : k = 0 ∨ k = 1) {t : Nat} (hT : isT t) (ht : μ.2.1 1 k.toNat = .ref t) (hc : 0 ≤ μ.1 t 7 ∧ μ.1 t 7 ≤ 240) {v : Int} (hv : 0 ≤ v ∧ v < μ.1 t 7) (hf : 10 ≤ fr) (hl : 300 ≤ lo) : w_E sc fr lo 99 [.ref 0, .int (ji k), .int (ji v)] (hp μ, ρ) (.inl none) (hp μ, ρ) := by
  obtain ⟨hT0, h1, h2, h3, h4, h5, h6, h7, h8⟩ := hT.sh
  refine w_S.of (L0 := [some (.ref 0), some (.int (ji k)), some (.int (ji v))]) rfl rfl (Nat.le_of_ble_eq_true rfl) (by rfl) ?_
  refine w_ld d_99_0 rfl rfl rfl ?_
  refine w_cS0 (as := [_]) (rest := _) rfl d_99_1 (by rfl) (by rfl) (by rfl) (by rfl) (Nat.le_of_ble_eq_true rfl) (by omega) (by omega) (t_rs hk) ?_
  refine w_ld d_99_4 rfl rfl rfl ?_
  refine w_if_lt (g := 21) d_99_5 (by decide) (by omega) (fun h5 => ?_) (fun h5 => ?_)
  · omega
  · refine w_ld d_99_8 rfl rfl rfl ?_
    refine w_ld d_99_9 rfl rfl rfl ?_
    refine w_getF d_99_10 (by rfl) (by first | rfl | assumption) (by rfl) (by rfl) ?_
    refine w_ld d_99_13 rfl rfl rfl ?_
    refine w_aald d_99_14 (by first | rfl | assumption) (by omega) (by assumption) ?_
    refine w_gI d_99_15 (by rfl) (by first | rfl | assumption) (by rfl) (by (try simp [stI, stA, stR]) <;> rfl) ?_
    refine w_icmp_lt (g := 29) d_99_18 (by decide) (by omega) (fun h18 => ?_) (fun h18 => ?_)
    · refine w_ret d_99_29 rfl ?_
      exact ⟨rfl, rfl⟩
    · omega
theorem t_rvx1 {sc : Nat × (Nat → Int32)} {fr lo : Nat} {μ : Mem} {ρ : Nat × Nat × Nat} {k : Int} (hk : -2147483648 ≤ k ∧ k < 2147483648) {v : Int} (h01 : ¬ (k = 0 ∨ k = 1)) (hf : 10 ≤ fr) (hl : 300 ≤ lo) (hr : 1 ≤ ρ.2.1 ∧ 6 ≤ ρ.2.2) : w_E sc fr lo 99 [.ref 0, .int (ji k), .int (ji v)] (hp μ, ρ) (.inr (0, ρ.1)) (hp μ, ρ.1 + 1, ρ.2.1 - 1, ρ.2.2 - 6) := by
  refine w_S.of (L0 := [some (.ref 0), some (.int (ji k)), some (.int (ji v))]) rfl rfl (Nat.le_of_ble_eq_true rfl) (by rfl) ?_
  refine w_ld d_99_0 rfl rfl rfl ?_
  refine w_cSx (as := [_]) (rest := _) rfl d_99_1 (by rfl) (by rfl) (by rfl) (by rfl) (Nat.le_of_ble_eq_true rfl) (by omega) (by omega) (t_rsx hk h01 (by omega) (by omega) hr) ?_
  exact ⟨rfl, rfl⟩
theorem t_rvx2 {sc : Nat × (Nat → Int32)} {fr lo : Nat} {μ : Mem} {ρ : Nat × Nat × Nat} {k : Int} (hk : k = 0 ∨ k = 1) {t : Nat} (hT : isT t) (ht : μ.2.1 1 k.toNat = .ref t) (hc : 0 ≤ μ.1 t 7 ∧ μ.1 t 7 ≤ 240) {v : Int} (hv0 : -2147483648 ≤ v ∧ v < 2147483648) (hv : ¬ (0 ≤ v ∧ v < μ.1 t 7)) (hf : 10 ≤ fr) (hl : 300 ≤ lo) (hr : 1 ≤ ρ.2.1 ∧ 6 ≤ ρ.2.2) : w_E sc fr lo 99 [.ref 0, .int (ji k), .int (ji v)] (hp μ, ρ) (.inr (0, ρ.1)) (hp μ, ρ.1 + 1, ρ.2.1 - 1, ρ.2.2 - 6) := by
  obtain ⟨hT0, h1, h2, h3, h4, h5, h6, h7, h8⟩ := hT.sh
  refine w_S.of (L0 := [some (.ref 0), some (.int (ji k)), some (.int (ji v))]) rfl rfl (Nat.le_of_ble_eq_true rfl) (by rfl) ?_
  refine w_ld d_99_0 rfl rfl rfl ?_
  refine w_cS0 (as := [_]) (rest := _) rfl d_99_1 (by rfl) (by rfl) (by rfl) (by rfl) (Nat.le_of_ble_eq_true rfl) (by omega) (by omega) (t_rs hk) ?_
  refine w_ld d_99_4 rfl rfl rfl ?_
  refine w_if_lt (g := 21) d_99_5 (by decide) (by omega) (fun h5 => ?_) (fun h5 => ?_)
  · refine w_thr rfl d_99_21 (by rfl) (by rfl) d_99_24 d_99_25 d_99_28 (show 1 ≤ ρ.2.1 ∧ 6 ≤ ρ.2.2 ∧ 5 < fr ∧ 0 + 81 ≤ lo by omega) ?_
    exact ⟨rfl, rfl⟩
  · refine w_ld d_99_8 rfl rfl rfl ?_
    refine w_ld d_99_9 rfl rfl rfl ?_
    refine w_getF d_99_10 (by rfl) (by first | rfl | assumption) (by rfl) (by rfl) ?_
    refine w_ld d_99_13 rfl rfl rfl ?_
    refine w_aald d_99_14 (by first | rfl | assumption) (by omega) (by assumption) ?_
    refine w_gI d_99_15 (by rfl) (by first | rfl | assumption) (by rfl) (by (try simp [stI, stA, stR]) <;> rfl) ?_
    refine w_icmp_lt (g := 29) d_99_18 (by decide) (by omega) (fun h18 => ?_) (fun h18 => ?_)
    · omega
    · refine w_thr rfl d_99_21 (by rfl) (by rfl) d_99_24 d_99_25 d_99_28 (show 1 ≤ ρ.2.1 ∧ 6 ≤ ρ.2.2 ∧ 5 < fr ∧ 0 + 81 ≤ lo by omega) ?_
      exact ⟨rfl, rfl⟩
theorem t_kind {sc : Nat × (Nat → Int32)} {fr lo : Nat} {μ : Mem} {ρ : Nat × Nat × Nat} {k : Int} (hk : k = 0 ∨ k = 1) {t : Nat} (hT : isT t) (ht : μ.2.1 1 k.toNat = .ref t) (hc : 0 ≤ μ.1 t 7 ∧ μ.1 t 7 ≤ 240) {v : Int} (hv : 0 ≤ v ∧ v < μ.1 t 7) (hf : 12 ≤ fr) (hl : 400 ≤ lo) : w_E sc fr lo 98 [.ref 0, .int (ji k), .int (ji v)] (hp μ, ρ) (.inl (some (.int (ji (μ.2.2 (t + 1) v))))) (hp μ, ρ) := by
  obtain ⟨hT0, h1, h2, h3, h4, h5, h6, h7, h8⟩ := hT.sh
  refine w_S.of (L0 := [some (.ref 0), some (.int (ji k)), some (.int (ji v))]) rfl rfl (Nat.le_of_ble_eq_true rfl) (by rfl) ?_
  refine w_ld d_98_0 rfl rfl rfl ?_
  refine w_ld d_98_1 rfl rfl rfl ?_
  refine w_ld d_98_2 rfl rfl rfl ?_
  refine w_cV0 (as := [_, _]) (rest := _) rfl d_98_3 (by rfl) (by rfl) (by first | rfl | assumption) (by rfl) (by rfl) (Nat.le_of_ble_eq_true rfl) (by omega) (by omega) (t_rv hk hT ht hc hv (by omega) (by omega)) ?_
  refine w_ld d_98_6 rfl rfl rfl ?_
  refine w_getF d_98_7 (by rfl) (by first | rfl | assumption) (by rfl) (by rfl) ?_
  refine w_ld d_98_10 rfl rfl rfl ?_
  refine w_aald d_98_11 (by first | rfl | assumption) (by omega) (by assumption) ?_
  refine w_getF d_98_12 (by rfl) (by first | rfl | assumption) (by rfl) (by rfl) ?_
  refine w_ld d_98_15 rfl rfl rfl ?_
  refine w_aI d_98_16 (by first | rfl | assumption) (by omega) (by (try simp [stI, stA, stR]) <;> rfl) ?_
  refine w_iret d_98_17 rfl ?_
  exact ⟨rfl, rfl⟩
theorem t_number {sc : Nat × (Nat → Int32)} {fr lo : Nat} {μ : Mem} {ρ : Nat × Nat × Nat} {k : Int} (hk : k = 0 ∨ k = 1) {t : Nat} (hT : isT t) (ht : μ.2.1 1 k.toNat = .ref t) (hc : 0 ≤ μ.1 t 7 ∧ μ.1 t 7 ≤ 240) {v : Int} (hv : 0 ≤ v ∧ v < μ.1 t 7) (hf : 12 ≤ fr) (hl : 400 ≤ lo) : w_E sc fr lo 103 [.ref 0, .int (ji k), .int (ji v)] (hp μ, ρ) (.inl (some (.long (jl (μ.2.2 (t + 2) v))))) (hp μ, ρ) := by
  obtain ⟨hT0, h1, h2, h3, h4, h5, h6, h7, h8⟩ := hT.sh
  refine w_S.of (L0 := [some (.ref 0), some (.int (ji k)), some (.int (ji v))]) rfl rfl (Nat.le_of_ble_eq_true rfl) (by rfl) ?_
  refine w_ld d_103_0 rfl rfl rfl ?_
  refine w_ld d_103_1 rfl rfl rfl ?_
  refine w_ld d_103_2 rfl rfl rfl ?_
  refine w_cV0 (as := [_, _]) (rest := _) rfl d_103_3 (by rfl) (by rfl) (by first | rfl | assumption) (by rfl) (by rfl) (Nat.le_of_ble_eq_true rfl) (by omega) (by omega) (t_rv hk hT ht hc hv (by omega) (by omega)) ?_
  refine w_ld d_103_6 rfl rfl rfl ?_
  refine w_getF d_103_7 (by rfl) (by first | rfl | assumption) (by rfl) (by rfl) ?_
  refine w_ld d_103_10 rfl rfl rfl ?_
  refine w_aald d_103_11 (by first | rfl | assumption) (by omega) (by assumption) ?_
  refine w_getF d_103_12 (by rfl) (by first | rfl | assumption) (by rfl) (by rfl) ?_
  refine w_ld d_103_15 rfl rfl rfl ?_
  refine w_aL d_103_16 (by first | rfl | assumption) (by omega) (by (try simp [stI, stA, stR]) <;> rfl) ?_
  refine w_ret d_103_17 rfl ?_
  exact ⟨rfl, rfl⟩
theorem t_size {sc : Nat × (Nat → Int32)} {fr lo : Nat} {μ : Mem} {ρ : Nat × Nat × Nat} {k : Int} (hk : k = 0 ∨ k = 1) {t : Nat} (hT : isT t) (ht : μ.2.1 1 k.toNat = .ref t) (hc : 0 ≤ μ.1 t 7 ∧ μ.1 t 7 ≤ 240) {v : Int} (hv : 0 ≤ v ∧ v < μ.1 t 7) (hf : 12 ≤ fr) (hl : 400 ≤ lo) (hkd : 0 ≤ μ.2.2 (t + 1) v ∧ μ.2.2 (t + 1) v ≤ 12) : w_E sc fr lo 101 [.ref 0, .int (ji k), .int (ji v)] (hp μ, ρ) (.inl (some (.int (ji (if μ.2.2 (t + 1) v < 8 then μ.2.2 (t + 4) v else μ.2.2 (t + 5) v))))) (hp μ, ρ) := by
  obtain ⟨hT0, h1, h2, h3, h4, h5, h6, h7, h8⟩ := hT.sh
  refine w_S.of (L0 := [some (.ref 0), some (.int (ji k)), some (.int (ji v)), none]) rfl rfl (Nat.le_of_ble_eq_true rfl) (by rfl) ?_
  refine w_ld d_101_0 rfl rfl rfl ?_
  refine w_ld d_101_1 rfl rfl rfl ?_
  refine w_ld d_101_2 rfl rfl rfl ?_
  refine w_cV0 (as := [_, _]) (rest := _) rfl d_101_3 (by rfl) (by rfl) (by first | rfl | assumption) (by rfl) (by rfl) (Nat.le_of_ble_eq_true rfl) (by omega) (by omega) (t_rv hk hT ht hc hv (by omega) (by omega)) ?_
  refine w_ld d_101_6 rfl rfl rfl ?_
  refine w_getF d_101_7 (by rfl) (by first | rfl | assumption) (by rfl) (by rfl) ?_
  refine w_ld d_101_10 rfl rfl rfl ?_
  refine w_aald d_101_11 (by first | rfl | assumption) (by omega) (by assumption) ?_
  refine w_st1 (L' := [_, _, _, _]) d_101_12 rfl (by decide) rfl (by decide) rfl ?_
  refine w_ld d_101_13 rfl rfl rfl ?_
  refine w_getF d_101_14 (by rfl) (by first | rfl | assumption) (by rfl) (by rfl) ?_
  refine w_ld d_101_17 rfl rfl rfl ?_
  refine w_aI d_101_18 (by first | rfl | assumption) (by omega) (by (try simp [stI, stA, stR]) <;> rfl) ?_
  refine w_bip d_101_19 (by decide) ?_
  refine w_icmp_lt (g := 33) d_101_21 (by decide) (by omega) (fun h21 => ?_) (fun h21 => ?_)
  · refine w_ld d_101_33 rfl rfl rfl ?_
    refine w_getF d_101_34 (by rfl) (by first | rfl | assumption) (by rfl) (by rfl) ?_
    refine w_ld d_101_37 rfl rfl rfl ?_
    refine w_aI d_101_38 (by first | rfl | assumption) (by omega) (by (try simp [stI, stA, stR]) <;> rfl) ?_
    refine w_iret d_101_39 rfl ?_
    first | (rw [if_pos (by omega)]; exact ⟨rfl, rfl⟩) | (rw [if_neg (by omega)]; exact ⟨rfl, rfl⟩)
  · refine w_ld d_101_24 rfl rfl rfl ?_
    refine w_getF d_101_25 (by rfl) (by first | rfl | assumption) (by rfl) (by rfl) ?_
    refine w_ld d_101_28 rfl rfl rfl ?_
    refine w_aI d_101_29 (by first | rfl | assumption) (by omega) (by (try simp [stI, stA, stR]) <;> rfl) ?_
    refine w_goto (g := 39) d_101_30 (by decide) ?_
    refine w_iret d_101_39 rfl ?_
    first | (rw [if_pos (by omega)]; exact ⟨rfl, rfl⟩) | (rw [if_neg (by omega)]; exact ⟨rfl, rfl⟩)
theorem t_letter {sc : Nat × (Nat → Int32)} {fr lo : Nat} {μ : Mem} {ρ : Nat × Nat × Nat} {k : Int} (hk : k = 0 ∨ k = 1) {t : Nat} (hT : isT t) (ht : μ.2.1 1 k.toNat = .ref t) (hc : 0 ≤ μ.1 t 7 ∧ μ.1 t 7 ≤ 240) {v : Int} (hv : 0 ≤ v ∧ v < μ.1 t 7) (hf : 12 ≤ fr) (hl : 400 ≤ lo) {i : Int} (hi : -2147483648 ≤ i ∧ i < 2147483648) (hws : 0 ≤ μ.2.2 (t + 4) v ∧ μ.2.2 (t + 4) v ≤ 240) (hwf : 0 ≤ μ.2.2 (t + 3) v ∧ μ.2.2 (t + 3) v ≤ 240) (hwc : 0 ≤ μ.1 (t + 7) 1 ∧ μ.1 (t + 7) 1 ≤ 240) : w_E sc fr lo 105 [.ref 0, .int (ji k), .int (ji v), .int (ji i)] (hp μ, ρ) (.inl (some (.int (ji (if 0 ≤ i ∧ i < μ.2.2 (t + 4) v then (if 0 ≤ μ.2.2 (t + 3) v + i ∧ μ.2.2 (t + 3) v + i < μ.1 (t + 7) 1 then μ.2.2 (t + 7 + 1) (μ.2.2 (t + 3) v + i) else -1) else -1))))) (hp μ, ρ) := by
  obtain ⟨hT0, h1, h2, h3, h4, h5, h6, h7, h8⟩ := hT.sh
  refine w_S.of (L0 := [some (.ref 0), some (.int (ji k)), some (.int (ji v)), some (.int (ji i)), none]) rfl rfl (Nat.le_of_ble_eq_true rfl) (by rfl) ?_
  refine w_ld d_105_0 rfl rfl rfl ?_
  refine w_ld d_105_1 rfl rfl rfl ?_
  refine w_ld d_105_2 rfl rfl rfl ?_
  refine w_cV0 (as := [_, _]) (rest := _) rfl d_105_3 (by rfl) (by rfl) (by first | rfl | assumption) (by rfl) (by rfl) (Nat.le_of_ble_eq_true rfl) (by omega) (by omega) (t_rv hk hT ht hc hv (by omega) (by omega)) ?_
  refine w_ld d_105_6 rfl rfl rfl ?_
  refine w_getF d_105_7 (by rfl) (by first | rfl | assumption) (by rfl) (by rfl) ?_
  refine w_ld d_105_10 rfl rfl rfl ?_
  refine w_aald d_105_11 (by first | rfl | assumption) (by omega) (by assumption) ?_
  refine w_st1 (L' := [_, _, _, _, _]) d_105_12 rfl (by decide) rfl (by decide) rfl ?_
  refine w_ld d_105_14 rfl rfl rfl ?_
  refine w_if_lt (g := 29) d_105_15 (by decide) (by omega) (fun h15 => ?_) (fun h15 => ?_)
  · refine w_con d_105_29 ?_
    refine w_iret d_105_30 rfl ?_
    rw [if_neg (by omega)]
    exact ⟨rfl, rfl⟩
  · refine w_ld d_105_18 rfl rfl rfl ?_
    refine w_ld d_105_19 rfl rfl rfl ?_
    refine w_getF d_105_21 (by rfl) (by first | rfl | assumption) (by rfl) (by rfl) ?_
    refine w_ld d_105_24 rfl rfl rfl ?_
    refine w_aI d_105_25 (by first | rfl | assumption) (by omega) (by (try simp [stI, stA, stR]) <;> rfl) ?_
    refine w_icmp_lt (g := 31) d_105_26 (by decide) (by omega) (fun h26 => ?_) (fun h26 => ?_)
    · refine w_ld d_105_31 rfl rfl rfl ?_
      refine w_getF d_105_33 (by rfl) (by first | rfl | assumption) (by rfl) (by rfl) ?_
      refine w_ld d_105_36 rfl rfl rfl ?_
      refine w_getF d_105_38 (by rfl) (by first | rfl | assumption) (by rfl) (by rfl) ?_
      refine w_ld d_105_41 rfl rfl rfl ?_
      refine w_aI d_105_42 (by first | rfl | assumption) (by omega) (by (try simp [stI, stA, stR]) <;> rfl) ?_
      refine w_ld d_105_43 rfl rfl rfl ?_
      refine w_iadd d_105_44 ?_
      refine w_cV1 (as := [_]) (rest := _) rfl d_105_45 (by rfl) (by rfl) (by first | rfl | assumption) (by rfl) (by rfl) (Nat.le_of_ble_eq_true rfl) (by omega) (by omega) (t_peek h7 h8 (by omega) (by omega)) ?_
      refine w_iret d_105_48 rfl ?_
      rw [if_pos (show 0 ≤ i ∧ i < μ.2.2 (t + 4) v by omega)]
      exact ⟨rfl, rfl⟩
    · refine w_con d_105_29 ?_
      refine w_iret d_105_30 rfl ?_
      rw [if_neg (by omega)]
      exact ⟨rfl, rfl⟩
theorem t_kindx1 {sc : Nat × (Nat → Int32)} {fr lo : Nat} {μ : Mem} {ρ : Nat × Nat × Nat} {k : Int} (hk : -2147483648 ≤ k ∧ k < 2147483648) {v : Int} (h01 : ¬ (k = 0 ∨ k = 1)) (hf : 12 ≤ fr) (hl : 400 ≤ lo) (hr : 1 ≤ ρ.2.1 ∧ 6 ≤ ρ.2.2) : w_E sc fr lo 98 [.ref 0, .int (ji k), .int (ji v)] (hp μ, ρ) (.inr (0, ρ.1)) (hp μ, ρ.1 + 1, ρ.2.1 - 1, ρ.2.2 - 6) := by
  refine w_S.of (L0 := [some (.ref 0), some (.int (ji k)), some (.int (ji v))]) rfl rfl (Nat.le_of_ble_eq_true rfl) (by rfl) ?_
  refine w_ld d_98_0 rfl rfl rfl ?_
  refine w_ld d_98_1 rfl rfl rfl ?_
  refine w_ld d_98_2 rfl rfl rfl ?_
  refine w_cVx (as := [_, _]) (rest := _) rfl d_98_3 (by rfl) (by rfl) (by first | rfl | assumption) (by rfl) (by rfl) (Nat.le_of_ble_eq_true rfl) (by omega) (by omega) (t_rvx1 hk h01 (by omega) (by omega) hr) ?_
  exact ⟨rfl, rfl⟩
theorem t_kindx2 {sc : Nat × (Nat → Int32)} {fr lo : Nat} {μ : Mem} {ρ : Nat × Nat × Nat} {k : Int} (hk : k = 0 ∨ k = 1) {t : Nat} (hT : isT t) (ht : μ.2.1 1 k.toNat = .ref t) (hc : 0 ≤ μ.1 t 7 ∧ μ.1 t 7 ≤ 240) {v : Int} (hv0 : -2147483648 ≤ v ∧ v < 2147483648) (hv : ¬ (0 ≤ v ∧ v < μ.1 t 7)) (hf : 12 ≤ fr) (hl : 400 ≤ lo) (hr : 1 ≤ ρ.2.1 ∧ 6 ≤ ρ.2.2) : w_E sc fr lo 98 [.ref 0, .int (ji k), .int (ji v)] (hp μ, ρ) (.inr (0, ρ.1)) (hp μ, ρ.1 + 1, ρ.2.1 - 1, ρ.2.2 - 6) := by
  refine w_S.of (L0 := [some (.ref 0), some (.int (ji k)), some (.int (ji v))]) rfl rfl (Nat.le_of_ble_eq_true rfl) (by rfl) ?_
  refine w_ld d_98_0 rfl rfl rfl ?_
  refine w_ld d_98_1 rfl rfl rfl ?_
  refine w_ld d_98_2 rfl rfl rfl ?_
  refine w_cVx (as := [_, _]) (rest := _) rfl d_98_3 (by rfl) (by rfl) (by first | rfl | assumption) (by rfl) (by rfl) (Nat.le_of_ble_eq_true rfl) (by omega) (by omega) (t_rvx2 hk hT ht hc hv0 hv (by omega) (by omega) hr) ?_
  exact ⟨rfl, rfl⟩
theorem t_numberx1 {sc : Nat × (Nat → Int32)} {fr lo : Nat} {μ : Mem} {ρ : Nat × Nat × Nat} {k : Int} (hk : -2147483648 ≤ k ∧ k < 2147483648) {v : Int} (h01 : ¬ (k = 0 ∨ k = 1)) (hf : 12 ≤ fr) (hl : 400 ≤ lo) (hr : 1 ≤ ρ.2.1 ∧ 6 ≤ ρ.2.2) : w_E sc fr lo 103 [.ref 0, .int (ji k), .int (ji v)] (hp μ, ρ) (.inr (0, ρ.1)) (hp μ, ρ.1 + 1, ρ.2.1 - 1, ρ.2.2 - 6) := by
  refine w_S.of (L0 := [some (.ref 0), some (.int (ji k)), some (.int (ji v))]) rfl rfl (Nat.le_of_ble_eq_true rfl) (by rfl) ?_
  refine w_ld d_103_0 rfl rfl rfl ?_
  refine w_ld d_103_1 rfl rfl rfl ?_
  refine w_ld d_103_2 rfl rfl rfl ?_
  refine w_cVx (as := [_, _]) (rest := _) rfl d_103_3 (by rfl) (by rfl) (by first | rfl | assumption) (by rfl) (by rfl) (Nat.le_of_ble_eq_true rfl) (by omega) (by omega) (t_rvx1 hk h01 (by omega) (by omega) hr) ?_
  exact ⟨rfl, rfl⟩
theorem t_numberx2 {sc : Nat × (Nat → Int32)} {fr lo : Nat} {μ : Mem} {ρ : Nat × Nat × Nat} {k : Int} (hk : k = 0 ∨ k = 1) {t : Nat} (hT : isT t) (ht : μ.2.1 1 k.toNat = .ref t) (hc : 0 ≤ μ.1 t 7 ∧ μ.1 t 7 ≤ 240) {v : Int} (hv0 : -2147483648 ≤ v ∧ v < 2147483648) (hv : ¬ (0 ≤ v ∧ v < μ.1 t 7)) (hf : 12 ≤ fr) (hl : 400 ≤ lo) (hr : 1 ≤ ρ.2.1 ∧ 6 ≤ ρ.2.2) : w_E sc fr lo 103 [.ref 0, .int (ji k), .int (ji v)] (hp μ, ρ) (.inr (0, ρ.1)) (hp μ, ρ.1 + 1, ρ.2.1 - 1, ρ.2.2 - 6) := by
  refine w_S.of (L0 := [some (.ref 0), some (.int (ji k)), some (.int (ji v))]) rfl rfl (Nat.le_of_ble_eq_true rfl) (by rfl) ?_
  refine w_ld d_103_0 rfl rfl rfl ?_
  refine w_ld d_103_1 rfl rfl rfl ?_
  refine w_ld d_103_2 rfl rfl rfl ?_
  refine w_cVx (as := [_, _]) (rest := _) rfl d_103_3 (by rfl) (by rfl) (by first | rfl | assumption) (by rfl) (by rfl) (Nat.le_of_ble_eq_true rfl) (by omega) (by omega) (t_rvx2 hk hT ht hc hv0 hv (by omega) (by omega) hr) ?_
  exact ⟨rfl, rfl⟩
theorem t_sizex1 {sc : Nat × (Nat → Int32)} {fr lo : Nat} {μ : Mem} {ρ : Nat × Nat × Nat} {k : Int} (hk : -2147483648 ≤ k ∧ k < 2147483648) {v : Int} (h01 : ¬ (k = 0 ∨ k = 1)) (hf : 12 ≤ fr) (hl : 400 ≤ lo) (hr : 1 ≤ ρ.2.1 ∧ 6 ≤ ρ.2.2) : w_E sc fr lo 101 [.ref 0, .int (ji k), .int (ji v)] (hp μ, ρ) (.inr (0, ρ.1)) (hp μ, ρ.1 + 1, ρ.2.1 - 1, ρ.2.2 - 6) := by
  refine w_S.of (L0 := [some (.ref 0), some (.int (ji k)), some (.int (ji v)), none]) rfl rfl (Nat.le_of_ble_eq_true rfl) (by rfl) ?_
  refine w_ld d_101_0 rfl rfl rfl ?_
  refine w_ld d_101_1 rfl rfl rfl ?_
  refine w_ld d_101_2 rfl rfl rfl ?_
  refine w_cVx (as := [_, _]) (rest := _) rfl d_101_3 (by rfl) (by rfl) (by first | rfl | assumption) (by rfl) (by rfl) (Nat.le_of_ble_eq_true rfl) (by omega) (by omega) (t_rvx1 hk h01 (by omega) (by omega) hr) ?_
  exact ⟨rfl, rfl⟩
theorem t_sizex2 {sc : Nat × (Nat → Int32)} {fr lo : Nat} {μ : Mem} {ρ : Nat × Nat × Nat} {k : Int} (hk : k = 0 ∨ k = 1) {t : Nat} (hT : isT t) (ht : μ.2.1 1 k.toNat = .ref t) (hc : 0 ≤ μ.1 t 7 ∧ μ.1 t 7 ≤ 240) {v : Int} (hv0 : -2147483648 ≤ v ∧ v < 2147483648) (hv : ¬ (0 ≤ v ∧ v < μ.1 t 7)) (hf : 12 ≤ fr) (hl : 400 ≤ lo) (hr : 1 ≤ ρ.2.1 ∧ 6 ≤ ρ.2.2) : w_E sc fr lo 101 [.ref 0, .int (ji k), .int (ji v)] (hp μ, ρ) (.inr (0, ρ.1)) (hp μ, ρ.1 + 1, ρ.2.1 - 1, ρ.2.2 - 6) := by
  refine w_S.of (L0 := [some (.ref 0), some (.int (ji k)), some (.int (ji v)), none]) rfl rfl (Nat.le_of_ble_eq_true rfl) (by rfl) ?_
  refine w_ld d_101_0 rfl rfl rfl ?_
  refine w_ld d_101_1 rfl rfl rfl ?_
  refine w_ld d_101_2 rfl rfl rfl ?_
  refine w_cVx (as := [_, _]) (rest := _) rfl d_101_3 (by rfl) (by rfl) (by first | rfl | assumption) (by rfl) (by rfl) (Nat.le_of_ble_eq_true rfl) (by omega) (by omega) (t_rvx2 hk hT ht hc hv0 hv (by omega) (by omega) hr) ?_
  exact ⟨rfl, rfl⟩
theorem t_letterx1 {sc : Nat × (Nat → Int32)} {fr lo : Nat} {μ : Mem} {ρ : Nat × Nat × Nat} {k : Int} (hk : -2147483648 ≤ k ∧ k < 2147483648) {v : Int} (h01 : ¬ (k = 0 ∨ k = 1)) (hf : 12 ≤ fr) (hl : 400 ≤ lo) (hr : 1 ≤ ρ.2.1 ∧ 6 ≤ ρ.2.2) {i : Int} : w_E sc fr lo 105 [.ref 0, .int (ji k), .int (ji v), .int (ji i)] (hp μ, ρ) (.inr (0, ρ.1)) (hp μ, ρ.1 + 1, ρ.2.1 - 1, ρ.2.2 - 6) := by
  refine w_S.of (L0 := [some (.ref 0), some (.int (ji k)), some (.int (ji v)), some (.int (ji i)), none]) rfl rfl (Nat.le_of_ble_eq_true rfl) (by rfl) ?_
  refine w_ld d_105_0 rfl rfl rfl ?_
  refine w_ld d_105_1 rfl rfl rfl ?_
  refine w_ld d_105_2 rfl rfl rfl ?_
  refine w_cVx (as := [_, _]) (rest := _) rfl d_105_3 (by rfl) (by rfl) (by first | rfl | assumption) (by rfl) (by rfl) (Nat.le_of_ble_eq_true rfl) (by omega) (by omega) (t_rvx1 hk h01 (by omega) (by omega) hr) ?_
  exact ⟨rfl, rfl⟩
theorem t_letterx2 {sc : Nat × (Nat → Int32)} {fr lo : Nat} {μ : Mem} {ρ : Nat × Nat × Nat} {k : Int} (hk : k = 0 ∨ k = 1) {t : Nat} (hT : isT t) (ht : μ.2.1 1 k.toNat = .ref t) (hc : 0 ≤ μ.1 t 7 ∧ μ.1 t 7 ≤ 240) {v : Int} (hv0 : -2147483648 ≤ v ∧ v < 2147483648) (hv : ¬ (0 ≤ v ∧ v < μ.1 t 7)) (hf : 12 ≤ fr) (hl : 400 ≤ lo) (hr : 1 ≤ ρ.2.1 ∧ 6 ≤ ρ.2.2) {i : Int} : w_E sc fr lo 105 [.ref 0, .int (ji k), .int (ji v), .int (ji i)] (hp μ, ρ) (.inr (0, ρ.1)) (hp μ, ρ.1 + 1, ρ.2.1 - 1, ρ.2.2 - 6) := by
  refine w_S.of (L0 := [some (.ref 0), some (.int (ji k)), some (.int (ji v)), some (.int (ji i)), none]) rfl rfl (Nat.le_of_ble_eq_true rfl) (by rfl) ?_
  refine w_ld d_105_0 rfl rfl rfl ?_
  refine w_ld d_105_1 rfl rfl rfl ?_
  refine w_ld d_105_2 rfl rfl rfl ?_
  refine w_cVx (as := [_, _]) (rest := _) rfl d_105_3 (by rfl) (by rfl) (by first | rfl | assumption) (by rfl) (by rfl) (Nat.le_of_ble_eq_true rfl) (by omega) (by omega) (t_rvx2 hk hT ht hc hv0 hv (by omega) (by omega) hr) ?_
  exact ⟨rfl, rfl⟩
