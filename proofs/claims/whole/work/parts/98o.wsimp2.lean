/-! THE PURE PART, 94: contracts: the class writes simple values, 2 -/
theorem litL_5 : litL 5 = [110, 117, 108, 108] := by decide
theorem litL_6 : litL 6 = [116, 114, 117, 101] := by decide
theorem litL_7 : litL 7 = [102, 97, 108, 115, 101] := by decide
theorem litL_8 : litL 8 = [91, 34, 126, 35, 39, 34, 44] := by decide
theorem litL_9 : litL 9 = [126, 95] := by decide
theorem litL_10 : litL 10 = [126, 63, 116] := by decide
theorem litL_11 : litL 11 = [126, 63, 102] := by decide
theorem litL_12 : litL 12 = [126, 105] := by decide
theorem litL_13 : litL 13 = [126, 109] := by decide
theorem litL_14 : litL 14 = [126, 58] := by decide
theorem litL_15 : litL 15 = [126, 36] := by decide
theorem litL_16 : litL 16 = [126, 99] := by decide
theorem litL_17 : litL 17 = [126, 35, 108, 105, 115, 116] := by decide
theorem litL_18 : litL 18 = [126, 35, 115, 101, 116] := by decide
theorem litL_19 : litL 19 = [34, 94, 32, 34] := by decide
theorem litL_20 : litL 20 = [126, 35, 99, 109, 97, 112] := by decide
theorem litL_21 : litL 21 = [126, 35] := by decide
theorem digs_len : ∀ (f j n : Nat), 1 ≤ j → n < 10 ^ j → (digs f n).length ≤ j
  | 0, j, n, hj, h => by show 1 ≤ j; exact hj
  | f + 1, j, n, hj, h => by
    unfold digs
    by_cases z : n < 10
    · rw [if_pos z]; exact hj
    · rw [if_neg z, List.length_append]
      cases j with
      | zero => omega
      | succ j =>
        have hj1 : 1 ≤ j := by
          cases j with
          | zero => simp at h; omega
          | succ j => omega
        have := digs_len f j (n / 10) hj1 (by
          rw [Nat.pow_succ] at h
          exact Nat.div_lt_of_lt_mul (by rw [Nat.mul_comm]; exact h))
        show _ + 1 ≤ j + 1
        omega
theorem dec_len {v : Int} (h : -9223372036854775808 ≤ v ∧ v < 9223372036854775808) : (dec v).length ≤ 20 := by
  have := digs_len 20 19 v.natAbs (by omega) (by omega)
  unfold dec
  split
  · rw [List.length_cons]; omega
  · omega
/-- a row of the tree that is written -/
def TRw (t : Nat) (k : Int) (μ : Mem) : Prop := (0 ≤ k ∧ k < 240) ∧ (0 ≤ μ.2.2 (t + 3) k ∧ 0 ≤ μ.2.2 (t + 4) k ∧ μ.2.2 (t + 3) k + μ.2.2 (t + 4) k ≤ μ.1 (t + 7) 1 ∧ μ.1 (t + 7) 1 ≤ 240) ∧ (-9223372036854775808 ≤ μ.2.2 (t + 2) k ∧ μ.2.2 (t + 2) k < 9223372036854775808) ∧ (0 ≤ μ.2.2 (t + 1) k ∧ μ.2.2 (t + 1) k ≤ 12) ∧ (μ.2.2 (t + 1) k = 7 → 32 ≤ μ.2.2 (t + 2) k ∧ μ.2.2 (t + 2) k ≤ 126)
theorem DW_v {t : Nat} (hT : isT t) {w : List Int} {μ μ' : Mem} (h : DW w μ μ') : vT μ' t = vT μ t := vT_eq (fun a h1 h2 => h.2.2.2.1 a (by unfold isT at hT; omega) (by unfold isT at hT; omega))
theorem DW_TR {t : Nat} (hT : isT t) {w : List Int} {k : Int} {μ μ' : Mem} (h : DW w μ μ') (g : TRw t k μ) : TRw t k μ' := by
  unfold isT at hT
  have e : ∀ a, t + 1 ≤ a → a ≤ t + 8 → μ'.2.2 a = μ.2.2 a := fun a h1 h2 => h.2.2.2.1 a (by omega) (by omega)
  unfold TRw at g ⊢
  rw [e (t + 1) (by omega) (by omega), e (t + 2) (by omega) (by omega), e (t + 3) (by omega) (by omega), e (t + 4) (by omega) (by omega), h.1 (t + 7) 1 (by omega)]
  exact g
theorem t_dsm {sc : Nat × (Nat → Int32)} {fr lo : Nat} {μ : Mem} {ρ : Nat × Nat × Nat} {t : Nat} (hT : isT t) (ht : μ.2.1 35 4 = .ref t) (hG : GL μ) {k kd v : Int} (hR : TRw t k μ) (hkd : kd = μ.2.2 (t + 1) k ∧ kd < 8) (hv : v = μ.2.2 (t + 2) k) (hn : 0 ≤ μ.1 39 1 ∧ μ.1 39 1 ≤ 237) (hf : 30 ≤ fr) (hl : 1100 ≤ lo) (hr : 1 ≤ ρ.2.1 ∧ 6 ≤ ρ.2.2) : w_S sc fr lo 78 [.ref 35, .int (ji k), .int (ji kd), .long (jl v)] (hp μ, ρ) (fun o τ => o = .inl none ∧ ∃ μ', τ = (hp μ', ρ) ∧ DW (rwo (vT μ t) k) μ μ') := by
  have hr1 := hR.2.2.1
  have hr2 := hR.2.2.2.1
  refine w_S.of (L0 := [some (.ref 35), some (.int (ji k)), some (.int (ji kd)), some (.long (jl v)), none]) rfl rfl (Nat.le_of_ble_eq_true rfl) (by rfl) ?_
  refine w_ld d_78_0 rfl rfl rfl ?_
  rcases (show kd = 0 ∨ kd = 1 ∨ kd = 2 ∨ kd = 3 ∨ kd = 4 ∨ kd = 5 ∨ kd = 6 ∨ kd = 7 ∨ (kd ≠ 0 ∧ kd ≠ 1 ∧ kd ≠ 2 ∧ kd ≠ 3 ∧ kd ≠ 4 ∧ kd ≠ 5 ∧ kd ≠ 6 ∧ kd ≠ 7) by omega) with h1 | h1 | h1 | h1 | h1 | h1 | h1 | h1 | h1
  · refine w_tsw (g := 48) d_78_1 (by omega) (by rw [h1]; decide) ?_
    refine w_ld d_78_48 rfl rfl rfl ?_
    refine w_lds (k := 9) d_78_49 (by rfl) ?_
    refine w_cVq (as := [_]) (rest := _) rfl d_78_51 (by rfl) (by rfl) (by first | rfl | assumption) (by rfl) (by rfl) (Nat.le_of_ble_eq_true rfl) (by omega) (by omega) (t_dwd (k := 9) (by decide) (by have : slen 9 ≤ 7 := (slen_le (by decide)).2; omega) (by omega) (by omega) hr) ?_ ?_
    rotate_left
    · rintro r τ ⟨hv9, _⟩
      cases hv9
    rintro vv1 τ1 ⟨hv1, μ1, rfl, hd1⟩
    obtain rfl := Sum.inl.inj hv1
    refine w_goto (g := 162) d_78_54 (by decide) ?_
    refine w_ret d_78_162 rfl ?_
    have e : rwo (vT μ t) k = litL 9 := by
      have h0 : (vT μ t).1 k = 0 := by show μ.2.2 (t + 1) k = 0; omega
      unfold rwo
      rw [h0]
      rw [litL_9]
      rfl
    rw [e]
    exact ⟨rfl, μ1, rfl, hd1⟩
  · refine w_tsw (g := 57) d_78_1 (by omega) (by rw [h1]; decide) ?_
    refine w_ld d_78_57 rfl rfl rfl ?_
    refine w_ld d_78_58 rfl rfl rfl ?_
    refine w_lcon1 d_78_59 ?_
    refine w_lcmp d_78_60 (by omega) ?_
    refine w_if_ne (g := 69) d_78_61 (by decide) (by have := lcm_in v 1; omega) (fun h61 => ?_) (fun h61 => ?_)
    · refine w_lds (k := 11) d_78_69 (by rfl) ?_
      refine w_cVq (as := [_]) (rest := _) rfl d_78_71 (by rfl) (by rfl) (by first | rfl | assumption) (by rfl) (by rfl) (Nat.le_of_ble_eq_true rfl) (by omega) (by omega) (t_dwd (k := 11) (by decide) (by have : slen 11 ≤ 7 := (slen_le (by decide)).2; omega) (by omega) (by omega) hr) ?_ ?_
      rotate_left
      · rintro r τ ⟨hv9, _⟩
        cases hv9
      rintro vv1 τ1 ⟨hv1, μ1, rfl, hd1⟩
      obtain rfl := Sum.inl.inj hv1
      refine w_goto (g := 162) d_78_74 (by decide) ?_
      refine w_ret d_78_162 rfl ?_
      have e : rwo (vT μ t) k = litL 11 := by
        have h0 : (vT μ t).1 k = 1 := by show μ.2.2 (t + 1) k = 1; omega
        have h1 : ¬ (vT μ t).2.1 k = 1 := fun z => h61 ((lcm_eq v 1).mpr (hv.trans z))
        unfold rwo
        rw [h0, litL_11]
        show (if (vT μ t).2.1 k = 1 then _ else _) = _
        exact if_neg h1
      rw [e]
      exact ⟨rfl, μ1, rfl, hd1⟩
    · refine w_lds (k := 10) d_78_64 (by rfl) ?_
      refine w_goto (g := 71) d_78_66 (by decide) ?_
      refine w_cVq (as := [_]) (rest := _) rfl d_78_71 (by rfl) (by rfl) (by first | rfl | assumption) (by rfl) (by rfl) (Nat.le_of_ble_eq_true rfl) (by omega) (by omega) (t_dwd (k := 10) (by decide) (by have : slen 10 ≤ 7 := (slen_le (by decide)).2; omega) (by omega) (by omega) hr) ?_ ?_
      rotate_left
      · rintro r τ ⟨hv9, _⟩
        cases hv9
      rintro vv1 τ1 ⟨hv1, μ1, rfl, hd1⟩
      obtain rfl := Sum.inl.inj hv1
      refine w_goto (g := 162) d_78_74 (by decide) ?_
      refine w_ret d_78_162 rfl ?_
      have e : rwo (vT μ t) k = litL 10 := by
        have h0 : (vT μ t).1 k = 1 := by show μ.2.2 (t + 1) k = 1; omega
        have h1 : (vT μ t).2.1 k = 1 := hv.symm.trans ((lcm_eq v 1).mp h61)
        unfold rwo
        rw [h0, litL_10]
        show (if (vT μ t).2.1 k = 1 then _ else _) = _
        exact if_pos h1
      rw [e]
      exact ⟨rfl, μ1, rfl, hd1⟩
  · refine w_tsw (g := 77) d_78_1 (by omega) (by rw [h1]; decide) ?_
    refine w_ld d_78_77 rfl rfl rfl ?_
    refine w_lds (k := 12) d_78_78 (by rfl) ?_
    refine w_cVq (as := [_]) (rest := _) rfl d_78_80 (by rfl) (by rfl) (by first | rfl | assumption) (by rfl) (by rfl) (Nat.le_of_ble_eq_true rfl) (by omega) (by omega) (t_dwd (k := 12) (by decide) (by have : slen 12 ≤ 7 := (slen_le (by decide)).2; omega) (by omega) (by omega) hr) ?_ ?_
    rotate_left
    · rintro r τ ⟨hv9, _⟩
      cases hv9
    rintro vv1 τ1 ⟨hv1, μ1, rfl, hd1⟩
    obtain rfl := Sum.inl.inj hv1
    have h39 := hd1.2.2.1
    rw [litL_12] at h39
    have h39 : μ1.1 39 1 = μ.1 39 1 + 2 := h39
    have hvr : -9223372036854775808 ≤ v ∧ v < 9223372036854775808 := by have := hR.2.2.1; omega
    refine w_ld d_78_83 rfl rfl rfl ?_
    refine w_ld d_78_84 rfl rfl rfl ?_
    refine w_cVq (as := [_]) (rest := _) rfl d_78_85 (by rfl) (by rfl) (by first | rfl | assumption) (by rfl) (by rfl) (Nat.le_of_ble_eq_true rfl) (by omega) (by omega) (t_dnm (μ := μ1) hvr (by have := dec_len hvr; omega) (by omega) (by omega) hr) ?_ ?_
    rotate_left
    · rintro r τ ⟨hv9, _⟩
      cases hv9
    rintro vv2 τ2 ⟨hv2, μ2, rfl, hd2⟩
    obtain rfl := Sum.inl.inj hv2
    refine w_goto (g := 162) d_78_88 (by decide) ?_
    refine w_ret d_78_162 rfl ?_
    have e : rwo (vT μ t) k = litL 12 ++ dec v := by
      have h0 : (vT μ t).1 k = 2 := by show μ.2.2 (t + 1) k = 2; omega
      unfold rwo
      rw [h0, litL_12, hv]
      rfl
    rw [e]
    exact ⟨rfl, μ2, rfl, DW_trans hd1 hd2⟩
  · refine w_tsw (g := 91) d_78_1 (by omega) (by rw [h1]; decide) ?_
    refine w_ld d_78_91 rfl rfl rfl ?_
    refine w_lds (k := 13) d_78_92 (by rfl) ?_
    refine w_cVq (as := [_]) (rest := _) rfl d_78_94 (by rfl) (by rfl) (by first | rfl | assumption) (by rfl) (by rfl) (Nat.le_of_ble_eq_true rfl) (by omega) (by omega) (t_dwd (k := 13) (by decide) (by have : slen 13 ≤ 7 := (slen_le (by decide)).2; omega) (by omega) (by omega) hr) ?_ ?_
    rotate_left
    · rintro r τ ⟨hv9, _⟩
      cases hv9
    rintro vv1 τ1 ⟨hv1, μ1, rfl, hd1⟩
    obtain rfl := Sum.inl.inj hv1
    have h39 := hd1.2.2.1
    rw [litL_13] at h39
    have h39 : μ1.1 39 1 = μ.1 39 1 + 2 := h39
    have hvr : -9223372036854775808 ≤ v ∧ v < 9223372036854775808 := by have := hR.2.2.1; omega
    refine w_ld d_78_97 rfl rfl rfl ?_
    refine w_ld d_78_98 rfl rfl rfl ?_
    refine w_cVq (as := [_]) (rest := _) rfl d_78_99 (by rfl) (by rfl) (by first | rfl | assumption) (by rfl) (by rfl) (Nat.le_of_ble_eq_true rfl) (by omega) (by omega) (t_dnm (μ := μ1) hvr (by have := dec_len hvr; omega) (by omega) (by omega) hr) ?_ ?_
    rotate_left
    · rintro r τ ⟨hv9, _⟩
      cases hv9
    rintro vv2 τ2 ⟨hv2, μ2, rfl, hd2⟩
    obtain rfl := Sum.inl.inj hv2
    refine w_goto (g := 162) d_78_102 (by decide) ?_
    refine w_ret d_78_162 rfl ?_
    have e : rwo (vT μ t) k = litL 13 ++ dec v := by
      have h0 : (vT μ t).1 k = 3 := by show μ.2.2 (t + 1) k = 3; omega
      unfold rwo
      rw [h0, litL_13, hv]
      rfl
    rw [e]
    exact ⟨rfl, μ2, rfl, DW_trans hd1 hd2⟩
  · refine w_tsw (g := 152) d_78_1 (by omega) (by rw [h1]; decide) ?_
    refine w_ld d_78_152 rfl rfl rfl ?_
    refine w_ld d_78_153 rfl rfl rfl ?_
    refine w_cVq (as := [_]) (rest := _) rfl d_78_154 (by rfl) (by rfl) (by first | rfl | assumption) (by rfl) (by rfl) (Nat.le_of_ble_eq_true rfl) (by omega) (by omega) (t_des hT ht hG hR.1 hR.2.1 (by omega) (by omega) (by omega) hr) ?_ ?_
    rotate_left
    · rintro r τ ⟨hv9, _⟩
      cases hv9
    rintro vv1 τ1 ⟨hv1, μ1, rfl, hd1⟩
    obtain rfl := Sum.inl.inj hv1
    have h39 := hd1.2.2.1
    have hle : ((if 0 < μ.2.2 (t + 4) k ∧ (μ.2.2 (t + 7 + 1) (μ.2.2 (t + 3) k) = 126 ∨ μ.2.2 (t + 7 + 1) (μ.2.2 (t + 3) k) = 94 ∨ μ.2.2 (t + 7 + 1) (μ.2.2 (t + 3) k) = 96) then [126] else [] : List Int).length : Int) ≤ 1 := by
      split
      · decide
      · decide
    have hle0 : (0 : Int) ≤ ((if 0 < μ.2.2 (t + 4) k ∧ (μ.2.2 (t + 7 + 1) (μ.2.2 (t + 3) k) = 126 ∨ μ.2.2 (t + 7 + 1) (μ.2.2 (t + 3) k) = 94 ∨ μ.2.2 (t + 7 + 1) (μ.2.2 (t + 3) k) = 96) then [126] else [] : List Int).length : Int) := Int.natCast_nonneg _
    refine w_ld d_78_157 rfl rfl rfl ?_
    refine w_ld d_78_158 rfl rfl rfl ?_
    refine w_cVq (as := [_]) (rest := _) rfl d_78_159 (by rfl) (by rfl) (by first | rfl | assumption) (by rfl) (by rfl) (Nat.le_of_ble_eq_true rfl) (by omega) (by omega) (t_dwo (μ := μ1) hT (by rw [hd1.2.1]; exact ht) (DW_GL hd1 hG) hR.1 (DW_TR hT hd1 hR).2.1 (by have := (DW_TR hT hd1 hR).2.1; omega) (by omega) (by omega) hr) ?_ ?_
    rotate_left
    · rintro r τ ⟨hv9, _⟩
      cases hv9
    rintro vv2 τ2 ⟨hv2, μ2, rfl, hd2⟩
    obtain rfl := Sum.inl.inj hv2
    refine w_ret d_78_162 rfl ?_
    have e : rwo (vT μ t) k = (if 0 < μ.2.2 (t + 4) k ∧ (μ.2.2 (t + 7 + 1) (μ.2.2 (t + 3) k) = 126 ∨ μ.2.2 (t + 7 + 1) (μ.2.2 (t + 3) k) = 94 ∨ μ.2.2 (t + 7 + 1) (μ.2.2 (t + 3) k) = 96) then [126] else []) ++ wrd (vT μ1 t) k := by
      have h0 : (vT μ t).1 k = 4 := by show μ.2.2 (t + 1) k = 4; have := hR.2.2.2.1; omega
      unfold rwo
      rw [h0, DW_v hT hd1]
      show (if 0 < μ.2.2 (t + 4) k ∧ (μ.2.2 (t + 7 + 1) (μ.2.2 (t + 3) k + 0) = 126 ∨ μ.2.2 (t + 7 + 1) (μ.2.2 (t + 3) k + 0) = 94 ∨ μ.2.2 (t + 7 + 1) (μ.2.2 (t + 3) k + 0) = 96) then [126] else []) ++ wrd (vT μ t) k = _
      rw [Int.add_zero]
    rw [e]
    exact ⟨rfl, μ2, rfl, DW_trans hd1 hd2⟩
  · refine w_tsw (g := 105) d_78_1 (by omega) (by rw [h1]; decide) ?_
    refine w_ld d_78_105 rfl rfl rfl ?_
    refine w_lds (k := 14) d_78_106 (by rfl) ?_
    refine w_cVq (as := [_]) (rest := _) rfl d_78_108 (by rfl) (by rfl) (by first | rfl | assumption) (by rfl) (by rfl) (Nat.le_of_ble_eq_true rfl) (by omega) (by omega) (t_dwd (k := 14) (by decide) (by have : slen 14 ≤ 7 := (slen_le (by decide)).2; omega) (by omega) (by omega) hr) ?_ ?_
    rotate_left
    · rintro r τ ⟨hv9, _⟩
      cases hv9
    rintro vv1 τ1 ⟨hv1, μ1, rfl, hd1⟩
    obtain rfl := Sum.inl.inj hv1
    have h39 := hd1.2.2.1
    rw [litL_14] at h39
    have h39 : μ1.1 39 1 = μ.1 39 1 + 2 := h39
    
    refine w_ld d_78_111 rfl rfl rfl ?_
    refine w_ld d_78_112 rfl rfl rfl ?_
    refine w_cVq (as := [_]) (rest := _) rfl d_78_113 (by rfl) (by rfl) (by first | rfl | assumption) (by rfl) (by rfl) (Nat.le_of_ble_eq_true rfl) (by omega) (by omega) (t_dwo (μ := μ1) hT (by rw [hd1.2.1]; exact ht) (DW_GL hd1 hG) hR.1 (DW_TR hT hd1 hR).2.1 (by have := (DW_TR hT hd1 hR).2.1; omega) (by omega) (by omega) hr) ?_ ?_
    rotate_left
    · rintro r τ ⟨hv9, _⟩
      cases hv9
    rintro vv2 τ2 ⟨hv2, μ2, rfl, hd2⟩
    obtain rfl := Sum.inl.inj hv2
    refine w_goto (g := 162) d_78_116 (by decide) ?_
    refine w_ret d_78_162 rfl ?_
    have e : rwo (vT μ t) k = litL 14 ++ wrd (vT μ1 t) k := by
      have h0 : (vT μ t).1 k = 5 := by show μ.2.2 (t + 1) k = 5; omega
      unfold rwo
      rw [h0, litL_14, DW_v hT hd1]
      rfl
    rw [e]
    exact ⟨rfl, μ2, rfl, DW_trans hd1 hd2⟩
  · refine w_tsw (g := 119) d_78_1 (by omega) (by rw [h1]; decide) ?_
    refine w_ld d_78_119 rfl rfl rfl ?_
    refine w_lds (k := 15) d_78_120 (by rfl) ?_
    refine w_cVq (as := [_]) (rest := _) rfl d_78_122 (by rfl) (by rfl) (by first | rfl | assumption) (by rfl) (by rfl) (Nat.le_of_ble_eq_true rfl) (by omega) (by omega) (t_dwd (k := 15) (by decide) (by have : slen 15 ≤ 7 := (slen_le (by decide)).2; omega) (by omega) (by omega) hr) ?_ ?_
    rotate_left
    · rintro r τ ⟨hv9, _⟩
      cases hv9
    rintro vv1 τ1 ⟨hv1, μ1, rfl, hd1⟩
    obtain rfl := Sum.inl.inj hv1
    have h39 := hd1.2.2.1
    rw [litL_15] at h39
    have h39 : μ1.1 39 1 = μ.1 39 1 + 2 := h39
    
    refine w_ld d_78_125 rfl rfl rfl ?_
    refine w_ld d_78_126 rfl rfl rfl ?_
    refine w_cVq (as := [_]) (rest := _) rfl d_78_127 (by rfl) (by rfl) (by first | rfl | assumption) (by rfl) (by rfl) (Nat.le_of_ble_eq_true rfl) (by omega) (by omega) (t_dwo (μ := μ1) hT (by rw [hd1.2.1]; exact ht) (DW_GL hd1 hG) hR.1 (DW_TR hT hd1 hR).2.1 (by have := (DW_TR hT hd1 hR).2.1; omega) (by omega) (by omega) hr) ?_ ?_
    rotate_left
    · rintro r τ ⟨hv9, _⟩
      cases hv9
    rintro vv2 τ2 ⟨hv2, μ2, rfl, hd2⟩
    obtain rfl := Sum.inl.inj hv2
    refine w_goto (g := 162) d_78_130 (by decide) ?_
    refine w_ret d_78_162 rfl ?_
    have e : rwo (vT μ t) k = litL 15 ++ wrd (vT μ1 t) k := by
      have h0 : (vT μ t).1 k = 6 := by show μ.2.2 (t + 1) k = 6; omega
      unfold rwo
      rw [h0, litL_15, DW_v hT hd1]
      rfl
    rw [e]
    exact ⟨rfl, μ2, rfl, DW_trans hd1 hd2⟩
  · refine w_tsw (g := 133) d_78_1 (by omega) (by rw [h1]; decide) ?_
    refine w_ld d_78_133 rfl rfl rfl ?_
    refine w_lds (k := 16) d_78_134 (by rfl) ?_
    refine w_cVq (as := [_]) (rest := _) rfl d_78_136 (by rfl) (by rfl) (by first | rfl | assumption) (by rfl) (by rfl) (Nat.le_of_ble_eq_true rfl) (by omega) (by omega) (t_dwd (k := 16) (by decide) (by have : slen 16 ≤ 7 := (slen_le (by decide)).2; omega) (by omega) (by omega) hr) ?_ ?_
    rotate_left
    · rintro r τ ⟨hv9, _⟩
      cases hv9
    rintro vv1 τ1 ⟨hv1, μ1, rfl, hd1⟩
    obtain rfl := Sum.inl.inj hv1
    have h39 := hd1.2.2.1
    rw [litL_16] at h39
    have h39 : μ1.1 39 1 = μ.1 39 1 + 2 := h39
    have hvc : 32 ≤ v ∧ v ≤ 126 := by have := hR.2.2.2.2 (by omega); omega
    refine w_ld d_78_139 rfl rfl rfl ?_
    refine w_getF d_78_140 (by rfl) (by first | rfl | assumption) (by rfl) (by rfl) ?_
    refine w_ld d_78_143 rfl rfl rfl ?_
    refine w_l2i d_78_144 (by omega) ?_
    refine w_cV1 (a := 39) (as := [_]) (rest := _) rfl d_78_145 (by rfl) (by rfl) (by first | rfl | assumption) (by rfl) (by rfl) (Nat.le_of_ble_eq_true rfl) (by omega) (by omega) (t_radd1 (c := v) (by omega) (by omega)) ?_
    refine w_stk d_78_148 rfl ?_
    refine w_goto (g := 162) d_78_149 (by decide) ?_
    refine w_ret d_78_162 rfl ?_
    have e : rwo (vT μ t) k = litL 16 ++ [v] := by
      have h0 : (vT μ t).1 k = 7 := by show μ.2.2 (t + 1) k = 7; omega
      unfold rwo
      rw [h0, litL_16, hv]
      rfl
    rw [e]
    exact ⟨rfl, _, rfl, DW_trans hd1 (DW_1 (by omega))⟩
  · refine w_tsw (g := 152) d_78_1 (by omega) (by rw [if_pos (by omega)]; decide) ?_
    exact absurd hkd.2 (by have := hR.2.2.2.1; omega)
theorem rwo_len {t : Nat} (hT : isT t) {k : Int} {μ : Mem} (hR : TRw t k μ) (h8 : μ.2.2 (t + 1) k < 8) : ((rwo (vT μ t) k).length : Int) ≤ 242 := by
  have hd := dec_len hR.2.2.1
  have hw : ((wrd (vT μ t) k).length : Int) = μ.2.2 (t + 4) k := wrd_len (show 0 ≤ μ.2.2 (t + 4) k from hR.2.1.2.1)
  have h3 := hR.2.1
  have hd2 : (dec ((vT μ t).2.1 k)).length ≤ 20 := hd
  unfold rwo
  split
  · decide
  · split
    · split <;> decide
    · split
      · rw [List.length_append]; show ((2 + _ : Nat) : Int) ≤ 242; omega
      · split
        · rw [List.length_append]; show ((2 + _ : Nat) : Int) ≤ 242; omega
        · split
          · rw [List.length_append]; show ((2 + _ : Nat) : Int) ≤ 242; omega
          · split
            · rw [List.length_append]; show ((2 + _ : Nat) : Int) ≤ 242; omega
            · split
              · show ((3 : Nat) : Int) ≤ 242; decide
              · rw [List.length_append]
                split
                · show ((1 + _ : Nat) : Int) ≤ 242; omega
                · show ((0 + _ : Nat) : Int) ≤ 242; omega
theorem t_smpW {sc : Nat × (Nat → Int32)} {fr lo : Nat} {μ : Mem} {ρ : Nat × Nat × Nat} {t y : Nat} (hT : isT t) (hY : y = 42 ∨ y = 44) {N : List (List Int)}  (hW : WC t y N [] μ) {k key : Int} (hR : TRw t k μ) (hk8 : μ.2.2 (t + 1) k < 8) (hkey : key = 0 ∨ key = 1) (h1 : 1 ≤ μ.1 y 1) (hf : 60 ≤ fr) (hl : 1500 ≤ lo) (hr : 1 ≤ ρ.2.1 ∧ 6 ≤ ρ.2.2) : w_S sc fr lo 75 [.ref 35, .int (ji k), .int (ji key)] (hp μ, ρ) (PW t y μ ρ (smp (vT μ t) k key N).1 (smp (vT μ t) k key N).2 []) := by
  obtain ⟨hT0, hT1, hT2, hT3, hT4, hT5, hT6, hT7, hT8⟩ := hT.sh
  have hT9 : t = 2 ∨ t = 11 ∨ t = 26 := hT
  have hr1 := hR.2.2.1
  have hr2 := hR.2.2.2.1
  have hr0 := hR.1
  have hw2 := hW.2.1
  have hw3 := hW.2.2.1
  have hl0 : ((([] : List Int).length : Nat) : Int) = 0 := rfl
  rw [hl0] at hw3
  refine w_S.of (L0 := [some (.ref 35), some (.int (ji k)), some (.int (ji key)), none, none, none, none, none]) rfl rfl (Nat.le_of_ble_eq_true rfl) (by rfl) ?_
  refine w_ld d_75_0 rfl rfl rfl ?_
  refine w_getR d_75_1 (by rfl) (by first | rfl | assumption) (by rfl) hW.1.2 ?_
  refine w_getF d_75_4 (by rfl) (by first | rfl | assumption) (by rfl) (by rfl) ?_
  refine w_ld d_75_7 rfl rfl rfl ?_
  refine w_aL d_75_8 (by first | rfl | assumption) (by omega) (show _ = μ.2.2 (t + 2) k from rfl) ?_
  refine w_st2 (L' := [_, _, _, _, _, _, _, _]) d_75_9 rfl rfl (by decide) rfl ?_
  refine w_ld d_75_10 rfl rfl rfl ?_
  refine w_getR d_75_11 (by rfl) (by first | rfl | assumption) (by rfl) hW.1.2 ?_
  refine w_getF d_75_14 (by rfl) (by first | rfl | assumption) (by rfl) (by rfl) ?_
  refine w_ld d_75_17 rfl rfl rfl ?_
  refine w_aI d_75_18 (by first | rfl | assumption) (by omega) (show _ = μ.2.2 (t + 1) k from rfl) ?_
  refine w_st1 (L' := [_, _, _, _, _, _, _, _]) d_75_19 rfl (by decide) rfl (by decide) rfl ?_
  refine w_ld d_75_21 rfl rfl rfl ?_
  refine w_ldl (x := (-9007199254740992)) d_75_22 (by rfl) ?_
  refine w_lcmp d_75_25 (by omega) ?_
  refine w_if_lt (g := 41) d_75_26 (by decide) (by have := lcm_in (μ.2.2 (t + 2) k) (-9007199254740992); omega) (fun h26 => ?_) (fun h26 => ?_)
  · have hsm : μ.2.2 (t + 2) k < -9007199254740992 := Decidable.byContradiction (fun z => by have := (lcm_ge (μ.2.2 (t + 2) k) (-9007199254740992)).mpr (by omega); omega)
    refine w_con d_75_41 ?_
    refine w_st1 (L' := [_, _, _, _, _, _, _, _]) d_75_42 rfl (by decide) rfl (by decide) rfl ?_
    refine w_ld d_75_44 rfl rfl rfl ?_
    refine w_if_ne (g := 62) d_75_46 (by decide) (by omega) (fun h46 => ?_) (fun h46 => ?_)
    · refine w_ld d_75_62 rfl rfl rfl ?_
      refine w_con d_75_64 ?_
      refine w_icmp_ne (g := 92) d_75_65 (by decide) (by omega) (fun h65 => ?_) (fun h65 => ?_)
      · refine w_ld d_75_92 rfl rfl rfl ?_
        refine w_con d_75_94 ?_
        refine w_icmp_ne (g := 115) d_75_95 (by decide) (by omega) (fun h95 => ?_) (fun h95 => ?_)
        · have es : smp (vT μ t) k key N = (txt N (rwo (vT μ t) k) key, nts N (rwo (vT μ t) k) key) := by
            unfold smp
            rw [if_neg (fun z => by
              have z1 : μ.2.2 (t + 1) k = 0 := z.1
              have z2 := z.2
              omega), if_neg (fun z => by
              have z1 : μ.2.2 (t + 1) k = 1 := z.1
              have z2 := z.2
              omega), if_neg (fun z => by
              have z1 : μ.2.2 (t + 1) k = 2 := z.1
              have z2 : -9007199254740992 ≤ μ.2.2 (t + 2) k ∧ μ.2.2 (t + 2) k ≤ 9007199254740992 := z.2.2
              have z3 := z.2.1
              omega)]
          
          refine w_ld d_75_115 rfl rfl rfl ?_
          refine w_getF d_75_116 (by rfl) (by first | rfl | assumption) (by rfl) (by rfl) ?_
          refine w_gI d_75_119 (by rfl) (by first | rfl | assumption) (by rfl) rfl ?_
          refine w_st1 (L' := [_, _, _, _, _, _, _, _]) d_75_122 rfl (by decide) rfl (by decide) rfl ?_
          refine w_ld d_75_124 rfl rfl rfl ?_
          refine w_ld d_75_125 rfl rfl rfl ?_
          refine w_ld d_75_126 rfl rfl rfl ?_
          refine w_ld d_75_128 rfl rfl rfl ?_
          refine w_cVq (as := [_, _, _]) (rest := _) rfl d_75_129 (by rfl) (by rfl) (by first | rfl | assumption) (by rfl) (by rfl) (Nat.le_of_ble_eq_true rfl) (by omega) (by omega) (t_dsm hT hW.1.2 hW.2.2.2.1 hR ⟨rfl, hk8⟩ rfl (by omega) (by omega) (by omega) hr) ?_ ?_
          rotate_left
          · rintro r τ ⟨hv9, _⟩
            cases hv9
          rintro vv1 τ1 ⟨hv1, μ1, rfl, hd1⟩
          obtain rfl := Sum.inl.inj hv1
          have hlen : μ.1 39 1 + ((rwo (vT μ t) k).length : Int) ≤ 480 := by
            have := rwo_len hT hR hk8
            omega
          have ho1 := DW_WOK hT hY hW hd1 hlen
          rw [List.nil_append] at ho1
          have h39 := hd1.2.2.1
          have hy1 : μ1.1 y 1 = μ.1 y 1 := hd1.1 y 1 (by omega)
          refine w_ld d_75_132 rfl rfl rfl ?_
          refine w_ld d_75_133 rfl rfl rfl ?_
          refine w_ld d_75_135 rfl rfl rfl ?_
          refine w_cVq (a := 35) (as := [_, _]) (rest := _) rfl d_75_136 (by rfl) (by rfl) (by first | rfl | assumption) (by rfl) (by rfl) (Nat.le_of_ble_eq_true rfl) (by omega) (by omega) (by have e := t_pst (sc := sc) (fr := fr - 1) (lo := lo - (19 + 6)) (ρ := ρ) (key := key) hT hY ho1.2.1 hkey (by omega) (by omega) (by omega) hr; rw [show μ1.1 39 1 - ((rwo (vT μ t) k).length : Int) = μ.1 39 1 by omega] at e; exact e) ?_ ?_
          rotate_left
          · intro r τ g
            rw [es]
            have g2 := PW_seq ho1 g
            rw [List.nil_append] at g2
            exact g2
          rintro v τ g
          obtain rfl := PW_none g
          refine w_ret d_75_139 rfl ?_
          rw [es]
          have g2 := PW_seq ho1 g
          rw [List.nil_append] at g2
          exact g2
        · refine w_ld d_75_98 rfl rfl rfl ?_
          refine w_if_ne (g := 115) d_75_99 (by decide) (by omega) (fun h99 => ?_) (fun h99 => ?_)
          · have es : smp (vT μ t) k key N = (txt N (rwo (vT μ t) k) key, nts N (rwo (vT μ t) k) key) := by
              unfold smp
              rw [if_neg (fun z => by
                have z1 : μ.2.2 (t + 1) k = 0 := z.1
                have z2 := z.2
                omega), if_neg (fun z => by
                have z1 : μ.2.2 (t + 1) k = 1 := z.1
                have z2 := z.2
                omega), if_neg (fun z => by
                have z1 : μ.2.2 (t + 1) k = 2 := z.1
                have z2 : -9007199254740992 ≤ μ.2.2 (t + 2) k ∧ μ.2.2 (t + 2) k ≤ 9007199254740992 := z.2.2
                have z3 := z.2.1
                omega)]
            
            refine w_ld d_75_115 rfl rfl rfl ?_
            refine w_getF d_75_116 (by rfl) (by first | rfl | assumption) (by rfl) (by rfl) ?_
            refine w_gI d_75_119 (by rfl) (by first | rfl | assumption) (by rfl) rfl ?_
            refine w_st1 (L' := [_, _, _, _, _, _, _, _]) d_75_122 rfl (by decide) rfl (by decide) rfl ?_
            refine w_ld d_75_124 rfl rfl rfl ?_
            refine w_ld d_75_125 rfl rfl rfl ?_
            refine w_ld d_75_126 rfl rfl rfl ?_
            refine w_ld d_75_128 rfl rfl rfl ?_
            refine w_cVq (as := [_, _, _]) (rest := _) rfl d_75_129 (by rfl) (by rfl) (by first | rfl | assumption) (by rfl) (by rfl) (Nat.le_of_ble_eq_true rfl) (by omega) (by omega) (t_dsm hT hW.1.2 hW.2.2.2.1 hR ⟨rfl, hk8⟩ rfl (by omega) (by omega) (by omega) hr) ?_ ?_
            rotate_left
            · rintro r τ ⟨hv9, _⟩
              cases hv9
            rintro vv1 τ1 ⟨hv1, μ1, rfl, hd1⟩
            obtain rfl := Sum.inl.inj hv1
            have hlen : μ.1 39 1 + ((rwo (vT μ t) k).length : Int) ≤ 480 := by
              have := rwo_len hT hR hk8
              omega
            have ho1 := DW_WOK hT hY hW hd1 hlen
            rw [List.nil_append] at ho1
            have h39 := hd1.2.2.1
            have hy1 : μ1.1 y 1 = μ.1 y 1 := hd1.1 y 1 (by omega)
            refine w_ld d_75_132 rfl rfl rfl ?_
            refine w_ld d_75_133 rfl rfl rfl ?_
            refine w_ld d_75_135 rfl rfl rfl ?_
            refine w_cVq (a := 35) (as := [_, _]) (rest := _) rfl d_75_136 (by rfl) (by rfl) (by first | rfl | assumption) (by rfl) (by rfl) (Nat.le_of_ble_eq_true rfl) (by omega) (by omega) (by have e := t_pst (sc := sc) (fr := fr - 1) (lo := lo - (19 + 6)) (ρ := ρ) (key := key) hT hY ho1.2.1 hkey (by omega) (by omega) (by omega) hr; rw [show μ1.1 39 1 - ((rwo (vT μ t) k).length : Int) = μ.1 39 1 by omega] at e; exact e) ?_ ?_
            rotate_left
            · intro r τ g
              rw [es]
              have g2 := PW_seq ho1 g
              rw [List.nil_append] at g2
              exact g2
            rintro v τ g
            obtain rfl := PW_none g
            refine w_ret d_75_139 rfl ?_
            rw [es]
            have g2 := PW_seq ho1 g
            rw [List.nil_append] at g2
            exact g2
          · refine w_ld d_75_102 rfl rfl rfl ?_
            refine w_if_eq (g := 115) d_75_104 (by decide) (by decide) (fun h104 => ?_) (fun h104 => ?_)
            · have es : smp (vT μ t) k key N = (txt N (rwo (vT μ t) k) key, nts N (rwo (vT μ t) k) key) := by
                unfold smp
                rw [if_neg (fun z => by
                  have z1 : μ.2.2 (t + 1) k = 0 := z.1
                  have z2 := z.2
                  omega), if_neg (fun z => by
                  have z1 : μ.2.2 (t + 1) k = 1 := z.1
                  have z2 := z.2
                  omega), if_neg (fun z => by
                  have z1 : μ.2.2 (t + 1) k = 2 := z.1
                  have z2 : -9007199254740992 ≤ μ.2.2 (t + 2) k ∧ μ.2.2 (t + 2) k ≤ 9007199254740992 := z.2.2
                  have z3 := z.2.1
                  omega)]
              
              refine w_ld d_75_115 rfl rfl rfl ?_
              refine w_getF d_75_116 (by rfl) (by first | rfl | assumption) (by rfl) (by rfl) ?_
              refine w_gI d_75_119 (by rfl) (by first | rfl | assumption) (by rfl) rfl ?_
              refine w_st1 (L' := [_, _, _, _, _, _, _, _]) d_75_122 rfl (by decide) rfl (by decide) rfl ?_
              refine w_ld d_75_124 rfl rfl rfl ?_
              refine w_ld d_75_125 rfl rfl rfl ?_
              refine w_ld d_75_126 rfl rfl rfl ?_
              refine w_ld d_75_128 rfl rfl rfl ?_
              refine w_cVq (as := [_, _, _]) (rest := _) rfl d_75_129 (by rfl) (by rfl) (by first | rfl | assumption) (by rfl) (by rfl) (Nat.le_of_ble_eq_true rfl) (by omega) (by omega) (t_dsm hT hW.1.2 hW.2.2.2.1 hR ⟨rfl, hk8⟩ rfl (by omega) (by omega) (by omega) hr) ?_ ?_
              rotate_left
              · rintro r τ ⟨hv9, _⟩
                cases hv9
              rintro vv1 τ1 ⟨hv1, μ1, rfl, hd1⟩
              obtain rfl := Sum.inl.inj hv1
              have hlen : μ.1 39 1 + ((rwo (vT μ t) k).length : Int) ≤ 480 := by
                have := rwo_len hT hR hk8
                omega
              have ho1 := DW_WOK hT hY hW hd1 hlen
              rw [List.nil_append] at ho1
              have h39 := hd1.2.2.1
              have hy1 : μ1.1 y 1 = μ.1 y 1 := hd1.1 y 1 (by omega)
              refine w_ld d_75_132 rfl rfl rfl ?_
              refine w_ld d_75_133 rfl rfl rfl ?_
              refine w_ld d_75_135 rfl rfl rfl ?_
              refine w_cVq (a := 35) (as := [_, _]) (rest := _) rfl d_75_136 (by rfl) (by rfl) (by first | rfl | assumption) (by rfl) (by rfl) (Nat.le_of_ble_eq_true rfl) (by omega) (by omega) (by have e := t_pst (sc := sc) (fr := fr - 1) (lo := lo - (19 + 6)) (ρ := ρ) (key := key) hT hY ho1.2.1 hkey (by omega) (by omega) (by omega) hr; rw [show μ1.1 39 1 - ((rwo (vT μ t) k).length : Int) = μ.1 39 1 by omega] at e; exact e) ?_ ?_
              rotate_left
              · intro r τ g
                rw [es]
                have g2 := PW_seq ho1 g
                rw [List.nil_append] at g2
                exact g2
              rintro v τ g
              obtain rfl := PW_none g
              refine w_ret d_75_139 rfl ?_
              rw [es]
              have g2 := PW_seq ho1 g
              rw [List.nil_append] at g2
              exact g2
            · exact absurd rfl h104
      · refine w_ld d_75_68 rfl rfl rfl ?_
        refine w_if_ne (g := 92) d_75_69 (by decide) (by omega) (fun h69 => ?_) (fun h69 => ?_)
        · refine w_ld d_75_92 rfl rfl rfl ?_
          refine w_con d_75_94 ?_
          refine w_icmp_ne (g := 115) d_75_95 (by decide) (by omega) (fun h95 => ?_) (fun h95 => ?_)
          · have es : smp (vT μ t) k key N = (txt N (rwo (vT μ t) k) key, nts N (rwo (vT μ t) k) key) := by
              unfold smp
              rw [if_neg (fun z => by
                have z1 : μ.2.2 (t + 1) k = 0 := z.1
                have z2 := z.2
                omega), if_neg (fun z => by
                have z1 : μ.2.2 (t + 1) k = 1 := z.1
                have z2 := z.2
                omega), if_neg (fun z => by
                have z1 : μ.2.2 (t + 1) k = 2 := z.1
                have z2 : -9007199254740992 ≤ μ.2.2 (t + 2) k ∧ μ.2.2 (t + 2) k ≤ 9007199254740992 := z.2.2
                have z3 := z.2.1
                omega)]
            
            refine w_ld d_75_115 rfl rfl rfl ?_
            refine w_getF d_75_116 (by rfl) (by first | rfl | assumption) (by rfl) (by rfl) ?_
            refine w_gI d_75_119 (by rfl) (by first | rfl | assumption) (by rfl) rfl ?_
            refine w_st1 (L' := [_, _, _, _, _, _, _, _]) d_75_122 rfl (by decide) rfl (by decide) rfl ?_
            refine w_ld d_75_124 rfl rfl rfl ?_
            refine w_ld d_75_125 rfl rfl rfl ?_
            refine w_ld d_75_126 rfl rfl rfl ?_
            refine w_ld d_75_128 rfl rfl rfl ?_
            refine w_cVq (as := [_, _, _]) (rest := _) rfl d_75_129 (by rfl) (by rfl) (by first | rfl | assumption) (by rfl) (by rfl) (Nat.le_of_ble_eq_true rfl) (by omega) (by omega) (t_dsm hT hW.1.2 hW.2.2.2.1 hR ⟨rfl, hk8⟩ rfl (by omega) (by omega) (by omega) hr) ?_ ?_
            rotate_left
            · rintro r τ ⟨hv9, _⟩
              cases hv9
            rintro vv1 τ1 ⟨hv1, μ1, rfl, hd1⟩
            obtain rfl := Sum.inl.inj hv1
            have hlen : μ.1 39 1 + ((rwo (vT μ t) k).length : Int) ≤ 480 := by
              have := rwo_len hT hR hk8
              omega
            have ho1 := DW_WOK hT hY hW hd1 hlen
            rw [List.nil_append] at ho1
            have h39 := hd1.2.2.1
            have hy1 : μ1.1 y 1 = μ.1 y 1 := hd1.1 y 1 (by omega)
            refine w_ld d_75_132 rfl rfl rfl ?_
            refine w_ld d_75_133 rfl rfl rfl ?_
            refine w_ld d_75_135 rfl rfl rfl ?_
            refine w_cVq (a := 35) (as := [_, _]) (rest := _) rfl d_75_136 (by rfl) (by rfl) (by first | rfl | assumption) (by rfl) (by rfl) (Nat.le_of_ble_eq_true rfl) (by omega) (by omega) (by have e := t_pst (sc := sc) (fr := fr - 1) (lo := lo - (19 + 6)) (ρ := ρ) (key := key) hT hY ho1.2.1 hkey (by omega) (by omega) (by omega) hr; rw [show μ1.1 39 1 - ((rwo (vT μ t) k).length : Int) = μ.1 39 1 by omega] at e; exact e) ?_ ?_
            rotate_left
            · intro r τ g
              rw [es]
              have g2 := PW_seq ho1 g
              rw [List.nil_append] at g2
              exact g2
            rintro v τ g
            obtain rfl := PW_none g
            refine w_ret d_75_139 rfl ?_
            rw [es]
            have g2 := PW_seq ho1 g
            rw [List.nil_append] at g2
            exact g2
          · exact absurd h95 (by omega)
        · refine w_ld d_75_72 rfl rfl rfl ?_
          refine w_ld d_75_73 rfl rfl rfl ?_
          refine w_lcon1 d_75_74 ?_
          refine w_lcmp d_75_75 (by omega) ?_
          refine w_if_ne (g := 84) d_75_76 (by decide) (by have := lcm_in (μ.2.2 (t + 2) k) 1; omega) (fun h76 => ?_) (fun h76 => ?_)
          · refine w_lds (k := 7) d_75_84 (by rfl) ?_
            refine w_cVq (as := [_]) (rest := _) rfl d_75_86 (by rfl) (by rfl) (by first | rfl | assumption) (by rfl) (by rfl) (Nat.le_of_ble_eq_true rfl) (by omega) (by omega) (t_pnm hT hY hW (k := 7) (by decide) (by omega) (by omega) hr) ?_ ?_
            rotate_left
            · intro r τ g
              have es : smp (vT μ t) k key N = (litL 7, N) := by
                unfold smp
                rw [if_neg (fun z => absurd (show μ.2.2 (t + 1) k = 0 from z.1) (by omega)), if_pos ⟨(show μ.2.2 (t + 1) k = 1 by omega), by omega⟩, if_neg (show ¬ (vT μ t).2.1 k = 1 from fun z => h76 ((lcm_eq _ _).mpr z)), litL_7]
              rw [es]
              exact g
            rintro v τ g
            obtain rfl := PW_none g
            refine w_goto (g := 139) d_75_89 (by decide) ?_
            refine w_ret d_75_139 rfl ?_
            have es : smp (vT μ t) k key N = (litL 7, N) := by
              unfold smp
              rw [if_neg (fun z => absurd (show μ.2.2 (t + 1) k = 0 from z.1) (by omega)), if_pos ⟨(show μ.2.2 (t + 1) k = 1 by omega), by omega⟩, if_neg (show ¬ (vT μ t).2.1 k = 1 from fun z => h76 ((lcm_eq _ _).mpr z)), litL_7]
            rw [es]
            exact g
          · refine w_lds (k := 6) d_75_79 (by rfl) ?_
            refine w_goto (g := 86) d_75_81 (by decide) ?_
            refine w_cVq (as := [_]) (rest := _) rfl d_75_86 (by rfl) (by rfl) (by first | rfl | assumption) (by rfl) (by rfl) (Nat.le_of_ble_eq_true rfl) (by omega) (by omega) (t_pnm hT hY hW (k := 6) (by decide) (by omega) (by omega) hr) ?_ ?_
            rotate_left
            · intro r τ g
              have es : smp (vT μ t) k key N = (litL 6, N) := by
                unfold smp
                rw [if_neg (fun z => absurd (show μ.2.2 (t + 1) k = 0 from z.1) (by omega)), if_pos ⟨(show μ.2.2 (t + 1) k = 1 by omega), by omega⟩, if_pos (show (vT μ t).2.1 k = 1 from (lcm_eq (μ.2.2 (t + 2) k) 1).mp h76), litL_6]
              rw [es]
              exact g
            rintro v τ g
            obtain rfl := PW_none g
            refine w_goto (g := 139) d_75_89 (by decide) ?_
            refine w_ret d_75_139 rfl ?_
            have es : smp (vT μ t) k key N = (litL 6, N) := by
              unfold smp
              rw [if_neg (fun z => absurd (show μ.2.2 (t + 1) k = 0 from z.1) (by omega)), if_pos ⟨(show μ.2.2 (t + 1) k = 1 by omega), by omega⟩, if_pos (show (vT μ t).2.1 k = 1 from (lcm_eq (μ.2.2 (t + 2) k) 1).mp h76), litL_6]
            rw [es]
            exact g
    · refine w_ld d_75_49 rfl rfl rfl ?_
      refine w_if_ne (g := 62) d_75_50 (by decide) (by omega) (fun h50 => ?_) (fun h50 => ?_)
      · refine w_ld d_75_62 rfl rfl rfl ?_
        refine w_con d_75_64 ?_
        refine w_icmp_ne (g := 92) d_75_65 (by decide) (by omega) (fun h65 => ?_) (fun h65 => ?_)
        · refine w_ld d_75_92 rfl rfl rfl ?_
          refine w_con d_75_94 ?_
          refine w_icmp_ne (g := 115) d_75_95 (by decide) (by omega) (fun h95 => ?_) (fun h95 => ?_)
          · have es : smp (vT μ t) k key N = (txt N (rwo (vT μ t) k) key, nts N (rwo (vT μ t) k) key) := by
              unfold smp
              rw [if_neg (fun z => by
                have z1 : μ.2.2 (t + 1) k = 0 := z.1
                have z2 := z.2
                omega), if_neg (fun z => by
                have z1 : μ.2.2 (t + 1) k = 1 := z.1
                have z2 := z.2
                omega), if_neg (fun z => by
                have z1 : μ.2.2 (t + 1) k = 2 := z.1
                have z2 : -9007199254740992 ≤ μ.2.2 (t + 2) k ∧ μ.2.2 (t + 2) k ≤ 9007199254740992 := z.2.2
                have z3 := z.2.1
                omega)]
            
            refine w_ld d_75_115 rfl rfl rfl ?_
            refine w_getF d_75_116 (by rfl) (by first | rfl | assumption) (by rfl) (by rfl) ?_
            refine w_gI d_75_119 (by rfl) (by first | rfl | assumption) (by rfl) rfl ?_
            refine w_st1 (L' := [_, _, _, _, _, _, _, _]) d_75_122 rfl (by decide) rfl (by decide) rfl ?_
            refine w_ld d_75_124 rfl rfl rfl ?_
            refine w_ld d_75_125 rfl rfl rfl ?_
            refine w_ld d_75_126 rfl rfl rfl ?_
            refine w_ld d_75_128 rfl rfl rfl ?_
            refine w_cVq (as := [_, _, _]) (rest := _) rfl d_75_129 (by rfl) (by rfl) (by first | rfl | assumption) (by rfl) (by rfl) (Nat.le_of_ble_eq_true rfl) (by omega) (by omega) (t_dsm hT hW.1.2 hW.2.2.2.1 hR ⟨rfl, hk8⟩ rfl (by omega) (by omega) (by omega) hr) ?_ ?_
            rotate_left
            · rintro r τ ⟨hv9, _⟩
              cases hv9
            rintro vv1 τ1 ⟨hv1, μ1, rfl, hd1⟩
            obtain rfl := Sum.inl.inj hv1
            have hlen : μ.1 39 1 + ((rwo (vT μ t) k).length : Int) ≤ 480 := by
              have := rwo_len hT hR hk8
              omega
            have ho1 := DW_WOK hT hY hW hd1 hlen
            rw [List.nil_append] at ho1
            have h39 := hd1.2.2.1
            have hy1 : μ1.1 y 1 = μ.1 y 1 := hd1.1 y 1 (by omega)
            refine w_ld d_75_132 rfl rfl rfl ?_
            refine w_ld d_75_133 rfl rfl rfl ?_
            refine w_ld d_75_135 rfl rfl rfl ?_
            refine w_cVq (a := 35) (as := [_, _]) (rest := _) rfl d_75_136 (by rfl) (by rfl) (by first | rfl | assumption) (by rfl) (by rfl) (Nat.le_of_ble_eq_true rfl) (by omega) (by omega) (by have e := t_pst (sc := sc) (fr := fr - 1) (lo := lo - (19 + 6)) (ρ := ρ) (key := key) hT hY ho1.2.1 hkey (by omega) (by omega) (by omega) hr; rw [show μ1.1 39 1 - ((rwo (vT μ t) k).length : Int) = μ.1 39 1 by omega] at e; exact e) ?_ ?_
            rotate_left
            · intro r τ g
              rw [es]
              have g2 := PW_seq ho1 g
              rw [List.nil_append] at g2
              exact g2
            rintro v τ g
            obtain rfl := PW_none g
            refine w_ret d_75_139 rfl ?_
            rw [es]
            have g2 := PW_seq ho1 g
            rw [List.nil_append] at g2
            exact g2
          · exact absurd h95 (by omega)
        · exact absurd h65 (by omega)
      · refine w_ld d_75_53 rfl rfl rfl ?_
        refine w_lds (k := 5) d_75_54 (by rfl) ?_
        refine w_cVq (as := [_]) (rest := _) rfl d_75_56 (by rfl) (by rfl) (by first | rfl | assumption) (by rfl) (by rfl) (Nat.le_of_ble_eq_true rfl) (by omega) (by omega) (t_pnm hT hY hW (k := 5) (by decide) (by omega) (by omega) hr) ?_ ?_
        rotate_left
        · intro r τ g
          have es : smp (vT μ t) k key N = ([110, 117, 108, 108], N) := if_pos ⟨(show μ.2.2 (t + 1) k = 0 by omega), by omega⟩
          rw [← litL_5] at es
          rw [es]
          exact g
        rintro v τ g
        obtain rfl := PW_none g
        refine w_goto (g := 139) d_75_59 (by decide) ?_
        refine w_ret d_75_139 rfl ?_
        have es : smp (vT μ t) k key N = ([110, 117, 108, 108], N) := if_pos ⟨(show μ.2.2 (t + 1) k = 0 by omega), by omega⟩
        rw [← litL_5] at es
        rw [es]
        exact g
  · refine w_ld d_75_29 rfl rfl rfl ?_
    refine w_ldl (x := 9007199254740992) d_75_30 (by rfl) ?_
    refine w_lcmp d_75_33 (by omega) ?_
    refine w_if_gt (g := 41) d_75_34 (by decide) (by have := lcm_in (μ.2.2 (t + 2) k) 9007199254740992; omega) (fun h34 => ?_) (fun h34 => ?_)
    · have hsm : 9007199254740992 < μ.2.2 (t + 2) k := (lcm_gt _ _).mp h34
      refine w_con d_75_41 ?_
      refine w_st1 (L' := [_, _, _, _, _, _, _, _]) d_75_42 rfl (by decide) rfl (by decide) rfl ?_
      refine w_ld d_75_44 rfl rfl rfl ?_
      refine w_if_ne (g := 62) d_75_46 (by decide) (by omega) (fun h46 => ?_) (fun h46 => ?_)
      · refine w_ld d_75_62 rfl rfl rfl ?_
        refine w_con d_75_64 ?_
        refine w_icmp_ne (g := 92) d_75_65 (by decide) (by omega) (fun h65 => ?_) (fun h65 => ?_)
        · refine w_ld d_75_92 rfl rfl rfl ?_
          refine w_con d_75_94 ?_
          refine w_icmp_ne (g := 115) d_75_95 (by decide) (by omega) (fun h95 => ?_) (fun h95 => ?_)
          · have es : smp (vT μ t) k key N = (txt N (rwo (vT μ t) k) key, nts N (rwo (vT μ t) k) key) := by
              unfold smp
              rw [if_neg (fun z => by
                have z1 : μ.2.2 (t + 1) k = 0 := z.1
                have z2 := z.2
                omega), if_neg (fun z => by
                have z1 : μ.2.2 (t + 1) k = 1 := z.1
                have z2 := z.2
                omega), if_neg (fun z => by
                have z1 : μ.2.2 (t + 1) k = 2 := z.1
                have z2 : -9007199254740992 ≤ μ.2.2 (t + 2) k ∧ μ.2.2 (t + 2) k ≤ 9007199254740992 := z.2.2
                have z3 := z.2.1
                omega)]
            
            refine w_ld d_75_115 rfl rfl rfl ?_
            refine w_getF d_75_116 (by rfl) (by first | rfl | assumption) (by rfl) (by rfl) ?_
            refine w_gI d_75_119 (by rfl) (by first | rfl | assumption) (by rfl) rfl ?_
            refine w_st1 (L' := [_, _, _, _, _, _, _, _]) d_75_122 rfl (by decide) rfl (by decide) rfl ?_
            refine w_ld d_75_124 rfl rfl rfl ?_
            refine w_ld d_75_125 rfl rfl rfl ?_
            refine w_ld d_75_126 rfl rfl rfl ?_
            refine w_ld d_75_128 rfl rfl rfl ?_
            refine w_cVq (as := [_, _, _]) (rest := _) rfl d_75_129 (by rfl) (by rfl) (by first | rfl | assumption) (by rfl) (by rfl) (Nat.le_of_ble_eq_true rfl) (by omega) (by omega) (t_dsm hT hW.1.2 hW.2.2.2.1 hR ⟨rfl, hk8⟩ rfl (by omega) (by omega) (by omega) hr) ?_ ?_
            rotate_left
            · rintro r τ ⟨hv9, _⟩
              cases hv9
            rintro vv1 τ1 ⟨hv1, μ1, rfl, hd1⟩
            obtain rfl := Sum.inl.inj hv1
            have hlen : μ.1 39 1 + ((rwo (vT μ t) k).length : Int) ≤ 480 := by
              have := rwo_len hT hR hk8
              omega
            have ho1 := DW_WOK hT hY hW hd1 hlen
            rw [List.nil_append] at ho1
            have h39 := hd1.2.2.1
            have hy1 : μ1.1 y 1 = μ.1 y 1 := hd1.1 y 1 (by omega)
            refine w_ld d_75_132 rfl rfl rfl ?_
            refine w_ld d_75_133 rfl rfl rfl ?_
            refine w_ld d_75_135 rfl rfl rfl ?_
            refine w_cVq (a := 35) (as := [_, _]) (rest := _) rfl d_75_136 (by rfl) (by rfl) (by first | rfl | assumption) (by rfl) (by rfl) (Nat.le_of_ble_eq_true rfl) (by omega) (by omega) (by have e := t_pst (sc := sc) (fr := fr - 1) (lo := lo - (19 + 6)) (ρ := ρ) (key := key) hT hY ho1.2.1 hkey (by omega) (by omega) (by omega) hr; rw [show μ1.1 39 1 - ((rwo (vT μ t) k).length : Int) = μ.1 39 1 by omega] at e; exact e) ?_ ?_
            rotate_left
            · intro r τ g
              rw [es]
              have g2 := PW_seq ho1 g
              rw [List.nil_append] at g2
              exact g2
            rintro v τ g
            obtain rfl := PW_none g
            refine w_ret d_75_139 rfl ?_
            rw [es]
            have g2 := PW_seq ho1 g
            rw [List.nil_append] at g2
            exact g2
          · refine w_ld d_75_98 rfl rfl rfl ?_
            refine w_if_ne (g := 115) d_75_99 (by decide) (by omega) (fun h99 => ?_) (fun h99 => ?_)
            · have es : smp (vT μ t) k key N = (txt N (rwo (vT μ t) k) key, nts N (rwo (vT μ t) k) key) := by
                unfold smp
                rw [if_neg (fun z => by
                  have z1 : μ.2.2 (t + 1) k = 0 := z.1
                  have z2 := z.2
                  omega), if_neg (fun z => by
                  have z1 : μ.2.2 (t + 1) k = 1 := z.1
                  have z2 := z.2
                  omega), if_neg (fun z => by
                  have z1 : μ.2.2 (t + 1) k = 2 := z.1
                  have z2 : -9007199254740992 ≤ μ.2.2 (t + 2) k ∧ μ.2.2 (t + 2) k ≤ 9007199254740992 := z.2.2
                  have z3 := z.2.1
                  omega)]
              
              refine w_ld d_75_115 rfl rfl rfl ?_
              refine w_getF d_75_116 (by rfl) (by first | rfl | assumption) (by rfl) (by rfl) ?_
              refine w_gI d_75_119 (by rfl) (by first | rfl | assumption) (by rfl) rfl ?_
              refine w_st1 (L' := [_, _, _, _, _, _, _, _]) d_75_122 rfl (by decide) rfl (by decide) rfl ?_
              refine w_ld d_75_124 rfl rfl rfl ?_
              refine w_ld d_75_125 rfl rfl rfl ?_
              refine w_ld d_75_126 rfl rfl rfl ?_
              refine w_ld d_75_128 rfl rfl rfl ?_
              refine w_cVq (as := [_, _, _]) (rest := _) rfl d_75_129 (by rfl) (by rfl) (by first | rfl | assumption) (by rfl) (by rfl) (Nat.le_of_ble_eq_true rfl) (by omega) (by omega) (t_dsm hT hW.1.2 hW.2.2.2.1 hR ⟨rfl, hk8⟩ rfl (by omega) (by omega) (by omega) hr) ?_ ?_
              rotate_left
              · rintro r τ ⟨hv9, _⟩
                cases hv9
              rintro vv1 τ1 ⟨hv1, μ1, rfl, hd1⟩
              obtain rfl := Sum.inl.inj hv1
              have hlen : μ.1 39 1 + ((rwo (vT μ t) k).length : Int) ≤ 480 := by
                have := rwo_len hT hR hk8
                omega
              have ho1 := DW_WOK hT hY hW hd1 hlen
              rw [List.nil_append] at ho1
              have h39 := hd1.2.2.1
              have hy1 : μ1.1 y 1 = μ.1 y 1 := hd1.1 y 1 (by omega)
              refine w_ld d_75_132 rfl rfl rfl ?_
              refine w_ld d_75_133 rfl rfl rfl ?_
              refine w_ld d_75_135 rfl rfl rfl ?_
              refine w_cVq (a := 35) (as := [_, _]) (rest := _) rfl d_75_136 (by rfl) (by rfl) (by first | rfl | assumption) (by rfl) (by rfl) (Nat.le_of_ble_eq_true rfl) (by omega) (by omega) (by have e := t_pst (sc := sc) (fr := fr - 1) (lo := lo - (19 + 6)) (ρ := ρ) (key := key) hT hY ho1.2.1 hkey (by omega) (by omega) (by omega) hr; rw [show μ1.1 39 1 - ((rwo (vT μ t) k).length : Int) = μ.1 39 1 by omega] at e; exact e) ?_ ?_
              rotate_left
              · intro r τ g
                rw [es]
                have g2 := PW_seq ho1 g
                rw [List.nil_append] at g2
                exact g2
              rintro v τ g
              obtain rfl := PW_none g
              refine w_ret d_75_139 rfl ?_
              rw [es]
              have g2 := PW_seq ho1 g
              rw [List.nil_append] at g2
              exact g2
            · refine w_ld d_75_102 rfl rfl rfl ?_
              refine w_if_eq (g := 115) d_75_104 (by decide) (by decide) (fun h104 => ?_) (fun h104 => ?_)
              · have es : smp (vT μ t) k key N = (txt N (rwo (vT μ t) k) key, nts N (rwo (vT μ t) k) key) := by
                  unfold smp
                  rw [if_neg (fun z => by
                    have z1 : μ.2.2 (t + 1) k = 0 := z.1
                    have z2 := z.2
                    omega), if_neg (fun z => by
                    have z1 : μ.2.2 (t + 1) k = 1 := z.1
                    have z2 := z.2
                    omega), if_neg (fun z => by
                    have z1 : μ.2.2 (t + 1) k = 2 := z.1
                    have z2 : -9007199254740992 ≤ μ.2.2 (t + 2) k ∧ μ.2.2 (t + 2) k ≤ 9007199254740992 := z.2.2
                    have z3 := z.2.1
                    omega)]
                
                refine w_ld d_75_115 rfl rfl rfl ?_
                refine w_getF d_75_116 (by rfl) (by first | rfl | assumption) (by rfl) (by rfl) ?_
                refine w_gI d_75_119 (by rfl) (by first | rfl | assumption) (by rfl) rfl ?_
                refine w_st1 (L' := [_, _, _, _, _, _, _, _]) d_75_122 rfl (by decide) rfl (by decide) rfl ?_
                refine w_ld d_75_124 rfl rfl rfl ?_
                refine w_ld d_75_125 rfl rfl rfl ?_
                refine w_ld d_75_126 rfl rfl rfl ?_
                refine w_ld d_75_128 rfl rfl rfl ?_
                refine w_cVq (as := [_, _, _]) (rest := _) rfl d_75_129 (by rfl) (by rfl) (by first | rfl | assumption) (by rfl) (by rfl) (Nat.le_of_ble_eq_true rfl) (by omega) (by omega) (t_dsm hT hW.1.2 hW.2.2.2.1 hR ⟨rfl, hk8⟩ rfl (by omega) (by omega) (by omega) hr) ?_ ?_
                rotate_left
                · rintro r τ ⟨hv9, _⟩
                  cases hv9
                rintro vv1 τ1 ⟨hv1, μ1, rfl, hd1⟩
                obtain rfl := Sum.inl.inj hv1
                have hlen : μ.1 39 1 + ((rwo (vT μ t) k).length : Int) ≤ 480 := by
                  have := rwo_len hT hR hk8
                  omega
                have ho1 := DW_WOK hT hY hW hd1 hlen
                rw [List.nil_append] at ho1
                have h39 := hd1.2.2.1
                have hy1 : μ1.1 y 1 = μ.1 y 1 := hd1.1 y 1 (by omega)
                refine w_ld d_75_132 rfl rfl rfl ?_
                refine w_ld d_75_133 rfl rfl rfl ?_
                refine w_ld d_75_135 rfl rfl rfl ?_
                refine w_cVq (a := 35) (as := [_, _]) (rest := _) rfl d_75_136 (by rfl) (by rfl) (by first | rfl | assumption) (by rfl) (by rfl) (Nat.le_of_ble_eq_true rfl) (by omega) (by omega) (by have e := t_pst (sc := sc) (fr := fr - 1) (lo := lo - (19 + 6)) (ρ := ρ) (key := key) hT hY ho1.2.1 hkey (by omega) (by omega) (by omega) hr; rw [show μ1.1 39 1 - ((rwo (vT μ t) k).length : Int) = μ.1 39 1 by omega] at e; exact e) ?_ ?_
                rotate_left
                · intro r τ g
                  rw [es]
                  have g2 := PW_seq ho1 g
                  rw [List.nil_append] at g2
                  exact g2
                rintro v τ g
                obtain rfl := PW_none g
                refine w_ret d_75_139 rfl ?_
                rw [es]
                have g2 := PW_seq ho1 g
                rw [List.nil_append] at g2
                exact g2
              · exact absurd rfl h104
        · refine w_ld d_75_68 rfl rfl rfl ?_
          refine w_if_ne (g := 92) d_75_69 (by decide) (by omega) (fun h69 => ?_) (fun h69 => ?_)
          · refine w_ld d_75_92 rfl rfl rfl ?_
            refine w_con d_75_94 ?_
            refine w_icmp_ne (g := 115) d_75_95 (by decide) (by omega) (fun h95 => ?_) (fun h95 => ?_)
            · have es : smp (vT μ t) k key N = (txt N (rwo (vT μ t) k) key, nts N (rwo (vT μ t) k) key) := by
                unfold smp
                rw [if_neg (fun z => by
                  have z1 : μ.2.2 (t + 1) k = 0 := z.1
                  have z2 := z.2
                  omega), if_neg (fun z => by
                  have z1 : μ.2.2 (t + 1) k = 1 := z.1
                  have z2 := z.2
                  omega), if_neg (fun z => by
                  have z1 : μ.2.2 (t + 1) k = 2 := z.1
                  have z2 : -9007199254740992 ≤ μ.2.2 (t + 2) k ∧ μ.2.2 (t + 2) k ≤ 9007199254740992 := z.2.2
                  have z3 := z.2.1
                  omega)]
              
              refine w_ld d_75_115 rfl rfl rfl ?_
              refine w_getF d_75_116 (by rfl) (by first | rfl | assumption) (by rfl) (by rfl) ?_
              refine w_gI d_75_119 (by rfl) (by first | rfl | assumption) (by rfl) rfl ?_
              refine w_st1 (L' := [_, _, _, _, _, _, _, _]) d_75_122 rfl (by decide) rfl (by decide) rfl ?_
              refine w_ld d_75_124 rfl rfl rfl ?_
              refine w_ld d_75_125 rfl rfl rfl ?_
              refine w_ld d_75_126 rfl rfl rfl ?_
              refine w_ld d_75_128 rfl rfl rfl ?_
              refine w_cVq (as := [_, _, _]) (rest := _) rfl d_75_129 (by rfl) (by rfl) (by first | rfl | assumption) (by rfl) (by rfl) (Nat.le_of_ble_eq_true rfl) (by omega) (by omega) (t_dsm hT hW.1.2 hW.2.2.2.1 hR ⟨rfl, hk8⟩ rfl (by omega) (by omega) (by omega) hr) ?_ ?_
              rotate_left
              · rintro r τ ⟨hv9, _⟩
                cases hv9
              rintro vv1 τ1 ⟨hv1, μ1, rfl, hd1⟩
              obtain rfl := Sum.inl.inj hv1
              have hlen : μ.1 39 1 + ((rwo (vT μ t) k).length : Int) ≤ 480 := by
                have := rwo_len hT hR hk8
                omega
              have ho1 := DW_WOK hT hY hW hd1 hlen
              rw [List.nil_append] at ho1
              have h39 := hd1.2.2.1
              have hy1 : μ1.1 y 1 = μ.1 y 1 := hd1.1 y 1 (by omega)
              refine w_ld d_75_132 rfl rfl rfl ?_
              refine w_ld d_75_133 rfl rfl rfl ?_
              refine w_ld d_75_135 rfl rfl rfl ?_
              refine w_cVq (a := 35) (as := [_, _]) (rest := _) rfl d_75_136 (by rfl) (by rfl) (by first | rfl | assumption) (by rfl) (by rfl) (Nat.le_of_ble_eq_true rfl) (by omega) (by omega) (by have e := t_pst (sc := sc) (fr := fr - 1) (lo := lo - (19 + 6)) (ρ := ρ) (key := key) hT hY ho1.2.1 hkey (by omega) (by omega) (by omega) hr; rw [show μ1.1 39 1 - ((rwo (vT μ t) k).length : Int) = μ.1 39 1 by omega] at e; exact e) ?_ ?_
              rotate_left
              · intro r τ g
                rw [es]
                have g2 := PW_seq ho1 g
                rw [List.nil_append] at g2
                exact g2
              rintro v τ g
              obtain rfl := PW_none g
              refine w_ret d_75_139 rfl ?_
              rw [es]
              have g2 := PW_seq ho1 g
              rw [List.nil_append] at g2
              exact g2
            · exact absurd h95 (by omega)
          · refine w_ld d_75_72 rfl rfl rfl ?_
            refine w_ld d_75_73 rfl rfl rfl ?_
            refine w_lcon1 d_75_74 ?_
            refine w_lcmp d_75_75 (by omega) ?_
            refine w_if_ne (g := 84) d_75_76 (by decide) (by have := lcm_in (μ.2.2 (t + 2) k) 1; omega) (fun h76 => ?_) (fun h76 => ?_)
            · refine w_lds (k := 7) d_75_84 (by rfl) ?_
              refine w_cVq (as := [_]) (rest := _) rfl d_75_86 (by rfl) (by rfl) (by first | rfl | assumption) (by rfl) (by rfl) (Nat.le_of_ble_eq_true rfl) (by omega) (by omega) (t_pnm hT hY hW (k := 7) (by decide) (by omega) (by omega) hr) ?_ ?_
              rotate_left
              · intro r τ g
                have es : smp (vT μ t) k key N = (litL 7, N) := by
                  unfold smp
                  rw [if_neg (fun z => absurd (show μ.2.2 (t + 1) k = 0 from z.1) (by omega)), if_pos ⟨(show μ.2.2 (t + 1) k = 1 by omega), by omega⟩, if_neg (show ¬ (vT μ t).2.1 k = 1 from fun z => h76 ((lcm_eq _ _).mpr z)), litL_7]
                rw [es]
                exact g
              rintro v τ g
              obtain rfl := PW_none g
              refine w_goto (g := 139) d_75_89 (by decide) ?_
              refine w_ret d_75_139 rfl ?_
              have es : smp (vT μ t) k key N = (litL 7, N) := by
                unfold smp
                rw [if_neg (fun z => absurd (show μ.2.2 (t + 1) k = 0 from z.1) (by omega)), if_pos ⟨(show μ.2.2 (t + 1) k = 1 by omega), by omega⟩, if_neg (show ¬ (vT μ t).2.1 k = 1 from fun z => h76 ((lcm_eq _ _).mpr z)), litL_7]
              rw [es]
              exact g
            · refine w_lds (k := 6) d_75_79 (by rfl) ?_
              refine w_goto (g := 86) d_75_81 (by decide) ?_
              refine w_cVq (as := [_]) (rest := _) rfl d_75_86 (by rfl) (by rfl) (by first | rfl | assumption) (by rfl) (by rfl) (Nat.le_of_ble_eq_true rfl) (by omega) (by omega) (t_pnm hT hY hW (k := 6) (by decide) (by omega) (by omega) hr) ?_ ?_
              rotate_left
              · intro r τ g
                have es : smp (vT μ t) k key N = (litL 6, N) := by
                  unfold smp
                  rw [if_neg (fun z => absurd (show μ.2.2 (t + 1) k = 0 from z.1) (by omega)), if_pos ⟨(show μ.2.2 (t + 1) k = 1 by omega), by omega⟩, if_pos (show (vT μ t).2.1 k = 1 from (lcm_eq (μ.2.2 (t + 2) k) 1).mp h76), litL_6]
                rw [es]
                exact g
              rintro v τ g
              obtain rfl := PW_none g
              refine w_goto (g := 139) d_75_89 (by decide) ?_
              refine w_ret d_75_139 rfl ?_
              have es : smp (vT μ t) k key N = (litL 6, N) := by
                unfold smp
                rw [if_neg (fun z => absurd (show μ.2.2 (t + 1) k = 0 from z.1) (by omega)), if_pos ⟨(show μ.2.2 (t + 1) k = 1 by omega), by omega⟩, if_pos (show (vT μ t).2.1 k = 1 from (lcm_eq (μ.2.2 (t + 2) k) 1).mp h76), litL_6]
              rw [es]
              exact g
      · refine w_ld d_75_49 rfl rfl rfl ?_
        refine w_if_ne (g := 62) d_75_50 (by decide) (by omega) (fun h50 => ?_) (fun h50 => ?_)
        · refine w_ld d_75_62 rfl rfl rfl ?_
          refine w_con d_75_64 ?_
          refine w_icmp_ne (g := 92) d_75_65 (by decide) (by omega) (fun h65 => ?_) (fun h65 => ?_)
          · refine w_ld d_75_92 rfl rfl rfl ?_
            refine w_con d_75_94 ?_
            refine w_icmp_ne (g := 115) d_75_95 (by decide) (by omega) (fun h95 => ?_) (fun h95 => ?_)
            · have es : smp (vT μ t) k key N = (txt N (rwo (vT μ t) k) key, nts N (rwo (vT μ t) k) key) := by
                unfold smp
                rw [if_neg (fun z => by
                  have z1 : μ.2.2 (t + 1) k = 0 := z.1
                  have z2 := z.2
                  omega), if_neg (fun z => by
                  have z1 : μ.2.2 (t + 1) k = 1 := z.1
                  have z2 := z.2
                  omega), if_neg (fun z => by
                  have z1 : μ.2.2 (t + 1) k = 2 := z.1
                  have z2 : -9007199254740992 ≤ μ.2.2 (t + 2) k ∧ μ.2.2 (t + 2) k ≤ 9007199254740992 := z.2.2
                  have z3 := z.2.1
                  omega)]
              
              refine w_ld d_75_115 rfl rfl rfl ?_
              refine w_getF d_75_116 (by rfl) (by first | rfl | assumption) (by rfl) (by rfl) ?_
              refine w_gI d_75_119 (by rfl) (by first | rfl | assumption) (by rfl) rfl ?_
              refine w_st1 (L' := [_, _, _, _, _, _, _, _]) d_75_122 rfl (by decide) rfl (by decide) rfl ?_
              refine w_ld d_75_124 rfl rfl rfl ?_
              refine w_ld d_75_125 rfl rfl rfl ?_
              refine w_ld d_75_126 rfl rfl rfl ?_
              refine w_ld d_75_128 rfl rfl rfl ?_
              refine w_cVq (as := [_, _, _]) (rest := _) rfl d_75_129 (by rfl) (by rfl) (by first | rfl | assumption) (by rfl) (by rfl) (Nat.le_of_ble_eq_true rfl) (by omega) (by omega) (t_dsm hT hW.1.2 hW.2.2.2.1 hR ⟨rfl, hk8⟩ rfl (by omega) (by omega) (by omega) hr) ?_ ?_
              rotate_left
              · rintro r τ ⟨hv9, _⟩
                cases hv9
              rintro vv1 τ1 ⟨hv1, μ1, rfl, hd1⟩
              obtain rfl := Sum.inl.inj hv1
              have hlen : μ.1 39 1 + ((rwo (vT μ t) k).length : Int) ≤ 480 := by
                have := rwo_len hT hR hk8
                omega
              have ho1 := DW_WOK hT hY hW hd1 hlen
              rw [List.nil_append] at ho1
              have h39 := hd1.2.2.1
              have hy1 : μ1.1 y 1 = μ.1 y 1 := hd1.1 y 1 (by omega)
              refine w_ld d_75_132 rfl rfl rfl ?_
              refine w_ld d_75_133 rfl rfl rfl ?_
              refine w_ld d_75_135 rfl rfl rfl ?_
              refine w_cVq (a := 35) (as := [_, _]) (rest := _) rfl d_75_136 (by rfl) (by rfl) (by first | rfl | assumption) (by rfl) (by rfl) (Nat.le_of_ble_eq_true rfl) (by omega) (by omega) (by have e := t_pst (sc := sc) (fr := fr - 1) (lo := lo - (19 + 6)) (ρ := ρ) (key := key) hT hY ho1.2.1 hkey (by omega) (by omega) (by omega) hr; rw [show μ1.1 39 1 - ((rwo (vT μ t) k).length : Int) = μ.1 39 1 by omega] at e; exact e) ?_ ?_
              rotate_left
              · intro r τ g
                rw [es]
                have g2 := PW_seq ho1 g
                rw [List.nil_append] at g2
                exact g2
              rintro v τ g
              obtain rfl := PW_none g
              refine w_ret d_75_139 rfl ?_
              rw [es]
              have g2 := PW_seq ho1 g
              rw [List.nil_append] at g2
              exact g2
            · exact absurd h95 (by omega)
          · exact absurd h65 (by omega)
        · refine w_ld d_75_53 rfl rfl rfl ?_
          refine w_lds (k := 5) d_75_54 (by rfl) ?_
          refine w_cVq (as := [_]) (rest := _) rfl d_75_56 (by rfl) (by rfl) (by first | rfl | assumption) (by rfl) (by rfl) (Nat.le_of_ble_eq_true rfl) (by omega) (by omega) (t_pnm hT hY hW (k := 5) (by decide) (by omega) (by omega) hr) ?_ ?_
          rotate_left
          · intro r τ g
            have es : smp (vT μ t) k key N = ([110, 117, 108, 108], N) := if_pos ⟨(show μ.2.2 (t + 1) k = 0 by omega), by omega⟩
            rw [← litL_5] at es
            rw [es]
            exact g
          rintro v τ g
          obtain rfl := PW_none g
          refine w_goto (g := 139) d_75_59 (by decide) ?_
          refine w_ret d_75_139 rfl ?_
          have es : smp (vT μ t) k key N = ([110, 117, 108, 108], N) := if_pos ⟨(show μ.2.2 (t + 1) k = 0 by omega), by omega⟩
          rw [← litL_5] at es
          rw [es]
          exact g
    · have hsm : -9007199254740992 ≤ μ.2.2 (t + 2) k := (lcm_ge _ _).mp (by omega)
      have hsm2 : ¬ 9007199254740992 < μ.2.2 (t + 2) k := fun z => by have := (lcm_gt _ _).mpr z; omega
      refine w_con d_75_37 ?_
      refine w_goto (g := 42) d_75_38 (by decide) ?_
      refine w_st1 (L' := [_, _, _, _, _, _, _, _]) d_75_42 rfl (by decide) rfl (by decide) rfl ?_
      refine w_ld d_75_44 rfl rfl rfl ?_
      refine w_if_ne (g := 62) d_75_46 (by decide) (by omega) (fun h46 => ?_) (fun h46 => ?_)
      · refine w_ld d_75_62 rfl rfl rfl ?_
        refine w_con d_75_64 ?_
        refine w_icmp_ne (g := 92) d_75_65 (by decide) (by omega) (fun h65 => ?_) (fun h65 => ?_)
        · refine w_ld d_75_92 rfl rfl rfl ?_
          refine w_con d_75_94 ?_
          refine w_icmp_ne (g := 115) d_75_95 (by decide) (by omega) (fun h95 => ?_) (fun h95 => ?_)
          · have es : smp (vT μ t) k key N = (txt N (rwo (vT μ t) k) key, nts N (rwo (vT μ t) k) key) := by
              unfold smp
              rw [if_neg (fun z => by
                have z1 : μ.2.2 (t + 1) k = 0 := z.1
                have z2 := z.2
                omega), if_neg (fun z => by
                have z1 : μ.2.2 (t + 1) k = 1 := z.1
                have z2 := z.2
                omega), if_neg (fun z => by
                have z1 : μ.2.2 (t + 1) k = 2 := z.1
                have z2 : -9007199254740992 ≤ μ.2.2 (t + 2) k ∧ μ.2.2 (t + 2) k ≤ 9007199254740992 := z.2.2
                have z3 := z.2.1
                omega)]
            
            refine w_ld d_75_115 rfl rfl rfl ?_
            refine w_getF d_75_116 (by rfl) (by first | rfl | assumption) (by rfl) (by rfl) ?_
            refine w_gI d_75_119 (by rfl) (by first | rfl | assumption) (by rfl) rfl ?_
            refine w_st1 (L' := [_, _, _, _, _, _, _, _]) d_75_122 rfl (by decide) rfl (by decide) rfl ?_
            refine w_ld d_75_124 rfl rfl rfl ?_
            refine w_ld d_75_125 rfl rfl rfl ?_
            refine w_ld d_75_126 rfl rfl rfl ?_
            refine w_ld d_75_128 rfl rfl rfl ?_
            refine w_cVq (as := [_, _, _]) (rest := _) rfl d_75_129 (by rfl) (by rfl) (by first | rfl | assumption) (by rfl) (by rfl) (Nat.le_of_ble_eq_true rfl) (by omega) (by omega) (t_dsm hT hW.1.2 hW.2.2.2.1 hR ⟨rfl, hk8⟩ rfl (by omega) (by omega) (by omega) hr) ?_ ?_
            rotate_left
            · rintro r τ ⟨hv9, _⟩
              cases hv9
            rintro vv1 τ1 ⟨hv1, μ1, rfl, hd1⟩
            obtain rfl := Sum.inl.inj hv1
            have hlen : μ.1 39 1 + ((rwo (vT μ t) k).length : Int) ≤ 480 := by
              have := rwo_len hT hR hk8
              omega
            have ho1 := DW_WOK hT hY hW hd1 hlen
            rw [List.nil_append] at ho1
            have h39 := hd1.2.2.1
            have hy1 : μ1.1 y 1 = μ.1 y 1 := hd1.1 y 1 (by omega)
            refine w_ld d_75_132 rfl rfl rfl ?_
            refine w_ld d_75_133 rfl rfl rfl ?_
            refine w_ld d_75_135 rfl rfl rfl ?_
            refine w_cVq (a := 35) (as := [_, _]) (rest := _) rfl d_75_136 (by rfl) (by rfl) (by first | rfl | assumption) (by rfl) (by rfl) (Nat.le_of_ble_eq_true rfl) (by omega) (by omega) (by have e := t_pst (sc := sc) (fr := fr - 1) (lo := lo - (19 + 6)) (ρ := ρ) (key := key) hT hY ho1.2.1 hkey (by omega) (by omega) (by omega) hr; rw [show μ1.1 39 1 - ((rwo (vT μ t) k).length : Int) = μ.1 39 1 by omega] at e; exact e) ?_ ?_
            rotate_left
            · intro r τ g
              rw [es]
              have g2 := PW_seq ho1 g
              rw [List.nil_append] at g2
              exact g2
            rintro v τ g
            obtain rfl := PW_none g
            refine w_ret d_75_139 rfl ?_
            rw [es]
            have g2 := PW_seq ho1 g
            rw [List.nil_append] at g2
            exact g2
          · refine w_ld d_75_98 rfl rfl rfl ?_
            refine w_if_ne (g := 115) d_75_99 (by decide) (by omega) (fun h99 => ?_) (fun h99 => ?_)
            · have es : smp (vT μ t) k key N = (txt N (rwo (vT μ t) k) key, nts N (rwo (vT μ t) k) key) := by
                unfold smp
                rw [if_neg (fun z => by
                  have z1 : μ.2.2 (t + 1) k = 0 := z.1
                  have z2 := z.2
                  omega), if_neg (fun z => by
                  have z1 : μ.2.2 (t + 1) k = 1 := z.1
                  have z2 := z.2
                  omega), if_neg (fun z => by
                  have z1 : μ.2.2 (t + 1) k = 2 := z.1
                  have z2 : -9007199254740992 ≤ μ.2.2 (t + 2) k ∧ μ.2.2 (t + 2) k ≤ 9007199254740992 := z.2.2
                  have z3 := z.2.1
                  omega)]
              
              refine w_ld d_75_115 rfl rfl rfl ?_
              refine w_getF d_75_116 (by rfl) (by first | rfl | assumption) (by rfl) (by rfl) ?_
              refine w_gI d_75_119 (by rfl) (by first | rfl | assumption) (by rfl) rfl ?_
              refine w_st1 (L' := [_, _, _, _, _, _, _, _]) d_75_122 rfl (by decide) rfl (by decide) rfl ?_
              refine w_ld d_75_124 rfl rfl rfl ?_
              refine w_ld d_75_125 rfl rfl rfl ?_
              refine w_ld d_75_126 rfl rfl rfl ?_
              refine w_ld d_75_128 rfl rfl rfl ?_
              refine w_cVq (as := [_, _, _]) (rest := _) rfl d_75_129 (by rfl) (by rfl) (by first | rfl | assumption) (by rfl) (by rfl) (Nat.le_of_ble_eq_true rfl) (by omega) (by omega) (t_dsm hT hW.1.2 hW.2.2.2.1 hR ⟨rfl, hk8⟩ rfl (by omega) (by omega) (by omega) hr) ?_ ?_
              rotate_left
              · rintro r τ ⟨hv9, _⟩
                cases hv9
              rintro vv1 τ1 ⟨hv1, μ1, rfl, hd1⟩
              obtain rfl := Sum.inl.inj hv1
              have hlen : μ.1 39 1 + ((rwo (vT μ t) k).length : Int) ≤ 480 := by
                have := rwo_len hT hR hk8
                omega
              have ho1 := DW_WOK hT hY hW hd1 hlen
              rw [List.nil_append] at ho1
              have h39 := hd1.2.2.1
              have hy1 : μ1.1 y 1 = μ.1 y 1 := hd1.1 y 1 (by omega)
              refine w_ld d_75_132 rfl rfl rfl ?_
              refine w_ld d_75_133 rfl rfl rfl ?_
              refine w_ld d_75_135 rfl rfl rfl ?_
              refine w_cVq (a := 35) (as := [_, _]) (rest := _) rfl d_75_136 (by rfl) (by rfl) (by first | rfl | assumption) (by rfl) (by rfl) (Nat.le_of_ble_eq_true rfl) (by omega) (by omega) (by have e := t_pst (sc := sc) (fr := fr - 1) (lo := lo - (19 + 6)) (ρ := ρ) (key := key) hT hY ho1.2.1 hkey (by omega) (by omega) (by omega) hr; rw [show μ1.1 39 1 - ((rwo (vT μ t) k).length : Int) = μ.1 39 1 by omega] at e; exact e) ?_ ?_
              rotate_left
              · intro r τ g
                rw [es]
                have g2 := PW_seq ho1 g
                rw [List.nil_append] at g2
                exact g2
              rintro v τ g
              obtain rfl := PW_none g
              refine w_ret d_75_139 rfl ?_
              rw [es]
              have g2 := PW_seq ho1 g
              rw [List.nil_append] at g2
              exact g2
            · refine w_ld d_75_102 rfl rfl rfl ?_
              refine w_if_eq (g := 115) d_75_104 (by decide) (by decide) (fun h104 => ?_) (fun h104 => ?_)
              · exact absurd h104 (by decide)
              · refine w_ld d_75_107 rfl rfl rfl ?_
                refine w_ld d_75_108 rfl rfl rfl ?_
                refine w_cVq (as := [_]) (rest := _) rfl d_75_109 (by rfl) (by rfl) (by first | rfl | assumption) (by rfl) (by rfl) (Nat.le_of_ble_eq_true rfl) (by omega) (by omega) (t_pnr hT hY hW hr1 (by omega) (by omega) hr) ?_ ?_
                rotate_left
                · intro r τ g
                  have es : smp (vT μ t) k key N = (dec (μ.2.2 (t + 2) k), N) := by
                    unfold smp
                    rw [if_neg (fun z => absurd (show μ.2.2 (t + 1) k = 0 from z.1) (by omega)), if_neg (fun z => absurd (show μ.2.2 (t + 1) k = 1 from z.1) (by omega)), if_pos ⟨(show μ.2.2 (t + 1) k = 2 by omega), by omega, (show -9007199254740992 ≤ μ.2.2 (t + 2) k by omega), (show μ.2.2 (t + 2) k ≤ 9007199254740992 by omega)⟩]
                    rfl
                  rw [es]
                  exact g
                rintro v τ g
                obtain rfl := PW_none g
                refine w_goto (g := 139) d_75_112 (by decide) ?_
                refine w_ret d_75_139 rfl ?_
                have es : smp (vT μ t) k key N = (dec (μ.2.2 (t + 2) k), N) := by
                  unfold smp
                  rw [if_neg (fun z => absurd (show μ.2.2 (t + 1) k = 0 from z.1) (by omega)), if_neg (fun z => absurd (show μ.2.2 (t + 1) k = 1 from z.1) (by omega)), if_pos ⟨(show μ.2.2 (t + 1) k = 2 by omega), by omega, (show -9007199254740992 ≤ μ.2.2 (t + 2) k by omega), (show μ.2.2 (t + 2) k ≤ 9007199254740992 by omega)⟩]
                  rfl
                rw [es]
                exact g
        · refine w_ld d_75_68 rfl rfl rfl ?_
          refine w_if_ne (g := 92) d_75_69 (by decide) (by omega) (fun h69 => ?_) (fun h69 => ?_)
          · refine w_ld d_75_92 rfl rfl rfl ?_
            refine w_con d_75_94 ?_
            refine w_icmp_ne (g := 115) d_75_95 (by decide) (by omega) (fun h95 => ?_) (fun h95 => ?_)
            · have es : smp (vT μ t) k key N = (txt N (rwo (vT μ t) k) key, nts N (rwo (vT μ t) k) key) := by
                unfold smp
                rw [if_neg (fun z => by
                  have z1 : μ.2.2 (t + 1) k = 0 := z.1
                  have z2 := z.2
                  omega), if_neg (fun z => by
                  have z1 : μ.2.2 (t + 1) k = 1 := z.1
                  have z2 := z.2
                  omega), if_neg (fun z => by
                  have z1 : μ.2.2 (t + 1) k = 2 := z.1
                  have z2 : -9007199254740992 ≤ μ.2.2 (t + 2) k ∧ μ.2.2 (t + 2) k ≤ 9007199254740992 := z.2.2
                  have z3 := z.2.1
                  omega)]
              
              refine w_ld d_75_115 rfl rfl rfl ?_
              refine w_getF d_75_116 (by rfl) (by first | rfl | assumption) (by rfl) (by rfl) ?_
              refine w_gI d_75_119 (by rfl) (by first | rfl | assumption) (by rfl) rfl ?_
              refine w_st1 (L' := [_, _, _, _, _, _, _, _]) d_75_122 rfl (by decide) rfl (by decide) rfl ?_
              refine w_ld d_75_124 rfl rfl rfl ?_
              refine w_ld d_75_125 rfl rfl rfl ?_
              refine w_ld d_75_126 rfl rfl rfl ?_
              refine w_ld d_75_128 rfl rfl rfl ?_
              refine w_cVq (as := [_, _, _]) (rest := _) rfl d_75_129 (by rfl) (by rfl) (by first | rfl | assumption) (by rfl) (by rfl) (Nat.le_of_ble_eq_true rfl) (by omega) (by omega) (t_dsm hT hW.1.2 hW.2.2.2.1 hR ⟨rfl, hk8⟩ rfl (by omega) (by omega) (by omega) hr) ?_ ?_
              rotate_left
              · rintro r τ ⟨hv9, _⟩
                cases hv9
              rintro vv1 τ1 ⟨hv1, μ1, rfl, hd1⟩
              obtain rfl := Sum.inl.inj hv1
              have hlen : μ.1 39 1 + ((rwo (vT μ t) k).length : Int) ≤ 480 := by
                have := rwo_len hT hR hk8
                omega
              have ho1 := DW_WOK hT hY hW hd1 hlen
              rw [List.nil_append] at ho1
              have h39 := hd1.2.2.1
              have hy1 : μ1.1 y 1 = μ.1 y 1 := hd1.1 y 1 (by omega)
              refine w_ld d_75_132 rfl rfl rfl ?_
              refine w_ld d_75_133 rfl rfl rfl ?_
              refine w_ld d_75_135 rfl rfl rfl ?_
              refine w_cVq (a := 35) (as := [_, _]) (rest := _) rfl d_75_136 (by rfl) (by rfl) (by first | rfl | assumption) (by rfl) (by rfl) (Nat.le_of_ble_eq_true rfl) (by omega) (by omega) (by have e := t_pst (sc := sc) (fr := fr - 1) (lo := lo - (19 + 6)) (ρ := ρ) (key := key) hT hY ho1.2.1 hkey (by omega) (by omega) (by omega) hr; rw [show μ1.1 39 1 - ((rwo (vT μ t) k).length : Int) = μ.1 39 1 by omega] at e; exact e) ?_ ?_
              rotate_left
              · intro r τ g
                rw [es]
                have g2 := PW_seq ho1 g
                rw [List.nil_append] at g2
                exact g2
              rintro v τ g
              obtain rfl := PW_none g
              refine w_ret d_75_139 rfl ?_
              rw [es]
              have g2 := PW_seq ho1 g
              rw [List.nil_append] at g2
              exact g2
            · exact absurd h95 (by omega)
          · refine w_ld d_75_72 rfl rfl rfl ?_
            refine w_ld d_75_73 rfl rfl rfl ?_
            refine w_lcon1 d_75_74 ?_
            refine w_lcmp d_75_75 (by omega) ?_
            refine w_if_ne (g := 84) d_75_76 (by decide) (by have := lcm_in (μ.2.2 (t + 2) k) 1; omega) (fun h76 => ?_) (fun h76 => ?_)
            · refine w_lds (k := 7) d_75_84 (by rfl) ?_
              refine w_cVq (as := [_]) (rest := _) rfl d_75_86 (by rfl) (by rfl) (by first | rfl | assumption) (by rfl) (by rfl) (Nat.le_of_ble_eq_true rfl) (by omega) (by omega) (t_pnm hT hY hW (k := 7) (by decide) (by omega) (by omega) hr) ?_ ?_
              rotate_left
              · intro r τ g
                have es : smp (vT μ t) k key N = (litL 7, N) := by
                  unfold smp
                  rw [if_neg (fun z => absurd (show μ.2.2 (t + 1) k = 0 from z.1) (by omega)), if_pos ⟨(show μ.2.2 (t + 1) k = 1 by omega), by omega⟩, if_neg (show ¬ (vT μ t).2.1 k = 1 from fun z => h76 ((lcm_eq _ _).mpr z)), litL_7]
                rw [es]
                exact g
              rintro v τ g
              obtain rfl := PW_none g
              refine w_goto (g := 139) d_75_89 (by decide) ?_
              refine w_ret d_75_139 rfl ?_
              have es : smp (vT μ t) k key N = (litL 7, N) := by
                unfold smp
                rw [if_neg (fun z => absurd (show μ.2.2 (t + 1) k = 0 from z.1) (by omega)), if_pos ⟨(show μ.2.2 (t + 1) k = 1 by omega), by omega⟩, if_neg (show ¬ (vT μ t).2.1 k = 1 from fun z => h76 ((lcm_eq _ _).mpr z)), litL_7]
              rw [es]
              exact g
            · refine w_lds (k := 6) d_75_79 (by rfl) ?_
              refine w_goto (g := 86) d_75_81 (by decide) ?_
              refine w_cVq (as := [_]) (rest := _) rfl d_75_86 (by rfl) (by rfl) (by first | rfl | assumption) (by rfl) (by rfl) (Nat.le_of_ble_eq_true rfl) (by omega) (by omega) (t_pnm hT hY hW (k := 6) (by decide) (by omega) (by omega) hr) ?_ ?_
              rotate_left
              · intro r τ g
                have es : smp (vT μ t) k key N = (litL 6, N) := by
                  unfold smp
                  rw [if_neg (fun z => absurd (show μ.2.2 (t + 1) k = 0 from z.1) (by omega)), if_pos ⟨(show μ.2.2 (t + 1) k = 1 by omega), by omega⟩, if_pos (show (vT μ t).2.1 k = 1 from (lcm_eq (μ.2.2 (t + 2) k) 1).mp h76), litL_6]
                rw [es]
                exact g
              rintro v τ g
              obtain rfl := PW_none g
              refine w_goto (g := 139) d_75_89 (by decide) ?_
              refine w_ret d_75_139 rfl ?_
              have es : smp (vT μ t) k key N = (litL 6, N) := by
                unfold smp
                rw [if_neg (fun z => absurd (show μ.2.2 (t + 1) k = 0 from z.1) (by omega)), if_pos ⟨(show μ.2.2 (t + 1) k = 1 by omega), by omega⟩, if_pos (show (vT μ t).2.1 k = 1 from (lcm_eq (μ.2.2 (t + 2) k) 1).mp h76), litL_6]
              rw [es]
              exact g
      · refine w_ld d_75_49 rfl rfl rfl ?_
        refine w_if_ne (g := 62) d_75_50 (by decide) (by omega) (fun h50 => ?_) (fun h50 => ?_)
        · refine w_ld d_75_62 rfl rfl rfl ?_
          refine w_con d_75_64 ?_
          refine w_icmp_ne (g := 92) d_75_65 (by decide) (by omega) (fun h65 => ?_) (fun h65 => ?_)
          · refine w_ld d_75_92 rfl rfl rfl ?_
            refine w_con d_75_94 ?_
            refine w_icmp_ne (g := 115) d_75_95 (by decide) (by omega) (fun h95 => ?_) (fun h95 => ?_)
            · have es : smp (vT μ t) k key N = (txt N (rwo (vT μ t) k) key, nts N (rwo (vT μ t) k) key) := by
                unfold smp
                rw [if_neg (fun z => by
                  have z1 : μ.2.2 (t + 1) k = 0 := z.1
                  have z2 := z.2
                  omega), if_neg (fun z => by
                  have z1 : μ.2.2 (t + 1) k = 1 := z.1
                  have z2 := z.2
                  omega), if_neg (fun z => by
                  have z1 : μ.2.2 (t + 1) k = 2 := z.1
                  have z2 : -9007199254740992 ≤ μ.2.2 (t + 2) k ∧ μ.2.2 (t + 2) k ≤ 9007199254740992 := z.2.2
                  have z3 := z.2.1
                  omega)]
              
              refine w_ld d_75_115 rfl rfl rfl ?_
              refine w_getF d_75_116 (by rfl) (by first | rfl | assumption) (by rfl) (by rfl) ?_
              refine w_gI d_75_119 (by rfl) (by first | rfl | assumption) (by rfl) rfl ?_
              refine w_st1 (L' := [_, _, _, _, _, _, _, _]) d_75_122 rfl (by decide) rfl (by decide) rfl ?_
              refine w_ld d_75_124 rfl rfl rfl ?_
              refine w_ld d_75_125 rfl rfl rfl ?_
              refine w_ld d_75_126 rfl rfl rfl ?_
              refine w_ld d_75_128 rfl rfl rfl ?_
              refine w_cVq (as := [_, _, _]) (rest := _) rfl d_75_129 (by rfl) (by rfl) (by first | rfl | assumption) (by rfl) (by rfl) (Nat.le_of_ble_eq_true rfl) (by omega) (by omega) (t_dsm hT hW.1.2 hW.2.2.2.1 hR ⟨rfl, hk8⟩ rfl (by omega) (by omega) (by omega) hr) ?_ ?_
              rotate_left
              · rintro r τ ⟨hv9, _⟩
                cases hv9
              rintro vv1 τ1 ⟨hv1, μ1, rfl, hd1⟩
              obtain rfl := Sum.inl.inj hv1
              have hlen : μ.1 39 1 + ((rwo (vT μ t) k).length : Int) ≤ 480 := by
                have := rwo_len hT hR hk8
                omega
              have ho1 := DW_WOK hT hY hW hd1 hlen
              rw [List.nil_append] at ho1
              have h39 := hd1.2.2.1
              have hy1 : μ1.1 y 1 = μ.1 y 1 := hd1.1 y 1 (by omega)
              refine w_ld d_75_132 rfl rfl rfl ?_
              refine w_ld d_75_133 rfl rfl rfl ?_
              refine w_ld d_75_135 rfl rfl rfl ?_
              refine w_cVq (a := 35) (as := [_, _]) (rest := _) rfl d_75_136 (by rfl) (by rfl) (by first | rfl | assumption) (by rfl) (by rfl) (Nat.le_of_ble_eq_true rfl) (by omega) (by omega) (by have e := t_pst (sc := sc) (fr := fr - 1) (lo := lo - (19 + 6)) (ρ := ρ) (key := key) hT hY ho1.2.1 hkey (by omega) (by omega) (by omega) hr; rw [show μ1.1 39 1 - ((rwo (vT μ t) k).length : Int) = μ.1 39 1 by omega] at e; exact e) ?_ ?_
              rotate_left
              · intro r τ g
                rw [es]
                have g2 := PW_seq ho1 g
                rw [List.nil_append] at g2
                exact g2
              rintro v τ g
              obtain rfl := PW_none g
              refine w_ret d_75_139 rfl ?_
              rw [es]
              have g2 := PW_seq ho1 g
              rw [List.nil_append] at g2
              exact g2
            · exact absurd h95 (by omega)
          · exact absurd h65 (by omega)
        · refine w_ld d_75_53 rfl rfl rfl ?_
          refine w_lds (k := 5) d_75_54 (by rfl) ?_
          refine w_cVq (as := [_]) (rest := _) rfl d_75_56 (by rfl) (by rfl) (by first | rfl | assumption) (by rfl) (by rfl) (Nat.le_of_ble_eq_true rfl) (by omega) (by omega) (t_pnm hT hY hW (k := 5) (by decide) (by omega) (by omega) hr) ?_ ?_
          rotate_left
          · intro r τ g
            have es : smp (vT μ t) k key N = ([110, 117, 108, 108], N) := if_pos ⟨(show μ.2.2 (t + 1) k = 0 by omega), by omega⟩
            rw [← litL_5] at es
            rw [es]
            exact g
          rintro v τ g
          obtain rfl := PW_none g
          refine w_goto (g := 139) d_75_59 (by decide) ?_
          refine w_ret d_75_139 rfl ?_
          have es : smp (vT μ t) k key N = ([110, 117, 108, 108], N) := if_pos ⟨(show μ.2.2 (t + 1) k = 0 by omega), by omega⟩
          rw [← litL_5] at es
          rw [es]
          exact g
