/-! THE PURE PART, 8: contracts: Tree, Notes, the calls that only look at the text -/
/-- where the three trees lie, the six rows of letters, the two lists of notes -/
def isT (a : Nat) : Prop := a = 2 ∨ a = 11 ∨ a = 26
def isL (a n : Nat) : Prop := (a = 9 ∨ a = 18 ∨ a = 33 ∨ a = 42 ∨ a = 44) ∧ n = 240 ∨ a = 39 ∧ n = 480
def isN (a : Nat) : Prop := a = 21 ∨ a = 36
theorem isT.sh {a : Nat} (h : isT a) : sh a = some (.inl (2, [4, 5, 6, 7, 8, 9, 10, 0])) ∧ sh (a + 1) = some (.inr (0, 240)) ∧ sh (a + 2) = some (.inr (1, 240)) ∧ sh (a + 3) = some (.inr (0, 240)) ∧ sh (a + 4) = some (.inr (0, 240)) ∧ sh (a + 5) = some (.inr (0, 240)) ∧ sh (a + 6) = some (.inr (0, 240)) ∧ sh (a + 7) = some (.inl (1, [4, 0])) ∧ sh (a + 7 + 1) = some (.inr (2, 240)) := by
  rcases h with rfl | rfl | rfl <;> exact ⟨rfl, rfl, rfl, rfl, rfl, rfl, rfl, rfl, rfl⟩
theorem isL.sh {a n : Nat} (h : isL a n) : sh a = some (.inl (1, [4, 0])) ∧ sh (a + 1) = some (.inr (2, n)) ∧ n < 2147483648 := by
  rcases h with ⟨rfl | rfl | rfl | rfl | rfl, rfl⟩ | ⟨rfl, rfl⟩ <;> exact ⟨rfl, rfl, by decide⟩
theorem isN.sh {a : Nat} (h : isN a) : sh a = some (.inl (3, [4, 5, 0])) ∧ sh (a + 1) = some (.inr (0, 24)) ∧ sh (a + 2) = some (.inr (0, 24)) := by
  rcases h with rfl | rfl <;> exact ⟨rfl, rfl, rfl⟩
theorem t_isDigit {sc : Nat × (Nat → Int32)} {fr lo : Nat} {μ : Mem} {ρ : Nat × Nat × Nat} {k : Int} (hk : -2147483648 ≤ k ∧ k < 2147483648) : w_E sc fr lo 62 [.int (ji k)] (hp μ, ρ) (.inl (some (.int (ji (if 48 ≤ k ∧ k ≤ 57 then 1 else 0))))) (hp μ, ρ) := by
  refine w_S.of (L0 := [some (.int (ji k))]) rfl rfl (Nat.le_of_ble_eq_true rfl) (by rfl) ?_
  refine w_ld d_62_0 rfl rfl rfl ?_
  refine w_bip d_62_1 (by decide) ?_
  refine w_icmp_lt (g := 16) d_62_3 (by decide) (by omega) (fun h3 => ?_) (fun h3 => ?_)
  · refine w_con d_62_16 ?_
    refine w_zret d_62_17 rfl (by omega) ?_
    first | (rw [if_pos (by omega)]; exact ⟨rfl, rfl⟩) | (rw [if_neg (by omega)]; exact ⟨rfl, rfl⟩)
  · refine w_ld d_62_6 rfl rfl rfl ?_
    refine w_bip d_62_7 (by decide) ?_
    refine w_icmp_gt (g := 16) d_62_9 (by decide) (by omega) (fun h9 => ?_) (fun h9 => ?_)
    · refine w_con d_62_16 ?_
      refine w_zret d_62_17 rfl (by omega) ?_
      first | (rw [if_pos (by omega)]; exact ⟨rfl, rfl⟩) | (rw [if_neg (by omega)]; exact ⟨rfl, rfl⟩)
    · refine w_con d_62_12 ?_
      refine w_goto (g := 17) d_62_13 (by decide) ?_
      refine w_zret d_62_17 rfl (by omega) ?_
      first | (rw [if_pos (by omega)]; exact ⟨rfl, rfl⟩) | (rw [if_neg (by omega)]; exact ⟨rfl, rfl⟩)
theorem t_isAlpha {sc : Nat × (Nat → Int32)} {fr lo : Nat} {μ : Mem} {ρ : Nat × Nat × Nat} {k : Int} (hk : -2147483648 ≤ k ∧ k < 2147483648) : w_E sc fr lo 64 [.int (ji k)] (hp μ, ρ) (.inl (some (.int (ji (if 97 ≤ k ∧ k ≤ 122 ∨ 65 ≤ k ∧ k ≤ 90 then 1 else 0))))) (hp μ, ρ) := by
  refine w_S.of (L0 := [some (.int (ji k))]) rfl rfl (Nat.le_of_ble_eq_true rfl) (by rfl) ?_
  refine w_ld d_64_0 rfl rfl rfl ?_
  refine w_bip d_64_1 (by decide) ?_
  refine w_icmp_lt (g := 12) d_64_3 (by decide) (by omega) (fun h3 => ?_) (fun h3 => ?_)
  · refine w_ld d_64_12 rfl rfl rfl ?_
    refine w_bip d_64_13 (by decide) ?_
    refine w_icmp_lt (g := 28) d_64_15 (by decide) (by omega) (fun h15 => ?_) (fun h15 => ?_)
    · refine w_con d_64_28 ?_
      refine w_zret d_64_29 rfl (by omega) ?_
      first | (rw [if_pos (by omega)]; exact ⟨rfl, rfl⟩) | (rw [if_neg (by omega)]; exact ⟨rfl, rfl⟩)
    · refine w_ld d_64_18 rfl rfl rfl ?_
      refine w_bip d_64_19 (by decide) ?_
      refine w_icmp_gt (g := 28) d_64_21 (by decide) (by omega) (fun h21 => ?_) (fun h21 => ?_)
      · refine w_con d_64_28 ?_
        refine w_zret d_64_29 rfl (by omega) ?_
        first | (rw [if_pos (by omega)]; exact ⟨rfl, rfl⟩) | (rw [if_neg (by omega)]; exact ⟨rfl, rfl⟩)
      · refine w_con d_64_24 ?_
        refine w_goto (g := 29) d_64_25 (by decide) ?_
        refine w_zret d_64_29 rfl (by omega) ?_
        first | (rw [if_pos (by omega)]; exact ⟨rfl, rfl⟩) | (rw [if_neg (by omega)]; exact ⟨rfl, rfl⟩)
  · refine w_ld d_64_6 rfl rfl rfl ?_
    refine w_bip d_64_7 (by decide) ?_
    refine w_icmp_le (g := 24) d_64_9 (by decide) (by omega) (fun h9 => ?_) (fun h9 => ?_)
    · refine w_con d_64_24 ?_
      refine w_goto (g := 29) d_64_25 (by decide) ?_
      refine w_zret d_64_29 rfl (by omega) ?_
      first | (rw [if_pos (by omega)]; exact ⟨rfl, rfl⟩) | (rw [if_neg (by omega)]; exact ⟨rfl, rfl⟩)
    · refine w_ld d_64_12 rfl rfl rfl ?_
      refine w_bip d_64_13 (by decide) ?_
      refine w_icmp_lt (g := 28) d_64_15 (by decide) (by omega) (fun h15 => ?_) (fun h15 => ?_)
      · refine w_con d_64_28 ?_
        refine w_zret d_64_29 rfl (by omega) ?_
        first | (rw [if_pos (by omega)]; exact ⟨rfl, rfl⟩) | (rw [if_neg (by omega)]; exact ⟨rfl, rfl⟩)
      · refine w_ld d_64_18 rfl rfl rfl ?_
        refine w_bip d_64_19 (by decide) ?_
        refine w_icmp_gt (g := 28) d_64_21 (by decide) (by omega) (fun h21 => ?_) (fun h21 => ?_)
        · refine w_con d_64_28 ?_
          refine w_zret d_64_29 rfl (by omega) ?_
          first | (rw [if_pos (by omega)]; exact ⟨rfl, rfl⟩) | (rw [if_neg (by omega)]; exact ⟨rfl, rfl⟩)
        · refine w_con d_64_24 ?_
          refine w_goto (g := 29) d_64_25 (by decide) ?_
          refine w_zret d_64_29 rfl (by omega) ?_
          first | (rw [if_pos (by omega)]; exact ⟨rfl, rfl⟩) | (rw [if_neg (by omega)]; exact ⟨rfl, rfl⟩)
theorem t_tcut {sc : Nat × (Nat → Int32)} {fr lo : Nat} {μ : Mem} {ρ : Nat × Nat × Nat} {a : Nat} (ha : isT a) {k : Int} : w_E sc fr lo 56 [.ref a, .int (ji k)] (hp μ, ρ) (.inl none) (hp (stI μ a 7 k), ρ) := by
  obtain ⟨hT, h1, h2, h3, h4, h5, h6, h7, h8⟩ := ha.sh
  refine w_S.of (L0 := [some (.ref a), some (.int (ji k))]) rfl rfl (Nat.le_of_ble_eq_true rfl) (by rfl) ?_
  refine w_ld d_56_0 rfl rfl rfl ?_
  refine w_ld d_56_1 rfl rfl rfl ?_
  refine w_putI d_56_2 (by rfl) (by first | rfl | assumption) (by rfl) (fit_I (by rfl)) (by rfl) ?_
  refine w_ret d_56_5 rfl ?_
  exact ⟨rfl, rfl⟩
theorem t_clear {sc : Nat × (Nat → Int32)} {fr lo : Nat} {μ : Mem} {ρ : Nat × Nat × Nat} {a : Nat} (ha : isT a) (hf : 1 ≤ fr) (hl : 60 ≤ lo) (hc : 0 ≤ μ.1 (a + 7) 1 ∧ μ.1 (a + 7) 1 ≤ 240) : w_E sc fr lo 28 [.ref a] (hp μ, ρ) (.inl none) (hp (stI (stI μ a 7 0) (a + 7) 1 0), ρ) := by
  obtain ⟨hT, h1, h2, h3, h4, h5, h6, h7, h8⟩ := ha.sh
  refine w_S.of (L0 := [some (.ref a)]) rfl rfl (Nat.le_of_ble_eq_true rfl) (by rfl) ?_
  refine w_ld d_28_0 rfl rfl rfl ?_
  refine w_con d_28_1 ?_
  refine w_putI d_28_2 (by rfl) (by first | rfl | assumption) (by rfl) (fit_I (by rfl)) (by rfl) ?_
  refine w_ld d_28_5 rfl rfl rfl ?_
  refine w_getF d_28_6 (by rfl) (by first | rfl | assumption) (by rfl) (by rfl) ?_
  refine w_con d_28_9 ?_
  refine w_cV0 (as := [_]) (rest := _) rfl d_28_10 (by rfl) (by rfl) (by first | rfl | assumption) (by rfl) (by rfl) (Nat.le_of_ble_eq_true rfl) (by omega) (by omega) (t_cut h7 h8 (by rw [show (stI μ a 7 0).1 (a + 7) 1 = μ.1 (a + 7) 1 from if_neg (by omega)]; omega)) ?_
  refine w_ret d_28_13 rfl ?_
  exact ⟨rfl, rfl⟩
theorem t_isFull {sc : Nat × (Nat → Int32)} {fr lo : Nat} {μ : Mem} {ρ : Nat × Nat × Nat} {a : Nat} (ha : isT a) (hc : 0 ≤ μ.1 a 7 ∧ μ.1 a 7 ≤ 240) : w_E sc fr lo 34 [.ref a] (hp μ, ρ) (.inl (some (.int (ji (if μ.1 a 7 < 240 then 0 else 1))))) (hp μ, ρ) := by
  obtain ⟨hT, h1, h2, h3, h4, h5, h6, h7, h8⟩ := ha.sh
  refine w_S.of (L0 := [some (.ref a)]) rfl rfl (Nat.le_of_ble_eq_true rfl) (by rfl) ?_
  refine w_ld d_34_0 rfl rfl rfl ?_
  refine w_gI d_34_1 (by rfl) (by first | rfl | assumption) (by rfl) (by (try simp [stI, stA, stR]) <;> rfl) ?_
  refine w_sip d_34_4 (by decide) ?_
  refine w_icmp_lt (g := 14) d_34_7 (by decide) (by omega) (fun h7 => ?_) (fun h7 => ?_)
  · refine w_con d_34_14 ?_
    refine w_zret d_34_15 rfl (by omega) ?_
    first | (rw [if_pos (by omega)]; exact ⟨rfl, rfl⟩) | (rw [if_neg (by omega)]; exact ⟨rfl, rfl⟩)
  · refine w_con d_34_10 ?_
    refine w_goto (g := 15) d_34_11 (by decide) ?_
    refine w_zret d_34_15 rfl (by omega) ?_
    first | (rw [if_pos (by omega)]; exact ⟨rfl, rfl⟩) | (rw [if_neg (by omega)]; exact ⟨rfl, rfl⟩)
theorem t_append {sc : Nat × (Nat → Int32)} {fr lo : Nat} {μ : Mem} {ρ : Nat × Nat × Nat} {a : Nat} (ha : isT a) {k v : Int} (hc : 0 ≤ μ.1 a 7 ∧ μ.1 a 7 < 240) : w_E sc fr lo 35 [.ref a, .int (ji k), .long (jl v)] (hp μ, ρ) (.inl (some (.int (ji (μ.1 a 7))))) (hp (stI (stA (stA (stA (stA (stA (stA μ (a + 1) (μ.1 a 7) k) (a + 2) (μ.1 a 7) v) (a + 3) (μ.1 a 7) 0) (a + 4) (μ.1 a 7) 0) (a + 5) (μ.1 a 7) 0) (a + 6) (μ.1 a 7) (μ.1 a 7 + 1)) a 7 (μ.1 a 7 + 1)), ρ) := by
  obtain ⟨hT, h1, h2, h3, h4, h5, h6, h7, h8⟩ := ha.sh
  refine w_S.of (L0 := [some (.ref a), some (.int (ji k)), some (.long (jl v)), none, none]) rfl rfl (Nat.le_of_ble_eq_true rfl) (by rfl) ?_
  refine w_ld d_35_0 rfl rfl rfl ?_
  refine w_gI d_35_1 (by rfl) (by first | rfl | assumption) (by rfl) (by (try simp [stI, stA, stR]) <;> rfl) ?_
  refine w_st1 (L' := [_, _, _, _, _]) d_35_4 rfl (by decide) rfl (by decide) rfl ?_
  refine w_ld d_35_6 rfl rfl rfl ?_
  refine w_getF d_35_7 (by rfl) (by first | rfl | assumption) (by rfl) (by rfl) ?_
  refine w_ld d_35_10 rfl rfl rfl ?_
  refine w_ld d_35_12 rfl rfl rfl ?_
  refine w_iast d_35_13 (by first | rfl | assumption) (by omega) ?_
  refine w_ld d_35_14 rfl rfl rfl ?_
  refine w_getF d_35_15 (by rfl) (by first | rfl | assumption) (by rfl) (by rfl) ?_
  refine w_ld d_35_18 rfl rfl rfl ?_
  refine w_ld d_35_20 rfl rfl rfl ?_
  refine w_last d_35_21 (by first | rfl | assumption) (by omega) ?_
  refine w_ld d_35_22 rfl rfl rfl ?_
  refine w_getF d_35_23 (by rfl) (by first | rfl | assumption) (by rfl) (by rfl) ?_
  refine w_ld d_35_26 rfl rfl rfl ?_
  refine w_con d_35_28 ?_
  refine w_iast d_35_29 (by first | rfl | assumption) (by omega) ?_
  refine w_ld d_35_30 rfl rfl rfl ?_
  refine w_getF d_35_31 (by rfl) (by first | rfl | assumption) (by rfl) (by rfl) ?_
  refine w_ld d_35_34 rfl rfl rfl ?_
  refine w_con d_35_36 ?_
  refine w_iast d_35_37 (by first | rfl | assumption) (by omega) ?_
  refine w_ld d_35_38 rfl rfl rfl ?_
  refine w_getF d_35_39 (by rfl) (by first | rfl | assumption) (by rfl) (by rfl) ?_
  refine w_ld d_35_42 rfl rfl rfl ?_
  refine w_con d_35_44 ?_
  refine w_iast d_35_45 (by first | rfl | assumption) (by omega) ?_
  refine w_ld d_35_46 rfl rfl rfl ?_
  refine w_getF d_35_47 (by rfl) (by first | rfl | assumption) (by rfl) (by rfl) ?_
  refine w_ld d_35_50 rfl rfl rfl ?_
  refine w_ld d_35_52 rfl rfl rfl ?_
  refine w_con d_35_54 ?_
  refine w_iadd d_35_55 ?_
  refine w_iast d_35_56 (by first | rfl | assumption) (by omega) ?_
  refine w_ld d_35_57 rfl rfl rfl ?_
  refine w_stk d_35_58 rfl ?_
  refine w_gI d_35_59 (by rfl) (by first | rfl | assumption) (by rfl) (by (try simp [stI, stA, stR]) <;> rfl) ?_
  refine w_con d_35_62 ?_
  refine w_iadd d_35_63 ?_
  refine w_putI d_35_64 (by rfl) (by first | rfl | assumption) (by rfl) (fit_I (by rfl)) (by rfl) ?_
  refine w_ld d_35_67 rfl rfl rfl ?_
  refine w_iret d_35_69 rfl ?_
  exact ⟨rfl, rfl⟩
theorem t_giveWord {sc : Nat × (Nat → Int32)} {fr lo : Nat} {μ : Mem} {ρ : Nat × Nat × Nat} {a : Nat} (ha : isT a) {k p q : Int} (hk : 0 ≤ k ∧ k < 240) : w_E sc fr lo 55 [.ref a, .int (ji k), .int (ji p), .int (ji q)] (hp μ, ρ) (.inl none) (hp (stA (stA μ (a + 3) k p) (a + 4) k q), ρ) := by
  obtain ⟨hT, h1, h2, h3, h4, h5, h6, h7, h8⟩ := ha.sh
  refine w_S.of (L0 := [some (.ref a), some (.int (ji k)), some (.int (ji p)), some (.int (ji q))]) rfl rfl (Nat.le_of_ble_eq_true rfl) (by rfl) ?_
  refine w_ld d_55_0 rfl rfl rfl ?_
  refine w_getF d_55_1 (by rfl) (by first | rfl | assumption) (by rfl) (by rfl) ?_
  refine w_ld d_55_4 rfl rfl rfl ?_
  refine w_ld d_55_5 rfl rfl rfl ?_
  refine w_iast d_55_6 (by first | rfl | assumption) (by omega) ?_
  refine w_ld d_55_7 rfl rfl rfl ?_
  refine w_getF d_55_8 (by rfl) (by first | rfl | assumption) (by rfl) (by rfl) ?_
  refine w_ld d_55_11 rfl rfl rfl ?_
  refine w_ld d_55_12 rfl rfl rfl ?_
  refine w_iast d_55_13 (by first | rfl | assumption) (by omega) ?_
  refine w_ret d_55_14 rfl ?_
  exact ⟨rfl, rfl⟩
theorem t_close {sc : Nat × (Nat → Int32)} {fr lo : Nat} {μ : Mem} {ρ : Nat × Nat × Nat} {a : Nat} (ha : isT a) {k p q : Int} (hk : 0 ≤ k ∧ k < 240) : w_E sc fr lo 39 [.ref a, .int (ji k), .int (ji p), .int (ji q)] (hp μ, ρ) (.inl none) (hp (stA (stA (stA μ (a + 1) k p) (a + 5) k q) (a + 6) k (μ.1 a 7)), ρ) := by
  obtain ⟨hT, h1, h2, h3, h4, h5, h6, h7, h8⟩ := ha.sh
  refine w_S.of (L0 := [some (.ref a), some (.int (ji k)), some (.int (ji p)), some (.int (ji q))]) rfl rfl (Nat.le_of_ble_eq_true rfl) (by rfl) ?_
  refine w_ld d_39_0 rfl rfl rfl ?_
  refine w_getF d_39_1 (by rfl) (by first | rfl | assumption) (by rfl) (by rfl) ?_
  refine w_ld d_39_4 rfl rfl rfl ?_
  refine w_ld d_39_5 rfl rfl rfl ?_
  refine w_iast d_39_6 (by first | rfl | assumption) (by omega) ?_
  refine w_ld d_39_7 rfl rfl rfl ?_
  refine w_getF d_39_8 (by rfl) (by first | rfl | assumption) (by rfl) (by rfl) ?_
  refine w_ld d_39_11 rfl rfl rfl ?_
  refine w_ld d_39_12 rfl rfl rfl ?_
  refine w_iast d_39_13 (by first | rfl | assumption) (by omega) ?_
  refine w_ld d_39_14 rfl rfl rfl ?_
  refine w_getF d_39_15 (by rfl) (by first | rfl | assumption) (by rfl) (by rfl) ?_
  refine w_ld d_39_18 rfl rfl rfl ?_
  refine w_ld d_39_19 rfl rfl rfl ?_
  refine w_gI d_39_20 (by rfl) (by first | rfl | assumption) (by rfl) (by (try simp [stI, stA, stR]) <;> rfl) ?_
  refine w_iast d_39_23 (by first | rfl | assumption) (by omega) ?_
  refine w_ret d_39_24 rfl ?_
  exact ⟨rfl, rfl⟩
theorem t_behind {sc : Nat × (Nat → Int32)} {fr lo : Nat} {μ : Mem} {ρ : Nat × Nat × Nat} {a : Nat} (ha : isT a) {k p : Int} (hk : 0 ≤ k ∧ k < 240) (hp0 : p = 0 ∨ p = 1) (he : p = 1 → 0 ≤ μ.2.2 (a + 6) k ∧ μ.2.2 (a + 6) k < 240) : w_E sc fr lo 20 [.ref a, .int (ji k), .int (ji p)] (hp μ, ρ) (.inl (some (.int (ji (if p = 0 then μ.2.2 (a + 6) k else μ.2.2 (a + 6) (μ.2.2 (a + 6) k)))))) (hp μ, ρ) := by
  obtain ⟨hT, h1, h2, h3, h4, h5, h6, h7, h8⟩ := ha.sh
  refine w_S.of (L0 := [some (.ref a), some (.int (ji k)), some (.int (ji p))]) rfl rfl (Nat.le_of_ble_eq_true rfl) (by rfl) ?_
  refine w_ld d_20_0 rfl rfl rfl ?_
  refine w_if_eq (g := 18) d_20_1 (by decide) (by omega) (fun h1 => ?_) (fun h1 => ?_)
  · refine w_ld d_20_18 rfl rfl rfl ?_
    refine w_getF d_20_19 (by rfl) (by first | rfl | assumption) (by rfl) (by rfl) ?_
    refine w_ld d_20_22 rfl rfl rfl ?_
    refine w_aI d_20_23 (by first | rfl | assumption) (by omega) (by (try simp [stI, stA, stR]) <;> rfl) ?_
    refine w_iret d_20_24 rfl ?_
    first | (rw [if_pos (by omega)]; exact ⟨rfl, rfl⟩) | (rw [if_neg (by omega)]; exact ⟨rfl, rfl⟩)
  · refine w_ld d_20_4 rfl rfl rfl ?_
    refine w_getF d_20_5 (by rfl) (by first | rfl | assumption) (by rfl) (by rfl) ?_
    refine w_ld d_20_8 rfl rfl rfl ?_
    refine w_getF d_20_9 (by rfl) (by first | rfl | assumption) (by rfl) (by rfl) ?_
    refine w_ld d_20_12 rfl rfl rfl ?_
    refine w_aI d_20_13 (by first | rfl | assumption) (by omega) (by (try simp [stI, stA, stR]) <;> rfl) ?_
    refine w_aI d_20_14 (by first | rfl | assumption) (by omega) (by (try simp [stI, stA, stR]) <;> rfl) ?_
    refine w_goto (g := 24) d_20_15 (by decide) ?_
    refine w_iret d_20_24 rfl ?_
    first | (rw [if_pos (by omega)]; exact ⟨rfl, rfl⟩) | (rw [if_neg (by omega)]; exact ⟨rfl, rfl⟩)
theorem t_forget {sc : Nat × (Nat → Int32)} {fr lo : Nat} {μ : Mem} {ρ : Nat × Nat × Nat} {a : Nat} (ha : isN a) : w_E sc fr lo 27 [.ref a] (hp μ, ρ) (.inl none) (hp (stI μ a 2 0), ρ) := by
  obtain ⟨hN, h1, h2⟩ := ha.sh
  refine w_S.of (L0 := [some (.ref a)]) rfl rfl (Nat.le_of_ble_eq_true rfl) (by rfl) ?_
  refine w_ld d_27_0 rfl rfl rfl ?_
  refine w_con d_27_1 ?_
  refine w_putI d_27_2 (by rfl) (by first | rfl | assumption) (by rfl) (fit_I (by rfl)) (by rfl) ?_
  refine w_ret d_27_5 rfl ?_
  exact ⟨rfl, rfl⟩
theorem t_note {sc : Nat × (Nat → Int32)} {fr lo : Nat} {μ : Mem} {ρ : Nat × Nat × Nat} {a : Nat} (ha : isN a) {p q : Int} (hf : 1 ≤ fr) (hl : 60 ≤ lo) (hc : 0 ≤ μ.1 a 2 ∧ μ.1 a 2 ≤ 24) : w_E sc fr lo 46 [.ref a, .int (ji p), .int (ji q)] (hp μ, ρ) (.inl none) (if μ.1 a 2 < 24 then (hp (stI (stA (stA μ (a + 1) (μ.1 a 2) p) (a + 2) (μ.1 a 2) q) a 2 (μ.1 a 2 + 1)), ρ) else (hp (stI (stA (stA (stI μ a 2 0) (a + 1) 0 p) (a + 2) 0 q) a 2 (0 + 1)), ρ)) := by
  obtain ⟨hN, h1, h2⟩ := ha.sh
  refine w_S.of (L0 := [some (.ref a), some (.int (ji p)), some (.int (ji q))]) rfl rfl (Nat.le_of_ble_eq_true rfl) (by rfl) ?_
  refine w_ld d_46_0 rfl rfl rfl ?_
  refine w_gI d_46_1 (by rfl) (by first | rfl | assumption) (by rfl) (by (try simp [stI, stA, stR]) <;> rfl) ?_
  refine w_bip d_46_4 (by decide) ?_
  refine w_icmp_lt (g := 13) d_46_6 (by decide) (by omega) (fun h6 => ?_) (fun h6 => ?_)
  · refine w_ld d_46_13 rfl rfl rfl ?_
    refine w_getF d_46_14 (by rfl) (by first | rfl | assumption) (by rfl) (by rfl) ?_
    refine w_ld d_46_17 rfl rfl rfl ?_
    refine w_gI d_46_18 (by rfl) (by first | rfl | assumption) (by rfl) (by (try simp [stI, stA, stR]) <;> rfl) ?_
    refine w_ld d_46_21 rfl rfl rfl ?_
    refine w_iast d_46_22 (by first | rfl | assumption) (by omega) ?_
    refine w_ld d_46_23 rfl rfl rfl ?_
    refine w_getF d_46_24 (by rfl) (by first | rfl | assumption) (by rfl) (by rfl) ?_
    refine w_ld d_46_27 rfl rfl rfl ?_
    refine w_gI d_46_28 (by rfl) (by first | rfl | assumption) (by rfl) (by (try simp [stI, stA, stR]) <;> rfl) ?_
    refine w_ld d_46_31 rfl rfl rfl ?_
    refine w_iast d_46_32 (by first | rfl | assumption) (by omega) ?_
    refine w_ld d_46_33 rfl rfl rfl ?_
    refine w_stk d_46_34 rfl ?_
    refine w_gI d_46_35 (by rfl) (by first | rfl | assumption) (by rfl) (by (try simp [stI, stA, stR]) <;> rfl) ?_
    refine w_con d_46_38 ?_
    refine w_iadd d_46_39 ?_
    refine w_putI d_46_40 (by rfl) (by first | rfl | assumption) (by rfl) (fit_I (by rfl)) (by rfl) ?_
    refine w_ret d_46_43 rfl ?_
    first | (rw [if_pos (by omega)]; exact ⟨rfl, rfl⟩) | (rw [if_neg (by omega)]; exact ⟨rfl, rfl⟩)
  · refine w_ld d_46_9 rfl rfl rfl ?_
    refine w_cV0 (as := []) (rest := _) rfl d_46_10 (by rfl) (by rfl) (by first | rfl | assumption) (by rfl) (by rfl) (Nat.le_of_ble_eq_true rfl) (by omega) (by omega) (t_forget ha) ?_
    refine w_ld d_46_13 rfl rfl rfl ?_
    refine w_getF d_46_14 (by rfl) (by first | rfl | assumption) (by rfl) (by rfl) ?_
    refine w_ld d_46_17 rfl rfl rfl ?_
    refine w_gI d_46_18 (by rfl) (by first | rfl | assumption) (by rfl) (by (try simp [stI, stA, stR]) <;> rfl) ?_
    refine w_ld d_46_21 rfl rfl rfl ?_
    refine w_iast d_46_22 (by first | rfl | assumption) (by omega) ?_
    refine w_ld d_46_23 rfl rfl rfl ?_
    refine w_getF d_46_24 (by rfl) (by first | rfl | assumption) (by rfl) (by rfl) ?_
    refine w_ld d_46_27 rfl rfl rfl ?_
    refine w_gI d_46_28 (by rfl) (by first | rfl | assumption) (by rfl) (by (try simp [stI, stA, stR]) <;> rfl) ?_
    refine w_ld d_46_31 rfl rfl rfl ?_
    refine w_iast d_46_32 (by first | rfl | assumption) (by omega) ?_
    refine w_ld d_46_33 rfl rfl rfl ?_
    refine w_stk d_46_34 rfl ?_
    refine w_gI d_46_35 (by rfl) (by first | rfl | assumption) (by rfl) (by (try simp [stI, stA, stR]) <;> rfl) ?_
    refine w_con d_46_38 ?_
    refine w_iadd d_46_39 ?_
    refine w_putI d_46_40 (by rfl) (by first | rfl | assumption) (by rfl) (fit_I (by rfl)) (by rfl) ?_
    refine w_ret d_46_43 rfl ?_
    first | (rw [if_pos (by omega)]; exact ⟨rfl, rfl⟩) | (rw [if_neg (by omega)]; exact ⟨rfl, rfl⟩)
theorem t_has {sc : Nat × (Nat → Int32)} {fr lo : Nat} {μ : Mem} {ρ : Nat × Nat × Nat} {a n : Nat} (ha : isL a n) (hc : 0 ≤ μ.1 a 1 ∧ μ.1 a 1 ≤ n) {p q : Int} (hp0 : -2147483648 ≤ p ∧ p < 2147483648) (hq : 0 ≤ q ∧ q < 2147483648) : w_E sc fr lo 18 [.ref a, .int (ji p), .int (ji q)] (hp μ, ρ) (.inl (some (.int (ji (if 0 ≤ p ∧ p ≤ μ.1 a 1 - q then 1 else 0))))) (hp μ, ρ) := by
  obtain ⟨hs, hr, hn⟩ := ha.sh
  refine w_S.of (L0 := [some (.ref a), some (.int (ji p)), some (.int (ji q))]) rfl rfl (Nat.le_of_ble_eq_true rfl) (by rfl) ?_
  refine w_ld d_18_0 rfl rfl rfl ?_
  refine w_if_lt (g := 18) d_18_1 (by decide) (by omega) (fun h1 => ?_) (fun h1 => ?_)
  · refine w_con d_18_18 ?_
    refine w_zret d_18_19 rfl (by omega) ?_
    first | (rw [if_pos (by omega)]; exact ⟨rfl, rfl⟩) | (rw [if_neg (by omega)]; exact ⟨rfl, rfl⟩)
  · refine w_ld d_18_4 rfl rfl rfl ?_
    refine w_ld d_18_5 rfl rfl rfl ?_
    refine w_gI d_18_6 (by rfl) (by first | rfl | assumption) (by rfl) (by (try simp [stI, stA, stR]) <;> rfl) ?_
    refine w_ld d_18_9 rfl rfl rfl ?_
    refine w_isub d_18_10 ?_
    refine w_icmp_gt (g := 18) d_18_11 (by decide) (by omega) (fun h11 => ?_) (fun h11 => ?_)
    · refine w_con d_18_18 ?_
      refine w_zret d_18_19 rfl (by omega) ?_
      first | (rw [if_pos (by omega)]; exact ⟨rfl, rfl⟩) | (rw [if_neg (by omega)]; exact ⟨rfl, rfl⟩)
    · refine w_con d_18_14 ?_
      refine w_goto (g := 19) d_18_15 (by decide) ?_
      refine w_zret d_18_19 rfl (by omega) ?_
      first | (rw [if_pos (by omega)]; exact ⟨rfl, rfl⟩) | (rw [if_neg (by omega)]; exact ⟨rfl, rfl⟩)
theorem t_wipe {sc : Nat × (Nat → Int32)} {fr lo : Nat} {μ : Mem} {ρ : Nat × Nat × Nat} {b : Nat} (hb : isL b 240) (ht : μ.2.1 0 3 = .ref b) (hf : 1 ≤ fr) (hl : 60 ≤ lo) (hc : 0 ≤ μ.1 b 1 ∧ μ.1 b 1 ≤ 240) : w_E sc fr lo 9 [.ref 0] (hp μ, ρ) (.inl none) (hp (stI μ b 1 0), ρ) := by
  obtain ⟨hs, hr, hn⟩ := hb.sh
  refine w_S.of (L0 := [some (.ref 0)]) rfl rfl (Nat.le_of_ble_eq_true rfl) (by rfl) ?_
  refine w_ld d_9_0 rfl rfl rfl ?_
  refine w_getR d_9_1 (by rfl) (by first | rfl | assumption) (by rfl) (by assumption) ?_
  refine w_con d_9_4 ?_
  refine w_cV0 (as := [_]) (rest := _) rfl d_9_5 (by rfl) (by rfl) (by first | rfl | assumption) (by rfl) (by rfl) (Nat.le_of_ble_eq_true rfl) (by omega) (by omega) (t_cut hs hr (by omega)) ?_
  refine w_ret d_9_8 rfl ?_
  exact ⟨rfl, rfl⟩
theorem t_length {sc : Nat × (Nat → Int32)} {fr lo : Nat} {μ : Mem} {ρ : Nat × Nat × Nat} {b : Nat} (hb : isL b 240) (ht : μ.2.1 0 3 = .ref b) : w_E sc fr lo 11 [.ref 0] (hp μ, ρ) (.inl (some (.int (ji (μ.1 b 1))))) (hp μ, ρ) := by
  obtain ⟨hs, hr, hn⟩ := hb.sh
  refine w_S.of (L0 := [some (.ref 0)]) rfl rfl (Nat.le_of_ble_eq_true rfl) (by rfl) ?_
  refine w_ld d_11_0 rfl rfl rfl ?_
  refine w_getR d_11_1 (by rfl) (by first | rfl | assumption) (by rfl) (by assumption) ?_
  refine w_gI d_11_4 (by rfl) (by first | rfl | assumption) (by rfl) (by (try simp [stI, stA, stR]) <;> rfl) ?_
  refine w_iret d_11_7 rfl ?_
  exact ⟨rfl, rfl⟩
theorem t_at {sc : Nat × (Nat → Int32)} {fr lo : Nat} {μ : Mem} {ρ : Nat × Nat × Nat} {b : Nat} (hb : isL b 240) (ht : μ.2.1 0 3 = .ref b) (hf : 1 ≤ fr) (hl : 60 ≤ lo) (hc : 0 ≤ μ.1 b 1 ∧ μ.1 b 1 ≤ 240) {k : Int} (hk : -2147483648 ≤ k ∧ k < 2147483648) : w_E sc fr lo 12 [.ref 0, .int (ji k)] (hp μ, ρ) (.inl (some (.int (ji (if 0 ≤ k ∧ k < μ.1 b 1 then μ.2.2 (b + 1) k else -1))))) (hp μ, ρ) := by
  obtain ⟨hs, hr, hn⟩ := hb.sh
  refine w_S.of (L0 := [some (.ref 0), some (.int (ji k))]) rfl rfl (Nat.le_of_ble_eq_true rfl) (by rfl) ?_
  refine w_ld d_12_0 rfl rfl rfl ?_
  refine w_getR d_12_1 (by rfl) (by first | rfl | assumption) (by rfl) (by assumption) ?_
  refine w_ld d_12_4 rfl rfl rfl ?_
  refine w_cV1 (as := [_]) (rest := _) rfl d_12_5 (by rfl) (by rfl) (by first | rfl | assumption) (by rfl) (by rfl) (Nat.le_of_ble_eq_true rfl) (by omega) (by omega) (t_peek hs hr (by omega) hk) ?_
  refine w_iret d_12_8 rfl ?_
  exact ⟨rfl, rfl⟩
theorem t_fault {sc : Nat × (Nat → Int32)} {fr lo : Nat} {μ : Mem} {ρ : Nat × Nat × Nat}  : w_E sc fr lo 14 [.ref 0] (hp μ, ρ) (.inl (some (.int (ji (μ.1 20 6))))) (hp μ, ρ) := by
  refine w_S.of (L0 := [some (.ref 0)]) rfl rfl (Nat.le_of_ble_eq_true rfl) (by rfl) ?_
  refine w_ld d_14_0 rfl rfl rfl ?_
  refine w_getF d_14_1 (by rfl) (by first | rfl | assumption) (by rfl) (by rfl) ?_
  refine w_gI d_14_4 (by rfl) (by first | rfl | assumption) (by rfl) (by (try simp [stI, stA, stR]) <;> rfl) ?_
  refine w_iret d_14_7 rfl ?_
  exact ⟨rfl, rfl⟩
