/-! THE PURE PART, 7: contracts: the reference's small methods. The reference lies at 46: field k of it is μ.1 46 k, its arrays are 47 to 72 -/
theorem m_thrown {sc : Nat × (Nat → Int32)} {fr lo : Nat} {μ : Mem} {ρ : Nat × Nat × Nat}  : w_E sc fr lo 110 [.ref 46] (hp μ, ρ) (.inl (some (.int (ji (μ.1 46 0))))) (hp μ, ρ) := by
  refine w_S.of (L0 := [some (.ref 46)]) rfl rfl (Nat.le_of_ble_eq_true rfl) (by rfl) ?_
  refine w_ld d_110_0 rfl rfl rfl ?_
  refine w_gI d_110_1 (by rfl) (by first | rfl | assumption) (by rfl) (by (try simp [stI, stA, stR]) <;> rfl) ?_
  refine w_iret d_110_4 rfl ?_
  exact ⟨rfl, rfl⟩
theorem m_wipe {sc : Nat × (Nat → Int32)} {fr lo : Nat} {μ : Mem} {ρ : Nat × Nat × Nat}  : w_E sc fr lo 112 [.ref 46] (hp μ, ρ) (.inl none) (hp (stI (stI μ 46 0 0) 46 3 0), ρ) := by
  refine w_S.of (L0 := [some (.ref 46)]) rfl rfl (Nat.le_of_ble_eq_true rfl) (by rfl) ?_
  refine w_ld d_112_0 rfl rfl rfl ?_
  refine w_con d_112_1 ?_
  refine w_putI d_112_2 (by rfl) (by first | rfl | assumption) (by rfl) (fit_I (by rfl)) (by rfl) ?_
  refine w_ld d_112_5 rfl rfl rfl ?_
  refine w_con d_112_6 ?_
  refine w_putI d_112_7 (by rfl) (by first | rfl | assumption) (by rfl) (fit_I (by rfl)) (by rfl) ?_
  refine w_ret d_112_10 rfl ?_
  exact ⟨rfl, rfl⟩
theorem m_length {sc : Nat × (Nat → Int32)} {fr lo : Nat} {μ : Mem} {ρ : Nat × Nat × Nat}  : w_E sc fr lo 113 [.ref 46] (hp μ, ρ) (.inl (some (.int (ji (μ.1 46 3))))) (hp (stI μ 46 0 0), ρ) := by
  refine w_S.of (L0 := [some (.ref 46)]) rfl rfl (Nat.le_of_ble_eq_true rfl) (by rfl) ?_
  refine w_ld d_113_0 rfl rfl rfl ?_
  refine w_con d_113_1 ?_
  refine w_putI d_113_2 (by rfl) (by first | rfl | assumption) (by rfl) (fit_I (by rfl)) (by rfl) ?_
  refine w_ld d_113_5 rfl rfl rfl ?_
  refine w_gI d_113_6 (by rfl) (by first | rfl | assumption) (by rfl) (by (try simp [stI, stA, stR]) <;> rfl) ?_
  refine w_iret d_113_9 rfl ?_
  exact ⟨rfl, rfl⟩
theorem m_fault {sc : Nat × (Nat → Int32)} {fr lo : Nat} {μ : Mem} {ρ : Nat × Nat × Nat}  : w_E sc fr lo 152 [.ref 46] (hp μ, ρ) (.inl (some (.int (ji (μ.1 46 1))))) (hp (stI μ 46 0 0), ρ) := by
  refine w_S.of (L0 := [some (.ref 46)]) rfl rfl (Nat.le_of_ble_eq_true rfl) (by rfl) ?_
  refine w_ld d_152_0 rfl rfl rfl ?_
  refine w_con d_152_1 ?_
  refine w_putI d_152_2 (by rfl) (by first | rfl | assumption) (by rfl) (fit_I (by rfl)) (by rfl) ?_
  refine w_ld d_152_5 rfl rfl rfl ?_
  refine w_gI d_152_6 (by rfl) (by first | rfl | assumption) (by rfl) (by (try simp [stI, stA, stR]) <;> rfl) ?_
  refine w_iret d_152_9 rfl ?_
  exact ⟨rfl, rfl⟩
theorem m_look {sc : Nat × (Nat → Int32)} {fr lo : Nat} {μ : Mem} {ρ : Nat × Nat × Nat} (hc : 0 ≤ μ.1 46 3 ∧ μ.1 46 3 ≤ 240) {k : Int} (hk : -2147483648 ≤ k ∧ k < 2147483648) (h0 : 0 ≤ k) : w_E sc fr lo 119 [.ref 46, .int (ji k)] (hp μ, ρ) (.inl (some (.int (ji (if k < μ.1 46 3 then μ.2.2 47 k else 0))))) (hp μ, ρ) := by
  refine w_S.of (L0 := [some (.ref 46), some (.int (ji k))]) rfl rfl (Nat.le_of_ble_eq_true rfl) (by rfl) ?_
  refine w_ld d_119_0 rfl rfl rfl ?_
  refine w_ld d_119_1 rfl rfl rfl ?_
  refine w_gI d_119_2 (by rfl) (by first | rfl | assumption) (by rfl) (by (try simp [stI, stA, stR]) <;> rfl) ?_
  refine w_icmp_ge (g := 17) d_119_5 (by decide) (by omega) (fun h5 => ?_) (fun h5 => ?_)
  · refine w_con d_119_17 ?_
    refine w_iret d_119_18 rfl ?_
    first | (rw [if_pos (by omega)]; exact ⟨rfl, rfl⟩) | (rw [if_neg (by omega)]; exact ⟨rfl, rfl⟩)
  · refine w_ld d_119_8 rfl rfl rfl ?_
    refine w_getF d_119_9 (by rfl) (by first | rfl | assumption) (by rfl) (by rfl) ?_
    refine w_ld d_119_12 rfl rfl rfl ?_
    refine w_aI d_119_13 (by first | rfl | assumption) (by omega) (by (try simp [stI, stA, stR]) <;> rfl) ?_
    refine w_goto (g := 18) d_119_14 (by decide) ?_
    refine w_iret d_119_18 rfl ?_
    first | (rw [if_pos (by omega)]; exact ⟨rfl, rfl⟩) | (rw [if_neg (by omega)]; exact ⟨rfl, rfl⟩)
theorem m_at {sc : Nat × (Nat → Int32)} {fr lo : Nat} {μ : Mem} {ρ : Nat × Nat × Nat} (hc : 0 ≤ μ.1 46 3 ∧ μ.1 46 3 ≤ 240) {k : Int} (hk : -2147483648 ≤ k ∧ k < 2147483648) : w_E sc fr lo 114 [.ref 46, .int (ji k)] (hp μ, ρ) (.inl (some (.int (ji (if k < 0 ∨ μ.1 46 3 ≤ k then -1 else μ.2.2 47 k))))) (hp (stI μ 46 0 0), ρ) := by
  refine w_S.of (L0 := [some (.ref 46), some (.int (ji k))]) rfl rfl (Nat.le_of_ble_eq_true rfl) (by rfl) ?_
  refine w_ld d_114_0 rfl rfl rfl ?_
  refine w_con d_114_1 ?_
  refine w_putI d_114_2 (by rfl) (by first | rfl | assumption) (by rfl) (fit_I (by rfl)) (by rfl) ?_
  refine w_ld d_114_5 rfl rfl rfl ?_
  refine w_if_lt (g := 17) d_114_6 (by decide) (by omega) (fun h6 => ?_) (fun h6 => ?_)
  · refine w_con d_114_17 ?_
    refine w_goto (g := 27) d_114_18 (by decide) ?_
    refine w_iret d_114_27 rfl ?_
    first | (rw [if_pos (by omega)]; exact ⟨rfl, rfl⟩) | (rw [if_neg (by omega)]; exact ⟨rfl, rfl⟩)
  · refine w_ld d_114_9 rfl rfl rfl ?_
    refine w_ld d_114_10 rfl rfl rfl ?_
    refine w_gI d_114_11 (by rfl) (by first | rfl | assumption) (by rfl) (by (try simp [stI, stA, stR]) <;> rfl) ?_
    refine w_icmp_lt (g := 21) d_114_14 (by decide) (by omega) (fun h14 => ?_) (fun h14 => ?_)
    · refine w_ld d_114_21 rfl rfl rfl ?_
      refine w_getF d_114_22 (by rfl) (by first | rfl | assumption) (by rfl) (by rfl) ?_
      refine w_ld d_114_25 rfl rfl rfl ?_
      refine w_aI d_114_26 (by first | rfl | assumption) (by omega) (by (try simp [stI, stA, stR]) <;> rfl) ?_
      refine w_iret d_114_27 rfl ?_
      first | (rw [if_pos (by omega)]; exact ⟨rfl, rfl⟩) | (rw [if_neg (by omega)]; exact ⟨rfl, rfl⟩)
    · refine w_con d_114_17 ?_
      refine w_goto (g := 27) d_114_18 (by decide) ?_
      refine w_iret d_114_27 rfl ?_
      first | (rw [if_pos (by omega)]; exact ⟨rfl, rfl⟩) | (rw [if_neg (by omega)]; exact ⟨rfl, rfl⟩)
theorem m_fail {sc : Nat × (Nat → Int32)} {fr lo : Nat} {μ : Mem} {ρ : Nat × Nat × Nat} (hw : -2147483648 ≤ μ.1 46 16 ∧ μ.1 46 16 < 2147483648) {k : Int} : w_E sc fr lo 121 [.ref 46, .int (ji k)] (hp μ, ρ) (.inl none) (hp (stI μ 46 16 (if μ.1 46 16 < 0 then k else μ.1 46 16)), ρ) := by
  refine w_S.of (L0 := [some (.ref 46), some (.int (ji k))]) rfl rfl (Nat.le_of_ble_eq_true rfl) (by rfl) ?_
  refine w_ld d_121_0 rfl rfl rfl ?_
  refine w_ld d_121_1 rfl rfl rfl ?_
  refine w_gI d_121_2 (by rfl) (by first | rfl | assumption) (by rfl) (by (try simp [stI, stA, stR]) <;> rfl) ?_
  refine w_if_ge (g := 12) d_121_5 (by decide) (by omega) (fun h5 => ?_) (fun h5 => ?_)
  · refine w_ld d_121_12 rfl rfl rfl ?_
    refine w_gI d_121_13 (by rfl) (by first | rfl | assumption) (by rfl) (by (try simp [stI, stA, stR]) <;> rfl) ?_
    refine w_putI d_121_16 (by rfl) (by first | rfl | assumption) (by rfl) (fit_I (by rfl)) (by rfl) ?_
    refine w_ret d_121_19 rfl ?_
    first | (rw [if_pos (by omega)]; exact ⟨rfl, rfl⟩) | (rw [if_neg (by omega)]; exact ⟨rfl, rfl⟩)
  · refine w_ld d_121_8 rfl rfl rfl ?_
    refine w_goto (g := 16) d_121_9 (by decide) ?_
    refine w_putI d_121_16 (by rfl) (by first | rfl | assumption) (by rfl) (fit_I (by rfl)) (by rfl) ?_
    refine w_ret d_121_19 rfl ?_
    first | (rw [if_pos (by omega)]; exact ⟨rfl, rfl⟩) | (rw [if_neg (by omega)]; exact ⟨rfl, rfl⟩)
theorem m_noSlot {sc : Nat × (Nat → Int32)} {fr lo : Nat} {μ : Mem} {ρ : Nat × Nat × Nat} {k : Int} (hk : -2147483648 ≤ k ∧ k < 2147483648) : w_E sc fr lo 116 [.int (ji k)] (hp μ, ρ) (.inl (some (.int (ji (if k < 0 ∨ 1 < k then 1 else 0))))) (hp μ, ρ) := by
  refine w_S.of (L0 := [some (.int (ji k))]) rfl rfl (Nat.le_of_ble_eq_true rfl) (by rfl) ?_
  refine w_ld d_116_0 rfl rfl rfl ?_
  refine w_if_lt (g := 9) d_116_1 (by decide) (by omega) (fun h1 => ?_) (fun h1 => ?_)
  · refine w_con d_116_9 ?_
    refine w_goto (g := 14) d_116_10 (by decide) ?_
    refine w_zret d_116_14 rfl (by omega) ?_
    first | (rw [if_pos (by omega)]; exact ⟨rfl, rfl⟩) | (rw [if_neg (by omega)]; exact ⟨rfl, rfl⟩)
  · refine w_ld d_116_4 rfl rfl rfl ?_
    refine w_con d_116_5 ?_
    refine w_icmp_le (g := 13) d_116_6 (by decide) (by omega) (fun h6 => ?_) (fun h6 => ?_)
    · refine w_con d_116_13 ?_
      refine w_zret d_116_14 rfl (by omega) ?_
      first | (rw [if_pos (by omega)]; exact ⟨rfl, rfl⟩) | (rw [if_neg (by omega)]; exact ⟨rfl, rfl⟩)
    · refine w_con d_116_9 ?_
      refine w_goto (g := 14) d_116_10 (by decide) ?_
      refine w_zret d_116_14 rfl (by omega) ?_
      first | (rw [if_pos (by omega)]; exact ⟨rfl, rfl⟩) | (rw [if_neg (by omega)]; exact ⟨rfl, rfl⟩)
theorem m_digit {sc : Nat × (Nat → Int32)} {fr lo : Nat} {μ : Mem} {ρ : Nat × Nat × Nat} {k : Int} (hk : -2147483648 ≤ k ∧ k < 2147483648) : w_E sc fr lo 141 [.int (ji k)] (hp μ, ρ) (.inl (some (.int (ji (if 48 ≤ k ∧ k ≤ 57 then 1 else 0))))) (hp μ, ρ) := by
  refine w_S.of (L0 := [some (.int (ji k))]) rfl rfl (Nat.le_of_ble_eq_true rfl) (by rfl) ?_
  refine w_ld d_141_0 rfl rfl rfl ?_
  refine w_bip d_141_1 (by decide) ?_
  refine w_icmp_lt (g := 16) d_141_3 (by decide) (by omega) (fun h3 => ?_) (fun h3 => ?_)
  · refine w_con d_141_16 ?_
    refine w_zret d_141_17 rfl (by omega) ?_
    first | (rw [if_pos (by omega)]; exact ⟨rfl, rfl⟩) | (rw [if_neg (by omega)]; exact ⟨rfl, rfl⟩)
  · refine w_ld d_141_6 rfl rfl rfl ?_
    refine w_bip d_141_7 (by decide) ?_
    refine w_icmp_gt (g := 16) d_141_9 (by decide) (by omega) (fun h9 => ?_) (fun h9 => ?_)
    · refine w_con d_141_16 ?_
      refine w_zret d_141_17 rfl (by omega) ?_
      first | (rw [if_pos (by omega)]; exact ⟨rfl, rfl⟩) | (rw [if_neg (by omega)]; exact ⟨rfl, rfl⟩)
    · refine w_con d_141_12 ?_
      refine w_goto (g := 17) d_141_13 (by decide) ?_
      refine w_zret d_141_17 rfl (by omega) ?_
      first | (rw [if_pos (by omega)]; exact ⟨rfl, rfl⟩) | (rw [if_neg (by omega)]; exact ⟨rfl, rfl⟩)
theorem m_six {sc : Nat × (Nat → Int32)} {fr lo : Nat} {μ : Mem} {ρ : Nat × Nat × Nat} {k : Int} (hk : -2147483648 ≤ k ∧ k < 2147483648) : w_E sc fr lo 128 [.int (ji k)] (hp μ, ρ) (.inl (some (.int (ji (if 48 ≤ k ∧ k ≤ 53 then 1 else 0))))) (hp μ, ρ) := by
  refine w_S.of (L0 := [some (.int (ji k))]) rfl rfl (Nat.le_of_ble_eq_true rfl) (by rfl) ?_
  refine w_ld d_128_0 rfl rfl rfl ?_
  refine w_bip d_128_1 (by decide) ?_
  refine w_icmp_lt (g := 16) d_128_3 (by decide) (by omega) (fun h3 => ?_) (fun h3 => ?_)
  · refine w_con d_128_16 ?_
    refine w_zret d_128_17 rfl (by omega) ?_
    first | (rw [if_pos (by omega)]; exact ⟨rfl, rfl⟩) | (rw [if_neg (by omega)]; exact ⟨rfl, rfl⟩)
  · refine w_ld d_128_6 rfl rfl rfl ?_
    refine w_bip d_128_7 (by decide) ?_
    refine w_icmp_gt (g := 16) d_128_9 (by decide) (by omega) (fun h9 => ?_) (fun h9 => ?_)
    · refine w_con d_128_16 ?_
      refine w_zret d_128_17 rfl (by omega) ?_
      first | (rw [if_pos (by omega)]; exact ⟨rfl, rfl⟩) | (rw [if_neg (by omega)]; exact ⟨rfl, rfl⟩)
    · refine w_con d_128_12 ?_
      refine w_goto (g := 17) d_128_13 (by decide) ?_
      refine w_zret d_128_17 rfl (by omega) ?_
      first | (rw [if_pos (by omega)]; exact ⟨rfl, rfl⟩) | (rw [if_neg (by omega)]; exact ⟨rfl, rfl⟩)
theorem m_alpha {sc : Nat × (Nat → Int32)} {fr lo : Nat} {μ : Mem} {ρ : Nat × Nat × Nat} {k : Int} (hk : -2147483648 ≤ k ∧ k < 2147483648) : w_E sc fr lo 143 [.int (ji k)] (hp μ, ρ) (.inl (some (.int (ji (if 97 ≤ k ∧ k ≤ 122 ∨ 65 ≤ k ∧ k ≤ 90 then 1 else 0))))) (hp μ, ρ) := by
  refine w_S.of (L0 := [some (.int (ji k))]) rfl rfl (Nat.le_of_ble_eq_true rfl) (by rfl) ?_
  refine w_ld d_143_0 rfl rfl rfl ?_
  refine w_bip d_143_1 (by decide) ?_
  refine w_icmp_lt (g := 12) d_143_3 (by decide) (by omega) (fun h3 => ?_) (fun h3 => ?_)
  · refine w_ld d_143_12 rfl rfl rfl ?_
    refine w_bip d_143_13 (by decide) ?_
    refine w_icmp_lt (g := 28) d_143_15 (by decide) (by omega) (fun h15 => ?_) (fun h15 => ?_)
    · refine w_con d_143_28 ?_
      refine w_zret d_143_29 rfl (by omega) ?_
      first | (rw [if_pos (by omega)]; exact ⟨rfl, rfl⟩) | (rw [if_neg (by omega)]; exact ⟨rfl, rfl⟩)
    · refine w_ld d_143_18 rfl rfl rfl ?_
      refine w_bip d_143_19 (by decide) ?_
      refine w_icmp_gt (g := 28) d_143_21 (by decide) (by omega) (fun h21 => ?_) (fun h21 => ?_)
      · refine w_con d_143_28 ?_
        refine w_zret d_143_29 rfl (by omega) ?_
        first | (rw [if_pos (by omega)]; exact ⟨rfl, rfl⟩) | (rw [if_neg (by omega)]; exact ⟨rfl, rfl⟩)
      · refine w_con d_143_24 ?_
        refine w_goto (g := 29) d_143_25 (by decide) ?_
        refine w_zret d_143_29 rfl (by omega) ?_
        first | (rw [if_pos (by omega)]; exact ⟨rfl, rfl⟩) | (rw [if_neg (by omega)]; exact ⟨rfl, rfl⟩)
  · refine w_ld d_143_6 rfl rfl rfl ?_
    refine w_bip d_143_7 (by decide) ?_
    refine w_icmp_le (g := 24) d_143_9 (by decide) (by omega) (fun h9 => ?_) (fun h9 => ?_)
    · refine w_con d_143_24 ?_
      refine w_goto (g := 29) d_143_25 (by decide) ?_
      refine w_zret d_143_29 rfl (by omega) ?_
      first | (rw [if_pos (by omega)]; exact ⟨rfl, rfl⟩) | (rw [if_neg (by omega)]; exact ⟨rfl, rfl⟩)
    · refine w_ld d_143_12 rfl rfl rfl ?_
      refine w_bip d_143_13 (by decide) ?_
      refine w_icmp_lt (g := 28) d_143_15 (by decide) (by omega) (fun h15 => ?_) (fun h15 => ?_)
      · refine w_con d_143_28 ?_
        refine w_zret d_143_29 rfl (by omega) ?_
        first | (rw [if_pos (by omega)]; exact ⟨rfl, rfl⟩) | (rw [if_neg (by omega)]; exact ⟨rfl, rfl⟩)
      · refine w_ld d_143_18 rfl rfl rfl ?_
        refine w_bip d_143_19 (by decide) ?_
        refine w_icmp_gt (g := 28) d_143_21 (by decide) (by omega) (fun h21 => ?_) (fun h21 => ?_)
        · refine w_con d_143_28 ?_
          refine w_zret d_143_29 rfl (by omega) ?_
          first | (rw [if_pos (by omega)]; exact ⟨rfl, rfl⟩) | (rw [if_neg (by omega)]; exact ⟨rfl, rfl⟩)
        · refine w_con d_143_24 ?_
          refine w_goto (g := 29) d_143_25 (by decide) ?_
          refine w_zret d_143_29 rfl (by omega) ?_
          first | (rw [if_pos (by omega)]; exact ⟨rfl, rfl⟩) | (rw [if_neg (by omega)]; exact ⟨rfl, rfl⟩)
theorem m_area {sc : Nat × (Nat → Int32)} {fr lo : Nat} {μ : Mem} {ρ : Nat × Nat × Nat} (hw : μ.1 46 4 = 0 ∨ μ.1 46 4 = 1) {k : Int} : w_E sc fr lo 150 [.ref 46, .int (ji k)] (hp μ, ρ) (.inl (some (.int (ji (if μ.1 46 4 = 0 then k else 1 - k))))) (hp μ, ρ) := by
  refine w_S.of (L0 := [some (.ref 46), some (.int (ji k))]) rfl rfl (Nat.le_of_ble_eq_true rfl) (by rfl) ?_
  refine w_ld d_150_0 rfl rfl rfl ?_
  refine w_gI d_150_1 (by rfl) (by first | rfl | assumption) (by rfl) (by (try simp [stI, stA, stR]) <;> rfl) ?_
  refine w_if_eq (g := 13) d_150_4 (by decide) (by omega) (fun h4 => ?_) (fun h4 => ?_)
  · refine w_ld d_150_13 rfl rfl rfl ?_
    refine w_iret d_150_14 rfl ?_
    first | (rw [if_pos (by omega)]; exact ⟨rfl, rfl⟩) | (rw [if_neg (by omega)]; exact ⟨rfl, rfl⟩)
  · refine w_con d_150_7 ?_
    refine w_ld d_150_8 rfl rfl rfl ?_
    refine w_isub d_150_9 ?_
    refine w_goto (g := 14) d_150_10 (by decide) ?_
    refine w_iret d_150_14 rfl ?_
    first | (rw [if_pos (by omega)]; exact ⟨rfl, rfl⟩) | (rw [if_neg (by omega)]; exact ⟨rfl, rfl⟩)
theorem m_swap {sc : Nat × (Nat → Int32)} {fr lo : Nat} {μ : Mem} {ρ : Nat × Nat × Nat} (hw : μ.1 46 4 = 0 ∨ μ.1 46 4 = 1) : w_E sc fr lo 180 [.ref 46] (hp μ, ρ) (.inl none) (hp (stI (stI μ 46 0 0) 46 4 (if μ.1 46 4 = 0 then 1 else 0)), ρ) := by
  refine w_S.of (L0 := [some (.ref 46)]) rfl rfl (Nat.le_of_ble_eq_true rfl) (by rfl) ?_
  refine w_ld d_180_0 rfl rfl rfl ?_
  refine w_con d_180_1 ?_
  refine w_putI d_180_2 (by rfl) (by first | rfl | assumption) (by rfl) (fit_I (by rfl)) (by rfl) ?_
  refine w_ld d_180_5 rfl rfl rfl ?_
  refine w_ld d_180_6 rfl rfl rfl ?_
  refine w_gI d_180_7 (by rfl) (by first | rfl | assumption) (by rfl) (by (try simp [stI, stA, stR]) <;> rfl) ?_
  refine w_if_ne (g := 17) d_180_10 (by decide) (by omega) (fun h10 => ?_) (fun h10 => ?_)
  · refine w_con d_180_17 ?_
    refine w_putI d_180_18 (by rfl) (by first | rfl | assumption) (by rfl) (fit_Z (by rfl) (by omega)) (by rfl) ?_
    refine w_ret d_180_21 rfl ?_
    first | (rw [if_pos (by omega)]; exact ⟨rfl, rfl⟩) | (rw [if_neg (by omega)]; exact ⟨rfl, rfl⟩)
  · refine w_con d_180_13 ?_
    refine w_goto (g := 18) d_180_14 (by decide) ?_
    refine w_putI d_180_18 (by rfl) (by first | rfl | assumption) (by rfl) (fit_Z (by rfl) (by omega)) (by rfl) ?_
    refine w_ret d_180_21 rfl ?_
    first | (rw [if_pos (by omega)]; exact ⟨rfl, rfl⟩) | (rw [if_neg (by omega)]; exact ⟨rfl, rfl⟩)
theorem m_rawPut {sc : Nat × (Nat → Int32)} {fr lo : Nat} {μ : Mem} {ρ : Nat × Nat × Nat} (hc : 0 ≤ μ.1 46 41 ∧ μ.1 46 41 < 300) {k : Int} : w_E sc fr lo 159 [.ref 46, .int (ji k)] (hp μ, ρ) (.inl none) (hp (stI (stA μ 71 (μ.1 46 41) k) 46 41 (μ.1 46 41 + 1)), ρ) := by
  refine w_S.of (L0 := [some (.ref 46), some (.int (ji k))]) rfl rfl (Nat.le_of_ble_eq_true rfl) (by rfl) ?_
  refine w_ld d_159_0 rfl rfl rfl ?_
  refine w_getF d_159_1 (by rfl) (by first | rfl | assumption) (by rfl) (by rfl) ?_
  refine w_ld d_159_4 rfl rfl rfl ?_
  refine w_gI d_159_5 (by rfl) (by first | rfl | assumption) (by rfl) (by (try simp [stI, stA, stR]) <;> rfl) ?_
  refine w_ld d_159_8 rfl rfl rfl ?_
  refine w_iast d_159_9 (by first | rfl | assumption) (by omega) ?_
  refine w_ld d_159_10 rfl rfl rfl ?_
  refine w_stk d_159_11 rfl ?_
  refine w_gI d_159_12 (by rfl) (by first | rfl | assumption) (by rfl) (by (try simp [stI, stA, stR]) <;> rfl) ?_
  refine w_con d_159_15 ?_
  refine w_iadd d_159_16 ?_
  refine w_putI d_159_17 (by rfl) (by first | rfl | assumption) (by rfl) (fit_I (by rfl)) (by rfl) ?_
  refine w_ret d_159_20 rfl ?_
  exact ⟨rfl, rfl⟩
theorem m_put {sc : Nat × (Nat → Int32)} {fr lo : Nat} {μ : Mem} {ρ : Nat × Nat × Nat} (hc : 0 ≤ μ.1 46 30 ∧ μ.1 46 30 ≤ 240) {k : Int} : w_E sc fr lo 156 [.ref 46, .int (ji k)] (hp μ, ρ) (.inl none) (if μ.1 46 30 = 240 then (hp (stI μ 46 31 1), ρ) else (hp (stI (stA μ 64 (μ.1 46 30) k) 46 30 (μ.1 46 30 + 1)), ρ)) := by
  refine w_S.of (L0 := [some (.ref 46), some (.int (ji k))]) rfl rfl (Nat.le_of_ble_eq_true rfl) (by rfl) ?_
  refine w_ld d_156_0 rfl rfl rfl ?_
  refine w_gI d_156_1 (by rfl) (by first | rfl | assumption) (by rfl) (by (try simp [stI, stA, stR]) <;> rfl) ?_
  refine w_sip d_156_4 (by decide) ?_
  refine w_icmp_ne (g := 16) d_156_7 (by decide) (by omega) (fun h7 => ?_) (fun h7 => ?_)
  · refine w_ld d_156_16 rfl rfl rfl ?_
    refine w_getF d_156_17 (by rfl) (by first | rfl | assumption) (by rfl) (by rfl) ?_
    refine w_ld d_156_20 rfl rfl rfl ?_
    refine w_gI d_156_21 (by rfl) (by first | rfl | assumption) (by rfl) (by (try simp [stI, stA, stR]) <;> rfl) ?_
    refine w_ld d_156_24 rfl rfl rfl ?_
    refine w_iast d_156_25 (by first | rfl | assumption) (by omega) ?_
    refine w_ld d_156_26 rfl rfl rfl ?_
    refine w_stk d_156_27 rfl ?_
    refine w_gI d_156_28 (by rfl) (by first | rfl | assumption) (by rfl) (by (try simp [stI, stA, stR]) <;> rfl) ?_
    refine w_con d_156_31 ?_
    refine w_iadd d_156_32 ?_
    refine w_putI d_156_33 (by rfl) (by first | rfl | assumption) (by rfl) (fit_I (by rfl)) (by rfl) ?_
    refine w_ret d_156_36 rfl ?_
    first | (rw [if_pos (by omega)]; exact ⟨rfl, rfl⟩) | (rw [if_neg (by omega)]; exact ⟨rfl, rfl⟩)
  · refine w_ld d_156_10 rfl rfl rfl ?_
    refine w_con d_156_11 ?_
    refine w_putI d_156_12 (by rfl) (by first | rfl | assumption) (by rfl) (fit_Z (by rfl) (by omega)) (by rfl) ?_
    refine w_ret d_156_15 rfl ?_
    first | (rw [if_pos (by omega)]; exact ⟨rfl, rfl⟩) | (rw [if_neg (by omega)]; exact ⟨rfl, rfl⟩)
theorem m_setWord {sc : Nat × (Nat → Int32)} {fr lo : Nat} {μ : Mem} {ρ : Nat × Nat × Nat} {v p q : Int} (hv : 0 ≤ v ∧ v < 384) : w_E sc fr lo 133 [.ref 46, .int (ji v), .int (ji p), .int (ji q)] (hp μ, ρ) (.inl none) (hp (stA (stA μ 51 v p) 52 v q), ρ) := by
  refine w_S.of (L0 := [some (.ref 46), some (.int (ji v)), some (.int (ji p)), some (.int (ji q))]) rfl rfl (Nat.le_of_ble_eq_true rfl) (by rfl) ?_
  refine w_ld d_133_0 rfl rfl rfl ?_
  refine w_getF d_133_1 (by rfl) (by first | rfl | assumption) (by rfl) (by rfl) ?_
  refine w_ld d_133_4 rfl rfl rfl ?_
  refine w_ld d_133_5 rfl rfl rfl ?_
  refine w_iast d_133_6 (by first | rfl | assumption) (by omega) ?_
  refine w_ld d_133_7 rfl rfl rfl ?_
  refine w_getF d_133_8 (by rfl) (by first | rfl | assumption) (by rfl) (by rfl) ?_
  refine w_ld d_133_11 rfl rfl rfl ?_
  refine w_ld d_133_12 rfl rfl rfl ?_
  refine w_iast d_133_13 (by first | rfl | assumption) (by omega) ?_
  refine w_ret d_133_14 rfl ?_
  exact ⟨rfl, rfl⟩
