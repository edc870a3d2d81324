/-! THE PURE PART, 11: contracts: the reference's calls that ask -/
theorem m_noSlot0 {sc : Nat × (Nat → Int32)} {fr lo : Nat} {μ : Mem} {ρ : Nat × Nat × Nat} {k : Int} (hk : k = 0 ∨ k = 1) : w_E sc fr lo 116 [.int (ji k)] (hp μ, ρ) (.inl (some (.int (ji 0)))) (hp μ, ρ) := by
  refine w_S.of (L0 := [some (.int (ji k))]) rfl rfl (Nat.le_of_ble_eq_true rfl) (by rfl) ?_
  refine w_ld d_116_0 rfl rfl rfl ?_
  refine w_if_lt (g := 9) d_116_1 (by decide) (by omega) (fun h1 => ?_) (fun h1 => ?_)
  · refine w_con d_116_9 ?_
    refine w_goto (g := 14) d_116_10 (by decide) ?_
    refine w_zret d_116_14 rfl (by omega) ?_
    first | exact ⟨rfl, rfl⟩ | omega
  · refine w_ld d_116_4 rfl rfl rfl ?_
    refine w_con d_116_5 ?_
    refine w_icmp_le (g := 13) d_116_6 (by decide) (by omega) (fun h6 => ?_) (fun h6 => ?_)
    · refine w_con d_116_13 ?_
      refine w_zret d_116_14 rfl (by omega) ?_
      first | exact ⟨rfl, rfl⟩ | omega
    · refine w_con d_116_9 ?_
      refine w_goto (g := 14) d_116_10 (by decide) ?_
      refine w_zret d_116_14 rfl (by omega) ?_
      first | exact ⟨rfl, rfl⟩ | omega
theorem m_noSlot1 {sc : Nat × (Nat → Int32)} {fr lo : Nat} {μ : Mem} {ρ : Nat × Nat × Nat} {k : Int} (hk : -2147483648 ≤ k ∧ k < 2147483648) (h01 : ¬ (k = 0 ∨ k = 1)) : w_E sc fr lo 116 [.int (ji k)] (hp μ, ρ) (.inl (some (.int (ji 1)))) (hp μ, ρ) := by
  refine w_S.of (L0 := [some (.int (ji k))]) rfl rfl (Nat.le_of_ble_eq_true rfl) (by rfl) ?_
  refine w_ld d_116_0 rfl rfl rfl ?_
  refine w_if_lt (g := 9) d_116_1 (by decide) (by omega) (fun h1 => ?_) (fun h1 => ?_)
  · refine w_con d_116_9 ?_
    refine w_goto (g := 14) d_116_10 (by decide) ?_
    refine w_zret d_116_14 rfl (by omega) ?_
    first | exact ⟨rfl, rfl⟩ | omega
  · refine w_ld d_116_4 rfl rfl rfl ?_
    refine w_con d_116_5 ?_
    refine w_icmp_le (g := 13) d_116_6 (by decide) (by omega) (fun h6 => ?_) (fun h6 => ?_)
    · refine w_con d_116_13 ?_
      refine w_zret d_116_14 rfl (by omega) ?_
      first | exact ⟨rfl, rfl⟩ | omega
    · refine w_con d_116_9 ?_
      refine w_goto (g := 14) d_116_10 (by decide) ?_
      refine w_zret d_116_14 rfl (by omega) ?_
      first | exact ⟨rfl, rfl⟩ | omega
theorem m_are {sc : Nat × (Nat → Int32)} {fr lo : Nat} {μ : Mem} {ρ : Nat × Nat × Nat} {k : Int} {ar : Int} (hA : μ.1 46 4 = 0 ∧ ar = k ∨ μ.1 46 4 = 1 ∧ ar = 1 - k) : w_E sc fr lo 150 [.ref 46, .int (ji k)] (hp μ, ρ) (.inl (some (.int (ji ar)))) (hp μ, ρ) := by
  refine w_S.of (L0 := [some (.ref 46), some (.int (ji k))]) rfl rfl (Nat.le_of_ble_eq_true rfl) (by rfl) ?_
  refine w_ld d_150_0 rfl rfl rfl ?_
  refine w_gI d_150_1 (by rfl) (by first | rfl | assumption) (by rfl) (by (try simp [stI, stA, stR]) <;> rfl) ?_
  refine w_if_eq (g := 13) d_150_4 (by decide) (by omega) (fun h4 => ?_) (fun h4 => ?_)
  · refine w_ld d_150_13 rfl rfl rfl ?_
    refine w_iret d_150_14 rfl ?_
    first | (rw [show ar = k by omega]; exact ⟨rfl, rfl⟩) | (rw [show ar = 1 - k by omega]; exact ⟨rfl, rfl⟩)
  · refine w_con d_150_7 ?_
    refine w_ld d_150_8 rfl rfl rfl ?_
    refine w_isub d_150_9 ?_
    refine w_goto (g := 14) d_150_10 (by decide) ?_
    refine w_iret d_150_14 rfl ?_
    first | (rw [show ar = k by omega]; exact ⟨rfl, rfl⟩) | (rw [show ar = 1 - k by omega]; exact ⟨rfl, rfl⟩)
theorem m_values {sc : Nat × (Nat → Int32)} {fr lo : Nat} {μ : Mem} {ρ : Nat × Nat × Nat} {k : Int} (hk : k = 0 ∨ k = 1) {ar : Int} (hA : μ.1 46 4 = 0 ∧ ar = k ∨ μ.1 46 4 = 1 ∧ ar = 1 - k) (hf : 5 ≤ fr) (hl : 200 ≤ lo) : w_E sc fr lo 172 [.ref 46, .int (ji k)] (hp μ, ρ) (.inl (some (.int (ji (μ.2.2 48 ar))))) (hp (stI μ 46 0 0), ρ) := by
  refine w_S.of (L0 := [some (.ref 46), some (.int (ji k))]) rfl rfl (Nat.le_of_ble_eq_true rfl) (by rfl) ?_
  refine w_ld d_172_0 rfl rfl rfl ?_
  refine w_ld d_172_1 rfl rfl rfl ?_
  refine w_cS1 (as := [_]) (rest := _) rfl d_172_2 (by rfl) (by rfl) (by rfl) (by rfl) (Nat.le_of_ble_eq_true rfl) (by omega) (by omega) (m_noSlot0 hk) ?_
  refine w_if_eq (g := 12) d_172_5 (by decide) (by omega) (fun h5 => ?_) (fun h5 => ?_)
  · refine w_con d_172_12 ?_
    refine w_putI d_172_13 (by rfl) (by first | rfl | assumption) (by rfl) (fit_I (by rfl)) (by rfl) ?_
    refine w_ld d_172_16 rfl rfl rfl ?_
    refine w_gI d_172_17 (by rfl) (by first | rfl | assumption) (by rfl) (by (try simp [stI, stA, stR]) <;> rfl) ?_
    refine w_if_le (g := 27) d_172_20 (by decide) (by omega) (fun h20 => ?_) (fun h20 => ?_)
    · refine w_ld d_172_27 rfl rfl rfl ?_
      refine w_getF d_172_28 (by rfl) (by first | rfl | assumption) (by rfl) (by rfl) ?_
      refine w_ld d_172_31 rfl rfl rfl ?_
      refine w_ld d_172_32 rfl rfl rfl ?_
      refine w_cV1 (as := [_]) (rest := _) rfl d_172_33 (by rfl) (by rfl) (by first | rfl | assumption) (by rfl) (by rfl) (Nat.le_of_ble_eq_true rfl) (by omega) (by omega) (m_are (ar := ar) (by simpa [stI] using hA)) ?_
      refine w_aI d_172_36 (by first | rfl | assumption) (by omega) (by (try simp [stI, stA, stR]) <;> rfl) ?_
      refine w_iret d_172_37 rfl ?_
      exact ⟨rfl, rfl⟩
    · omega
  · omega
theorem m_valuesx {sc : Nat × (Nat → Int32)} {fr lo : Nat} {μ : Mem} {ρ : Nat × Nat × Nat} {k : Int} (hk : -2147483648 ≤ k ∧ k < 2147483648) (h01 : ¬ (k = 0 ∨ k = 1)) (hf : 5 ≤ fr) (hl : 200 ≤ lo) : w_E sc fr lo 172 [.ref 46, .int (ji k)] (hp μ, ρ) (.inl (some (.int (ji 0)))) (hp (stI μ 46 0 1), ρ) := by
  refine w_S.of (L0 := [some (.ref 46), some (.int (ji k))]) rfl rfl (Nat.le_of_ble_eq_true rfl) (by rfl) ?_
  refine w_ld d_172_0 rfl rfl rfl ?_
  refine w_ld d_172_1 rfl rfl rfl ?_
  refine w_cS1 (as := [_]) (rest := _) rfl d_172_2 (by rfl) (by rfl) (by rfl) (by rfl) (Nat.le_of_ble_eq_true rfl) (by omega) (by omega) (m_noSlot1 hk h01) ?_
  refine w_if_eq (g := 12) d_172_5 (by decide) (by omega) (fun h5 => ?_) (fun h5 => ?_)
  · omega
  · refine w_con d_172_8 ?_
    refine w_goto (g := 13) d_172_9 (by decide) ?_
    refine w_putI d_172_13 (by rfl) (by first | rfl | assumption) (by rfl) (fit_I (by rfl)) (by rfl) ?_
    refine w_ld d_172_16 rfl rfl rfl ?_
    refine w_gI d_172_17 (by rfl) (by first | rfl | assumption) (by rfl) (by (try simp [stI, stA, stR]) <;> rfl) ?_
    refine w_if_le (g := 27) d_172_20 (by decide) (by omega) (fun h20 => ?_) (fun h20 => ?_)
    · omega
    · refine w_con d_172_23 ?_
      refine w_goto (g := 37) d_172_24 (by decide) ?_
      refine w_iret d_172_37 rfl ?_
      exact ⟨rfl, rfl⟩
theorem m_none {sc : Nat × (Nat → Int32)} {fr lo : Nat} {μ : Mem} {ρ : Nat × Nat × Nat} {k : Int} (hk : k = 0 ∨ k = 1) {ar : Int} (hA : μ.1 46 4 = 0 ∧ ar = k ∨ μ.1 46 4 = 1 ∧ ar = 1 - k) (hm : 0 ≤ μ.2.2 48 ar ∧ μ.2.2 48 ar ≤ 128) {v : Int} (hv : 0 ≤ v ∧ v < μ.2.2 48 ar) (hf : 5 ≤ fr) (hl : 200 ≤ lo) : w_E sc fr lo 174 [.ref 46, .int (ji k), .int (ji v)] (hp μ, ρ) (.inl (some (.int (ji 0)))) (hp (stI μ 46 0 0), ρ) := by
  refine w_S.of (L0 := [some (.ref 46), some (.int (ji k)), some (.int (ji v))]) rfl rfl (Nat.le_of_ble_eq_true rfl) (by rfl) ?_
  refine w_ld d_174_0 rfl rfl rfl ?_
  refine w_ld d_174_1 rfl rfl rfl ?_
  refine w_cS1 (as := [_]) (rest := _) rfl d_174_2 (by rfl) (by rfl) (by rfl) (by rfl) (Nat.le_of_ble_eq_true rfl) (by omega) (by omega) (m_noSlot0 hk) ?_
  refine w_if_ne (g := 26) d_174_5 (by decide) (by omega) (fun h5 => ?_) (fun h5 => ?_)
  · omega
  · refine w_ld d_174_8 rfl rfl rfl ?_
    refine w_if_lt (g := 26) d_174_9 (by decide) (by omega) (fun h9 => ?_) (fun h9 => ?_)
    · omega
    · refine w_ld d_174_12 rfl rfl rfl ?_
      refine w_ld d_174_13 rfl rfl rfl ?_
      refine w_getF d_174_14 (by rfl) (by first | rfl | assumption) (by rfl) (by rfl) ?_
      refine w_ld d_174_17 rfl rfl rfl ?_
      refine w_ld d_174_18 rfl rfl rfl ?_
      refine w_cV1 (as := [_]) (rest := _) rfl d_174_19 (by rfl) (by rfl) (by first | rfl | assumption) (by rfl) (by rfl) (Nat.le_of_ble_eq_true rfl) (by omega) (by omega) (m_are hA) ?_
      refine w_aI d_174_22 (by first | rfl | assumption) (by omega) (by (try simp [stI, stA, stR]) <;> rfl) ?_
      refine w_icmp_lt (g := 30) d_174_23 (by decide) (by omega) (fun h23 => ?_) (fun h23 => ?_)
      · refine w_con d_174_30 ?_
        refine w_putI d_174_31 (by rfl) (by first | rfl | assumption) (by rfl) (fit_I (by rfl)) (by rfl) ?_
        refine w_ld d_174_34 rfl rfl rfl ?_
        refine w_gI d_174_35 (by rfl) (by first | rfl | assumption) (by rfl) (by (try simp [stI, stA, stR]) <;> rfl) ?_
        refine w_if_le (g := 45) d_174_38 (by decide) (by omega) (fun h38 => ?_) (fun h38 => ?_)
        · refine w_con d_174_45 ?_
          refine w_zret d_174_46 rfl (by omega) ?_
          exact ⟨rfl, rfl⟩
        · omega
      · omega
theorem m_nonex1 {sc : Nat × (Nat → Int32)} {fr lo : Nat} {μ : Mem} {ρ : Nat × Nat × Nat} {k : Int} (hk : -2147483648 ≤ k ∧ k < 2147483648) {v : Int} (h01 : ¬ (k = 0 ∨ k = 1)) (hf : 5 ≤ fr) (hl : 200 ≤ lo) : w_E sc fr lo 174 [.ref 46, .int (ji k), .int (ji v)] (hp μ, ρ) (.inl (some (.int (ji 1)))) (hp (stI μ 46 0 1), ρ) := by
  refine w_S.of (L0 := [some (.ref 46), some (.int (ji k)), some (.int (ji v))]) rfl rfl (Nat.le_of_ble_eq_true rfl) (by rfl) ?_
  refine w_ld d_174_0 rfl rfl rfl ?_
  refine w_ld d_174_1 rfl rfl rfl ?_
  refine w_cS1 (as := [_]) (rest := _) rfl d_174_2 (by rfl) (by rfl) (by rfl) (by rfl) (Nat.le_of_ble_eq_true rfl) (by omega) (by omega) (m_noSlot1 hk h01) ?_
  refine w_if_ne (g := 26) d_174_5 (by decide) (by omega) (fun h5 => ?_) (fun h5 => ?_)
  · refine w_con d_174_26 ?_
    refine w_goto (g := 31) d_174_27 (by decide) ?_
    refine w_putI d_174_31 (by rfl) (by first | rfl | assumption) (by rfl) (fit_I (by rfl)) (by rfl) ?_
    refine w_ld d_174_34 rfl rfl rfl ?_
    refine w_gI d_174_35 (by rfl) (by first | rfl | assumption) (by rfl) (by (try simp [stI, stA, stR]) <;> rfl) ?_
    refine w_if_le (g := 45) d_174_38 (by decide) (by omega) (fun h38 => ?_) (fun h38 => ?_)
    · omega
    · refine w_con d_174_41 ?_
      refine w_goto (g := 46) d_174_42 (by decide) ?_
      refine w_zret d_174_46 rfl (by omega) ?_
      exact ⟨rfl, rfl⟩
  · omega
theorem m_nonex2 {sc : Nat × (Nat → Int32)} {fr lo : Nat} {μ : Mem} {ρ : Nat × Nat × Nat} {k : Int} (hk : k = 0 ∨ k = 1) {ar : Int} (hA : μ.1 46 4 = 0 ∧ ar = k ∨ μ.1 46 4 = 1 ∧ ar = 1 - k) (hm : 0 ≤ μ.2.2 48 ar ∧ μ.2.2 48 ar ≤ 128) {v : Int} (hv0 : -2147483648 ≤ v ∧ v < 2147483648) (hv : ¬ (0 ≤ v ∧ v < μ.2.2 48 ar)) (hf : 5 ≤ fr) (hl : 200 ≤ lo) : w_E sc fr lo 174 [.ref 46, .int (ji k), .int (ji v)] (hp μ, ρ) (.inl (some (.int (ji 1)))) (hp (stI μ 46 0 1), ρ) := by
  refine w_S.of (L0 := [some (.ref 46), some (.int (ji k)), some (.int (ji v))]) rfl rfl (Nat.le_of_ble_eq_true rfl) (by rfl) ?_
  refine w_ld d_174_0 rfl rfl rfl ?_
  refine w_ld d_174_1 rfl rfl rfl ?_
  refine w_cS1 (as := [_]) (rest := _) rfl d_174_2 (by rfl) (by rfl) (by rfl) (by rfl) (Nat.le_of_ble_eq_true rfl) (by omega) (by omega) (m_noSlot0 hk) ?_
  refine w_if_ne (g := 26) d_174_5 (by decide) (by omega) (fun h5 => ?_) (fun h5 => ?_)
  · refine w_con d_174_26 ?_
    refine w_goto (g := 31) d_174_27 (by decide) ?_
    refine w_putI d_174_31 (by rfl) (by first | rfl | assumption) (by rfl) (fit_I (by rfl)) (by rfl) ?_
    refine w_ld d_174_34 rfl rfl rfl ?_
    refine w_gI d_174_35 (by rfl) (by first | rfl | assumption) (by rfl) (by (try simp [stI, stA, stR]) <;> rfl) ?_
    refine w_if_le (g := 45) d_174_38 (by decide) (by omega) (fun h38 => ?_) (fun h38 => ?_)
    · omega
    · refine w_con d_174_41 ?_
      refine w_goto (g := 46) d_174_42 (by decide) ?_
      refine w_zret d_174_46 rfl (by omega) ?_
      exact ⟨rfl, rfl⟩
  · refine w_ld d_174_8 rfl rfl rfl ?_
    refine w_if_lt (g := 26) d_174_9 (by decide) (by omega) (fun h9 => ?_) (fun h9 => ?_)
    · refine w_con d_174_26 ?_
      refine w_goto (g := 31) d_174_27 (by decide) ?_
      refine w_putI d_174_31 (by rfl) (by first | rfl | assumption) (by rfl) (fit_I (by rfl)) (by rfl) ?_
      refine w_ld d_174_34 rfl rfl rfl ?_
      refine w_gI d_174_35 (by rfl) (by first | rfl | assumption) (by rfl) (by (try simp [stI, stA, stR]) <;> rfl) ?_
      refine w_if_le (g := 45) d_174_38 (by decide) (by omega) (fun h38 => ?_) (fun h38 => ?_)
      · omega
      · refine w_con d_174_41 ?_
        refine w_goto (g := 46) d_174_42 (by decide) ?_
        refine w_zret d_174_46 rfl (by omega) ?_
        exact ⟨rfl, rfl⟩
    · refine w_ld d_174_12 rfl rfl rfl ?_
      refine w_ld d_174_13 rfl rfl rfl ?_
      refine w_getF d_174_14 (by rfl) (by first | rfl | assumption) (by rfl) (by rfl) ?_
      refine w_ld d_174_17 rfl rfl rfl ?_
      refine w_ld d_174_18 rfl rfl rfl ?_
      refine w_cV1 (as := [_]) (rest := _) rfl d_174_19 (by rfl) (by rfl) (by first | rfl | assumption) (by rfl) (by rfl) (Nat.le_of_ble_eq_true rfl) (by omega) (by omega) (m_are hA) ?_
      refine w_aI d_174_22 (by first | rfl | assumption) (by omega) (by (try simp [stI, stA, stR]) <;> rfl) ?_
      refine w_icmp_lt (g := 30) d_174_23 (by decide) (by omega) (fun h23 => ?_) (fun h23 => ?_)
      · omega
      · refine w_con d_174_26 ?_
        refine w_goto (g := 31) d_174_27 (by decide) ?_
        refine w_putI d_174_31 (by rfl) (by first | rfl | assumption) (by rfl) (fit_I (by rfl)) (by rfl) ?_
        refine w_ld d_174_34 rfl rfl rfl ?_
        refine w_gI d_174_35 (by rfl) (by first | rfl | assumption) (by rfl) (by (try simp [stI, stA, stR]) <;> rfl) ?_
        refine w_if_le (g := 45) d_174_38 (by decide) (by omega) (fun h38 => ?_) (fun h38 => ?_)
        · omega
        · refine w_con d_174_41 ?_
          refine w_goto (g := 46) d_174_42 (by decide) ?_
          refine w_zret d_174_46 rfl (by omega) ?_
          exact ⟨rfl, rfl⟩
theorem m_kind {sc : Nat × (Nat → Int32)} {fr lo : Nat} {μ : Mem} {ρ : Nat × Nat × Nat} {k : Int} (hk : k = 0 ∨ k = 1) {ar : Int} (hA : μ.1 46 4 = 0 ∧ ar = k ∨ μ.1 46 4 = 1 ∧ ar = 1 - k) (hm : 0 ≤ μ.2.2 48 ar ∧ μ.2.2 48 ar ≤ 128) {v : Int} (hv : 0 ≤ v ∧ v < μ.2.2 48 ar) (hf : 6 ≤ fr) (hl : 250 ≤ lo) : w_E sc fr lo 173 [.ref 46, .int (ji k), .int (ji v)] (hp μ, ρ) (.inl (some (.int (ji (μ.2.2 49 (128 * ar + v)))))) (hp (stI μ 46 0 0), ρ) := by
  refine w_S.of (L0 := [some (.ref 46), some (.int (ji k)), some (.int (ji v))]) rfl rfl (Nat.le_of_ble_eq_true rfl) (by rfl) ?_
  refine w_ld d_173_0 rfl rfl rfl ?_
  refine w_ld d_173_1 rfl rfl rfl ?_
  refine w_ld d_173_2 rfl rfl rfl ?_
  refine w_cV1 (as := [_, _]) (rest := _) rfl d_173_3 (by rfl) (by rfl) (by first | rfl | assumption) (by rfl) (by rfl) (Nat.le_of_ble_eq_true rfl) (by omega) (by omega) (m_none hk hA hm hv (by omega) (by omega)) ?_
  refine w_if_eq (g := 13) d_173_6 (by decide) (by omega) (fun h6 => ?_) (fun h6 => ?_)
  · refine w_ld d_173_13 rfl rfl rfl ?_
    refine w_getF d_173_14 (by rfl) (by first | rfl | assumption) (by rfl) (by rfl) ?_
    refine w_sip d_173_17 (by decide) ?_
    refine w_ld d_173_20 rfl rfl rfl ?_
    refine w_ld d_173_21 rfl rfl rfl ?_
    refine w_cV1 (as := [_]) (rest := _) rfl d_173_22 (by rfl) (by rfl) (by first | rfl | assumption) (by rfl) (by rfl) (Nat.le_of_ble_eq_true rfl) (by omega) (by omega) (m_are (ar := ar) (by simpa [stI] using hA)) ?_
    refine w_imul d_173_25 ?_
    refine w_ld d_173_26 rfl rfl rfl ?_
    refine w_iadd d_173_27 ?_
    refine w_aI d_173_28 (by first | rfl | assumption) (by omega) (by (try simp [stI, stA, stR]) <;> rfl) ?_
    refine w_iret d_173_29 rfl ?_
    exact ⟨rfl, rfl⟩
  · omega
theorem m_number {sc : Nat × (Nat → Int32)} {fr lo : Nat} {μ : Mem} {ρ : Nat × Nat × Nat} {k : Int} (hk : k = 0 ∨ k = 1) {ar : Int} (hA : μ.1 46 4 = 0 ∧ ar = k ∨ μ.1 46 4 = 1 ∧ ar = 1 - k) (hm : 0 ≤ μ.2.2 48 ar ∧ μ.2.2 48 ar ≤ 128) {v : Int} (hv : 0 ≤ v ∧ v < μ.2.2 48 ar) (hf : 6 ≤ fr) (hl : 250 ≤ lo) : w_E sc fr lo 176 [.ref 46, .int (ji k), .int (ji v)] (hp μ, ρ) (.inl (some (.long (jl (μ.2.2 50 (128 * ar + v)))))) (hp (stI μ 46 0 0), ρ) := by
  refine w_S.of (L0 := [some (.ref 46), some (.int (ji k)), some (.int (ji v))]) rfl rfl (Nat.le_of_ble_eq_true rfl) (by rfl) ?_
  refine w_ld d_176_0 rfl rfl rfl ?_
  refine w_ld d_176_1 rfl rfl rfl ?_
  refine w_ld d_176_2 rfl rfl rfl ?_
  refine w_cV1 (as := [_, _]) (rest := _) rfl d_176_3 (by rfl) (by rfl) (by first | rfl | assumption) (by rfl) (by rfl) (Nat.le_of_ble_eq_true rfl) (by omega) (by omega) (m_none hk hA hm hv (by omega) (by omega)) ?_
  refine w_if_eq (g := 13) d_176_6 (by decide) (by omega) (fun h6 => ?_) (fun h6 => ?_)
  · refine w_ld d_176_13 rfl rfl rfl ?_
    refine w_getF d_176_14 (by rfl) (by first | rfl | assumption) (by rfl) (by rfl) ?_
    refine w_sip d_176_17 (by decide) ?_
    refine w_ld d_176_20 rfl rfl rfl ?_
    refine w_ld d_176_21 rfl rfl rfl ?_
    refine w_cV1 (as := [_]) (rest := _) rfl d_176_22 (by rfl) (by rfl) (by first | rfl | assumption) (by rfl) (by rfl) (Nat.le_of_ble_eq_true rfl) (by omega) (by omega) (m_are (ar := ar) (by simpa [stI] using hA)) ?_
    refine w_imul d_176_25 ?_
    refine w_ld d_176_26 rfl rfl rfl ?_
    refine w_iadd d_176_27 ?_
    refine w_aL d_176_28 (by first | rfl | assumption) (by omega) (by (try simp [stI, stA, stR]) <;> rfl) ?_
    refine w_ret d_176_29 rfl ?_
    exact ⟨rfl, rfl⟩
  · omega
theorem m_size {sc : Nat × (Nat → Int32)} {fr lo : Nat} {μ : Mem} {ρ : Nat × Nat × Nat} {k : Int} (hk : k = 0 ∨ k = 1) {ar : Int} (hA : μ.1 46 4 = 0 ∧ ar = k ∨ μ.1 46 4 = 1 ∧ ar = 1 - k) (hm : 0 ≤ μ.2.2 48 ar ∧ μ.2.2 48 ar ≤ 128) {v : Int} (hv : 0 ≤ v ∧ v < μ.2.2 48 ar) (hf : 6 ≤ fr) (hl : 250 ≤ lo) (hkd : 0 ≤ μ.2.2 49 (128 * ar + v) ∧ μ.2.2 49 (128 * ar + v) ≤ 12) : w_E sc fr lo 175 [.ref 46, .int (ji k), .int (ji v)] (hp μ, ρ) (.inl (some (.int (ji (if μ.2.2 49 (128 * ar + v) < 8 then μ.2.2 52 (128 * ar + v) else μ.2.2 53 (128 * ar + v)))))) (hp (stI μ 46 0 0), ρ) := by
  refine w_S.of (L0 := [some (.ref 46), some (.int (ji k)), some (.int (ji v)), none]) rfl rfl (Nat.le_of_ble_eq_true rfl) (by rfl) ?_
  refine w_ld d_175_0 rfl rfl rfl ?_
  refine w_ld d_175_1 rfl rfl rfl ?_
  refine w_ld d_175_2 rfl rfl rfl ?_
  refine w_cV1 (as := [_, _]) (rest := _) rfl d_175_3 (by rfl) (by rfl) (by first | rfl | assumption) (by rfl) (by rfl) (Nat.le_of_ble_eq_true rfl) (by omega) (by omega) (m_none hk hA hm hv (by omega) (by omega)) ?_
  refine w_if_eq (g := 11) d_175_6 (by decide) (by omega) (fun h6 => ?_) (fun h6 => ?_)
  · refine w_sip d_175_11 (by decide) ?_
    refine w_ld d_175_14 rfl rfl rfl ?_
    refine w_ld d_175_15 rfl rfl rfl ?_
    refine w_cV1 (as := [_]) (rest := _) rfl d_175_16 (by rfl) (by rfl) (by first | rfl | assumption) (by rfl) (by rfl) (Nat.le_of_ble_eq_true rfl) (by omega) (by omega) (m_are (ar := ar) (by simpa [stI] using hA)) ?_
    refine w_imul d_175_19 ?_
    refine w_ld d_175_20 rfl rfl rfl ?_
    refine w_iadd d_175_21 ?_
    refine w_st1 (L' := [_, _, _, _]) d_175_22 rfl (by decide) rfl (by decide) rfl ?_
    refine w_ld d_175_23 rfl rfl rfl ?_
    refine w_getF d_175_24 (by rfl) (by first | rfl | assumption) (by rfl) (by rfl) ?_
    refine w_ld d_175_27 rfl rfl rfl ?_
    refine w_aI d_175_28 (by first | rfl | assumption) (by omega) (by (try simp [stI, stA, stR]) <;> rfl) ?_
    refine w_bip d_175_29 (by decide) ?_
    refine w_icmp_lt (g := 43) d_175_31 (by decide) (by omega) (fun h31 => ?_) (fun h31 => ?_)
    · refine w_ld d_175_43 rfl rfl rfl ?_
      refine w_getF d_175_44 (by rfl) (by first | rfl | assumption) (by rfl) (by rfl) ?_
      refine w_ld d_175_47 rfl rfl rfl ?_
      refine w_aI d_175_48 (by first | rfl | assumption) (by omega) (by (try simp [stI, stA, stR]) <;> rfl) ?_
      refine w_iret d_175_49 rfl ?_
      first | exact ⟨rfl, rfl⟩ | (rw [if_pos (by omega)]; exact ⟨rfl, rfl⟩) | (rw [if_neg (by omega)]; exact ⟨rfl, rfl⟩)
    · refine w_ld d_175_34 rfl rfl rfl ?_
      refine w_getF d_175_35 (by rfl) (by first | rfl | assumption) (by rfl) (by rfl) ?_
      refine w_ld d_175_38 rfl rfl rfl ?_
      refine w_aI d_175_39 (by first | rfl | assumption) (by omega) (by (try simp [stI, stA, stR]) <;> rfl) ?_
      refine w_goto (g := 49) d_175_40 (by decide) ?_
      refine w_iret d_175_49 rfl ?_
      first | exact ⟨rfl, rfl⟩ | (rw [if_pos (by omega)]; exact ⟨rfl, rfl⟩) | (rw [if_neg (by omega)]; exact ⟨rfl, rfl⟩)
  · omega
theorem m_letter {sc : Nat × (Nat → Int32)} {fr lo : Nat} {μ : Mem} {ρ : Nat × Nat × Nat} {k : Int} (hk : k = 0 ∨ k = 1) {ar : Int} (hA : μ.1 46 4 = 0 ∧ ar = k ∨ μ.1 46 4 = 1 ∧ ar = 1 - k) (hm : 0 ≤ μ.2.2 48 ar ∧ μ.2.2 48 ar ≤ 128) {v : Int} (hv : 0 ≤ v ∧ v < μ.2.2 48 ar) (hf : 6 ≤ fr) (hl : 250 ≤ lo) {i : Int} (hi : -2147483648 ≤ i ∧ i < 2147483648) (hws : 0 ≤ μ.2.2 52 (128 * ar + v) ∧ μ.2.2 52 (128 * ar + v) ≤ 240) (hwf : i < μ.2.2 52 (128 * ar + v) → 0 ≤ i → 0 ≤ μ.2.2 51 (128 * ar + v) + i ∧ μ.2.2 51 (128 * ar + v) + i < 720) : w_E sc fr lo 177 [.ref 46, .int (ji k), .int (ji v), .int (ji i)] (hp μ, ρ) (.inl (some (.int (ji (if 0 ≤ i ∧ i < μ.2.2 52 (128 * ar + v) then μ.2.2 57 (μ.2.2 51 (128 * ar + v) + i) else -1))))) (hp (stI μ 46 0 0), ρ) := by
  refine w_S.of (L0 := [some (.ref 46), some (.int (ji k)), some (.int (ji v)), some (.int (ji i)), none]) rfl rfl (Nat.le_of_ble_eq_true rfl) (by rfl) ?_
  refine w_ld d_177_0 rfl rfl rfl ?_
  refine w_ld d_177_1 rfl rfl rfl ?_
  refine w_ld d_177_2 rfl rfl rfl ?_
  refine w_cV1 (as := [_, _]) (rest := _) rfl d_177_3 (by rfl) (by rfl) (by first | rfl | assumption) (by rfl) (by rfl) (Nat.le_of_ble_eq_true rfl) (by omega) (by omega) (m_none hk hA hm hv (by omega) (by omega)) ?_
  refine w_if_eq (g := 11) d_177_6 (by decide) (by omega) (fun h6 => ?_) (fun h6 => ?_)
  · refine w_sip d_177_11 (by decide) ?_
    refine w_ld d_177_14 rfl rfl rfl ?_
    refine w_ld d_177_15 rfl rfl rfl ?_
    refine w_cV1 (as := [_]) (rest := _) rfl d_177_16 (by rfl) (by rfl) (by first | rfl | assumption) (by rfl) (by rfl) (Nat.le_of_ble_eq_true rfl) (by omega) (by omega) (m_are (ar := ar) (by simpa [stI] using hA)) ?_
    refine w_imul d_177_19 ?_
    refine w_ld d_177_20 rfl rfl rfl ?_
    refine w_iadd d_177_21 ?_
    refine w_st1 (L' := [_, _, _, _, _]) d_177_22 rfl (by decide) rfl (by decide) rfl ?_
    refine w_ld d_177_24 rfl rfl rfl ?_
    refine w_if_lt (g := 39) d_177_25 (by decide) (by omega) (fun h25 => ?_) (fun h25 => ?_)
    · refine w_con d_177_39 ?_
      refine w_goto (g := 57) d_177_40 (by decide) ?_
      refine w_iret d_177_57 rfl ?_
      first | exact ⟨rfl, rfl⟩ | (rw [if_pos (by omega)]; exact ⟨rfl, rfl⟩) | (rw [if_neg (by omega)]; exact ⟨rfl, rfl⟩)
    · refine w_ld d_177_28 rfl rfl rfl ?_
      refine w_ld d_177_29 rfl rfl rfl ?_
      refine w_getF d_177_30 (by rfl) (by first | rfl | assumption) (by rfl) (by rfl) ?_
      refine w_ld d_177_33 rfl rfl rfl ?_
      refine w_aI d_177_35 (by first | rfl | assumption) (by omega) (by (try simp [stI, stA, stR]) <;> rfl) ?_
      refine w_icmp_lt (g := 43) d_177_36 (by decide) (by omega) (fun h36 => ?_) (fun h36 => ?_)
      · refine w_ld d_177_43 rfl rfl rfl ?_
        refine w_getF d_177_44 (by rfl) (by first | rfl | assumption) (by rfl) (by rfl) ?_
        refine w_ld d_177_47 rfl rfl rfl ?_
        refine w_getF d_177_48 (by rfl) (by first | rfl | assumption) (by rfl) (by rfl) ?_
        refine w_ld d_177_51 rfl rfl rfl ?_
        refine w_aI d_177_53 (by first | rfl | assumption) (by omega) (by (try simp [stI, stA, stR]) <;> rfl) ?_
        refine w_ld d_177_54 rfl rfl rfl ?_
        refine w_iadd d_177_55 ?_
        refine w_aI d_177_56 (by first | rfl | assumption) (by omega) (by (try simp [stI, stA, stR]) <;> rfl) ?_
        refine w_iret d_177_57 rfl ?_
        first | exact ⟨rfl, rfl⟩ | (rw [if_pos (by omega)]; exact ⟨rfl, rfl⟩) | (rw [if_neg (by omega)]; exact ⟨rfl, rfl⟩)
      · refine w_con d_177_39 ?_
        refine w_goto (g := 57) d_177_40 (by decide) ?_
        refine w_iret d_177_57 rfl ?_
        first | exact ⟨rfl, rfl⟩ | (rw [if_pos (by omega)]; exact ⟨rfl, rfl⟩) | (rw [if_neg (by omega)]; exact ⟨rfl, rfl⟩)
  · omega
theorem m_kindx1 {sc : Nat × (Nat → Int32)} {fr lo : Nat} {μ : Mem} {ρ : Nat × Nat × Nat} {k : Int} (hk : -2147483648 ≤ k ∧ k < 2147483648) {v : Int} (h01 : ¬ (k = 0 ∨ k = 1)) (hf : 6 ≤ fr) (hl : 250 ≤ lo) : w_E sc fr lo 173 [.ref 46, .int (ji k), .int (ji v)] (hp μ, ρ) (.inl (some (.int (ji 0)))) (hp (stI μ 46 0 1), ρ) := by
  refine w_S.of (L0 := [some (.ref 46), some (.int (ji k)), some (.int (ji v))]) rfl rfl (Nat.le_of_ble_eq_true rfl) (by rfl) ?_
  refine w_ld d_173_0 rfl rfl rfl ?_
  refine w_ld d_173_1 rfl rfl rfl ?_
  refine w_ld d_173_2 rfl rfl rfl ?_
  refine w_cV1 (as := [_, _]) (rest := _) rfl d_173_3 (by rfl) (by rfl) (by first | rfl | assumption) (by rfl) (by rfl) (Nat.le_of_ble_eq_true rfl) (by omega) (by omega) (m_nonex1 hk h01 (by omega) (by omega)) ?_
  refine w_if_eq (g := 13) d_173_6 (by decide) (by omega) (fun h6 => ?_) (fun h6 => ?_)
  · omega
  · refine w_con d_173_9 ?_
    refine w_goto (g := 29) d_173_10 (by decide) ?_
    refine w_iret d_173_29 rfl ?_
    exact ⟨rfl, rfl⟩
theorem m_kindx2 {sc : Nat × (Nat → Int32)} {fr lo : Nat} {μ : Mem} {ρ : Nat × Nat × Nat} {k : Int} (hk : k = 0 ∨ k = 1) {ar : Int} (hA : μ.1 46 4 = 0 ∧ ar = k ∨ μ.1 46 4 = 1 ∧ ar = 1 - k) (hm : 0 ≤ μ.2.2 48 ar ∧ μ.2.2 48 ar ≤ 128) {v : Int} (hv0 : -2147483648 ≤ v ∧ v < 2147483648) (hv : ¬ (0 ≤ v ∧ v < μ.2.2 48 ar)) (hf : 6 ≤ fr) (hl : 250 ≤ lo) : w_E sc fr lo 173 [.ref 46, .int (ji k), .int (ji v)] (hp μ, ρ) (.inl (some (.int (ji 0)))) (hp (stI μ 46 0 1), ρ) := by
  refine w_S.of (L0 := [some (.ref 46), some (.int (ji k)), some (.int (ji v))]) rfl rfl (Nat.le_of_ble_eq_true rfl) (by rfl) ?_
  refine w_ld d_173_0 rfl rfl rfl ?_
  refine w_ld d_173_1 rfl rfl rfl ?_
  refine w_ld d_173_2 rfl rfl rfl ?_
  refine w_cV1 (as := [_, _]) (rest := _) rfl d_173_3 (by rfl) (by rfl) (by first | rfl | assumption) (by rfl) (by rfl) (Nat.le_of_ble_eq_true rfl) (by omega) (by omega) (m_nonex2 hk hA hm hv0 hv (by omega) (by omega)) ?_
  refine w_if_eq (g := 13) d_173_6 (by decide) (by omega) (fun h6 => ?_) (fun h6 => ?_)
  · omega
  · refine w_con d_173_9 ?_
    refine w_goto (g := 29) d_173_10 (by decide) ?_
    refine w_iret d_173_29 rfl ?_
    exact ⟨rfl, rfl⟩
theorem m_numberx1 {sc : Nat × (Nat → Int32)} {fr lo : Nat} {μ : Mem} {ρ : Nat × Nat × Nat} {k : Int} (hk : -2147483648 ≤ k ∧ k < 2147483648) {v : Int} (h01 : ¬ (k = 0 ∨ k = 1)) (hf : 6 ≤ fr) (hl : 250 ≤ lo) : w_E sc fr lo 176 [.ref 46, .int (ji k), .int (ji v)] (hp μ, ρ) (.inl (some (.long (jl 0)))) (hp (stI μ 46 0 1), ρ) := by
  refine w_S.of (L0 := [some (.ref 46), some (.int (ji k)), some (.int (ji v))]) rfl rfl (Nat.le_of_ble_eq_true rfl) (by rfl) ?_
  refine w_ld d_176_0 rfl rfl rfl ?_
  refine w_ld d_176_1 rfl rfl rfl ?_
  refine w_ld d_176_2 rfl rfl rfl ?_
  refine w_cV1 (as := [_, _]) (rest := _) rfl d_176_3 (by rfl) (by rfl) (by first | rfl | assumption) (by rfl) (by rfl) (Nat.le_of_ble_eq_true rfl) (by omega) (by omega) (m_nonex1 hk h01 (by omega) (by omega)) ?_
  refine w_if_eq (g := 13) d_176_6 (by decide) (by omega) (fun h6 => ?_) (fun h6 => ?_)
  · omega
  · refine w_lcon0 d_176_9 ?_
    refine w_goto (g := 29) d_176_10 (by decide) ?_
    refine w_ret d_176_29 rfl ?_
    exact ⟨rfl, rfl⟩
theorem m_numberx2 {sc : Nat × (Nat → Int32)} {fr lo : Nat} {μ : Mem} {ρ : Nat × Nat × Nat} {k : Int} (hk : k = 0 ∨ k = 1) {ar : Int} (hA : μ.1 46 4 = 0 ∧ ar = k ∨ μ.1 46 4 = 1 ∧ ar = 1 - k) (hm : 0 ≤ μ.2.2 48 ar ∧ μ.2.2 48 ar ≤ 128) {v : Int} (hv0 : -2147483648 ≤ v ∧ v < 2147483648) (hv : ¬ (0 ≤ v ∧ v < μ.2.2 48 ar)) (hf : 6 ≤ fr) (hl : 250 ≤ lo) : w_E sc fr lo 176 [.ref 46, .int (ji k), .int (ji v)] (hp μ, ρ) (.inl (some (.long (jl 0)))) (hp (stI μ 46 0 1), ρ) := by
  refine w_S.of (L0 := [some (.ref 46), some (.int (ji k)), some (.int (ji v))]) rfl rfl (Nat.le_of_ble_eq_true rfl) (by rfl) ?_
  refine w_ld d_176_0 rfl rfl rfl ?_
  refine w_ld d_176_1 rfl rfl rfl ?_
  refine w_ld d_176_2 rfl rfl rfl ?_
  refine w_cV1 (as := [_, _]) (rest := _) rfl d_176_3 (by rfl) (by rfl) (by first | rfl | assumption) (by rfl) (by rfl) (Nat.le_of_ble_eq_true rfl) (by omega) (by omega) (m_nonex2 hk hA hm hv0 hv (by omega) (by omega)) ?_
  refine w_if_eq (g := 13) d_176_6 (by decide) (by omega) (fun h6 => ?_) (fun h6 => ?_)
  · omega
  · refine w_lcon0 d_176_9 ?_
    refine w_goto (g := 29) d_176_10 (by decide) ?_
    refine w_ret d_176_29 rfl ?_
    exact ⟨rfl, rfl⟩
theorem m_sizex1 {sc : Nat × (Nat → Int32)} {fr lo : Nat} {μ : Mem} {ρ : Nat × Nat × Nat} {k : Int} (hk : -2147483648 ≤ k ∧ k < 2147483648) {v : Int} (h01 : ¬ (k = 0 ∨ k = 1)) (hf : 6 ≤ fr) (hl : 250 ≤ lo) : w_E sc fr lo 175 [.ref 46, .int (ji k), .int (ji v)] (hp μ, ρ) (.inl (some (.int (ji 0)))) (hp (stI μ 46 0 1), ρ) := by
  refine w_S.of (L0 := [some (.ref 46), some (.int (ji k)), some (.int (ji v)), none]) rfl rfl (Nat.le_of_ble_eq_true rfl) (by rfl) ?_
  refine w_ld d_175_0 rfl rfl rfl ?_
  refine w_ld d_175_1 rfl rfl rfl ?_
  refine w_ld d_175_2 rfl rfl rfl ?_
  refine w_cV1 (as := [_, _]) (rest := _) rfl d_175_3 (by rfl) (by rfl) (by first | rfl | assumption) (by rfl) (by rfl) (Nat.le_of_ble_eq_true rfl) (by omega) (by omega) (m_nonex1 hk h01 (by omega) (by omega)) ?_
  refine w_if_eq (g := 11) d_175_6 (by decide) (by omega) (fun h6 => ?_) (fun h6 => ?_)
  · omega
  · refine w_con d_175_9 ?_
    refine w_iret d_175_10 rfl ?_
    exact ⟨rfl, rfl⟩
theorem m_sizex2 {sc : Nat × (Nat → Int32)} {fr lo : Nat} {μ : Mem} {ρ : Nat × Nat × Nat} {k : Int} (hk : k = 0 ∨ k = 1) {ar : Int} (hA : μ.1 46 4 = 0 ∧ ar = k ∨ μ.1 46 4 = 1 ∧ ar = 1 - k) (hm : 0 ≤ μ.2.2 48 ar ∧ μ.2.2 48 ar ≤ 128) {v : Int} (hv0 : -2147483648 ≤ v ∧ v < 2147483648) (hv : ¬ (0 ≤ v ∧ v < μ.2.2 48 ar)) (hf : 6 ≤ fr) (hl : 250 ≤ lo) : w_E sc fr lo 175 [.ref 46, .int (ji k), .int (ji v)] (hp μ, ρ) (.inl (some (.int (ji 0)))) (hp (stI μ 46 0 1), ρ) := by
  refine w_S.of (L0 := [some (.ref 46), some (.int (ji k)), some (.int (ji v)), none]) rfl rfl (Nat.le_of_ble_eq_true rfl) (by rfl) ?_
  refine w_ld d_175_0 rfl rfl rfl ?_
  refine w_ld d_175_1 rfl rfl rfl ?_
  refine w_ld d_175_2 rfl rfl rfl ?_
  refine w_cV1 (as := [_, _]) (rest := _) rfl d_175_3 (by rfl) (by rfl) (by first | rfl | assumption) (by rfl) (by rfl) (Nat.le_of_ble_eq_true rfl) (by omega) (by omega) (m_nonex2 hk hA hm hv0 hv (by omega) (by omega)) ?_
  refine w_if_eq (g := 11) d_175_6 (by decide) (by omega) (fun h6 => ?_) (fun h6 => ?_)
  · omega
  · refine w_con d_175_9 ?_
    refine w_iret d_175_10 rfl ?_
    exact ⟨rfl, rfl⟩
theorem m_letterx1 {sc : Nat × (Nat → Int32)} {fr lo : Nat} {μ : Mem} {ρ : Nat × Nat × Nat} {k : Int} (hk : -2147483648 ≤ k ∧ k < 2147483648) {v : Int} (h01 : ¬ (k = 0 ∨ k = 1)) (hf : 6 ≤ fr) (hl : 250 ≤ lo) {i : Int} : w_E sc fr lo 177 [.ref 46, .int (ji k), .int (ji v), .int (ji i)] (hp μ, ρ) (.inl (some (.int (ji 0)))) (hp (stI μ 46 0 1), ρ) := by
  refine w_S.of (L0 := [some (.ref 46), some (.int (ji k)), some (.int (ji v)), some (.int (ji i)), none]) rfl rfl (Nat.le_of_ble_eq_true rfl) (by rfl) ?_
  refine w_ld d_177_0 rfl rfl rfl ?_
  refine w_ld d_177_1 rfl rfl rfl ?_
  refine w_ld d_177_2 rfl rfl rfl ?_
  refine w_cV1 (as := [_, _]) (rest := _) rfl d_177_3 (by rfl) (by rfl) (by first | rfl | assumption) (by rfl) (by rfl) (Nat.le_of_ble_eq_true rfl) (by omega) (by omega) (m_nonex1 hk h01 (by omega) (by omega)) ?_
  refine w_if_eq (g := 11) d_177_6 (by decide) (by omega) (fun h6 => ?_) (fun h6 => ?_)
  · omega
  · refine w_con d_177_9 ?_
    refine w_iret d_177_10 rfl ?_
    exact ⟨rfl, rfl⟩
theorem m_letterx2 {sc : Nat × (Nat → Int32)} {fr lo : Nat} {μ : Mem} {ρ : Nat × Nat × Nat} {k : Int} (hk : k = 0 ∨ k = 1) {ar : Int} (hA : μ.1 46 4 = 0 ∧ ar = k ∨ μ.1 46 4 = 1 ∧ ar = 1 - k) (hm : 0 ≤ μ.2.2 48 ar ∧ μ.2.2 48 ar ≤ 128) {v : Int} (hv0 : -2147483648 ≤ v ∧ v < 2147483648) (hv : ¬ (0 ≤ v ∧ v < μ.2.2 48 ar)) (hf : 6 ≤ fr) (hl : 250 ≤ lo) {i : Int} : w_E sc fr lo 177 [.ref 46, .int (ji k), .int (ji v), .int (ji i)] (hp μ, ρ) (.inl (some (.int (ji 0)))) (hp (stI μ 46 0 1), ρ) := by
  refine w_S.of (L0 := [some (.ref 46), some (.int (ji k)), some (.int (ji v)), some (.int (ji i)), none]) rfl rfl (Nat.le_of_ble_eq_true rfl) (by rfl) ?_
  refine w_ld d_177_0 rfl rfl rfl ?_
  refine w_ld d_177_1 rfl rfl rfl ?_
  refine w_ld d_177_2 rfl rfl rfl ?_
  refine w_cV1 (as := [_, _]) (rest := _) rfl d_177_3 (by rfl) (by rfl) (by first | rfl | assumption) (by rfl) (by rfl) (Nat.le_of_ble_eq_true rfl) (by omega) (by omega) (m_nonex2 hk hA hm hv0 hv (by omega) (by omega)) ?_
  refine w_if_eq (g := 11) d_177_6 (by decide) (by omega) (fun h6 => ?_) (fun h6 => ?_)
  · omega
  · refine w_con d_177_9 ?_
    refine w_iret d_177_10 rfl ?_
    exact ⟨rfl, rfl⟩
