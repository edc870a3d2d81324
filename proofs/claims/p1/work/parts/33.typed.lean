/-! THE PURE PART, 17: type -/
theorem t_type_bad {sc : Nat × (Nat → Int32)} {fr lo : Nat} {μ : Mem} {ρ : Nat × Nat × Nat} {w : Int32} {b : Nat} (hb : isL b 240) (ht : μ.2.1 0 3 = .ref b) (hc : 0 ≤ μ.1 b 1 ∧ μ.1 b 1 ≤ 240) (hf : 1 ≤ fr) (hl : 60 ≤ lo) (hB : ∃ j, 0 ≤ j ∧ j ≤ 24 ∧ j % 8 = 0 ∧ bad (bL w j)) : w_E sc fr lo 7 [.ref 0, .int w] (hp μ, ρ) (.inl (some (.int (ji 0)))) (hp (μ), ρ) := by
  have hsb := hb.sh.1
  refine w_S.of (L0 := [some (.ref 0), some (.int w), none, none, none]) rfl rfl (Nat.le_of_ble_eq_true rfl) (by rfl) ?_
  refine w_con d_7_0 ?_
  refine w_st1 (L' := [_, _, _, _, _]) d_7_1 rfl (by decide) rfl (by decide) rfl ?_
  refine w_bip d_7_2 (by decide) ?_
  refine w_st1 (L' := [_, _, _, _, _]) d_7_4 rfl (by decide) rfl (by decide) rfl ?_
  refine t_type_1 _ 24 0 rfl (by omega) (fun z => ⟨rfl, rfl⟩) (fun z => ?_)
  obtain ⟨j, z1, z2, z3, z4⟩ := hB
  exact absurd z4 (z j z1 z2 z3)
theorem t_type_full {sc : Nat × (Nat → Int32)} {fr lo : Nat} {μ : Mem} {ρ : Nat × Nat × Nat} {w : Int32} {b : Nat} (hb : isL b 240) (ht : μ.2.1 0 3 = .ref b) (hc : 0 ≤ μ.1 b 1 ∧ μ.1 b 1 ≤ 240) (hf : 1 ≤ fr) (hl : 60 ≤ lo) (hG : ∀ j, 0 ≤ j → j ≤ 24 → j % 8 = 0 → ¬ bad (bL w j)) (hn : 240 < μ.1 b 1 + cnt (bL w) 24) : w_E sc fr lo 7 [.ref 0, .int w] (hp μ, ρ) (.inl (some (.int (ji 0)))) (hp (μ), ρ) := by
  have hsb := hb.sh.1
  refine w_S.of (L0 := [some (.ref 0), some (.int w), none, none, none]) rfl rfl (Nat.le_of_ble_eq_true rfl) (by rfl) ?_
  refine w_con d_7_0 ?_
  refine w_st1 (L' := [_, _, _, _, _]) d_7_1 rfl (by decide) rfl (by decide) rfl ?_
  refine w_bip d_7_2 (by decide) ?_
  refine w_st1 (L' := [_, _, _, _, _]) d_7_4 rfl (by decide) rfl (by decide) rfl ?_
  have hcr := cnt_r (bL w) 24
  refine t_type_1 _ 24 0 rfl (by omega) (fun z => ?_) (fun z => ?_)
  · obtain ⟨j, z1, z2, z3, z4⟩ := z
    exact absurd z4 (hG j z1 z2 z3)
  · refine w_ld d_7_58 rfl rfl rfl ?_
    refine w_sip d_7_59 (by decide) ?_
    refine w_ld d_7_62 rfl rfl rfl ?_
    refine w_getR d_7_63 (by rfl) (by first | rfl | assumption) (by rfl) (by assumption) ?_
    refine w_gI d_7_66 (by rfl) (by first | rfl | assumption) (by rfl) (by (try simp [stI, stA, stR]) <;> rfl) ?_
    refine w_isub d_7_69 ?_
    refine w_icmp_le (g := 75) d_7_70 (by decide) (by omega) (fun h70 => ?_) (fun h70 => ?_)
    · refine w_bip d_7_75 (by decide) ?_
      refine w_st1 (L' := [_, _, _, _, _]) d_7_77 rfl (by decide) rfl (by decide) rfl ?_
      omega
    · refine w_con d_7_73 ?_
      refine w_zret d_7_74 rfl (by omega) ?_
      exact ⟨rfl, rfl⟩
theorem t_type_ok {sc : Nat × (Nat → Int32)} {fr lo : Nat} {μ : Mem} {ρ : Nat × Nat × Nat} {w : Int32} {b : Nat} (hb : isL b 240) (ht : μ.2.1 0 3 = .ref b) (hc : 0 ≤ μ.1 b 1 ∧ μ.1 b 1 ≤ 240) (hf : 1 ≤ fr) (hl : 60 ≤ lo) (hG : ∀ j, 0 ≤ j → j ≤ 24 → j % 8 = 0 → ¬ bad (bL w j)) (hn : μ.1 b 1 + cnt (bL w) 24 ≤ 240) : w_E sc fr lo 7 [.ref 0, .int w] (hp μ, ρ) (.inl (some (.int (ji 1)))) (hp (tyf μ (b + 1) b 1 (bL w) 24), ρ) := by
  have hsb := hb.sh.1
  refine w_S.of (L0 := [some (.ref 0), some (.int w), none, none, none]) rfl rfl (Nat.le_of_ble_eq_true rfl) (by rfl) ?_
  refine w_con d_7_0 ?_
  refine w_st1 (L' := [_, _, _, _, _]) d_7_1 rfl (by decide) rfl (by decide) rfl ?_
  refine w_bip d_7_2 (by decide) ?_
  refine w_st1 (L' := [_, _, _, _, _]) d_7_4 rfl (by decide) rfl (by decide) rfl ?_
  have hcr := cnt_r (bL w) 24
  refine t_type_1 _ 24 0 rfl (by omega) (fun z => ?_) (fun z => ?_)
  · obtain ⟨j, z1, z2, z3, z4⟩ := z
    exact absurd z4 (hG j z1 z2 z3)
  · refine w_ld d_7_58 rfl rfl rfl ?_
    refine w_sip d_7_59 (by decide) ?_
    refine w_ld d_7_62 rfl rfl rfl ?_
    refine w_getR d_7_63 (by rfl) (by first | rfl | assumption) (by rfl) (by assumption) ?_
    refine w_gI d_7_66 (by rfl) (by first | rfl | assumption) (by rfl) (by (try simp [stI, stA, stR]) <;> rfl) ?_
    refine w_isub d_7_69 ?_
    refine w_icmp_le (g := 75) d_7_70 (by decide) (by omega) (fun h70 => ?_) (fun h70 => ?_)
    · refine w_bip d_7_75 (by decide) ?_
      refine w_st1 (L' := [_, _, _, _, _]) d_7_77 rfl (by decide) rfl (by decide) rfl ?_
      exact (t_type_2 hb hf hl _ 24 μ rfl (by omega) ht (by omega)).le ⟨rfl, rfl, rfl, trivial⟩
    · omega
theorem m_type_bad {sc : Nat × (Nat → Int32)} {fr lo : Nat} {μ : Mem} {ρ : Nat × Nat × Nat} {w : Int32} (hc : 0 ≤ μ.1 46 3 ∧ μ.1 46 3 ≤ 240) (hB : ∃ j, 0 ≤ j ∧ j ≤ 24 ∧ j % 8 = 0 ∧ bad (bA w j)) : w_E sc fr lo 111 [.ref 46, .int w] (hp μ, ρ) (.inl (some (.int (ji 0)))) (hp (stI μ 46 0 0), ρ) := by
  refine w_S.of (L0 := [some (.ref 46), some (.int w), none, none, none]) rfl rfl (Nat.le_of_ble_eq_true rfl) (by rfl) ?_
  refine w_ld d_111_0 rfl rfl rfl ?_
  refine w_con d_111_1 ?_
  refine w_putI d_111_2 (by rfl) (by first | rfl | assumption) (by rfl) (fit_I (by rfl)) (by rfl) ?_
  refine w_con d_111_5 ?_
  refine w_st1 (L' := [_, _, _, _, _]) d_111_6 rfl (by decide) rfl (by decide) rfl ?_
  refine w_bip d_111_7 (by decide) ?_
  refine w_st1 (L' := [_, _, _, _, _]) d_111_9 rfl (by decide) rfl (by decide) rfl ?_
  refine m_type_1 _ 24 0 rfl (by omega) (fun z => ⟨rfl, rfl⟩) (fun z => ?_)
  obtain ⟨j, z1, z2, z3, z4⟩ := hB
  exact absurd z4 (z j z1 z2 z3)
theorem m_type_full {sc : Nat × (Nat → Int32)} {fr lo : Nat} {μ : Mem} {ρ : Nat × Nat × Nat} {w : Int32} (hc : 0 ≤ μ.1 46 3 ∧ μ.1 46 3 ≤ 240) (hG : ∀ j, 0 ≤ j → j ≤ 24 → j % 8 = 0 → ¬ bad (bA w j)) (hn : 240 < μ.1 46 3 + cnt (bA w) 24) : w_E sc fr lo 111 [.ref 46, .int w] (hp μ, ρ) (.inl (some (.int (ji 0)))) (hp (stI μ 46 0 0), ρ) := by
  refine w_S.of (L0 := [some (.ref 46), some (.int w), none, none, none]) rfl rfl (Nat.le_of_ble_eq_true rfl) (by rfl) ?_
  refine w_ld d_111_0 rfl rfl rfl ?_
  refine w_con d_111_1 ?_
  refine w_putI d_111_2 (by rfl) (by first | rfl | assumption) (by rfl) (fit_I (by rfl)) (by rfl) ?_
  refine w_con d_111_5 ?_
  refine w_st1 (L' := [_, _, _, _, _]) d_111_6 rfl (by decide) rfl (by decide) rfl ?_
  refine w_bip d_111_7 (by decide) ?_
  refine w_st1 (L' := [_, _, _, _, _]) d_111_9 rfl (by decide) rfl (by decide) rfl ?_
  have hcr := cnt_r (bA w) 24
  refine m_type_1 _ 24 0 rfl (by omega) (fun z => ?_) (fun z => ?_)
  · obtain ⟨j, z1, z2, z3, z4⟩ := z
    exact absurd z4 (hG j z1 z2 z3)
  · refine w_ld d_111_63 rfl rfl rfl ?_
    refine w_gI d_111_64 (by rfl) (by first | rfl | assumption) (by rfl) (by (try simp [stI, stA, stR]) <;> rfl) ?_
    refine w_ld d_111_67 rfl rfl rfl ?_
    refine w_iadd d_111_68 ?_
    refine w_sip d_111_69 (by decide) ?_
    refine w_icmp_le (g := 77) d_111_72 (by decide) (by omega) (fun h72 => ?_) (fun h72 => ?_)
    · refine w_bip d_111_77 (by decide) ?_
      refine w_st1 (L' := [_, _, _, _, _]) d_111_79 rfl (by decide) rfl (by decide) rfl ?_
      omega
    · refine w_con d_111_75 ?_
      refine w_zret d_111_76 rfl (by omega) ?_
      exact ⟨rfl, rfl⟩
theorem m_type_ok {sc : Nat × (Nat → Int32)} {fr lo : Nat} {μ : Mem} {ρ : Nat × Nat × Nat} {w : Int32} (hc : 0 ≤ μ.1 46 3 ∧ μ.1 46 3 ≤ 240) (hG : ∀ j, 0 ≤ j → j ≤ 24 → j % 8 = 0 → ¬ bad (bA w j)) (hn : μ.1 46 3 + cnt (bA w) 24 ≤ 240) : w_E sc fr lo 111 [.ref 46, .int w] (hp μ, ρ) (.inl (some (.int (ji 1)))) (hp (tyf (stI μ 46 0 0) 47 46 3 (bA w) 24), ρ) := by
  refine w_S.of (L0 := [some (.ref 46), some (.int w), none, none, none]) rfl rfl (Nat.le_of_ble_eq_true rfl) (by rfl) ?_
  refine w_ld d_111_0 rfl rfl rfl ?_
  refine w_con d_111_1 ?_
  refine w_putI d_111_2 (by rfl) (by first | rfl | assumption) (by rfl) (fit_I (by rfl)) (by rfl) ?_
  refine w_con d_111_5 ?_
  refine w_st1 (L' := [_, _, _, _, _]) d_111_6 rfl (by decide) rfl (by decide) rfl ?_
  refine w_bip d_111_7 (by decide) ?_
  refine w_st1 (L' := [_, _, _, _, _]) d_111_9 rfl (by decide) rfl (by decide) rfl ?_
  have hcr := cnt_r (bA w) 24
  refine m_type_1 _ 24 0 rfl (by omega) (fun z => ?_) (fun z => ?_)
  · obtain ⟨j, z1, z2, z3, z4⟩ := z
    exact absurd z4 (hG j z1 z2 z3)
  · refine w_ld d_111_63 rfl rfl rfl ?_
    refine w_gI d_111_64 (by rfl) (by first | rfl | assumption) (by rfl) (by (try simp [stI, stA, stR]) <;> rfl) ?_
    refine w_ld d_111_67 rfl rfl rfl ?_
    refine w_iadd d_111_68 ?_
    refine w_sip d_111_69 (by decide) ?_
    refine w_icmp_le (g := 77) d_111_72 (by decide) (by omega) (fun h72 => ?_) (fun h72 => ?_)
    · refine w_bip d_111_77 (by decide) ?_
      refine w_st1 (L' := [_, _, _, _, _]) d_111_79 rfl (by decide) rfl (by decide) rfl ?_
      exact (m_type_2 _ 24 (stI μ 46 0 0) rfl (by omega) (by rw [show (stI μ 46 0 0).1 46 3 = μ.1 46 3 by simp [stI]]; omega)).le ⟨rfl, rfl, rfl, trivial⟩
    · omega
