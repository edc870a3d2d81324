/-! THE PURE PART, 19: contracts: the reference's making of values, its raw letters -/
theorem m_rawLetter {sc : Nat × (Nat → Int32)} {fr lo : Nat} {μ : Mem} {ρ : Nat × Nat × Nat} (hr : 0 ≤ μ.1 46 24 ∧ 0 ≤ μ.1 46 25 ∧ μ.1 46 24 + μ.1 46 25 ≤ 720) {k : Int} (hk : 0 ≤ k ∧ k < 2147483648) : w_E sc fr lo 127 [.ref 46, .int (ji k)] (hp μ, ρ) (.inl (some (.int (ji (if k < μ.1 46 25 then μ.2.2 57 (μ.1 46 24 + k) else 0))))) (hp μ, ρ) := by
  refine w_S.of (L0 := [some (.ref 46), some (.int (ji k))]) rfl rfl (Nat.le_of_ble_eq_true rfl) (by rfl) ?_
  refine w_ld d_127_0 rfl rfl rfl ?_
  refine w_ld d_127_1 rfl rfl rfl ?_
  refine w_gI d_127_2 (by rfl) (by first | rfl | assumption) (by rfl) (by (try simp [stI, stA, stR]) <;> rfl) ?_
  refine w_icmp_ge (g := 22) d_127_5 (by decide) (by omega) (fun h5 => ?_) (fun h5 => ?_)
  · refine w_con d_127_22 ?_
    refine w_iret d_127_23 rfl ?_
    first | exact ⟨rfl, rfl⟩ | (rw [if_pos (by omega)]; exact ⟨rfl, rfl⟩) | (rw [if_neg (by omega)]; exact ⟨rfl, rfl⟩)
  · refine w_ld d_127_8 rfl rfl rfl ?_
    refine w_getF d_127_9 (by rfl) (by first | rfl | assumption) (by rfl) (by rfl) ?_
    refine w_ld d_127_12 rfl rfl rfl ?_
    refine w_gI d_127_13 (by rfl) (by first | rfl | assumption) (by rfl) (by (try simp [stI, stA, stR]) <;> rfl) ?_
    refine w_ld d_127_16 rfl rfl rfl ?_
    refine w_iadd d_127_17 ?_
    refine w_aI d_127_18 (by first | rfl | assumption) (by omega) (by (try simp [stI, stA, stR]) <;> rfl) ?_
    refine w_goto (g := 23) d_127_19 (by decide) ?_
    refine w_iret d_127_23 rfl ?_
    first | exact ⟨rfl, rfl⟩ | (rw [if_pos (by omega)]; exact ⟨rfl, rfl⟩) | (rw [if_neg (by omega)]; exact ⟨rfl, rfl⟩)
theorem m_make {sc : Nat × (Nat → Int32)} {fr lo : Nat} {μ : Mem} {ρ : Nat × Nat × Nat} (hr : 0 ≤ μ.1 46 17 ∧ μ.1 46 17 < 128) {k p : Int} : w_E sc fr lo 122 [.ref 46, .int (ji k), .int (ji p)] (hp μ, ρ) (.inl (some (.int (ji (256 + μ.1 46 17))))) (hp (stA (stA (stA (stA (stA (stA (stA (stA (stI μ 46 17 (μ.1 46 17 + 1)) 49 (256 + μ.1 46 17) k) 50 (256 + μ.1 46 17) 0) 51 (256 + μ.1 46 17) 0) 52 (256 + μ.1 46 17) 0) 53 (256 + μ.1 46 17) 0) 54 (256 + μ.1 46 17) 1) 55 (256 + μ.1 46 17) p) 56 (256 + μ.1 46 17) (-1)), ρ) := by
  refine w_S.of (L0 := [some (.ref 46), some (.int (ji k)), some (.int (ji p)), none]) rfl rfl (Nat.le_of_ble_eq_true rfl) (by rfl) ?_
  refine w_sip d_122_0 (by decide) ?_
  refine w_ld d_122_3 rfl rfl rfl ?_
  refine w_gI d_122_4 (by rfl) (by first | rfl | assumption) (by rfl) (by (try simp [stI, stA, stR]) <;> rfl) ?_
  refine w_iadd d_122_7 ?_
  refine w_st1 (L' := [_, _, _, _]) d_122_8 rfl (by decide) rfl (by decide) rfl ?_
  refine w_ld d_122_9 rfl rfl rfl ?_
  refine w_stk d_122_10 rfl ?_
  refine w_gI d_122_11 (by rfl) (by first | rfl | assumption) (by rfl) (by (try simp [stI, stA, stR]) <;> rfl) ?_
  refine w_con d_122_14 ?_
  refine w_iadd d_122_15 ?_
  refine w_putI d_122_16 (by rfl) (by first | rfl | assumption) (by rfl) (fit_I (by rfl)) (by rfl) ?_
  refine w_ld d_122_19 rfl rfl rfl ?_
  refine w_getF d_122_20 (by rfl) (by first | rfl | assumption) (by rfl) (by rfl) ?_
  refine w_ld d_122_23 rfl rfl rfl ?_
  refine w_ld d_122_24 rfl rfl rfl ?_
  refine w_iast d_122_25 (by first | rfl | assumption) (by omega) ?_
  refine w_ld d_122_26 rfl rfl rfl ?_
  refine w_getF d_122_27 (by rfl) (by first | rfl | assumption) (by rfl) (by rfl) ?_
  refine w_ld d_122_30 rfl rfl rfl ?_
  refine w_lcon0 d_122_31 ?_
  refine w_last d_122_32 (by first | rfl | assumption) (by omega) ?_
  refine w_ld d_122_33 rfl rfl rfl ?_
  refine w_getF d_122_34 (by rfl) (by first | rfl | assumption) (by rfl) (by rfl) ?_
  refine w_ld d_122_37 rfl rfl rfl ?_
  refine w_con d_122_38 ?_
  refine w_iast d_122_39 (by first | rfl | assumption) (by omega) ?_
  refine w_ld d_122_40 rfl rfl rfl ?_
  refine w_getF d_122_41 (by rfl) (by first | rfl | assumption) (by rfl) (by rfl) ?_
  refine w_ld d_122_44 rfl rfl rfl ?_
  refine w_con d_122_45 ?_
  refine w_iast d_122_46 (by first | rfl | assumption) (by omega) ?_
  refine w_ld d_122_47 rfl rfl rfl ?_
  refine w_getF d_122_48 (by rfl) (by first | rfl | assumption) (by rfl) (by rfl) ?_
  refine w_ld d_122_51 rfl rfl rfl ?_
  refine w_con d_122_52 ?_
  refine w_iast d_122_53 (by first | rfl | assumption) (by omega) ?_
  refine w_ld d_122_54 rfl rfl rfl ?_
  refine w_getF d_122_55 (by rfl) (by first | rfl | assumption) (by rfl) (by rfl) ?_
  refine w_ld d_122_58 rfl rfl rfl ?_
  refine w_con d_122_59 ?_
  refine w_iast d_122_60 (by first | rfl | assumption) (by omega) ?_
  refine w_ld d_122_61 rfl rfl rfl ?_
  refine w_getF d_122_62 (by rfl) (by first | rfl | assumption) (by rfl) (by rfl) ?_
  refine w_ld d_122_65 rfl rfl rfl ?_
  refine w_ld d_122_66 rfl rfl rfl ?_
  refine w_iast d_122_67 (by first | rfl | assumption) (by omega) ?_
  refine w_ld d_122_68 rfl rfl rfl ?_
  refine w_getF d_122_69 (by rfl) (by first | rfl | assumption) (by rfl) (by rfl) ?_
  refine w_ld d_122_72 rfl rfl rfl ?_
  refine w_con d_122_73 ?_
  refine w_iast d_122_74 (by first | rfl | assumption) (by omega) ?_
  refine w_ld d_122_75 rfl rfl rfl ?_
  refine w_iret d_122_76 rfl ?_
  exact ⟨rfl, rfl⟩
theorem m_note {sc : Nat × (Nat → Int32)} {fr lo : Nat} {μ : Mem} {ρ : Nat × Nat × Nat} (hr : 0 ≤ μ.1 46 26 ∧ μ.1 46 26 < 24) : w_E sc fr lo 130 [.ref 46] (hp μ, ρ) (.inl none) (hp (stI (stA (stA (stI μ 46 26 (μ.1 46 26)) 62 (μ.1 46 26) (μ.1 46 24)) 63 (μ.1 46 26) (μ.1 46 25)) 46 26 (μ.1 46 26 + 1)), ρ) := by
  refine w_S.of (L0 := [some (.ref 46)]) rfl rfl (Nat.le_of_ble_eq_true rfl) (by rfl) ?_
  refine w_ld d_130_0 rfl rfl rfl ?_
  refine w_ld d_130_1 rfl rfl rfl ?_
  refine w_gI d_130_2 (by rfl) (by first | rfl | assumption) (by rfl) (by (try simp [stI, stA, stR]) <;> rfl) ?_
  refine w_bip d_130_5 (by decide) ?_
  refine w_icmp_ne (g := 14) d_130_7 (by decide) (by omega) (fun h7 => ?_) (fun h7 => ?_)
  · refine w_ld d_130_14 rfl rfl rfl ?_
    refine w_gI d_130_15 (by rfl) (by first | rfl | assumption) (by rfl) (by (try simp [stI, stA, stR]) <;> rfl) ?_
    refine w_putI d_130_18 (by rfl) (by first | rfl | assumption) (by rfl) (fit_I (by rfl)) (by rfl) ?_
    refine w_ld d_130_21 rfl rfl rfl ?_
    refine w_getF d_130_22 (by rfl) (by first | rfl | assumption) (by rfl) (by rfl) ?_
    refine w_ld d_130_25 rfl rfl rfl ?_
    refine w_gI d_130_26 (by rfl) (by first | rfl | assumption) (by rfl) (by (try simp [stI, stA, stR]) <;> rfl) ?_
    refine w_ld d_130_29 rfl rfl rfl ?_
    refine w_gI d_130_30 (by rfl) (by first | rfl | assumption) (by rfl) (by (try simp [stI, stA, stR]) <;> rfl) ?_
    refine w_iast d_130_33 (by first | rfl | assumption) (by omega) ?_
    refine w_ld d_130_34 rfl rfl rfl ?_
    refine w_getF d_130_35 (by rfl) (by first | rfl | assumption) (by rfl) (by rfl) ?_
    refine w_ld d_130_38 rfl rfl rfl ?_
    refine w_gI d_130_39 (by rfl) (by first | rfl | assumption) (by rfl) (by (try simp [stI, stA, stR]) <;> rfl) ?_
    refine w_ld d_130_42 rfl rfl rfl ?_
    refine w_gI d_130_43 (by rfl) (by first | rfl | assumption) (by rfl) (by (try simp [stI, stA, stR]) <;> rfl) ?_
    refine w_iast d_130_46 (by first | rfl | assumption) (by omega) ?_
    refine w_ld d_130_47 rfl rfl rfl ?_
    refine w_stk d_130_48 rfl ?_
    refine w_gI d_130_49 (by rfl) (by first | rfl | assumption) (by rfl) (by (try simp [stI, stA, stR]) <;> rfl) ?_
    refine w_con d_130_52 ?_
    refine w_iadd d_130_53 ?_
    refine w_putI d_130_54 (by rfl) (by first | rfl | assumption) (by rfl) (fit_I (by rfl)) (by rfl) ?_
    refine w_ret d_130_57 rfl ?_
    first | exact ⟨rfl, rfl⟩ | omega
  · refine w_con d_130_10 ?_
    refine w_goto (g := 18) d_130_11 (by decide) ?_
    refine w_putI d_130_18 (by rfl) (by first | rfl | assumption) (by rfl) (fit_I (by rfl)) (by rfl) ?_
    refine w_ld d_130_21 rfl rfl rfl ?_
    refine w_getF d_130_22 (by rfl) (by first | rfl | assumption) (by rfl) (by rfl) ?_
    refine w_ld d_130_25 rfl rfl rfl ?_
    refine w_gI d_130_26 (by rfl) (by first | rfl | assumption) (by rfl) (by (try simp [stI, stA, stR]) <;> rfl) ?_
    refine w_ld d_130_29 rfl rfl rfl ?_
    refine w_gI d_130_30 (by rfl) (by first | rfl | assumption) (by rfl) (by (try simp [stI, stA, stR]) <;> rfl) ?_
    refine w_iast d_130_33 (by first | rfl | assumption) (by omega) ?_
    refine w_ld d_130_34 rfl rfl rfl ?_
    refine w_getF d_130_35 (by rfl) (by first | rfl | assumption) (by rfl) (by rfl) ?_
    refine w_ld d_130_38 rfl rfl rfl ?_
    refine w_gI d_130_39 (by rfl) (by first | rfl | assumption) (by rfl) (by (try simp [stI, stA, stR]) <;> rfl) ?_
    refine w_ld d_130_42 rfl rfl rfl ?_
    refine w_gI d_130_43 (by rfl) (by first | rfl | assumption) (by rfl) (by (try simp [stI, stA, stR]) <;> rfl) ?_
    refine w_iast d_130_46 (by first | rfl | assumption) (by omega) ?_
    refine w_ld d_130_47 rfl rfl rfl ?_
    refine w_stk d_130_48 rfl ?_
    refine w_gI d_130_49 (by rfl) (by first | rfl | assumption) (by rfl) (by (try simp [stI, stA, stR]) <;> rfl) ?_
    refine w_con d_130_52 ?_
    refine w_iadd d_130_53 ?_
    refine w_putI d_130_54 (by rfl) (by first | rfl | assumption) (by rfl) (fit_I (by rfl)) (by rfl) ?_
    refine w_ret d_130_57 rfl ?_
    first | exact ⟨rfl, rfl⟩ | omega
theorem m_note24 {sc : Nat × (Nat → Int32)} {fr lo : Nat} {μ : Mem} {ρ : Nat × Nat × Nat} (hr : μ.1 46 26 = 24) : w_E sc fr lo 130 [.ref 46] (hp μ, ρ) (.inl none) (hp (stI (stA (stA (stI μ 46 26 0) 62 0 (μ.1 46 24)) 63 0 (μ.1 46 25)) 46 26 (0 + 1)), ρ) := by
  refine w_S.of (L0 := [some (.ref 46)]) rfl rfl (Nat.le_of_ble_eq_true rfl) (by rfl) ?_
  refine w_ld d_130_0 rfl rfl rfl ?_
  refine w_ld d_130_1 rfl rfl rfl ?_
  refine w_gI d_130_2 (by rfl) (by first | rfl | assumption) (by rfl) (by (try simp [stI, stA, stR]) <;> rfl) ?_
  refine w_bip d_130_5 (by decide) ?_
  refine w_icmp_ne (g := 14) d_130_7 (by decide) (by omega) (fun h7 => ?_) (fun h7 => ?_)
  · refine w_ld d_130_14 rfl rfl rfl ?_
    refine w_gI d_130_15 (by rfl) (by first | rfl | assumption) (by rfl) (by (try simp [stI, stA, stR]) <;> rfl) ?_
    refine w_putI d_130_18 (by rfl) (by first | rfl | assumption) (by rfl) (fit_I (by rfl)) (by rfl) ?_
    refine w_ld d_130_21 rfl rfl rfl ?_
    refine w_getF d_130_22 (by rfl) (by first | rfl | assumption) (by rfl) (by rfl) ?_
    refine w_ld d_130_25 rfl rfl rfl ?_
    refine w_gI d_130_26 (by rfl) (by first | rfl | assumption) (by rfl) (by (try simp [stI, stA, stR]) <;> rfl) ?_
    refine w_ld d_130_29 rfl rfl rfl ?_
    refine w_gI d_130_30 (by rfl) (by first | rfl | assumption) (by rfl) (by (try simp [stI, stA, stR]) <;> rfl) ?_
    refine w_iast d_130_33 (by first | rfl | assumption) (by omega) ?_
    refine w_ld d_130_34 rfl rfl rfl ?_
    refine w_getF d_130_35 (by rfl) (by first | rfl | assumption) (by rfl) (by rfl) ?_
    refine w_ld d_130_38 rfl rfl rfl ?_
    refine w_gI d_130_39 (by rfl) (by first | rfl | assumption) (by rfl) (by (try simp [stI, stA, stR]) <;> rfl) ?_
    refine w_ld d_130_42 rfl rfl rfl ?_
    refine w_gI d_130_43 (by rfl) (by first | rfl | assumption) (by rfl) (by (try simp [stI, stA, stR]) <;> rfl) ?_
    refine w_iast d_130_46 (by first | rfl | assumption) (by omega) ?_
    refine w_ld d_130_47 rfl rfl rfl ?_
    refine w_stk d_130_48 rfl ?_
    refine w_gI d_130_49 (by rfl) (by first | rfl | assumption) (by rfl) (by (try simp [stI, stA, stR]) <;> rfl) ?_
    refine w_con d_130_52 ?_
    refine w_iadd d_130_53 ?_
    refine w_putI d_130_54 (by rfl) (by first | rfl | assumption) (by rfl) (fit_I (by rfl)) (by rfl) ?_
    refine w_ret d_130_57 rfl ?_
    first | exact ⟨rfl, rfl⟩ | omega
  · refine w_con d_130_10 ?_
    refine w_goto (g := 18) d_130_11 (by decide) ?_
    refine w_putI d_130_18 (by rfl) (by first | rfl | assumption) (by rfl) (fit_I (by rfl)) (by rfl) ?_
    refine w_ld d_130_21 rfl rfl rfl ?_
    refine w_getF d_130_22 (by rfl) (by first | rfl | assumption) (by rfl) (by rfl) ?_
    refine w_ld d_130_25 rfl rfl rfl ?_
    refine w_gI d_130_26 (by rfl) (by first | rfl | assumption) (by rfl) (by (try simp [stI, stA, stR]) <;> rfl) ?_
    refine w_ld d_130_29 rfl rfl rfl ?_
    refine w_gI d_130_30 (by rfl) (by first | rfl | assumption) (by rfl) (by (try simp [stI, stA, stR]) <;> rfl) ?_
    refine w_iast d_130_33 (by first | rfl | assumption) (by omega) ?_
    refine w_ld d_130_34 rfl rfl rfl ?_
    refine w_getF d_130_35 (by rfl) (by first | rfl | assumption) (by rfl) (by rfl) ?_
    refine w_ld d_130_38 rfl rfl rfl ?_
    refine w_gI d_130_39 (by rfl) (by first | rfl | assumption) (by rfl) (by (try simp [stI, stA, stR]) <;> rfl) ?_
    refine w_ld d_130_42 rfl rfl rfl ?_
    refine w_gI d_130_43 (by rfl) (by first | rfl | assumption) (by rfl) (by (try simp [stI, stA, stR]) <;> rfl) ?_
    refine w_iast d_130_46 (by first | rfl | assumption) (by omega) ?_
    refine w_ld d_130_47 rfl rfl rfl ?_
    refine w_stk d_130_48 rfl ?_
    refine w_gI d_130_49 (by rfl) (by first | rfl | assumption) (by rfl) (by (try simp [stI, stA, stR]) <;> rfl) ?_
    refine w_con d_130_52 ?_
    refine w_iadd d_130_53 ?_
    refine w_putI d_130_54 (by rfl) (by first | rfl | assumption) (by rfl) (fit_I (by rfl)) (by rfl) ?_
    refine w_ret d_130_57 rfl ?_
    first | exact ⟨rfl, rfl⟩ | omega
