/-! THE PURE PART, 6: contracts: Letters, and the calls that only look at it -/
theorem t_peek {sc : Nat × (Nat → Int32)} {fr lo : Nat} {μ : Mem} {ρ : Nat × Nat × Nat} {a n : Nat} (hs : sh a = some (.inl (1, [4, 0]))) (hr : sh (a + 1) = some (.inr (2, n))) (hc : 0 ≤ μ.1 a 1 ∧ μ.1 a 1 ≤ n ∧ n < 2147483648) {k : Int} (hk : -2147483648 ≤ k ∧ k < 2147483648) : w_E sc fr lo 13 [.ref a, .int (ji k)] (hp μ, ρ) (.inl (some (.int (ji (if 0 ≤ k ∧ k < μ.1 a 1 then μ.2.2 (a + 1) k else -1))))) (hp μ, ρ) := by
  refine w_S.of (L0 := [some (.ref a), some (.int (ji k))]) rfl rfl (Nat.le_of_ble_eq_true rfl) (by rfl) ?_
  refine w_ld d_13_0 rfl rfl rfl ?_
  refine w_if_lt (g := 21) d_13_1 (by decide) (by omega) (fun h1 => ?_) (fun h1 => ?_)
  · refine w_con d_13_21 ?_
    refine w_iret d_13_22 rfl ?_
    first | (rw [if_pos (by omega)]; exact ⟨rfl, rfl⟩) | (rw [if_neg (by omega)]; exact ⟨rfl, rfl⟩)
  · refine w_ld d_13_4 rfl rfl rfl ?_
    refine w_ld d_13_5 rfl rfl rfl ?_
    refine w_gI d_13_6 (by rfl) (by first | rfl | assumption) (by rfl) (by (try simp [stI, stA, stR]) <;> rfl) ?_
    refine w_icmp_ge (g := 21) d_13_9 (by decide) (by omega) (fun h9 => ?_) (fun h9 => ?_)
    · refine w_con d_13_21 ?_
      refine w_iret d_13_22 rfl ?_
      first | (rw [if_pos (by omega)]; exact ⟨rfl, rfl⟩) | (rw [if_neg (by omega)]; exact ⟨rfl, rfl⟩)
    · refine w_ld d_13_12 rfl rfl rfl ?_
      refine w_getF d_13_13 (by rfl) (by first | rfl | assumption) (by rfl) (by rfl) ?_
      refine w_ld d_13_16 rfl rfl rfl ?_
      refine w_aC d_13_17 (by first | rfl | assumption) (by omega) (by (try simp [stI, stA, stR]) <;> rfl) ?_
      refine w_goto (g := 22) d_13_18 (by decide) ?_
      refine w_iret d_13_22 rfl ?_
      first | (rw [if_pos (by omega)]; exact ⟨rfl, rfl⟩) | (rw [if_neg (by omega)]; exact ⟨rfl, rfl⟩)
theorem t_cut {sc : Nat × (Nat → Int32)} {fr lo : Nat} {μ : Mem} {ρ : Nat × Nat × Nat} {a n : Nat} (hs : sh a = some (.inl (1, [4, 0]))) (hr : sh (a + 1) = some (.inr (2, n))) (hc : 0 ≤ μ.1 a 1 ∧ μ.1 a 1 ≤ n ∧ n < 2147483648) {k : Int} : w_E sc fr lo 10 [.ref a, .int (ji k)] (hp μ, ρ) (.inl none) (hp (stI μ a 1 k), ρ) := by
  refine w_S.of (L0 := [some (.ref a), some (.int (ji k))]) rfl rfl (Nat.le_of_ble_eq_true rfl) (by rfl) ?_
  refine w_ld d_10_0 rfl rfl rfl ?_
  refine w_ld d_10_1 rfl rfl rfl ?_
  refine w_putI d_10_2 (by rfl) (by first | rfl | assumption) (by rfl) (fit_I (by rfl)) (by rfl) ?_
  refine w_ret d_10_5 rfl ?_
  exact ⟨rfl, rfl⟩
theorem t_add {sc : Nat × (Nat → Int32)} {fr lo : Nat} {μ : Mem} {ρ : Nat × Nat × Nat} {a n : Nat} (hs : sh a = some (.inl (1, [4, 0]))) (hr : sh (a + 1) = some (.inr (2, n))) (hc : 0 ≤ μ.1 a 1 ∧ μ.1 a 1 ≤ n ∧ n < 2147483648) {c : Int} (hk : 0 ≤ c ∧ c < 65536) : w_E sc fr lo 8 [.ref a, .int (ji c)] (hp μ, ρ) (.inl (some (.int (ji (if μ.1 a 1 < n then 1 else 0))))) (if μ.1 a 1 < n then (hp (stI (stA μ (a + 1) (μ.1 a 1) c) a 1 (μ.1 a 1 + 1)), ρ) else (hp μ, ρ)) := by
  refine w_S.of (L0 := [some (.ref a), some (.int (ji c))]) rfl rfl (Nat.le_of_ble_eq_true rfl) (by rfl) ?_
  refine w_ld d_8_0 rfl rfl rfl ?_
  refine w_gI d_8_1 (by rfl) (by first | rfl | assumption) (by rfl) (by (try simp [stI, stA, stR]) <;> rfl) ?_
  refine w_ld d_8_4 rfl rfl rfl ?_
  refine w_getF d_8_5 (by rfl) (by first | rfl | assumption) (by rfl) (by rfl) ?_
  refine w_alen d_8_8 (by first | rfl | assumption) (by decide) ?_
  refine w_icmp_lt (g := 14) d_8_9 (by decide) (by omega) (fun h9 => ?_) (fun h9 => ?_)
  · refine w_ld d_8_14 rfl rfl rfl ?_
    refine w_getF d_8_15 (by rfl) (by first | rfl | assumption) (by rfl) (by rfl) ?_
    refine w_ld d_8_18 rfl rfl rfl ?_
    refine w_gI d_8_19 (by rfl) (by first | rfl | assumption) (by rfl) (by (try simp [stI, stA, stR]) <;> rfl) ?_
    refine w_ld d_8_22 rfl rfl rfl ?_
    refine w_i2c d_8_23 (by omega) ?_
    refine w_cast d_8_24 (by first | rfl | assumption) (by omega) (by omega) ?_
    refine w_ld d_8_25 rfl rfl rfl ?_
    refine w_stk d_8_26 rfl ?_
    refine w_gI d_8_27 (by rfl) (by first | rfl | assumption) (by rfl) (by (try simp [stI, stA, stR]) <;> rfl) ?_
    refine w_con d_8_30 ?_
    refine w_iadd d_8_31 ?_
    refine w_putI d_8_32 (by rfl) (by first | rfl | assumption) (by rfl) (fit_I (by rfl)) (by rfl) ?_
    refine w_con d_8_35 ?_
    refine w_zret d_8_36 rfl (by omega) ?_
    first | (rw [if_pos (by omega), if_pos (by omega)]; exact ⟨rfl, rfl⟩) | (rw [if_neg (by omega), if_neg (by omega)]; exact ⟨rfl, rfl⟩)
  · refine w_con d_8_12 ?_
    refine w_zret d_8_13 rfl (by omega) ?_
    first | (rw [if_pos (by omega), if_pos (by omega)]; exact ⟨rfl, rfl⟩) | (rw [if_neg (by omega), if_neg (by omega)]; exact ⟨rfl, rfl⟩)
