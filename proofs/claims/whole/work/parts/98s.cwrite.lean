/-! THE PURE PART, 98: contracts: write, of the class, of the law -/
theorem t_wexch {sc : Nat × (Nat → Int32)} {fr lo : Nat} {μ : Mem} {ρ : Nat × Nat × Nat} {y b : Nat} (hy : μ.2.1 35 3 = .ref y) : w_E sc fr lo 94 [.ref 35, .ref b] (hp μ, ρ) (.inl (some (.ref y))) (hp (stR μ 35 3 (.ref b)), ρ) := by
  refine w_S.of (L0 := [some (.ref 35), some (.ref b), none]) rfl rfl (Nat.le_of_ble_eq_true rfl) (by rfl) ?_
  refine w_ld d_94_0 rfl rfl rfl ?_
  refine w_getR d_94_1 (by rfl) (by first | rfl | assumption) (by rfl) hy ?_
  refine w_st1 (L' := [_, _, _]) d_94_4 rfl (by decide) rfl (by decide) rfl ?_
  refine w_ld d_94_5 rfl rfl rfl ?_
  refine w_ld d_94_6 rfl rfl rfl ?_
  refine w_putR d_94_7 (by rfl) (by first | rfl | assumption) (by rfl) (fit_R (by rfl)) (by rfl) ?_
  refine w_ld d_94_10 rfl rfl rfl ?_
  refine w_ret d_94_11 rfl ?_
  exact ⟨rfl, rfl⟩
theorem t_write {sc : Nat × (Nat → Int32)} {fr lo : Nat} {μ : Mem} {ρ : Nat × Nat × Nat} {k : Int} {t : Nat} (hT : isT t) (hk : k = 0 ∨ k = 1) (ht : μ.2.1 1 k.toNat = .ref t) (h0 : 0 < μ.1 t 7 ∧ μ.1 t 7 ≤ 240) {μ1 : Mem} {x y : Nat} (hX : x = 42 ∨ x = 44) (hY : y = 42 ∨ y = 44) (hR : w_E sc (fr - 1) (lo - (19 + 2)) 72 [.ref 35, .ref t] (hp μ, ρ) (.inl none) (hp μ1, ρ)) (hx : μ1.2.1 0 3 = .ref x) (hy : μ1.2.1 35 3 = .ref y) (hf : 20 ≤ fr) (hl : 700 ≤ lo) : w_E sc fr lo 71 [.ref 0, .int (ji k)] (hp μ, ρ) (.inl (some (.int (ji (μ1.1 y 1))))) (hp (stR (stR μ1 35 3 (.ref x)) 0 3 (.ref y)), ρ) := by
  obtain ⟨hT0, hT1, hT2, hT3, hT4, hT5, hT6, hT7, hT8⟩ := hT.sh
  have hT9 := hT
  unfold isT at hT9
  obtain ⟨hX0, hX1⟩ := xsh hX
  obtain ⟨hY0, hY1⟩ := xsh hY
  refine w_S.of (L0 := [some (.ref 0), some (.int (ji k))]) rfl rfl (Nat.le_of_ble_eq_true rfl) (by rfl) ?_
  refine w_ld d_71_0 rfl rfl rfl ?_
  refine w_cS0 (as := [_]) (rest := _) rfl d_71_1 (by rfl) (by rfl) (by rfl) (by rfl) (Nat.le_of_ble_eq_true rfl) (by omega) (by omega) (t_rs hk) ?_
  refine w_ld d_71_4 rfl rfl rfl ?_
  refine w_getF d_71_5 (by rfl) (by first | rfl | assumption) (by rfl) (by rfl) ?_
  refine w_ld d_71_8 rfl rfl rfl ?_
  refine w_aald d_71_9 (by first | rfl | assumption) (by omega) ht ?_
  refine w_gI d_71_10 (by rfl) (by first | rfl | assumption) (by rfl) rfl ?_
  refine w_if_ne (g := 24) d_71_13 (by decide) (by omega) (fun h13 => ?_) (fun h13 => ?_)
  · refine w_ld d_71_24 rfl rfl rfl ?_
    refine w_getF d_71_25 (by rfl) (by first | rfl | assumption) (by rfl) (by rfl) ?_
    refine w_ld d_71_28 rfl rfl rfl ?_
    refine w_getF d_71_29 (by rfl) (by first | rfl | assumption) (by rfl) (by rfl) ?_
    refine w_ld d_71_32 rfl rfl rfl ?_
    refine w_aald d_71_33 (by first | rfl | assumption) (by omega) ht ?_
    refine w_cV0 (as := [_]) (rest := _) rfl d_71_34 (by rfl) (by rfl) (by first | rfl | assumption) (by rfl) (by rfl) (Nat.le_of_ble_eq_true rfl) (by omega) (by omega) hR ?_
    refine w_ld d_71_37 rfl rfl rfl ?_
    refine w_ld d_71_38 rfl rfl rfl ?_
    refine w_getF d_71_39 (by rfl) (by first | rfl | assumption) (by rfl) (by rfl) ?_
    refine w_ld d_71_42 rfl rfl rfl ?_
    refine w_getR d_71_43 (by rfl) (by first | rfl | assumption) (by rfl) hx ?_
    refine w_cV1 (as := [_]) (rest := _) rfl d_71_46 (by rfl) (by rfl) (by first | rfl | assumption) (by rfl) (by rfl) (Nat.le_of_ble_eq_true rfl) (by omega) (by omega) (t_wexch hy) ?_
    refine w_putR d_71_49 (by rfl) (by first | rfl | assumption) (by rfl) (fit_R (by rfl)) (by rfl) ?_
    refine w_ld d_71_52 rfl rfl rfl ?_
    refine w_getR d_71_53 (by rfl) (by first | rfl | assumption) (by rfl) (stR_at _ _ _ _) ?_
    refine w_gI d_71_56 (by rfl) (by first | rfl | assumption) (by rfl) rfl ?_
    refine w_iret d_71_59 rfl ?_
    exact ⟨rfl, rfl⟩
  · exact absurd h13 (by omega)
theorem t_writeX {sc : Nat × (Nat → Int32)} {fr lo : Nat} {μ : Mem} {ρ : Nat × Nat × Nat} {k : Int} {t : Nat} (hT : isT t) (hk : k = 0 ∨ k = 1) (ht : μ.2.1 1 k.toNat = .ref t) (h0 : 0 < μ.1 t 7 ∧ μ.1 t 7 ≤ 240) {z : Nat × Nat} {τ : z_T} (hR : w_E sc (fr - 1) (lo - (19 + 2)) 72 [.ref 35, .ref t] (hp μ, ρ) (.inr z) τ) (hf : 20 ≤ fr) (hl : 700 ≤ lo) : w_E sc fr lo 71 [.ref 0, .int (ji k)] (hp μ, ρ) (.inr z) τ := by
  obtain ⟨hT0, hT1, hT2, hT3, hT4, hT5, hT6, hT7, hT8⟩ := hT.sh
  have hT9 := hT
  unfold isT at hT9
  refine w_S.of (L0 := [some (.ref 0), some (.int (ji k))]) rfl rfl (Nat.le_of_ble_eq_true rfl) (by rfl) ?_
  refine w_ld d_71_0 rfl rfl rfl ?_
  refine w_cS0 (as := [_]) (rest := _) rfl d_71_1 (by rfl) (by rfl) (by rfl) (by rfl) (Nat.le_of_ble_eq_true rfl) (by omega) (by omega) (t_rs hk) ?_
  refine w_ld d_71_4 rfl rfl rfl ?_
  refine w_getF d_71_5 (by rfl) (by first | rfl | assumption) (by rfl) (by rfl) ?_
  refine w_ld d_71_8 rfl rfl rfl ?_
  refine w_aald d_71_9 (by first | rfl | assumption) (by omega) ht ?_
  refine w_gI d_71_10 (by rfl) (by first | rfl | assumption) (by rfl) rfl ?_
  refine w_if_ne (g := 24) d_71_13 (by decide) (by omega) (fun h13 => ?_) (fun h13 => ?_)
  · refine w_ld d_71_24 rfl rfl rfl ?_
    refine w_getF d_71_25 (by rfl) (by first | rfl | assumption) (by rfl) (by rfl) ?_
    refine w_ld d_71_28 rfl rfl rfl ?_
    refine w_getF d_71_29 (by rfl) (by first | rfl | assumption) (by rfl) (by rfl) ?_
    refine w_ld d_71_32 rfl rfl rfl ?_
    refine w_aald d_71_33 (by first | rfl | assumption) (by omega) ht ?_
    refine w_cVx (as := [_]) (rest := _) rfl d_71_34 (by rfl) (by rfl) (by first | rfl | assumption) (by rfl) (by rfl) (Nat.le_of_ble_eq_true rfl) (by omega) (by omega) hR ?_
    exact ⟨rfl, rfl⟩
  · exact absurd h13 (by omega)
theorem t_writeE {sc : Nat × (Nat → Int32)} {fr lo : Nat} {μ : Mem} {ρ : Nat × Nat × Nat} {k : Int} {t : Nat} (hT : isT t) (hk : k = 0 ∨ k = 1) (ht : μ.2.1 1 k.toNat = .ref t) (h0 : μ.1 t 7 = 0) (hf : 20 ≤ fr) (hl : 700 ≤ lo) (hr : 1 ≤ ρ.2.1 ∧ 6 ≤ ρ.2.2) : w_E sc fr lo 71 [.ref 0, .int (ji k)] (hp μ, ρ) (.inr (2, ρ.1)) (hp μ, ρ.1 + 1, ρ.2.1 - 1, ρ.2.2 - 6) := by
  obtain ⟨hT0, hT1, hT2, hT3, hT4, hT5, hT6, hT7, hT8⟩ := hT.sh
  have hT9 := hT
  unfold isT at hT9
  refine w_S.of (L0 := [some (.ref 0), some (.int (ji k))]) rfl rfl (Nat.le_of_ble_eq_true rfl) (by rfl) ?_
  refine w_ld d_71_0 rfl rfl rfl ?_
  refine w_cS0 (as := [_]) (rest := _) rfl d_71_1 (by rfl) (by rfl) (by rfl) (by rfl) (Nat.le_of_ble_eq_true rfl) (by omega) (by omega) (t_rs hk) ?_
  refine w_ld d_71_4 rfl rfl rfl ?_
  refine w_getF d_71_5 (by rfl) (by first | rfl | assumption) (by rfl) (by rfl) ?_
  refine w_ld d_71_8 rfl rfl rfl ?_
  refine w_aald d_71_9 (by first | rfl | assumption) (by omega) ht ?_
  refine w_gI d_71_10 (by rfl) (by first | rfl | assumption) (by rfl) rfl ?_
  refine w_if_ne (g := 24) d_71_13 (by decide) (by omega) (fun h13 => ?_) (fun h13 => ?_)
  · exact absurd h13 (by omega)
  · refine w_thr rfl d_71_16 (by rfl) (by rfl) d_71_19 d_71_20 d_71_23 (show 1 ≤ ρ.2.1 ∧ 6 ≤ ρ.2.2 ∧ 5 < fr ∧ 0 + 81 ≤ lo by omega) ?_
    exact ⟨rfl, rfl⟩
theorem t_writeI {sc : Nat × (Nat → Int32)} {fr lo : Nat} {μ : Mem} {ρ : Nat × Nat × Nat} {k : Int} (hk : -2147483648 ≤ k ∧ k < 2147483648) (h01 : ¬ (k = 0 ∨ k = 1)) (hf : 20 ≤ fr) (hl : 700 ≤ lo) (hr : 1 ≤ ρ.2.1 ∧ 6 ≤ ρ.2.2) : w_E sc fr lo 71 [.ref 0, .int (ji k)] (hp μ, ρ) (.inr (0, ρ.1)) (hp μ, ρ.1 + 1, ρ.2.1 - 1, ρ.2.2 - 6) := by
  refine w_S.of (L0 := [some (.ref 0), some (.int (ji k))]) rfl rfl (Nat.le_of_ble_eq_true rfl) (by rfl) ?_
  refine w_ld d_71_0 rfl rfl rfl ?_
  refine w_cSx (as := [_]) (rest := _) rfl d_71_1 (by rfl) (by rfl) (by rfl) (by rfl) (Nat.le_of_ble_eq_true rfl) (by omega) (by omega) (t_rsx hk h01 (by omega) (by omega) hr) ?_
  exact ⟨rfl, rfl⟩
theorem l_write {sc : Nat × (Nat → Int32)} {fr lo : Nat} {μ : Mem} {ρ : Nat × Nat × Nat} {k n : Int} {μ1 : Mem} (hn : -2147483648 ≤ n ∧ n < 2147483648) (hR : w_E sc (fr - 1) (lo - (19 + 2)) 71 [.ref 0, .int (ji k)] (hp μ, ρ) (.inl (some (.int (ji n)))) (hp μ1, ρ)) (hf : 20 ≤ fr) (hl : 700 ≤ lo) : w_E sc fr lo 70 [.ref 0, .int (ji k), .ref 73] (hp μ, ρ) (.inl (some (.int (ji 0)))) (hp (stA μ1 73 0 n), ρ) := by
  refine w_S.of (L0 := [some (.ref 0), some (.int (ji k)), some (.ref 73), none]) rfl rfl (Nat.le_of_ble_eq_true rfl) (by rfl) ?_
  refine w_ld d_70_0 rfl rfl rfl ?_
  refine w_con d_70_1 ?_
  refine w_ld d_70_2 rfl rfl rfl ?_
  refine w_ld d_70_3 rfl rfl rfl ?_
  refine w_hV1 (as := [_]) (rest := _) d_70_4 (by rfl) (by rfl) (by first | rfl | assumption) (by rfl) (by rfl) (Nat.le_of_ble_eq_true rfl) (by omega) (by omega) hR ?_
  refine w_i2l d_70_7 (by omega) ?_
  refine w_last d_70_8 (by first | rfl | assumption) (by omega) ?_
  refine w_goto (g := 21) d_70_9 (by decide) ?_
  refine w_con d_70_21 ?_
  refine w_iret d_70_22 rfl ?_
  exact ⟨rfl, rfl⟩
theorem l_writeI {sc : Nat × (Nat → Int32)} {fr lo : Nat} {μ : Mem} {ρ : Nat × Nat × Nat} {k : Int} {μ1 : Mem} {ρ1 : Nat × Nat × Nat} {z : Nat} (hR : w_E sc (fr - 1) (lo - (19 + 2)) 71 [.ref 0, .int (ji k)] (hp μ, ρ) (.inr (0, z)) (hp μ1, ρ1)) (hf : 20 ≤ fr) (hl : 700 ≤ lo) : w_E sc fr lo 70 [.ref 0, .int (ji k), .ref 73] (hp μ, ρ) (.inl (some (.int (ji 1)))) (hp μ1, ρ1) := by
  refine w_S.of (L0 := [some (.ref 0), some (.int (ji k)), some (.ref 73), none]) rfl rfl (Nat.le_of_ble_eq_true rfl) (by rfl) ?_
  refine w_ld d_70_0 rfl rfl rfl ?_
  refine w_con d_70_1 ?_
  refine w_ld d_70_2 rfl rfl rfl ?_
  refine w_ld d_70_3 rfl rfl rfl ?_
  refine w_hVx (g := 12) (as := [_]) (rest := _) (by decide) d_70_4 (by rfl) (by rfl) (by first | rfl | assumption) (by rfl) (by rfl) (Nat.le_of_ble_eq_true rfl) (by omega) (by omega) hR ?_
  refine w_st1 (L' := [_, _, _, _]) d_70_12 rfl (by decide) rfl (by decide) rfl ?_
  refine w_con d_70_13 ?_
  refine w_iret d_70_14 rfl ?_
  exact ⟨rfl, rfl⟩
theorem l_writeE {sc : Nat × (Nat → Int32)} {fr lo : Nat} {μ : Mem} {ρ : Nat × Nat × Nat} {k : Int} {μ1 : Mem} {ρ1 : Nat × Nat × Nat} {z : Nat} (hR : w_E sc (fr - 1) (lo - (19 + 2)) 71 [.ref 0, .int (ji k)] (hp μ, ρ) (.inr (2, z)) (hp μ1, ρ1)) (hf : 20 ≤ fr) (hl : 700 ≤ lo) : w_E sc fr lo 70 [.ref 0, .int (ji k), .ref 73] (hp μ, ρ) (.inl (some (.int (ji 2)))) (hp μ1, ρ1) := by
  refine w_S.of (L0 := [some (.ref 0), some (.int (ji k)), some (.ref 73), none]) rfl rfl (Nat.le_of_ble_eq_true rfl) (by rfl) ?_
  refine w_ld d_70_0 rfl rfl rfl ?_
  refine w_con d_70_1 ?_
  refine w_ld d_70_2 rfl rfl rfl ?_
  refine w_ld d_70_3 rfl rfl rfl ?_
  refine w_hVx (g := 15) (as := [_]) (rest := _) (by decide) d_70_4 (by rfl) (by rfl) (by first | rfl | assumption) (by rfl) (by rfl) (Nat.le_of_ble_eq_true rfl) (by omega) (by omega) hR ?_
  refine w_st1 (L' := [_, _, _, _]) d_70_15 rfl (by decide) rfl (by decide) rfl ?_
  refine w_con d_70_16 ?_
  refine w_iret d_70_17 rfl ?_
  exact ⟨rfl, rfl⟩
theorem l_writeX {sc : Nat × (Nat → Int32)} {fr lo : Nat} {μ : Mem} {ρ : Nat × Nat × Nat} {k : Int} {μ1 : Mem} {ρ1 : Nat × Nat × Nat} {z : Nat} (hR : w_E sc (fr - 1) (lo - (19 + 2)) 71 [.ref 0, .int (ji k)] (hp μ, ρ) (.inr (3, z)) (hp μ1, ρ1)) (hf : 20 ≤ fr) (hl : 700 ≤ lo) : w_E sc fr lo 70 [.ref 0, .int (ji k), .ref 73] (hp μ, ρ) (.inl (some (.int (ji 3)))) (hp μ1, ρ1) := by
  refine w_S.of (L0 := [some (.ref 0), some (.int (ji k)), some (.ref 73), none]) rfl rfl (Nat.le_of_ble_eq_true rfl) (by rfl) ?_
  refine w_ld d_70_0 rfl rfl rfl ?_
  refine w_con d_70_1 ?_
  refine w_ld d_70_2 rfl rfl rfl ?_
  refine w_ld d_70_3 rfl rfl rfl ?_
  refine w_hVx (g := 18) (as := [_]) (rest := _) (by decide) d_70_4 (by rfl) (by rfl) (by first | rfl | assumption) (by rfl) (by rfl) (Nat.le_of_ble_eq_true rfl) (by omega) (by omega) hR ?_
  refine w_st1 (L' := [_, _, _, _]) d_70_18 rfl (by decide) rfl (by decide) rfl ?_
  refine w_con d_70_19 ?_
  refine w_iret d_70_20 rfl ?_
  exact ⟨rfl, rfl⟩
