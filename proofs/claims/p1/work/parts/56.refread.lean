/-! THE PURE PART, 40: contracts: the reference reads: spaces, names, numbers -/
theorem m_spaces_l {sc : Nat × (Nat → Int32)} {fr lo : Nat} {ρ : Nat × Nat × Nat} (hf : 8 ≤ fr) (hl : 200 ≤ lo) : ∀ (m : Nat) (μ : Mem), (μ.1 46 3 - μ.1 46 15).toNat = m → (0 ≤ μ.1 46 3 ∧ μ.1 46 3 ≤ 240) → (∀ k, 0 ≤ μ.2.2 47 k ∧ μ.2.2 47 k < 65536) → (0 ≤ μ.1 46 15 ∧ μ.1 46 15 ≤ 1000) → w_P sc fr lo 118 7 1 false (none) prog_9_method_9_code 0 [some (.ref 46)] [] (hp (μ), ρ) (fun o t' => o = .inl none ∧ t' = (hp (stI μ 46 15 (sk (μ.2.2 47) (μ.1 46 3) (μ.1 46 15))), ρ)) := by
  intro m
  induction m using Nat.strongRecOn with
  | ind m ih =>
    intro μ hm hn hch hpl
    refine w_ld d_118_0 rfl rfl rfl ?_
    refine w_ld d_118_1 rfl rfl rfl ?_
    refine w_gI d_118_2 (by rfl) (by first | rfl | assumption) (by rfl) (by (try simp [stI, stA, stR]) <;> rfl) ?_
    refine w_cV1 (as := [_]) (rest := _) rfl d_118_5 (by rfl) (by rfl) (by first | rfl | assumption) (by rfl) (by rfl) (Nat.le_of_ble_eq_true rfl) (by omega) (by omega) (m_look hn (by omega) (by omega)) ?_
    refine w_bip d_118_8 (by decide) ?_
    refine w_icmp_ne (g := 26) d_118_10 (by decide) (by have e1 := hch (μ.1 46 15); split <;> omega) (fun h10 => ?_) (fun h10 => ?_)
    · have e2 : sk (μ.2.2 47) (μ.1 46 3) (μ.1 46 15) = μ.1 46 15 := by
        rw [sk_eq, if_neg]
        rintro ⟨z1, z2⟩
        rw [if_pos z1] at h10
        exact h10 z2
      rw [e2, stI_self]
      refine w_ret d_118_26 rfl ?_
      exact ⟨rfl, rfl⟩
    · refine w_ld d_118_13 rfl rfl rfl ?_
      refine w_stk d_118_14 rfl ?_
      refine w_gI d_118_15 (by rfl) (by first | rfl | assumption) (by rfl) (by (try simp [stI, stA, stR]) <;> rfl) ?_
      refine w_con d_118_18 ?_
      refine w_iadd d_118_19 ?_
      refine w_putI d_118_20 (by rfl) (by first | rfl | assumption) (by rfl) (fit_I (by rfl)) (by rfl) ?_
      refine w_goto (g := 0) d_118_23 (by decide) ?_
      have hlt : μ.1 46 15 < μ.1 46 3 := Decidable.byContradiction (fun z => by rw [if_neg z] at h10; cases h10)
      rw [if_pos hlt] at h10
      have e3 := ih _ ?_ (stI μ 46 15 (μ.1 46 15 + 1)) rfl ?_ ?_ ?_
      · have e4 : (stI μ 46 15 (μ.1 46 15 + 1)).1 46 3 = μ.1 46 3 := rfl
        have e5 : (stI μ 46 15 (μ.1 46 15 + 1)).1 46 15 = μ.1 46 15 + 1 := rfl
        rw [e4, e5, stI_stI] at e3
        have e6 : sk (μ.2.2 47) (μ.1 46 3) (μ.1 46 15) = sk (μ.2.2 47) (μ.1 46 3) (μ.1 46 15 + 1) := by rw [sk_eq, if_pos ⟨hlt, h10⟩]
        rw [e6]
        exact e3
      all_goals have e4 : (stI μ 46 15 (μ.1 46 15 + 1)).1 46 3 = μ.1 46 3 := rfl
      all_goals have e5 : (stI μ 46 15 (μ.1 46 15 + 1)).1 46 15 = μ.1 46 15 + 1 := rfl
      · rw [e4, e5]; omega
      · exact hn
      · exact hch
      · rw [e5]; omega
theorem m_spaces {sc : Nat × (Nat → Int32)} {fr lo : Nat} {μ : Mem} {ρ : Nat × Nat × Nat} (hn : 0 ≤ μ.1 46 3 ∧ μ.1 46 3 ≤ 240) (hch : ∀ k, 0 ≤ μ.2.2 47 k ∧ μ.2.2 47 k < 65536) (hpl : 0 ≤ μ.1 46 15 ∧ μ.1 46 15 ≤ 1000) (hf : 8 ≤ fr) (hl : 200 ≤ lo) : w_E sc fr lo 118 [.ref 46] (hp μ, ρ) (.inl none) (hp (stI μ 46 15 (sk (μ.2.2 47) (μ.1 46 3) (μ.1 46 15))), ρ) := by
  refine w_S.of (L0 := [some (.ref 46)]) rfl rfl (Nat.le_of_ble_eq_true rfl) (by rfl) ?_
  exact m_spaces_l hf hl _ μ rfl hn hch hpl
theorem m_fits {sc : Nat × (Nat → Int32)} {fr lo : Nat} {μ : Mem} {ρ : Nat × Nat × Nat} {v d : Int} {m : Bool} (hv : -9223372036854775808 ≤ v ∧ v < 9223372036854775808) (hd : 0 ≤ d ∧ d ≤ 9) : w_E sc fr lo 142 [.long (jl v), .int (ji d), .int (ji (bi m))] (hp μ, ρ) (.inl (some (.int (ji (if (-922337203685477580 < v ∨ v = -922337203685477580 ∧ d ≤ (if m = true then 8 else 7)) then 1 else 0))))) (hp μ, ρ) := by
  refine w_S.of (L0 := [some (.long (jl v)), none, some (.int (ji d)), some (.int (ji (bi m))), none, none]) rfl rfl (Nat.le_of_ble_eq_true rfl) (by rfl) ?_
  refine w_ldl (x := (-922337203685477580)) d_142_0 (by rfl) ?_
  refine w_st2 (L' := [_, _, _, _, _, _]) d_142_3 rfl rfl (by decide) rfl ?_
  refine w_ld d_142_5 rfl rfl rfl ?_
  refine w_ld d_142_6 rfl rfl rfl ?_
  refine w_lcmp d_142_8 (by omega) ?_
  refine w_if_gt (g := 34) d_142_9 (by decide) (by have := lcm_in v (-922337203685477580); omega) (fun h9 => ?_) (fun h9 => ?_)
  · refine w_con d_142_34 ?_
    refine w_goto (g := 39) d_142_35 (by decide) ?_
    refine w_zret d_142_39 rfl (by decide) ?_
    have hE : (-922337203685477580 < v ∨ v = -922337203685477580 ∧ d ≤ (if m = true then 8 else 7)) := by
      exact Or.inl ((lcm_gt _ _).mp h9)
    rw [if_pos hE]
    exact ⟨rfl, rfl⟩
  · refine w_ld d_142_12 rfl rfl rfl ?_
    refine w_ld d_142_13 rfl rfl rfl ?_
    refine w_lcmp d_142_15 (by omega) ?_
    refine w_if_ne (g := 38) d_142_16 (by decide) (by have := lcm_in v (-922337203685477580); omega) (fun h16 => ?_) (fun h16 => ?_)
    · refine w_con d_142_38 ?_
      refine w_zret d_142_39 rfl (by decide) ?_
      have hE : ¬ (-922337203685477580 < v ∨ v = -922337203685477580 ∧ d ≤ (if m = true then 8 else 7)) := by
        intro z
        rcases z with z | z
        · have := (lcm_gt v (-922337203685477580)).mpr z
          omega
        · exact h16 ((lcm_eq _ _).mpr z.1)
      rw [if_neg hE]
      exact ⟨rfl, rfl⟩
    · refine w_ld d_142_19 rfl rfl rfl ?_
      refine w_ld d_142_20 rfl rfl rfl ?_
      refine w_if_eq (g := 29) d_142_21 (by decide) (by have := bi_01 m; omega) (fun h21 => ?_) (fun h21 => ?_)
      · refine w_bip d_142_29 (by decide) ?_
        refine w_icmp_gt (g := 38) d_142_31 (by decide) (by omega) (fun h31 => ?_) (fun h31 => ?_)
        · refine w_con d_142_38 ?_
          refine w_zret d_142_39 rfl (by decide) ?_
          have hE : ¬ (-922337203685477580 < v ∨ v = -922337203685477580 ∧ d ≤ (if m = true then 8 else 7)) := by
            intro z
            have hv1 : ¬ (-922337203685477580 < v) := fun w => by have := (lcm_gt v (-922337203685477580)).mpr w; omega
            have hv2 := (lcm_eq _ _).mp h16
            rcases z with z | z
            · exact hv1 z
            · have hz := z.2
              first | (rw [if_pos (bi_t.mp (by have := bi_01 m; omega))] at hz; omega) | (rw [if_neg (fun w => by have := bi_t.mpr w; omega)] at hz; omega)
          rw [if_neg hE]
          exact ⟨rfl, rfl⟩
        · refine w_con d_142_34 ?_
          refine w_goto (g := 39) d_142_35 (by decide) ?_
          refine w_zret d_142_39 rfl (by decide) ?_
          have hE : (-922337203685477580 < v ∨ v = -922337203685477580 ∧ d ≤ (if m = true then 8 else 7)) := by
            have hv2 := (lcm_eq _ _).mp h16
            refine Or.inr ⟨hv2, ?_⟩
            first | (rw [if_pos (bi_t.mp (by have := bi_01 m; omega))]; omega) | (rw [if_neg (fun w => by have := bi_t.mpr w; omega)]; omega)
          rw [if_pos hE]
          exact ⟨rfl, rfl⟩
      · refine w_bip d_142_24 (by decide) ?_
        refine w_goto (g := 31) d_142_26 (by decide) ?_
        refine w_icmp_gt (g := 38) d_142_31 (by decide) (by omega) (fun h31 => ?_) (fun h31 => ?_)
        · refine w_con d_142_38 ?_
          refine w_zret d_142_39 rfl (by decide) ?_
          have hE : ¬ (-922337203685477580 < v ∨ v = -922337203685477580 ∧ d ≤ (if m = true then 8 else 7)) := by
            intro z
            have hv1 : ¬ (-922337203685477580 < v) := fun w => by have := (lcm_gt v (-922337203685477580)).mpr w; omega
            have hv2 := (lcm_eq _ _).mp h16
            rcases z with z | z
            · exact hv1 z
            · have hz := z.2
              first | (rw [if_pos (bi_t.mp (by have := bi_01 m; omega))] at hz; omega) | (rw [if_neg (fun w => by have := bi_t.mpr w; omega)] at hz; omega)
          rw [if_neg hE]
          exact ⟨rfl, rfl⟩
        · refine w_con d_142_34 ?_
          refine w_goto (g := 39) d_142_35 (by decide) ?_
          refine w_zret d_142_39 rfl (by decide) ?_
          have hE : (-922337203685477580 < v ∨ v = -922337203685477580 ∧ d ≤ (if m = true then 8 else 7)) := by
            have hv2 := (lcm_eq _ _).mp h16
            refine Or.inr ⟨hv2, ?_⟩
            first | (rw [if_pos (bi_t.mp (by have := bi_01 m; omega))]; omega) | (rw [if_neg (fun w => by have := bi_t.mpr w; omega)]; omega)
          rw [if_pos hE]
          exact ⟨rfl, rfl⟩
