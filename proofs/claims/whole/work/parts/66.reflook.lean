/-! THE PURE PART, 48: contracts: the reference looks at a raw word -/
def wl0 (w : Int → Int) (s i : Int) : Int := if i < s then w i else 0
/-- both ways to look at a word's letter -/
theorem wl_wl0 {w : Int → Int} {s : Int} (h : ∀ i, 0 ≤ i → i < s → 32 ≤ w i ∧ w i ≤ 126) {k : Int} (hk : 0 ≤ k) : (wl0 w s k = wl w s k ∧ 32 ≤ wl w s k ∧ wl w s k ≤ 126 ∧ k < s) ∨ (wl0 w s k = 0 ∧ wl w s k = -1 ∧ s ≤ k) := by
  unfold wl0 wl
  by_cases z : k < s
  · rw [if_pos z, if_pos z]
    have := h k hk z
    exact Or.inl ⟨rfl, this.1, this.2, z⟩
  · rw [if_neg z, if_neg z]
    exact Or.inr ⟨rfl, rfl, by omega⟩
theorem m_codeOf {sc : Nat × (Nat → Int32)} {fr lo : Nat} {μ : Mem} {ρ : Nat × Nat × Nat} (hr : 0 ≤ μ.1 46 24 ∧ 0 ≤ μ.1 46 25 ∧ μ.1 46 24 + μ.1 46 25 ≤ 720 ∧ μ.1 46 25 ≤ 240) (hw : ∀ i, 0 ≤ i → i < μ.1 46 25 → 32 ≤ μ.2.2 57 (μ.1 46 24 + i) ∧ μ.2.2 57 (μ.1 46 24 + i) ≤ 126) (hf : 6 ≤ fr) (hl : 200 ≤ lo) : w_E sc fr lo 126 [.ref 46] (hp μ, ρ) (.inl (some (.int (ji (cod (fun i => μ.2.2 57 (μ.1 46 24 + i)) (μ.1 46 25)))))) (hp μ, ρ) := by
  have l0 := wl_wl0 (w := (fun i => μ.2.2 57 (μ.1 46 24 + i))) (s := (μ.1 46 25)) hw (k := 0) (by decide)
  have l1 := wl_wl0 (w := (fun i => μ.2.2 57 (μ.1 46 24 + i))) (s := (μ.1 46 25)) hw (k := 1) (by decide)
  have l2 := wl_wl0 (w := (fun i => μ.2.2 57 (μ.1 46 24 + i))) (s := (μ.1 46 25)) hw (k := 2) (by decide)
  have l3 := wl_wl0 (w := (fun i => μ.2.2 57 (μ.1 46 24 + i))) (s := (μ.1 46 25)) hw (k := 3) (by decide)
  have l4 := wl_wl0 (w := (fun i => μ.2.2 57 (μ.1 46 24 + i))) (s := (μ.1 46 25)) hw (k := 4) (by decide)
  have l5 := wl_wl0 (w := (fun i => μ.2.2 57 (μ.1 46 24 + i))) (s := (μ.1 46 25)) hw (k := 5) (by decide)
  have r0 : w_E sc (fr - 1) (lo - (19 + 2)) 127 [.ref 46, .int (ji 0)] (hp μ, ρ) (.inl (some (.int (ji (wl0 (fun i => μ.2.2 57 (μ.1 46 24 + i)) (μ.1 46 25) 0))))) (hp μ, ρ) := m_rawLetter (by omega) (by decide)
  have r1 : w_E sc (fr - 1) (lo - (19 + 2)) 127 [.ref 46, .int (ji 1)] (hp μ, ρ) (.inl (some (.int (ji (wl0 (fun i => μ.2.2 57 (μ.1 46 24 + i)) (μ.1 46 25) 1))))) (hp μ, ρ) := m_rawLetter (by omega) (by decide)
  have r2 : w_E sc (fr - 1) (lo - (19 + 2)) 127 [.ref 46, .int (ji 2)] (hp μ, ρ) (.inl (some (.int (ji (wl0 (fun i => μ.2.2 57 (μ.1 46 24 + i)) (μ.1 46 25) 2))))) (hp μ, ρ) := m_rawLetter (by omega) (by decide)
  have r3 : w_E sc (fr - 1) (lo - (19 + 2)) 127 [.ref 46, .int (ji 3)] (hp μ, ρ) (.inl (some (.int (ji (wl0 (fun i => μ.2.2 57 (μ.1 46 24 + i)) (μ.1 46 25) 3))))) (hp μ, ρ) := m_rawLetter (by omega) (by decide)
  have r4 : w_E sc (fr - 1) (lo - (19 + 2)) 127 [.ref 46, .int (ji 4)] (hp μ, ρ) (.inl (some (.int (ji (wl0 (fun i => μ.2.2 57 (μ.1 46 24 + i)) (μ.1 46 25) 4))))) (hp μ, ρ) := m_rawLetter (by omega) (by decide)
  have r5 : w_E sc (fr - 1) (lo - (19 + 2)) 127 [.ref 46, .int (ji 5)] (hp μ, ρ) (.inl (some (.int (ji (wl0 (fun i => μ.2.2 57 (μ.1 46 24 + i)) (μ.1 46 25) 5))))) (hp μ, ρ) := m_rawLetter (by omega) (by decide)
  refine w_S.of (L0 := [some (.ref 46), none]) rfl rfl (Nat.le_of_ble_eq_true rfl) (by rfl) ?_
  refine w_ld d_126_0 rfl rfl rfl ?_
  refine w_con d_126_1 ?_
  refine w_cV1 (a := 46) (as := [_]) (rest := _) rfl d_126_2 (by rfl) (by rfl) (by first | rfl | assumption) (by rfl) (by rfl) (Nat.le_of_ble_eq_true rfl) (by omega) (by omega) r0 ?_
  refine w_bip d_126_5 (by decide) ?_
  refine w_icmp_ne (g := 48) d_126_7 (by decide) (by omega) (fun h7 => ?_) (fun h7 => ?_)
  · refine w_con d_126_48 ?_
    refine w_iret d_126_49 rfl ?_
    have e : (cod (fun i => μ.2.2 57 (μ.1 46 24 + i)) (μ.1 46 25)) = -1 := by
      unfold cod
      rw [if_neg (by omega)]
    rw [e]
    exact ⟨rfl, rfl⟩
  · refine w_ld d_126_10 rfl rfl rfl ?_
    refine w_con d_126_11 ?_
    refine w_cV1 (a := 46) (as := [_]) (rest := _) rfl d_126_12 (by rfl) (by rfl) (by first | rfl | assumption) (by rfl) (by rfl) (Nat.le_of_ble_eq_true rfl) (by omega) (by omega) r1 ?_
    refine w_cS1 (as := [_]) (rest := _) rfl d_126_15 (by rfl) (by rfl) (by rfl) (by rfl) (Nat.le_of_ble_eq_true rfl) (by omega) (by omega) (m_six (by omega)) ?_
    refine w_if_eq (g := 48) d_126_18 (by decide) (by split <;> omega) (fun h18 => ?_) (fun h18 => ?_)
    · refine w_con d_126_48 ?_
      refine w_iret d_126_49 rfl ?_
      have hs6 : ¬ (48 ≤ (wl0 (fun i => μ.2.2 57 (μ.1 46 24 + i)) (μ.1 46 25) 1) ∧ (wl0 (fun i => μ.2.2 57 (μ.1 46 24 + i)) (μ.1 46 25) 1) ≤ 53) := fun z => by rw [if_pos z] at h18; cases h18
      have e : (cod (fun i => μ.2.2 57 (μ.1 46 24 + i)) (μ.1 46 25)) = -1 := by
        unfold cod
        rw [if_neg (by omega)]
      rw [e]
      exact ⟨rfl, rfl⟩
    · have hs6 : 48 ≤ (wl0 (fun i => μ.2.2 57 (μ.1 46 24 + i)) (μ.1 46 25) 1) ∧ (wl0 (fun i => μ.2.2 57 (μ.1 46 24 + i)) (μ.1 46 25) 1) ≤ 53 := Decidable.byContradiction (fun z => h18 (if_neg z))
      refine w_ld d_126_21 rfl rfl rfl ?_
      refine w_gI d_126_22 (by rfl) (by first | rfl | assumption) (by rfl) (by (try simp [stI, stA, stR]) <;> rfl) ?_
      refine w_con d_126_25 ?_
      refine w_icmp_gt (g := 48) d_126_26 (by decide) (by omega) (fun h26 => ?_) (fun h26 => ?_)
      · refine w_con d_126_48 ?_
        refine w_iret d_126_49 rfl ?_
        have e : (cod (fun i => μ.2.2 57 (μ.1 46 24 + i)) (μ.1 46 25)) = -1 := by
          unfold cod
          rw [if_neg (by omega)]
        rw [e]
        exact ⟨rfl, rfl⟩
      · refine w_ld d_126_29 rfl rfl rfl ?_
        refine w_gI d_126_30 (by rfl) (by first | rfl | assumption) (by rfl) (by (try simp [stI, stA, stR]) <;> rfl) ?_
        refine w_con d_126_33 ?_
        refine w_icmp_ne (g := 50) d_126_34 (by decide) (by omega) (fun h34 => ?_) (fun h34 => ?_)
        · refine w_ld d_126_50 rfl rfl rfl ?_
          refine w_con d_126_51 ?_
          refine w_cV1 (a := 46) (as := [_]) (rest := _) rfl d_126_52 (by rfl) (by rfl) (by first | rfl | assumption) (by rfl) (by rfl) (Nat.le_of_ble_eq_true rfl) (by omega) (by omega) r1 ?_
          refine w_bip d_126_55 (by decide) ?_
          refine w_isub d_126_57 ?_
          refine w_st1 (L' := [_, _]) d_126_58 rfl (by decide) rfl (by decide) rfl ?_
          refine w_ld d_126_59 rfl rfl rfl ?_
          refine w_gI d_126_60 (by rfl) (by first | rfl | assumption) (by rfl) (by (try simp [stI, stA, stR]) <;> rfl) ?_
          refine w_con d_126_63 ?_
          refine w_icmp_ne (g := 71) d_126_64 (by decide) (by omega) (fun h64 => ?_) (fun h64 => ?_)
          · refine w_bip d_126_71 (by decide) ?_
            refine w_ld d_126_73 rfl rfl rfl ?_
            refine w_imul d_126_74 ?_
            refine w_ld d_126_75 rfl rfl rfl ?_
            refine w_con d_126_76 ?_
            refine w_cV1 (a := 46) (as := [_]) (rest := _) rfl d_126_77 (by rfl) (by rfl) (by first | rfl | assumption) (by rfl) (by rfl) (Nat.le_of_ble_eq_true rfl) (by omega) (by omega) r2 ?_
            refine w_iadd d_126_80 ?_
            refine w_bip d_126_81 (by decide) ?_
            refine w_isub d_126_83 ?_
            refine w_iret d_126_84 rfl ?_
            first
            | (have e : (cod (fun i => μ.2.2 57 (μ.1 46 24 + i)) (μ.1 46 25)) = (wl0 (fun i => μ.2.2 57 (μ.1 46 24 + i)) (μ.1 46 25) 1) - 48 := by
                 unfold cod
                 rw [if_pos (by omega), if_pos (by omega)]
                 omega
               rw [e]
               exact ⟨rfl, rfl⟩)
            | (have e : (cod (fun i => μ.2.2 57 (μ.1 46 24 + i)) (μ.1 46 25)) = 6 * ((wl0 (fun i => μ.2.2 57 (μ.1 46 24 + i)) (μ.1 46 25) 1) - 48) + (wl0 (fun i => μ.2.2 57 (μ.1 46 24 + i)) (μ.1 46 25) 2) - 48 := by
                 unfold cod
                 rw [if_pos (by omega), if_neg (by omega)]
                 omega
               rw [e]
               exact ⟨rfl, rfl⟩)
          · refine w_ld d_126_67 rfl rfl rfl ?_
            refine w_goto (g := 84) d_126_68 (by decide) ?_
            refine w_iret d_126_84 rfl ?_
            first
            | (have e : (cod (fun i => μ.2.2 57 (μ.1 46 24 + i)) (μ.1 46 25)) = (wl0 (fun i => μ.2.2 57 (μ.1 46 24 + i)) (μ.1 46 25) 1) - 48 := by
                 unfold cod
                 rw [if_pos (by omega), if_pos (by omega)]
                 omega
               rw [e]
               exact ⟨rfl, rfl⟩)
            | (have e : (cod (fun i => μ.2.2 57 (μ.1 46 24 + i)) (μ.1 46 25)) = 6 * ((wl0 (fun i => μ.2.2 57 (μ.1 46 24 + i)) (μ.1 46 25) 1) - 48) + (wl0 (fun i => μ.2.2 57 (μ.1 46 24 + i)) (μ.1 46 25) 2) - 48 := by
                 unfold cod
                 rw [if_pos (by omega), if_neg (by omega)]
                 omega
               rw [e]
               exact ⟨rfl, rfl⟩)
        · refine w_ld d_126_37 rfl rfl rfl ?_
          refine w_con d_126_38 ?_
          refine w_cV1 (a := 46) (as := [_]) (rest := _) rfl d_126_39 (by rfl) (by rfl) (by first | rfl | assumption) (by rfl) (by rfl) (Nat.le_of_ble_eq_true rfl) (by omega) (by omega) r2 ?_
          refine w_cS1 (as := [_]) (rest := _) rfl d_126_42 (by rfl) (by rfl) (by rfl) (by rfl) (Nat.le_of_ble_eq_true rfl) (by omega) (by omega) (m_six (by omega)) ?_
          refine w_if_ne (g := 50) d_126_45 (by decide) (by split <;> omega) (fun h45 => ?_) (fun h45 => ?_)
          · have hs7 : 48 ≤ (wl0 (fun i => μ.2.2 57 (μ.1 46 24 + i)) (μ.1 46 25) 2) ∧ (wl0 (fun i => μ.2.2 57 (μ.1 46 24 + i)) (μ.1 46 25) 2) ≤ 53 := Decidable.byContradiction (fun z => h45 (if_neg z))
            refine w_ld d_126_50 rfl rfl rfl ?_
            refine w_con d_126_51 ?_
            refine w_cV1 (a := 46) (as := [_]) (rest := _) rfl d_126_52 (by rfl) (by rfl) (by first | rfl | assumption) (by rfl) (by rfl) (Nat.le_of_ble_eq_true rfl) (by omega) (by omega) r1 ?_
            refine w_bip d_126_55 (by decide) ?_
            refine w_isub d_126_57 ?_
            refine w_st1 (L' := [_, _]) d_126_58 rfl (by decide) rfl (by decide) rfl ?_
            refine w_ld d_126_59 rfl rfl rfl ?_
            refine w_gI d_126_60 (by rfl) (by first | rfl | assumption) (by rfl) (by (try simp [stI, stA, stR]) <;> rfl) ?_
            refine w_con d_126_63 ?_
            refine w_icmp_ne (g := 71) d_126_64 (by decide) (by omega) (fun h64 => ?_) (fun h64 => ?_)
            · refine w_bip d_126_71 (by decide) ?_
              refine w_ld d_126_73 rfl rfl rfl ?_
              refine w_imul d_126_74 ?_
              refine w_ld d_126_75 rfl rfl rfl ?_
              refine w_con d_126_76 ?_
              refine w_cV1 (a := 46) (as := [_]) (rest := _) rfl d_126_77 (by rfl) (by rfl) (by first | rfl | assumption) (by rfl) (by rfl) (Nat.le_of_ble_eq_true rfl) (by omega) (by omega) r2 ?_
              refine w_iadd d_126_80 ?_
              refine w_bip d_126_81 (by decide) ?_
              refine w_isub d_126_83 ?_
              refine w_iret d_126_84 rfl ?_
              first
              | (have e : (cod (fun i => μ.2.2 57 (μ.1 46 24 + i)) (μ.1 46 25)) = (wl0 (fun i => μ.2.2 57 (μ.1 46 24 + i)) (μ.1 46 25) 1) - 48 := by
                   unfold cod
                   rw [if_pos (by omega), if_pos (by omega)]
                   omega
                 rw [e]
                 exact ⟨rfl, rfl⟩)
              | (have e : (cod (fun i => μ.2.2 57 (μ.1 46 24 + i)) (μ.1 46 25)) = 6 * ((wl0 (fun i => μ.2.2 57 (μ.1 46 24 + i)) (μ.1 46 25) 1) - 48) + (wl0 (fun i => μ.2.2 57 (μ.1 46 24 + i)) (μ.1 46 25) 2) - 48 := by
                   unfold cod
                   rw [if_pos (by omega), if_neg (by omega)]
                   omega
                 rw [e]
                 exact ⟨rfl, rfl⟩)
            · refine w_ld d_126_67 rfl rfl rfl ?_
              refine w_goto (g := 84) d_126_68 (by decide) ?_
              refine w_iret d_126_84 rfl ?_
              first
              | (have e : (cod (fun i => μ.2.2 57 (μ.1 46 24 + i)) (μ.1 46 25)) = (wl0 (fun i => μ.2.2 57 (μ.1 46 24 + i)) (μ.1 46 25) 1) - 48 := by
                   unfold cod
                   rw [if_pos (by omega), if_pos (by omega)]
                   omega
                 rw [e]
                 exact ⟨rfl, rfl⟩)
              | (have e : (cod (fun i => μ.2.2 57 (μ.1 46 24 + i)) (μ.1 46 25)) = 6 * ((wl0 (fun i => μ.2.2 57 (μ.1 46 24 + i)) (μ.1 46 25) 1) - 48) + (wl0 (fun i => μ.2.2 57 (μ.1 46 24 + i)) (μ.1 46 25) 2) - 48 := by
                   unfold cod
                   rw [if_pos (by omega), if_neg (by omega)]
                   omega
                 rw [e]
                 exact ⟨rfl, rfl⟩)
          · refine w_con d_126_48 ?_
            refine w_iret d_126_49 rfl ?_
            have hs7 : ¬ (48 ≤ (wl0 (fun i => μ.2.2 57 (μ.1 46 24 + i)) (μ.1 46 25) 2) ∧ (wl0 (fun i => μ.2.2 57 (μ.1 46 24 + i)) (μ.1 46 25) 2) ≤ 53) := fun z => by rw [if_pos z] at h45; cases h45
            have e : (cod (fun i => μ.2.2 57 (μ.1 46 24 + i)) (μ.1 46 25)) = -1 := by
              unfold cod
              rw [if_neg (by omega)]
            rw [e]
            exact ⟨rfl, rfl⟩
theorem m_isCached {sc : Nat × (Nat → Int32)} {fr lo : Nat} {μ : Mem} {ρ : Nat × Nat × Nat} (hr : 0 ≤ μ.1 46 24 ∧ 0 ≤ μ.1 46 25 ∧ μ.1 46 24 + μ.1 46 25 ≤ 720 ∧ μ.1 46 25 ≤ 240) (hw : ∀ i, 0 ≤ i → i < μ.1 46 25 → 32 ≤ μ.2.2 57 (μ.1 46 24 + i) ∧ μ.2.2 57 (μ.1 46 24 + i) ≤ 126) {key : Int} (hk : key = 0 ∨ key = 1) (hf : 6 ≤ fr) (hl : 200 ≤ lo) : w_E sc fr lo 129 [.ref 46, .int (ji key)] (hp μ, ρ) (.inl (some (.int (ji (b01 (tks (fun i => μ.2.2 57 (μ.1 46 24 + i)) (μ.1 46 25) key)))))) (hp μ, ρ) := by
  have l0 := wl_wl0 (w := (fun i => μ.2.2 57 (μ.1 46 24 + i))) (s := (μ.1 46 25)) hw (k := 0) (by decide)
  have l1 := wl_wl0 (w := (fun i => μ.2.2 57 (μ.1 46 24 + i))) (s := (μ.1 46 25)) hw (k := 1) (by decide)
  have l2 := wl_wl0 (w := (fun i => μ.2.2 57 (μ.1 46 24 + i))) (s := (μ.1 46 25)) hw (k := 2) (by decide)
  have l3 := wl_wl0 (w := (fun i => μ.2.2 57 (μ.1 46 24 + i))) (s := (μ.1 46 25)) hw (k := 3) (by decide)
  have l4 := wl_wl0 (w := (fun i => μ.2.2 57 (μ.1 46 24 + i))) (s := (μ.1 46 25)) hw (k := 4) (by decide)
  have l5 := wl_wl0 (w := (fun i => μ.2.2 57 (μ.1 46 24 + i))) (s := (μ.1 46 25)) hw (k := 5) (by decide)
  have r0 : w_E sc (fr - 1) (lo - (19 + 2)) 127 [.ref 46, .int (ji 0)] (hp μ, ρ) (.inl (some (.int (ji (wl0 (fun i => μ.2.2 57 (μ.1 46 24 + i)) (μ.1 46 25) 0))))) (hp μ, ρ) := m_rawLetter (by omega) (by decide)
  have r1 : w_E sc (fr - 1) (lo - (19 + 2)) 127 [.ref 46, .int (ji 1)] (hp μ, ρ) (.inl (some (.int (ji (wl0 (fun i => μ.2.2 57 (μ.1 46 24 + i)) (μ.1 46 25) 1))))) (hp μ, ρ) := m_rawLetter (by omega) (by decide)
  have r2 : w_E sc (fr - 1) (lo - (19 + 2)) 127 [.ref 46, .int (ji 2)] (hp μ, ρ) (.inl (some (.int (ji (wl0 (fun i => μ.2.2 57 (μ.1 46 24 + i)) (μ.1 46 25) 2))))) (hp μ, ρ) := m_rawLetter (by omega) (by decide)
  have r3 : w_E sc (fr - 1) (lo - (19 + 2)) 127 [.ref 46, .int (ji 3)] (hp μ, ρ) (.inl (some (.int (ji (wl0 (fun i => μ.2.2 57 (μ.1 46 24 + i)) (μ.1 46 25) 3))))) (hp μ, ρ) := m_rawLetter (by omega) (by decide)
  have r4 : w_E sc (fr - 1) (lo - (19 + 2)) 127 [.ref 46, .int (ji 4)] (hp μ, ρ) (.inl (some (.int (ji (wl0 (fun i => μ.2.2 57 (μ.1 46 24 + i)) (μ.1 46 25) 4))))) (hp μ, ρ) := m_rawLetter (by omega) (by decide)
  have r5 : w_E sc (fr - 1) (lo - (19 + 2)) 127 [.ref 46, .int (ji 5)] (hp μ, ρ) (.inl (some (.int (ji (wl0 (fun i => μ.2.2 57 (μ.1 46 24 + i)) (μ.1 46 25) 5))))) (hp μ, ρ) := m_rawLetter (by omega) (by decide)
  refine w_S.of (L0 := [some (.ref 46), some (.int (ji key)), none]) rfl rfl (Nat.le_of_ble_eq_true rfl) (by rfl) ?_
  refine w_ld d_129_0 rfl rfl rfl ?_
  refine w_con d_129_1 ?_
  refine w_cV1 (a := 46) (as := [_]) (rest := _) rfl d_129_2 (by rfl) (by rfl) (by first | rfl | assumption) (by rfl) (by rfl) (Nat.le_of_ble_eq_true rfl) (by omega) (by omega) r1 ?_
  refine w_st1 (L' := [_, _, _]) d_129_5 rfl (by decide) rfl (by decide) rfl ?_
  refine w_ld d_129_6 rfl rfl rfl ?_
  refine w_gI d_129_7 (by rfl) (by first | rfl | assumption) (by rfl) (by (try simp [stI, stA, stR]) <;> rfl) ?_
  refine w_con d_129_10 ?_
  refine w_icmp_le (g := 50) d_129_11 (by decide) (by omega) (fun h11 => ?_) (fun h11 => ?_)
  · refine w_con d_129_50 ?_
    refine w_zret d_129_51 rfl (by decide) ?_
    rw [b01_f (show ¬ (tks (fun i => μ.2.2 57 (μ.1 46 24 + i)) (μ.1 46 25) key) from ?_)]
    · exact ⟨rfl, rfl⟩
    · intro z; have := z.1; omega
  · refine w_ld d_129_14 rfl rfl rfl ?_
    refine w_if_ne (g := 46) d_129_15 (by decide) (by omega) (fun h15 => ?_) (fun h15 => ?_)
    · refine w_con d_129_46 ?_
      refine w_goto (g := 51) d_129_47 (by decide) ?_
      refine w_zret d_129_51 rfl (by decide) ?_
      rw [b01_t (show (tks (fun i => μ.2.2 57 (μ.1 46 24 + i)) (μ.1 46 25) key) from ?_)]
      · exact ⟨rfl, rfl⟩
      · exact ⟨by omega, Or.inl (by omega)⟩
    · refine w_ld d_129_18 rfl rfl rfl ?_
      refine w_con d_129_19 ?_
      refine w_cV1 (a := 46) (as := [_]) (rest := _) rfl d_129_20 (by rfl) (by rfl) (by first | rfl | assumption) (by rfl) (by rfl) (Nat.le_of_ble_eq_true rfl) (by omega) (by omega) r0 ?_
      refine w_bip d_129_23 (by decide) ?_
      refine w_icmp_ne (g := 50) d_129_25 (by decide) (by omega) (fun h25 => ?_) (fun h25 => ?_)
      · refine w_con d_129_50 ?_
        refine w_zret d_129_51 rfl (by decide) ?_
        rw [b01_f (show ¬ (tks (fun i => μ.2.2 57 (μ.1 46 24 + i)) (μ.1 46 25) key) from ?_)]
        · exact ⟨rfl, rfl⟩
        · rintro ⟨z1, z2 | z2⟩
          · omega
          · have := z2.1; omega
      · refine w_ld d_129_28 rfl rfl rfl ?_
        refine w_bip d_129_29 (by decide) ?_
        refine w_icmp_eq (g := 46) d_129_31 (by decide) (by omega) (fun h31 => ?_) (fun h31 => ?_)
        · refine w_con d_129_46 ?_
          refine w_goto (g := 51) d_129_47 (by decide) ?_
          refine w_zret d_129_51 rfl (by decide) ?_
          rw [b01_t (show (tks (fun i => μ.2.2 57 (μ.1 46 24 + i)) (μ.1 46 25) key) from ?_)]
          · exact ⟨rfl, rfl⟩
          · exact ⟨by omega, Or.inr ⟨by omega, Or.inl (by omega)⟩⟩
        · refine w_ld d_129_34 rfl rfl rfl ?_
          refine w_bip d_129_35 (by decide) ?_
          refine w_icmp_eq (g := 46) d_129_37 (by decide) (by omega) (fun h37 => ?_) (fun h37 => ?_)
          · refine w_con d_129_46 ?_
            refine w_goto (g := 51) d_129_47 (by decide) ?_
            refine w_zret d_129_51 rfl (by decide) ?_
            rw [b01_t (show (tks (fun i => μ.2.2 57 (μ.1 46 24 + i)) (μ.1 46 25) key) from ?_)]
            · exact ⟨rfl, rfl⟩
            · exact ⟨by omega, Or.inr ⟨by omega, Or.inr (Or.inl (by omega))⟩⟩
          · refine w_ld d_129_40 rfl rfl rfl ?_
            refine w_bip d_129_41 (by decide) ?_
            refine w_icmp_ne (g := 50) d_129_43 (by decide) (by omega) (fun h43 => ?_) (fun h43 => ?_)
            · refine w_con d_129_50 ?_
              refine w_zret d_129_51 rfl (by decide) ?_
              rw [b01_f (show ¬ (tks (fun i => μ.2.2 57 (μ.1 46 24 + i)) (μ.1 46 25) key) from ?_)]
              · exact ⟨rfl, rfl⟩
              · rintro ⟨z1, z2 | z2⟩
                · omega
                · rcases z2.2 with w | w | w <;> omega
            · refine w_con d_129_46 ?_
              refine w_goto (g := 51) d_129_47 (by decide) ?_
              refine w_zret d_129_51 rfl (by decide) ?_
              rw [b01_t (show (tks (fun i => μ.2.2 57 (μ.1 46 24 + i)) (μ.1 46 25) key) from ?_)]
              · exact ⟨rfl, rfl⟩
              · exact ⟨by omega, Or.inr ⟨by omega, Or.inr (Or.inr (by omega))⟩⟩
theorem m_complete0 {sc : Nat × (Nat → Int32)} {fr lo : Nat} {μ : Mem} {ρ : Nat × Nat × Nat} (hq19 : μ.1 46 19 = 0) : w_E sc fr lo 146 [.ref 46] (hp μ, ρ) (.inl none) (hp μ, ρ) := by
  refine w_S.of (L0 := [some (.ref 46)]) rfl rfl (Nat.le_of_ble_eq_true rfl) (by rfl) ?_
  refine w_ld d_146_0 rfl rfl rfl ?_
  refine w_gI d_146_1 (by rfl) (by first | rfl | assumption) (by rfl) hq19 ?_
  refine w_if_le (g := 54) d_146_4 (by decide) (by decide) (fun h4 => ?_) (fun h4 => ?_)
  · refine w_ret d_146_54 rfl ?_
    exact ⟨rfl, rfl⟩
  · exact absurd h4 (by decide)
theorem m_complete {sc : Nat × (Nat → Int32)} {fr lo : Nat} {μ : Mem} {ρ : Nat × Nat × Nat} {d : Int} (hd : μ.1 46 19 = d ∧ 0 < d ∧ d ≤ 8) (hm : 0 ≤ μ.2.2 59 d ∧ μ.2.2 59 d ≤ 7) : w_E sc fr lo 146 [.ref 46] (hp μ, ρ) (.inl none) (hp (stA (stA μ 59 d (if μ.2.2 59 d = 0 then 1 else μ.2.2 59 d)) 60 d (μ.2.2 60 d + 1)), ρ) := by
  refine w_S.of (L0 := [some (.ref 46)]) rfl rfl (Nat.le_of_ble_eq_true rfl) (by rfl) ?_
  refine w_ld d_146_0 rfl rfl rfl ?_
  refine w_gI d_146_1 (by rfl) (by first | rfl | assumption) (by rfl) (by first | exact hd.1 | ((try simp only [Nat.reduceAdd]) <;> rfl)) ?_
  refine w_if_le (g := 54) d_146_4 (by decide) (by omega) (fun h4 => ?_) (fun h4 => ?_)
  · exact absurd h4 (by omega)
  · refine w_ld d_146_7 rfl rfl rfl ?_
    refine w_getF d_146_8 (by rfl) (by first | rfl | assumption) (by rfl) (by rfl) ?_
    refine w_ld d_146_11 rfl rfl rfl ?_
    refine w_gI d_146_12 (by rfl) (by first | rfl | assumption) (by rfl) (by first | exact hd.1 | ((try simp only [Nat.reduceAdd]) <;> rfl)) ?_
    refine w_ld d_146_15 rfl rfl rfl ?_
    refine w_getF d_146_16 (by rfl) (by first | rfl | assumption) (by rfl) (by rfl) ?_
    refine w_ld d_146_19 rfl rfl rfl ?_
    refine w_gI d_146_20 (by rfl) (by first | rfl | assumption) (by rfl) (by first | exact hd.1 | ((try simp only [Nat.reduceAdd]) <;> rfl)) ?_
    refine w_aI d_146_23 (by first | rfl | assumption) (by omega) (by first | exact hd.1 | ((try simp only [Nat.reduceAdd]) <;> rfl)) ?_
    refine w_if_ne (g := 31) d_146_24 (by decide) (by omega) (fun h24 => ?_) (fun h24 => ?_)
    · refine w_ld d_146_31 rfl rfl rfl ?_
      refine w_getF d_146_32 (by rfl) (by first | rfl | assumption) (by rfl) (by rfl) ?_
      refine w_ld d_146_35 rfl rfl rfl ?_
      refine w_gI d_146_36 (by rfl) (by first | rfl | assumption) (by rfl) (by first | exact hd.1 | ((try simp only [Nat.reduceAdd]) <;> rfl)) ?_
      refine w_aI d_146_39 (by first | rfl | assumption) (by omega) (by first | exact hd.1 | ((try simp only [Nat.reduceAdd]) <;> rfl)) ?_
      refine w_iast d_146_40 (by first | rfl | assumption) (by omega) ?_
      refine w_ld d_146_41 rfl rfl rfl ?_
      refine w_getF d_146_42 (by rfl) (by first | rfl | assumption) (by rfl) (by rfl) ?_
      refine w_ld d_146_45 rfl rfl rfl ?_
      refine w_gI d_146_46 (by rfl) (by first | rfl | assumption) (by rfl) (by first | exact hd.1 | ((try simp only [Nat.reduceAdd]) <;> rfl)) ?_
      refine w_stk d_146_49 rfl ?_
      refine w_aI d_146_50 (by first | rfl | assumption) (by omega) (show _ = μ.2.2 60 d from rfl) ?_
      refine w_con d_146_51 ?_
      refine w_iadd d_146_52 ?_
      refine w_iast d_146_53 (by first | rfl | assumption) (by omega) ?_
      refine w_ret d_146_54 rfl ?_
      rw [if_neg h24]
      exact ⟨rfl, rfl⟩
    · refine w_con d_146_27 ?_
      refine w_goto (g := 40) d_146_28 (by decide) ?_
      refine w_iast d_146_40 (by first | rfl | assumption) (by omega) ?_
      refine w_ld d_146_41 rfl rfl rfl ?_
      refine w_getF d_146_42 (by rfl) (by first | rfl | assumption) (by rfl) (by rfl) ?_
      refine w_ld d_146_45 rfl rfl rfl ?_
      refine w_gI d_146_46 (by rfl) (by first | rfl | assumption) (by rfl) (by first | exact hd.1 | ((try simp only [Nat.reduceAdd]) <;> rfl)) ?_
      refine w_stk d_146_49 rfl ?_
      refine w_aI d_146_50 (by first | rfl | assumption) (by omega) (show _ = μ.2.2 60 d from rfl) ?_
      refine w_con d_146_51 ?_
      refine w_iadd d_146_52 ?_
      refine w_iast d_146_53 (by first | rfl | assumption) (by omega) ?_
      refine w_ret d_146_54 rfl ?_
      rw [if_pos h24]
      exact ⟨rfl, rfl⟩
theorem m_mayGoOn {sc : Nat × (Nat → Int32)} {fr lo : Nat} {μ : Mem} {ρ : Nat × Nat × Nat} {d : Int} (hd : μ.1 46 19 = d ∧ 0 < d ∧ d ≤ 8) (hm : (0 ≤ μ.2.2 59 d ∧ μ.2.2 59 d ≤ 7) ∧ 0 ≤ μ.2.2 60 d ∧ μ.2.2 60 d ≤ 240) {e : Int} (he : e = 0 ∨ e = 1) : w_E sc fr lo 147 [.ref 46, .int (ji e)] (hp μ, ρ) (.inl (some (.int (ji (b01 ((3 ≤ μ.2.2 59 d ∧ (e = 1 ∧ μ.2.2 60 d = 1 ∨ e = 0 ∧ μ.2.2 60 d = 0)) ∨ (μ.2.2 59 d < 3 ∧ (e = 0 ∨ μ.2.2 59 d ≠ 2 ∨ μ.2.2 60 d % 2 = 0)))))))) (hp μ, ρ) := by
  have hmd : (μ.2.2 60 d).tmod 2 = μ.2.2 60 d % 2 := Int.tmod_eq_emod_of_nonneg hm.2.1
  refine w_S.of (L0 := [some (.ref 46), some (.int (ji e)), none, none]) rfl rfl (Nat.le_of_ble_eq_true rfl) (by rfl) ?_
  refine w_ld d_147_0 rfl rfl rfl ?_
  refine w_getF d_147_1 (by rfl) (by first | rfl | assumption) (by rfl) (by rfl) ?_
  refine w_ld d_147_4 rfl rfl rfl ?_
  refine w_gI d_147_5 (by rfl) (by first | rfl | assumption) (by rfl) (by first | exact hd.1 | ((try simp only [Nat.reduceAdd]) <;> rfl)) ?_
  refine w_aI d_147_8 (by first | rfl | assumption) (by omega) (by first | exact hd.1 | ((try simp only [Nat.reduceAdd]) <;> rfl)) ?_
  refine w_st1 (L' := [_, _, _, _]) d_147_9 rfl (by decide) rfl (by decide) rfl ?_
  refine w_ld d_147_10 rfl rfl rfl ?_
  refine w_getF d_147_11 (by rfl) (by first | rfl | assumption) (by rfl) (by rfl) ?_
  refine w_ld d_147_14 rfl rfl rfl ?_
  refine w_gI d_147_15 (by rfl) (by first | rfl | assumption) (by rfl) (by first | exact hd.1 | ((try simp only [Nat.reduceAdd]) <;> rfl)) ?_
  refine w_aI d_147_18 (by first | rfl | assumption) (by omega) (by first | exact hd.1 | ((try simp only [Nat.reduceAdd]) <;> rfl)) ?_
  refine w_st1 (L' := [_, _, _, _]) d_147_19 rfl (by decide) rfl (by decide) rfl ?_
  refine w_ld d_147_20 rfl rfl rfl ?_
  refine w_con d_147_21 ?_
  refine w_icmp_lt (g := 52) d_147_22 (by decide) (by omega) (fun h22 => ?_) (fun h22 => ?_)
  · refine w_ld d_147_52 rfl rfl rfl ?_
    refine w_if_eq (g := 67) d_147_53 (by decide) (by omega) (fun h53 => ?_) (fun h53 => ?_)
    · refine w_con d_147_67 ?_
      refine w_goto (g := 72) d_147_68 (by decide) ?_
      refine w_zret d_147_72 rfl (by decide) ?_
      (try rw [hmd] at h64)
      first | (rw [b01_t (show ((3 ≤ μ.2.2 59 d ∧ (e = 1 ∧ μ.2.2 60 d = 1 ∨ e = 0 ∧ μ.2.2 60 d = 0)) ∨ (μ.2.2 59 d < 3 ∧ (e = 0 ∨ μ.2.2 59 d ≠ 2 ∨ μ.2.2 60 d % 2 = 0))) from by omega)]; exact ⟨rfl, rfl⟩) | (rw [b01_f (show ¬ ((3 ≤ μ.2.2 59 d ∧ (e = 1 ∧ μ.2.2 60 d = 1 ∨ e = 0 ∧ μ.2.2 60 d = 0)) ∨ (μ.2.2 59 d < 3 ∧ (e = 0 ∨ μ.2.2 59 d ≠ 2 ∨ μ.2.2 60 d % 2 = 0))) from by omega)]; exact ⟨rfl, rfl⟩)
    · refine w_ld d_147_56 rfl rfl rfl ?_
      refine w_con d_147_57 ?_
      refine w_icmp_ne (g := 67) d_147_58 (by decide) (by omega) (fun h58 => ?_) (fun h58 => ?_)
      · refine w_con d_147_67 ?_
        refine w_goto (g := 72) d_147_68 (by decide) ?_
        refine w_zret d_147_72 rfl (by decide) ?_
        (try rw [hmd] at h64)
        first | (rw [b01_t (show ((3 ≤ μ.2.2 59 d ∧ (e = 1 ∧ μ.2.2 60 d = 1 ∨ e = 0 ∧ μ.2.2 60 d = 0)) ∨ (μ.2.2 59 d < 3 ∧ (e = 0 ∨ μ.2.2 59 d ≠ 2 ∨ μ.2.2 60 d % 2 = 0))) from by omega)]; exact ⟨rfl, rfl⟩) | (rw [b01_f (show ¬ ((3 ≤ μ.2.2 59 d ∧ (e = 1 ∧ μ.2.2 60 d = 1 ∨ e = 0 ∧ μ.2.2 60 d = 0)) ∨ (μ.2.2 59 d < 3 ∧ (e = 0 ∨ μ.2.2 59 d ≠ 2 ∨ μ.2.2 60 d % 2 = 0))) from by omega)]; exact ⟨rfl, rfl⟩)
      · refine w_ld d_147_61 rfl rfl rfl ?_
        refine w_con d_147_62 ?_
        refine w_irem d_147_63 (by omega) (by decide) ?_
        refine w_if_ne (g := 71) d_147_64 (by decide) (by rw [hmd]; omega) (fun h64 => ?_) (fun h64 => ?_)
        · refine w_con d_147_71 ?_
          refine w_zret d_147_72 rfl (by decide) ?_
          (try rw [hmd] at h64)
          first | (rw [b01_t (show ((3 ≤ μ.2.2 59 d ∧ (e = 1 ∧ μ.2.2 60 d = 1 ∨ e = 0 ∧ μ.2.2 60 d = 0)) ∨ (μ.2.2 59 d < 3 ∧ (e = 0 ∨ μ.2.2 59 d ≠ 2 ∨ μ.2.2 60 d % 2 = 0))) from by omega)]; exact ⟨rfl, rfl⟩) | (rw [b01_f (show ¬ ((3 ≤ μ.2.2 59 d ∧ (e = 1 ∧ μ.2.2 60 d = 1 ∨ e = 0 ∧ μ.2.2 60 d = 0)) ∨ (μ.2.2 59 d < 3 ∧ (e = 0 ∨ μ.2.2 59 d ≠ 2 ∨ μ.2.2 60 d % 2 = 0))) from by omega)]; exact ⟨rfl, rfl⟩)
        · refine w_con d_147_67 ?_
          refine w_goto (g := 72) d_147_68 (by decide) ?_
          refine w_zret d_147_72 rfl (by decide) ?_
          (try rw [hmd] at h64)
          first | (rw [b01_t (show ((3 ≤ μ.2.2 59 d ∧ (e = 1 ∧ μ.2.2 60 d = 1 ∨ e = 0 ∧ μ.2.2 60 d = 0)) ∨ (μ.2.2 59 d < 3 ∧ (e = 0 ∨ μ.2.2 59 d ≠ 2 ∨ μ.2.2 60 d % 2 = 0))) from by omega)]; exact ⟨rfl, rfl⟩) | (rw [b01_f (show ¬ ((3 ≤ μ.2.2 59 d ∧ (e = 1 ∧ μ.2.2 60 d = 1 ∨ e = 0 ∧ μ.2.2 60 d = 0)) ∨ (μ.2.2 59 d < 3 ∧ (e = 0 ∨ μ.2.2 59 d ≠ 2 ∨ μ.2.2 60 d % 2 = 0))) from by omega)]; exact ⟨rfl, rfl⟩)
  · refine w_ld d_147_25 rfl rfl rfl ?_
    refine w_if_eq (g := 42) d_147_26 (by decide) (by omega) (fun h26 => ?_) (fun h26 => ?_)
    · refine w_ld d_147_42 rfl rfl rfl ?_
      refine w_if_ne (g := 50) d_147_43 (by decide) (by omega) (fun h43 => ?_) (fun h43 => ?_)
      · refine w_con d_147_50 ?_
        refine w_zret d_147_51 rfl (by decide) ?_
        first | (rw [b01_t (show ((3 ≤ μ.2.2 59 d ∧ (e = 1 ∧ μ.2.2 60 d = 1 ∨ e = 0 ∧ μ.2.2 60 d = 0)) ∨ (μ.2.2 59 d < 3 ∧ (e = 0 ∨ μ.2.2 59 d ≠ 2 ∨ μ.2.2 60 d % 2 = 0))) from by omega)]; exact ⟨rfl, rfl⟩) | (rw [b01_f (show ¬ ((3 ≤ μ.2.2 59 d ∧ (e = 1 ∧ μ.2.2 60 d = 1 ∨ e = 0 ∧ μ.2.2 60 d = 0)) ∨ (μ.2.2 59 d < 3 ∧ (e = 0 ∨ μ.2.2 59 d ≠ 2 ∨ μ.2.2 60 d % 2 = 0))) from by omega)]; exact ⟨rfl, rfl⟩)
      · refine w_con d_147_46 ?_
        refine w_goto (g := 51) d_147_47 (by decide) ?_
        refine w_zret d_147_51 rfl (by decide) ?_
        first | (rw [b01_t (show ((3 ≤ μ.2.2 59 d ∧ (e = 1 ∧ μ.2.2 60 d = 1 ∨ e = 0 ∧ μ.2.2 60 d = 0)) ∨ (μ.2.2 59 d < 3 ∧ (e = 0 ∨ μ.2.2 59 d ≠ 2 ∨ μ.2.2 60 d % 2 = 0))) from by omega)]; exact ⟨rfl, rfl⟩) | (rw [b01_f (show ¬ ((3 ≤ μ.2.2 59 d ∧ (e = 1 ∧ μ.2.2 60 d = 1 ∨ e = 0 ∧ μ.2.2 60 d = 0)) ∨ (μ.2.2 59 d < 3 ∧ (e = 0 ∨ μ.2.2 59 d ≠ 2 ∨ μ.2.2 60 d % 2 = 0))) from by omega)]; exact ⟨rfl, rfl⟩)
    · refine w_ld d_147_29 rfl rfl rfl ?_
      refine w_con d_147_30 ?_
      refine w_icmp_ne (g := 38) d_147_31 (by decide) (by omega) (fun h31 => ?_) (fun h31 => ?_)
      · refine w_con d_147_38 ?_
        refine w_goto (g := 51) d_147_39 (by decide) ?_
        refine w_zret d_147_51 rfl (by decide) ?_
        first | (rw [b01_t (show ((3 ≤ μ.2.2 59 d ∧ (e = 1 ∧ μ.2.2 60 d = 1 ∨ e = 0 ∧ μ.2.2 60 d = 0)) ∨ (μ.2.2 59 d < 3 ∧ (e = 0 ∨ μ.2.2 59 d ≠ 2 ∨ μ.2.2 60 d % 2 = 0))) from by omega)]; exact ⟨rfl, rfl⟩) | (rw [b01_f (show ¬ ((3 ≤ μ.2.2 59 d ∧ (e = 1 ∧ μ.2.2 60 d = 1 ∨ e = 0 ∧ μ.2.2 60 d = 0)) ∨ (μ.2.2 59 d < 3 ∧ (e = 0 ∨ μ.2.2 59 d ≠ 2 ∨ μ.2.2 60 d % 2 = 0))) from by omega)]; exact ⟨rfl, rfl⟩)
      · refine w_con d_147_34 ?_
        refine w_goto (g := 51) d_147_35 (by decide) ?_
        refine w_zret d_147_51 rfl (by decide) ?_
        first | (rw [b01_t (show ((3 ≤ μ.2.2 59 d ∧ (e = 1 ∧ μ.2.2 60 d = 1 ∨ e = 0 ∧ μ.2.2 60 d = 0)) ∨ (μ.2.2 59 d < 3 ∧ (e = 0 ∨ μ.2.2 59 d ≠ 2 ∨ μ.2.2 60 d % 2 = 0))) from by omega)]; exact ⟨rfl, rfl⟩) | (rw [b01_f (show ¬ ((3 ≤ μ.2.2 59 d ∧ (e = 1 ∧ μ.2.2 60 d = 1 ∨ e = 0 ∧ μ.2.2 60 d = 0)) ∨ (μ.2.2 59 d < 3 ∧ (e = 0 ∨ μ.2.2 59 d ≠ 2 ∨ μ.2.2 60 d % 2 = 0))) from by omega)]; exact ⟨rfl, rfl⟩)
