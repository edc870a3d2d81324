/-! THE PURE PART, 32: contracts: names and bare numbers of a text -/
theorem t_spell_l {sc : Nat × (Nat → Int32)} {fr lo : Nat} {μ : Mem} {ρ : Nat × Nat × Nat} {x : Nat} (hX : x = 42 ∨ x = 44) (hx : μ.2.1 20 3 = .ref x) (hn : 0 ≤ μ.1 x 1 ∧ μ.1 x 1 ≤ 240) (hch : ∀ k, 0 ≤ μ.2.2 (x + 1) k ∧ μ.2.2 (x + 1) k < 65536) (hpl : 0 ≤ μ.1 20 5 ∧ μ.1 20 5 ≤ 900) {k : Nat} (hk : k < 22) (hm : ∀ j, 0 ≤ j → j < slen k → (0 ≤ μ.1 20 5 + j ∧ μ.1 20 5 + j < μ.1 x 1 ∧ μ.2.2 (x + 1) (μ.1 20 5 + j) = sch k j)) (hf : 12 ≤ fr) (hl : 600 ≤ lo) : ∀ (m : Nat) (i : Int), (slen k - i).toNat = m → 0 ≤ i ∧ i ≤ slen k → w_P sc fr lo 68 5 3 false (none) prog_5_method_10_code 2 [some (.ref 20), some (.float (UInt32.ofNat k)), some (.int (ji i))] [] (hp (stI μ 20 5 (μ.1 20 5 + i)), ρ) (fun o t' => o = .inl none ∧ t' = (hp (stI μ 20 5 (μ.1 20 5 + slen k)), ρ)) := by
  intro m
  induction m using Nat.strongRecOn with
  | ind m ih =>
    intro i hm0 hi
    have hXs : sh x = some (.inl (1, [4, 0])) ∧ sh (x + 1) = some (.inr (2, 240)) := by rcases hX with rfl | rfl <;> exact ⟨rfl, rfl⟩
    obtain ⟨hX0, hX1⟩ := hXs
    have s7 := slen_le hk
    have m1 : (stI μ 20 5 (μ.1 20 5 + i)).1 20 5 = μ.1 20 5 + i := stI_at _ _ _ _
    have m2 : (stI μ 20 5 (μ.1 20 5 + i)).1 x 1 = μ.1 x 1 := stI_ne (by omega)
    refine w_ld d_68_2 rfl rfl rfl ?_
    refine w_ld d_68_3 rfl rfl rfl ?_
    refine w_slen (k := k) rfl d_68_4 (by rfl) (by rfl) hk (Nat.le_of_ble_eq_true rfl) (by omega) (by omega) ?_
    refine w_icmp_ge (g := 25) d_68_7 (by decide) (by omega) (fun h7 => ?_) (fun h7 => ?_)
    · refine w_ret d_68_25 rfl ?_
      rw [show i = slen k by omega]
      exact ⟨rfl, rfl⟩
    · refine w_ld d_68_10 rfl rfl rfl ?_
      refine w_ld d_68_11 rfl rfl rfl ?_
      refine w_ld d_68_12 rfl rfl rfl ?_
      refine w_schr (k := k) rfl d_68_13 (by rfl) (by rfl) hk (by omega) (Nat.le_of_ble_eq_true rfl) (by omega) (by omega) ?_
      have hc := sch_in hk (i := i) (by omega)
      have hmi := hm i (by omega) (by omega)
      refine w_cV0 (as := [_]) (rest := _) rfl d_68_16 (by rfl) (by rfl) (by first | rfl | assumption) (by rfl) (by rfl) (Nat.le_of_ble_eq_true rfl) (by omega) (by omega) (t_expect (μ := stI μ 20 5 (μ.1 20 5 + i)) hX hx (by rw [m2]; exact hn) hch (by rw [m1]; omega) (by omega) (by rw [m1, m2, if_pos ⟨hmi.1, hmi.2.1⟩]; exact hmi.2.2) (by omega) (by omega)) ?_
      refine w_inc (L' := [_, _, _]) d_68_19 rfl (by decide) rfl ?_
      refine w_goto (g := 2) d_68_22 (by decide) ?_
      have m3 : stI (stI μ 20 5 (μ.1 20 5 + i)) 20 5 ((stI μ 20 5 (μ.1 20 5 + i)).1 20 5 + 1) = stI μ 20 5 (μ.1 20 5 + (i + 1)) := by
        rw [m1, stI_stI, Int.add_assoc]
      rw [m3]
      exact ih _ (by omega) (i + 1) rfl (by omega)
theorem t_spell {sc : Nat × (Nat → Int32)} {fr lo : Nat} {μ : Mem} {ρ : Nat × Nat × Nat} {x : Nat} (hX : x = 42 ∨ x = 44) (hx : μ.2.1 20 3 = .ref x) (hn : 0 ≤ μ.1 x 1 ∧ μ.1 x 1 ≤ 240) (hch : ∀ k, 0 ≤ μ.2.2 (x + 1) k ∧ μ.2.2 (x + 1) k < 65536) (hpl : 0 ≤ μ.1 20 5 ∧ μ.1 20 5 ≤ 900) {k : Nat} (hk : k < 22) (hm : ∀ j, 0 ≤ j → j < slen k → (0 ≤ μ.1 20 5 + j ∧ μ.1 20 5 + j < μ.1 x 1 ∧ μ.2.2 (x + 1) (μ.1 20 5 + j) = sch k j)) (hf : 12 ≤ fr) (hl : 600 ≤ lo) : w_E sc fr lo 68 [.ref 20, .float (UInt32.ofNat k)] (hp μ, ρ) (.inl none) (hp (stI μ 20 5 (μ.1 20 5 + slen k)), ρ) := by
  refine w_S.of (L0 := [some (.ref 20), some (.float (UInt32.ofNat k)), none]) rfl rfl (Nat.le_of_ble_eq_true rfl) (by rfl) ?_
  refine w_con d_68_0 ?_
  refine w_st1 (L' := [_, _, _]) d_68_1 rfl (by decide) rfl (by decide) rfl ?_
  have e := t_spell_l (sc := sc) (ρ := ρ) hX hx hn hch hpl hk hm hf hl _ 0 rfl (by have := slen_le hk; omega)
  rw [Int.add_zero, stI_self] at e
  exact e
theorem t_spellx_l {sc : Nat × (Nat → Int32)} {fr lo : Nat} {μ : Mem} {ρ : Nat × Nat × Nat} {x : Nat} (hX : x = 42 ∨ x = 44) (hx : μ.2.1 20 3 = .ref x) (hn : 0 ≤ μ.1 x 1 ∧ μ.1 x 1 ≤ 240) (hch : ∀ k, 0 ≤ μ.2.2 (x + 1) k ∧ μ.2.2 (x + 1) k < 65536) (hpl : 0 ≤ μ.1 20 5 ∧ μ.1 20 5 ≤ 900) {k : Nat} (hk : k < 22) {w : Int} (hw : 0 ≤ w ∧ w < slen k) (hm : ∀ j, 0 ≤ j → j < w → (0 ≤ μ.1 20 5 + j ∧ μ.1 20 5 + j < μ.1 x 1 ∧ μ.2.2 (x + 1) (μ.1 20 5 + j) = sch k j)) (hx2 : ¬ (0 ≤ μ.1 20 5 + w ∧ μ.1 20 5 + w < μ.1 x 1 ∧ μ.2.2 (x + 1) (μ.1 20 5 + w) = sch k w)) (hf : 12 ≤ fr) (hl : 600 ≤ lo) (hr : 1 ≤ ρ.2.1 ∧ 6 ≤ ρ.2.2) : ∀ (m : Nat) (i : Int), (w - i).toNat = m → 0 ≤ i ∧ i ≤ w → w_P sc fr lo 68 5 3 false (none) prog_5_method_10_code 2 [some (.ref 20), some (.float (UInt32.ofNat k)), some (.int (ji i))] [] (hp (stI μ 20 5 (μ.1 20 5 + i)), ρ) (fun o t' => o = .inr (1, ρ.1) ∧ t' = (hp (stI (stI μ 20 5 (μ.1 20 5 + w)) 20 6 (μ.1 20 5 + w)), ρ.1 + 1, ρ.2.1 - 1, ρ.2.2 - 6)) := by
  intro m
  induction m using Nat.strongRecOn with
  | ind m ih =>
    intro i hm0 hi
    have hXs : sh x = some (.inl (1, [4, 0])) ∧ sh (x + 1) = some (.inr (2, 240)) := by rcases hX with rfl | rfl <;> exact ⟨rfl, rfl⟩
    obtain ⟨hX0, hX1⟩ := hXs
    have s7 := slen_le hk
    have m1 : (stI μ 20 5 (μ.1 20 5 + i)).1 20 5 = μ.1 20 5 + i := stI_at _ _ _ _
    have m2 : (stI μ 20 5 (μ.1 20 5 + i)).1 x 1 = μ.1 x 1 := stI_ne (by omega)
    refine w_ld d_68_2 rfl rfl rfl ?_
    refine w_ld d_68_3 rfl rfl rfl ?_
    refine w_slen (k := k) rfl d_68_4 (by rfl) (by rfl) hk (Nat.le_of_ble_eq_true rfl) (by omega) (by omega) ?_
    refine w_icmp_ge (g := 25) d_68_7 (by decide) (by omega) (fun h7 => ?_) (fun h7 => ?_)
    · exact absurd h7 (by omega)
    · refine w_ld d_68_10 rfl rfl rfl ?_
      refine w_ld d_68_11 rfl rfl rfl ?_
      refine w_ld d_68_12 rfl rfl rfl ?_
      refine w_schr (k := k) rfl d_68_13 (by rfl) (by rfl) hk (by omega) (Nat.le_of_ble_eq_true rfl) (by omega) (by omega) ?_
      have hc := sch_in hk (i := i) (by omega)
      by_cases hiw : i = w
      · subst hiw
        refine w_cVx (as := [_]) (rest := _) rfl d_68_16 (by rfl) (by rfl) (by first | rfl | assumption) (by rfl) (by rfl) (Nat.le_of_ble_eq_true rfl) (by omega) (by omega) (t_expectx (μ := stI μ 20 5 (μ.1 20 5 + i)) hX hx (by rw [m2]; exact hn) hch (by rw [m1]; omega) (by omega) (by
          rw [m1, m2]
          split
          · rename_i z
            exact fun z2 => hx2 ⟨z.1, z.2, z2⟩
          · omega) (by omega) (by omega) hr) ?_
        rw [m1]
        exact ⟨rfl, rfl⟩
      · have hmi := hm i (by omega) (by omega)
        refine w_cV0 (as := [_]) (rest := _) rfl d_68_16 (by rfl) (by rfl) (by first | rfl | assumption) (by rfl) (by rfl) (Nat.le_of_ble_eq_true rfl) (by omega) (by omega) (t_expect (μ := stI μ 20 5 (μ.1 20 5 + i)) hX hx (by rw [m2]; exact hn) hch (by rw [m1]; omega) (by omega) (by rw [m1, m2, if_pos ⟨hmi.1, hmi.2.1⟩]; exact hmi.2.2) (by omega) (by omega)) ?_
        refine w_inc (L' := [_, _, _]) d_68_19 rfl (by decide) rfl ?_
        refine w_goto (g := 2) d_68_22 (by decide) ?_
        have m3 : stI (stI μ 20 5 (μ.1 20 5 + i)) 20 5 ((stI μ 20 5 (μ.1 20 5 + i)).1 20 5 + 1) = stI μ 20 5 (μ.1 20 5 + (i + 1)) := by
          rw [m1, stI_stI, Int.add_assoc]
        rw [m3]
        exact ih _ (by omega) (i + 1) rfl (by omega)
theorem t_spellx {sc : Nat × (Nat → Int32)} {fr lo : Nat} {μ : Mem} {ρ : Nat × Nat × Nat} {x : Nat} (hX : x = 42 ∨ x = 44) (hx : μ.2.1 20 3 = .ref x) (hn : 0 ≤ μ.1 x 1 ∧ μ.1 x 1 ≤ 240) (hch : ∀ k, 0 ≤ μ.2.2 (x + 1) k ∧ μ.2.2 (x + 1) k < 65536) (hpl : 0 ≤ μ.1 20 5 ∧ μ.1 20 5 ≤ 900) {k : Nat} (hk : k < 22) {w : Int} (hw : 0 ≤ w ∧ w < slen k) (hm : ∀ j, 0 ≤ j → j < w → (0 ≤ μ.1 20 5 + j ∧ μ.1 20 5 + j < μ.1 x 1 ∧ μ.2.2 (x + 1) (μ.1 20 5 + j) = sch k j)) (hx2 : ¬ (0 ≤ μ.1 20 5 + w ∧ μ.1 20 5 + w < μ.1 x 1 ∧ μ.2.2 (x + 1) (μ.1 20 5 + w) = sch k w)) (hf : 12 ≤ fr) (hl : 600 ≤ lo) (hr : 1 ≤ ρ.2.1 ∧ 6 ≤ ρ.2.2) : w_E sc fr lo 68 [.ref 20, .float (UInt32.ofNat k)] (hp μ, ρ) (.inr (1, ρ.1)) (hp (stI (stI μ 20 5 (μ.1 20 5 + w)) 20 6 (μ.1 20 5 + w)), ρ.1 + 1, ρ.2.1 - 1, ρ.2.2 - 6) := by
  refine w_S.of (L0 := [some (.ref 20), some (.float (UInt32.ofNat k)), none]) rfl rfl (Nat.le_of_ble_eq_true rfl) (by rfl) ?_
  refine w_con d_68_0 ?_
  refine w_st1 (L' := [_, _, _]) d_68_1 rfl (by decide) rfl (by decide) rfl ?_
  have e := t_spellx_l (sc := sc) (ρ := ρ) hX hx hn hch hpl hk hw hm hx2 hf hl hr _ 0 rfl (by omega)
  rw [Int.add_zero, stI_self] at e
  exact e
