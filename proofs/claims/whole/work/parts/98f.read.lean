/-! THE PURE PART, 85: contracts: read, of the class, of the law, of the reference -/
def cpy (μ : Mem) (r k : Int) : Mem := (μ.1, μ.2.1, fun b q => if b = 57 ∧ 240 * r ≤ q ∧ q < 240 * r + k then μ.2.2 57 (480 + (q - 240 * r)) else μ.2.2 b q)
theorem cpy_0 (μ : Mem) (r : Int) : cpy μ r 0 = μ := by
  refine Prod.ext rfl (Prod.ext rfl ?_)
  funext b q
  exact if_neg (by omega)
theorem cpy_src {μ : Mem} {r k : Int} (hr : r = 0 ∨ r = 1) (hk : 0 ≤ k ∧ k < 240) : (cpy μ r k).2.2 57 (480 + k) = μ.2.2 57 (480 + k) := if_neg (by omega)
theorem cpy_step {μ : Mem} {r k : Int} (hk : 0 ≤ k) : stA (cpy μ r k) 57 (240 * r + k) (μ.2.2 57 (480 + k)) = cpy μ r (k + 1) := by
  refine Prod.ext rfl (Prod.ext rfl ?_)
  funext b q
  show (if b = 57 ∧ q = 240 * r + k then μ.2.2 57 (480 + k) else if b = 57 ∧ 240 * r ≤ q ∧ q < 240 * r + k then μ.2.2 57 (480 + (q - 240 * r)) else μ.2.2 b q) = if b = 57 ∧ 240 * r ≤ q ∧ q < 240 * r + (k + 1) then μ.2.2 57 (480 + (q - 240 * r)) else μ.2.2 b q
  by_cases h1 : b = 57 ∧ q = 240 * r + k
  · rw [if_pos h1, if_pos (by omega), show 480 + (q - 240 * r) = 480 + k by omega]
  · rw [if_neg h1]
    by_cases h2 : b = 57 ∧ 240 * r ≤ q ∧ q < 240 * r + k
    · rw [if_pos h2, if_pos (by omega)]
    · rw [if_neg h2, if_neg (by omega)]
theorem t_read {sc : Nat × (Nat → Int32)} {fr lo : Nat} {μ : Mem} {ρ : Nat × Nat × Nat} {k : Int} {μ1 : Mem} {x : Nat} (hX : x = 42 ∨ x = 44) (hx : μ.2.1 0 3 = .ref x) (hk : k = 0 ∨ k = 1) (hR : w_E sc (fr - 1) (lo - (19 + 2)) 26 [.ref 20, .ref x] (hp μ, ρ) (.inl none) (hp μ1, ρ)) {t b : Nat} (hT : isT t) (hB : isT b) (ht : μ1.2.1 20 4 = .ref t) (hb : μ1.2.1 1 k.toNat = .ref b) (hf : 20 ≤ fr) (hl : 700 ≤ lo) : w_E sc fr lo 24 [.ref 0, .int (ji k)] (hp μ, ρ) (.inl (some (.int (ji (μ1.1 t 7))))) (hp (stR (stR μ1 20 4 (.ref b)) 1 k.toNat (.ref t)), ρ) := by
  obtain ⟨hT0, hT1, hT2, hT3, hT4, hT5, hT6, hT7, hT8⟩ := hT.sh
  refine w_S.of (L0 := [some (.ref 0), some (.int (ji k))]) rfl rfl (Nat.le_of_ble_eq_true rfl) (by rfl) ?_
  refine w_ld d_24_0 rfl rfl rfl ?_
  refine w_cS0 (as := [_]) (rest := _) rfl d_24_1 (by rfl) (by rfl) (by rfl) (by rfl) (Nat.le_of_ble_eq_true rfl) (by omega) (by omega) (t_rs hk) ?_
  refine w_ld d_24_4 rfl rfl rfl ?_
  refine w_getF d_24_5 (by rfl) (by first | rfl | assumption) (by rfl) (by rfl) ?_
  refine w_ld d_24_8 rfl rfl rfl ?_
  refine w_getR d_24_9 (by rfl) (by first | rfl | assumption) (by rfl) hx ?_
  refine w_cV0 (as := [_]) (rest := _) rfl d_24_12 (by rfl) (by rfl) (by first | rfl | assumption) (by rfl) (by rfl) (Nat.le_of_ble_eq_true rfl) (by omega) (by omega) hR ?_
  refine w_ld d_24_15 rfl rfl rfl ?_
  refine w_getF d_24_16 (by rfl) (by first | rfl | assumption) (by rfl) (by rfl) ?_
  refine w_ld d_24_19 rfl rfl rfl ?_
  refine w_ld d_24_20 rfl rfl rfl ?_
  refine w_getF d_24_21 (by rfl) (by first | rfl | assumption) (by rfl) (by rfl) ?_
  refine w_ld d_24_24 rfl rfl rfl ?_
  refine w_getF d_24_25 (by rfl) (by first | rfl | assumption) (by rfl) (by rfl) ?_
  refine w_ld d_24_28 rfl rfl rfl ?_
  refine w_aald d_24_29 (by first | rfl | assumption) (by omega) hb ?_
  refine w_cV1 (as := [_]) (rest := _) rfl d_24_30 (by rfl) (by rfl) (by first | rfl | assumption) (by rfl) (by rfl) (Nat.le_of_ble_eq_true rfl) (by omega) (by omega) (t_rexch hT ht) ?_
  refine w_aast d_24_33 (by first | rfl | assumption) (by first | rfl | assumption) (by omega) ?_
  refine w_ld d_24_34 rfl rfl rfl ?_
  refine w_getF d_24_35 (by rfl) (by first | rfl | assumption) (by rfl) (by rfl) ?_
  refine w_ld d_24_38 rfl rfl rfl ?_
  refine w_aald d_24_39 (by first | rfl | assumption) (by omega) (stR_at _ _ _ _) ?_
  refine w_gI d_24_40 (by rfl) (by first | rfl | assumption) (by rfl) rfl ?_
  refine w_iret d_24_43 rfl ?_
  exact ⟨rfl, rfl⟩
theorem t_readX {sc : Nat × (Nat → Int32)} {fr lo : Nat} {μ : Mem} {ρ : Nat × Nat × Nat} {k : Int} {x : Nat} (hx : μ.2.1 0 3 = .ref x) (hk : k = 0 ∨ k = 1) {τ : z_T} (hR : w_E sc (fr - 1) (lo - (19 + 2)) 26 [.ref 20, .ref x] (hp μ, ρ) (.inr (1, ρ.1)) τ) (hf : 20 ≤ fr) (hl : 700 ≤ lo) : w_E sc fr lo 24 [.ref 0, .int (ji k)] (hp μ, ρ) (.inr (1, ρ.1)) τ := by
  refine w_S.of (L0 := [some (.ref 0), some (.int (ji k))]) rfl rfl (Nat.le_of_ble_eq_true rfl) (by rfl) ?_
  refine w_ld d_24_0 rfl rfl rfl ?_
  refine w_cS0 (as := [_]) (rest := _) rfl d_24_1 (by rfl) (by rfl) (by rfl) (by rfl) (Nat.le_of_ble_eq_true rfl) (by omega) (by omega) (t_rs hk) ?_
  refine w_ld d_24_4 rfl rfl rfl ?_
  refine w_getF d_24_5 (by rfl) (by first | rfl | assumption) (by rfl) (by rfl) ?_
  refine w_ld d_24_8 rfl rfl rfl ?_
  refine w_getR d_24_9 (by rfl) (by first | rfl | assumption) (by rfl) hx ?_
  refine w_cVx (as := [_]) (rest := _) rfl d_24_12 (by rfl) (by rfl) (by first | rfl | assumption) (by rfl) (by rfl) (Nat.le_of_ble_eq_true rfl) (by omega) (by omega) hR ?_
  exact ⟨rfl, rfl⟩
theorem t_readI {sc : Nat × (Nat → Int32)} {fr lo : Nat} {μ : Mem} {ρ : Nat × Nat × Nat} {k : Int} (hk : -2147483648 ≤ k ∧ k < 2147483648) (h01 : ¬ (k = 0 ∨ k = 1)) (hf : 20 ≤ fr) (hl : 700 ≤ lo) (hr : 1 ≤ ρ.2.1 ∧ 6 ≤ ρ.2.2) : w_E sc fr lo 24 [.ref 0, .int (ji k)] (hp μ, ρ) (.inr (0, ρ.1)) (hp μ, ρ.1 + 1, ρ.2.1 - 1, ρ.2.2 - 6) := by
  refine w_S.of (L0 := [some (.ref 0), some (.int (ji k))]) rfl rfl (Nat.le_of_ble_eq_true rfl) (by rfl) ?_
  refine w_ld d_24_0 rfl rfl rfl ?_
  refine w_cSx (as := [_]) (rest := _) rfl d_24_1 (by rfl) (by rfl) (by rfl) (by rfl) (Nat.le_of_ble_eq_true rfl) (by omega) (by omega) (t_rsx hk h01 (by omega) (by omega) hr) ?_
  exact ⟨rfl, rfl⟩
theorem l_read {sc : Nat × (Nat → Int32)} {fr lo : Nat} {μ : Mem} {ρ : Nat × Nat × Nat} {k n : Int} {μ1 : Mem} (hn : -2147483648 ≤ n ∧ n < 2147483648) (hR : w_E sc (fr - 1) (lo - (19 + 2)) 24 [.ref 0, .int (ji k)] (hp μ, ρ) (.inl (some (.int (ji n)))) (hp μ1, ρ)) (hf : 20 ≤ fr) (hl : 700 ≤ lo) : w_E sc fr lo 23 [.ref 0, .int (ji k), .ref 73] (hp μ, ρ) (.inl (some (.int (ji 0)))) (hp (stA μ1 73 0 n), ρ) := by
  refine w_S.of (L0 := [some (.ref 0), some (.int (ji k)), some (.ref 73), none]) rfl rfl (Nat.le_of_ble_eq_true rfl) (by rfl) ?_
  refine w_ld d_23_0 rfl rfl rfl ?_
  refine w_con d_23_1 ?_
  refine w_ld d_23_2 rfl rfl rfl ?_
  refine w_ld d_23_3 rfl rfl rfl ?_
  refine w_hV1 (as := [_]) (rest := _) d_23_4 (by rfl) (by rfl) (by first | rfl | assumption) (by rfl) (by rfl) (Nat.le_of_ble_eq_true rfl) (by omega) (by omega) hR ?_
  refine w_i2l d_23_7 (by omega) ?_
  refine w_last d_23_8 (by first | rfl | assumption) (by omega) ?_
  refine w_goto (g := 18) d_23_9 (by decide) ?_
  refine w_con d_23_18 ?_
  refine w_iret d_23_19 rfl ?_
  exact ⟨rfl, rfl⟩
theorem l_readI {sc : Nat × (Nat → Int32)} {fr lo : Nat} {μ : Mem} {ρ : Nat × Nat × Nat} {k : Int} {μ1 : Mem} {ρ1 : Nat × Nat × Nat} {z : Nat} (hR : w_E sc (fr - 1) (lo - (19 + 2)) 24 [.ref 0, .int (ji k)] (hp μ, ρ) (.inr (0, z)) (hp μ1, ρ1)) (hf : 20 ≤ fr) (hl : 700 ≤ lo) : w_E sc fr lo 23 [.ref 0, .int (ji k), .ref 73] (hp μ, ρ) (.inl (some (.int (ji 1)))) (hp μ1, ρ1) := by
  refine w_S.of (L0 := [some (.ref 0), some (.int (ji k)), some (.ref 73), none]) rfl rfl (Nat.le_of_ble_eq_true rfl) (by rfl) ?_
  refine w_ld d_23_0 rfl rfl rfl ?_
  refine w_con d_23_1 ?_
  refine w_ld d_23_2 rfl rfl rfl ?_
  refine w_ld d_23_3 rfl rfl rfl ?_
  refine w_hVx (g := 12) (as := [_]) (rest := _) (by decide) d_23_4 (by rfl) (by rfl) (by first | rfl | assumption) (by rfl) (by rfl) (Nat.le_of_ble_eq_true rfl) (by omega) (by omega) hR ?_
  refine w_st1 (L' := [_, _, _, _]) d_23_12 rfl (by decide) rfl (by decide) rfl ?_
  refine w_con d_23_13 ?_
  refine w_iret d_23_14 rfl ?_
  exact ⟨rfl, rfl⟩
theorem l_readX {sc : Nat × (Nat → Int32)} {fr lo : Nat} {μ : Mem} {ρ : Nat × Nat × Nat} {k : Int} {μ1 : Mem} {ρ1 : Nat × Nat × Nat} {z : Nat} (hR : w_E sc (fr - 1) (lo - (19 + 2)) 24 [.ref 0, .int (ji k)] (hp μ, ρ) (.inr (1, z)) (hp μ1, ρ1)) (hf : 20 ≤ fr) (hl : 700 ≤ lo) : w_E sc fr lo 23 [.ref 0, .int (ji k), .ref 73] (hp μ, ρ) (.inl (some (.int (ji 2)))) (hp μ1, ρ1) := by
  refine w_S.of (L0 := [some (.ref 0), some (.int (ji k)), some (.ref 73), none]) rfl rfl (Nat.le_of_ble_eq_true rfl) (by rfl) ?_
  refine w_ld d_23_0 rfl rfl rfl ?_
  refine w_con d_23_1 ?_
  refine w_ld d_23_2 rfl rfl rfl ?_
  refine w_ld d_23_3 rfl rfl rfl ?_
  refine w_hVx (g := 15) (as := [_]) (rest := _) (by decide) d_23_4 (by rfl) (by rfl) (by first | rfl | assumption) (by rfl) (by rfl) (Nat.le_of_ble_eq_true rfl) (by omega) (by omega) hR ?_
  refine w_st1 (L' := [_, _, _, _]) d_23_15 rfl (by decide) rfl (by decide) rfl ?_
  refine w_con d_23_16 ?_
  refine w_iret d_23_17 rfl ?_
  exact ⟨rfl, rfl⟩
theorem m_cpy_l {sc : Nat × (Nat → Int32)} {fr lo : Nat} {μ : Mem} {ρ : Nat × Nat × Nat} {p r u : Int} (hr : r = 0 ∨ r = 1) (hu : μ.1 46 18 = u ∧ 0 ≤ u ∧ u ≤ 240) : ∀ (m : Nat) (k : Int), (u - k).toNat = m → (0 ≤ k ∧ k ≤ u) → w_P sc fr lo 115 7 4 false ((some FieldType.int)) prog_9_method_43_code 80 [some (.ref 46), some (.int (ji p)), some (.int (ji r)), some (.int (ji k))] [] (hp (cpy μ r k), ρ) (fun o t' => o = .inl (some (.int (ji (μ.1 46 17)))) ∧ t' = (hp (cpy μ r u), ρ)) := by
  intro m
  induction m using Nat.strongRecOn with
  | ind m ih =>
    intro k hm hk
    refine w_ld d_115_80 rfl rfl rfl ?_
    refine w_ld d_115_81 rfl rfl rfl ?_
    refine w_gI d_115_82 (by rfl) (by first | rfl | assumption) (by rfl) (show (cpy μ r k).1 46 18 = u from hu.1) ?_
    refine w_icmp_ge (g := 116) d_115_85 (by decide) (by omega) (fun h85 => ?_) (fun h85 => ?_)
    · refine w_ld d_115_116 rfl rfl rfl ?_
      refine w_gI d_115_117 (by rfl) (by first | rfl | assumption) (by rfl) (show (cpy μ r k).1 46 17 = μ.1 46 17 from rfl) ?_
      refine w_iret d_115_120 rfl ?_
      have e : k = u := by omega
      subst e
      exact ⟨rfl, rfl⟩
    · refine w_ld d_115_88 rfl rfl rfl ?_
      refine w_getF d_115_89 (by rfl) (by first | rfl | assumption) (by rfl) (by rfl) ?_
      refine w_sip d_115_92 (by decide) ?_
      refine w_ld d_115_95 rfl rfl rfl ?_
      refine w_imul d_115_96 ?_
      refine w_ld d_115_97 rfl rfl rfl ?_
      refine w_iadd d_115_98 ?_
      refine w_ld d_115_99 rfl rfl rfl ?_
      refine w_getF d_115_100 (by rfl) (by first | rfl | assumption) (by rfl) (by rfl) ?_
      refine w_sip d_115_103 (by decide) ?_
      refine w_ld d_115_106 rfl rfl rfl ?_
      refine w_iadd d_115_107 ?_
      refine w_aI d_115_108 (by first | rfl | assumption) (by omega) (cpy_src hr (by omega)) ?_
      refine w_iast d_115_109 (by first | rfl | assumption) (by omega) ?_
      refine w_inc (L' := [_, _, _, _]) d_115_110 rfl (by decide) rfl ?_
      refine w_goto (g := 80) d_115_113 (by decide) ?_
      rw [cpy_step hk.1]
      exact ih _ (by omega) (k + 1) rfl (by omega)
theorem m_read {sc : Nat × (Nat → Int32)} {fr lo : Nat} {μ : Mem} {ρ : Nat × Nat × Nat} {p r n u : Int} {ν : Mem} (hp01 : p = 0 ∨ p = 1) (hA : w_E sc (fr - 1) (lo - (19 + 4)) 117 [.ref 46] (hp μ, ρ) (.inl none) (hp ν, ρ)) (hw : ν.1 46 16 = -1) (ha : ν.1 46 4 = 0 ∧ r = p ∨ ν.1 46 4 = 1 ∧ r = 1 - p) (hn : ν.1 46 17 = n ∧ 0 ≤ n ∧ n ≤ 128) (hu : ν.1 46 18 = u ∧ 0 ≤ u ∧ u ≤ 240) (hf : 20 ≤ fr) (hl : 700 ≤ lo) : w_E sc fr lo 115 [.ref 46, .int (ji p)] (hp μ, ρ) (.inl (some (.int (ji n)))) (hp (cpy (stA (tko (stI (stI ν 46 1 (-1)) 46 0 0) r 256 (240 * r - 480) n) 48 r n) r u), ρ) := by
  have hr0 : r = 0 ∨ r = 1 := by omega
  have ea := m_area (sc := sc) (fr := fr - 1) (lo := lo - (19 + 2)) (μ := stI (stI ν 46 1 (-1)) 46 0 0) (ρ := ρ) (show ν.1 46 4 = 0 ∨ ν.1 46 4 = 1 by omega) (k := p)
  rw [show (if (stI (stI ν 46 1 (-1)) 46 0 0).1 46 4 = 0 then p else 1 - p) = r from by
    rcases ha with ⟨h1, h2⟩ | ⟨h1, h2⟩
    · exact (if_pos h1).trans h2.symm
    · exact (if_neg (fun z => by have z : ν.1 46 4 = 0 := z; omega)).trans h2.symm] at ea
  refine w_S.of (L0 := [some (.ref 46), some (.int (ji p)), none, none]) rfl rfl (Nat.le_of_ble_eq_true rfl) (by rfl) ?_
  refine w_ld d_115_0 rfl rfl rfl ?_
  refine w_cS1 (as := [_]) (rest := _) rfl d_115_1 (by rfl) (by rfl) (by rfl) (by rfl) (Nat.le_of_ble_eq_true rfl) (by omega) (by omega) (m_noSlot0 hp01) ?_
  refine w_if_eq (g := 14) d_115_4 (by decide) (by decide) (fun h4 => ?_) (fun h4 => ?_)
  · refine w_ld d_115_14 rfl rfl rfl ?_
    refine w_cV0 (a := 46) (as := []) (rest := _) rfl d_115_15 (by rfl) (by rfl) (by first | rfl | assumption) (by rfl) (by rfl) (Nat.le_of_ble_eq_true rfl) (by omega) (by omega) hA ?_
    refine w_ld d_115_18 rfl rfl rfl ?_
    refine w_ld d_115_19 rfl rfl rfl ?_
    refine w_gI d_115_20 (by rfl) (by first | rfl | assumption) (by rfl) (by first | exact hw | rfl) ?_
    refine w_putI d_115_23 (by rfl) (by first | rfl | assumption) (by rfl) (fit_I (by rfl)) (by rfl) ?_
    refine w_ld d_115_26 rfl rfl rfl ?_
    refine w_ld d_115_27 rfl rfl rfl ?_
    refine w_gI d_115_28 (by rfl) (by first | rfl | assumption) (by rfl) (by first | exact hw | rfl) ?_
    refine w_if_lt (g := 38) d_115_31 (by decide) (by decide) (fun h31 => ?_) (fun h31 => ?_)
    · refine w_con d_115_38 ?_
      refine w_putI d_115_39 (by rfl) (by first | rfl | assumption) (by rfl) (fit_I (by rfl)) (by rfl) ?_
      refine w_ld d_115_42 rfl rfl rfl ?_
      refine w_gI d_115_43 (by rfl) (by first | rfl | assumption) (by rfl) (by exact stI_at _ _ _ _) ?_
      refine w_if_le (g := 51) d_115_46 (by decide) (by decide) (fun h46 => ?_) (fun h46 => ?_)
      · refine w_ld d_115_51 rfl rfl rfl ?_
        refine w_ld d_115_52 rfl rfl rfl ?_
        refine w_cV1 (a := 46) (as := [_]) (rest := _) rfl d_115_53 (by rfl) (by rfl) (by first | rfl | assumption) (by rfl) (by rfl) (Nat.le_of_ble_eq_true rfl) (by omega) (by omega) ea ?_
        refine w_st1 (L' := [_, _, _, _]) d_115_56 rfl (by decide) rfl (by decide) rfl ?_
        refine w_ld d_115_57 rfl rfl rfl ?_
        refine w_ld d_115_58 rfl rfl rfl ?_
        refine w_sip d_115_59 (by decide) ?_
        refine w_ld d_115_62 rfl rfl rfl ?_
        refine w_gI d_115_63 (by rfl) (by first | rfl | assumption) (by rfl) (show (stI (stI ν 46 1 (-1)) 46 0 0).1 46 17 = n from hn.1) ?_
        refine w_sip d_115_66 (by decide) ?_
        refine w_ld d_115_69 rfl rfl rfl ?_
        refine w_imul d_115_70 ?_
        refine w_sip d_115_71 (by decide) ?_
        refine w_isub d_115_74 ?_
        refine w_cV0 (a := 46) (as := [_, _, _, _]) (rest := _) rfl d_115_75 (by rfl) (by rfl) (by first | rfl | assumption) (by rfl) (by rfl) (Nat.le_of_ble_eq_true rfl) (by omega) (by omega) (m_take hr0 (by omega)) ?_
        refine w_con d_115_78 ?_
        refine w_st1 (L' := [_, _, _, _]) d_115_79 rfl (by decide) rfl (by decide) rfl ?_
        have e := m_cpy_l (sc := sc) (fr := fr) (lo := lo) (μ := (stA (tko (stI (stI ν 46 1 (-1)) 46 0 0) r 256 (240 * r - 480) n) 48 r n)) (ρ := ρ) (p := p) (r := r) (u := u) hr0 hu _ 0 rfl (by omega)
        rw [cpy_0, show ((stA (tko (stI (stI ν 46 1 (-1)) 46 0 0) r 256 (240 * r - 480) n) 48 r n)).1 46 17 = n from hn.1] at e
        exact e
      · exact absurd h46 (by decide)
    · exact absurd h31 (by decide)
  · exact absurd rfl h4
theorem m_readW {sc : Nat × (Nat → Int32)} {fr lo : Nat} {μ : Mem} {ρ : Nat × Nat × Nat} {p w : Int} {ν : Mem} (hp01 : p = 0 ∨ p = 1) (hA : w_E sc (fr - 1) (lo - (19 + 4)) 117 [.ref 46] (hp μ, ρ) (.inl none) (hp ν, ρ)) (hw : ν.1 46 16 = w ∧ 0 ≤ w ∧ w ≤ 1000) (hf : 20 ≤ fr) (hl : 700 ≤ lo) : w_E sc fr lo 115 [.ref 46, .int (ji p)] (hp μ, ρ) (.inl (some (.int (ji 0)))) (hp (stI (stI ν 46 1 w) 46 0 2), ρ) := by
  refine w_S.of (L0 := [some (.ref 46), some (.int (ji p)), none, none]) rfl rfl (Nat.le_of_ble_eq_true rfl) (by rfl) ?_
  refine w_ld d_115_0 rfl rfl rfl ?_
  refine w_cS1 (as := [_]) (rest := _) rfl d_115_1 (by rfl) (by rfl) (by rfl) (by rfl) (Nat.le_of_ble_eq_true rfl) (by omega) (by omega) (m_noSlot0 hp01) ?_
  refine w_if_eq (g := 14) d_115_4 (by decide) (by decide) (fun h4 => ?_) (fun h4 => ?_)
  · refine w_ld d_115_14 rfl rfl rfl ?_
    refine w_cV0 (a := 46) (as := []) (rest := _) rfl d_115_15 (by rfl) (by rfl) (by first | rfl | assumption) (by rfl) (by rfl) (Nat.le_of_ble_eq_true rfl) (by omega) (by omega) hA ?_
    refine w_ld d_115_18 rfl rfl rfl ?_
    refine w_ld d_115_19 rfl rfl rfl ?_
    refine w_gI d_115_20 (by rfl) (by first | rfl | assumption) (by rfl) (by first | exact hw.1 | rfl) ?_
    refine w_putI d_115_23 (by rfl) (by first | rfl | assumption) (by rfl) (fit_I (by rfl)) (by rfl) ?_
    refine w_ld d_115_26 rfl rfl rfl ?_
    refine w_ld d_115_27 rfl rfl rfl ?_
    refine w_gI d_115_28 (by rfl) (by first | rfl | assumption) (by rfl) (by first | exact hw.1 | rfl) ?_
    refine w_if_lt (g := 38) d_115_31 (by decide) (by omega) (fun h31 => ?_) (fun h31 => ?_)
    · exact absurd h31 (by omega)
    · refine w_con d_115_34 ?_
      refine w_goto (g := 39) d_115_35 (by decide) ?_
      refine w_putI d_115_39 (by rfl) (by first | rfl | assumption) (by rfl) (fit_I (by rfl)) (by rfl) ?_
      refine w_ld d_115_42 rfl rfl rfl ?_
      refine w_gI d_115_43 (by rfl) (by first | rfl | assumption) (by rfl) (by exact stI_at _ _ _ _) ?_
      refine w_if_le (g := 51) d_115_46 (by decide) (by decide) (fun h46 => ?_) (fun h46 => ?_)
      · exact absurd h46 (by decide)
      · refine w_con d_115_49 ?_
        refine w_iret d_115_50 rfl ?_
        exact ⟨rfl, rfl⟩
  · exact absurd rfl h4
theorem m_readI {sc : Nat × (Nat → Int32)} {fr lo : Nat} {μ : Mem} {ρ : Nat × Nat × Nat} {p : Int} (hp1 : -2147483648 ≤ p ∧ p < 2147483648) (h01 : ¬ (p = 0 ∨ p = 1)) (hf : 20 ≤ fr) (hl : 700 ≤ lo) : w_E sc fr lo 115 [.ref 46, .int (ji p)] (hp μ, ρ) (.inl (some (.int (ji 0)))) (hp (stI μ 46 0 1), ρ) := by
  refine w_S.of (L0 := [some (.ref 46), some (.int (ji p)), none, none]) rfl rfl (Nat.le_of_ble_eq_true rfl) (by rfl) ?_
  refine w_ld d_115_0 rfl rfl rfl ?_
  refine w_cS1 (as := [_]) (rest := _) rfl d_115_1 (by rfl) (by rfl) (by rfl) (by rfl) (Nat.le_of_ble_eq_true rfl) (by omega) (by omega) (m_noSlot1 hp1 h01) ?_
  refine w_if_eq (g := 14) d_115_4 (by decide) (by decide) (fun h4 => ?_) (fun h4 => ?_)
  · exact absurd h4 (by decide)
  · refine w_ld d_115_7 rfl rfl rfl ?_
    refine w_con d_115_8 ?_
    refine w_putI d_115_9 (by rfl) (by first | rfl | assumption) (by rfl) (fit_I (by rfl)) (by rfl) ?_
    refine w_con d_115_12 ?_
    refine w_iret d_115_13 rfl ?_
    exact ⟨rfl, rfl⟩
