/-! FRESH OBJECTS, 1: read, write, same where the text and both slots are empty -/
theorem w_S.ex {sc : Nat × (Nat → Int32)} {fr lo y : Nat} {as : List Value} {τ : z_T} {o : z_O} {ρ : Nat × Nat × Nat} {P : Mem → Prop} (h : w_S sc fr lo y as τ (fun o' t => ∃ μ', o' = o ∧ P μ' ∧ t = (hp μ', ρ))) : ∃ μ', P μ' ∧ w_E sc fr lo y as τ o (hp μ', ρ) := by
  obtain ⟨o', t, ⟨μ', h1, h2, h3⟩, hN⟩ := h
  subst h1
  subst h3
  exact ⟨μ', h2, _, _, ⟨rfl, rfl⟩, hN⟩
/-- after the reader was begun on the empty text; after the spaces -/
def mA : Mem := stI (stI (stI (stI (stI (stR mu0 20 3 (.ref 44)) 20 5 0) 20 6 (-1)) 21 2 0) 26 7 0) (26 + 7) 1 0
def mB : Mem := stI mA 20 5 0
def mC : Mem := stI (stI mB 20 5 0) 20 6 0
theorem mA_hch (k : Int) : 0 ≤ mA.2.2 (44 + 1) k ∧ mA.2.2 (44 + 1) k < 65536 := ⟨show (0 : Int) ≤ 0 by decide, show (0 : Int) < 65536 by decide⟩
theorem f_name {sc : Nat × (Nat → Int32)} {fr lo : Nat} {ρ : Nat × Nat × Nat} (hf : 20 ≤ fr) (hl : 1000 ≤ lo) (hr : 1 ≤ ρ.2.1 ∧ 6 ≤ ρ.2.2) : w_E sc fr lo 67 [.ref 20, .int (ji (-1))] (hp mB, ρ) (.inr (1, ρ.1)) (hp mC, ρ.1 + 1, ρ.2.1 - 1, ρ.2.2 - 6) := by
  refine w_S.of (L0 := [some (.ref 20), some (.int (ji (-1))), none]) rfl rfl (Nat.le_of_ble_eq_true rfl) (by rfl) ?_
  refine w_ld d_67_0 rfl rfl rfl ?_
  refine w_gI d_67_1 (by rfl) (by first | rfl | assumption) (by rfl) (by rfl) ?_
  refine w_st1 (L' := [_, _, _]) d_67_4 rfl (by decide) rfl (by decide) rfl ?_
  refine w_ld d_67_5 rfl rfl rfl ?_
  refine w_bip d_67_6 (by decide) ?_
  refine w_icmp_ne (g := 28) d_67_8 (by decide) (by decide) (fun h8 => ?_) (fun h8 => ?_)
  · refine w_ld d_67_28 rfl rfl rfl ?_
    refine w_bip d_67_29 (by decide) ?_
    refine w_icmp_ne (g := 51) d_67_31 (by decide) (by decide) (fun h31 => ?_) (fun h31 => ?_)
    · refine w_ld d_67_51 rfl rfl rfl ?_
      refine w_lds (k := 7) d_67_52 (by rfl) ?_
      refine w_cVx (as := [_]) (rest := _) rfl d_67_54 (by rfl) (by rfl) (by first | rfl | assumption) (by rfl) (by rfl) (Nat.le_of_ble_eq_true rfl) (by omega) (by omega) (t_spellx (μ := mB) (x := 44) (Or.inr rfl) rfl ⟨by decide, by decide⟩ mA_hch ⟨by decide, by decide⟩ (k := 7) (by decide) (w := 0) ⟨by decide, by decide⟩ (fun j j0 j1 => by omega) (fun z => absurd z.2.1 (by decide)) (by omega) (by omega) hr) ?_
      exact ⟨rfl, rfl⟩
    · exact absurd h31 (by decide)
  · exact absurd h8 (by decide)
theorem f_element {sc : Nat × (Nat → Int32)} {fr lo : Nat} {ρ : Nat × Nat × Nat} (hf : 22 ≤ fr) (hl : 1100 ≤ lo) (hr : 1 ≤ ρ.2.1 ∧ 6 ≤ ρ.2.2) : w_E sc fr lo 29 [.ref 20, .int (ji 0), .int (ji 0)] (hp mA, ρ) (.inr (1, ρ.1)) (hp mC, ρ.1 + 1, ρ.2.1 - 1, ρ.2.2 - 6) := by
  refine w_S.of (L0 := [some (.ref 20), some (.int (ji 0)), some (.int (ji 0)), none]) rfl rfl (Nat.le_of_ble_eq_true rfl) (by rfl) ?_
  refine w_ld d_29_0 rfl rfl rfl ?_
  refine w_cV0 (as := []) (rest := _) rfl d_29_1 (by rfl) (by rfl) (by first | rfl | assumption) (by rfl) (by rfl) (Nat.le_of_ble_eq_true rfl) (by omega) (by omega) (show w_E sc (fr - 1) (lo - (19 + 1)) 30 [.ref 20] (hp mA, ρ) (.inl none) (hp mB, ρ) from t_skip (μ := mA) (x := 44) (Or.inr rfl) rfl ⟨by decide, by decide⟩ mA_hch ⟨by decide, by decide⟩ (by omega) (by omega)) ?_
  refine w_ld d_29_4 rfl rfl rfl ?_
  refine w_getR d_29_5 (by rfl) (by first | rfl | assumption) (by rfl) (show mB.2.1 20 3 = .ref 44 from rfl) ?_
  refine w_ld d_29_8 rfl rfl rfl ?_
  refine w_gI d_29_9 (by rfl) (by first | rfl | assumption) (by rfl) (by rfl) ?_
  refine w_cV1 (as := [_]) (rest := _) rfl d_29_12 (by rfl) (by rfl) (by first | rfl | assumption) (by rfl) (by rfl) (Nat.le_of_ble_eq_true rfl) (by omega) (by omega) (show w_E sc (fr - 1) (lo - (19 + 2)) 13 [.ref 44, .int (ji 0)] (hp mB, ρ) (.inl (some (.int (ji (-1))))) (hp mB, ρ) from t_peek (μ := mB) (a := 44) (n := 240) rfl rfl ⟨by decide, by decide, by decide⟩ (k := 0) ⟨by decide, by decide⟩) ?_
  refine w_st1 (L' := [_, _, _, _]) d_29_15 rfl (by decide) rfl (by decide) rfl ?_
  refine w_ld d_29_16 rfl rfl rfl ?_
  refine w_bip d_29_17 (by decide) ?_
  refine w_icmp_ne (g := 30) d_29_19 (by decide) (by decide) (fun h19 => ?_) (fun h19 => ?_)
  · refine w_ld d_29_30 rfl rfl rfl ?_
    refine w_bip d_29_31 (by decide) ?_
    refine w_icmp_ne (g := 48) d_29_33 (by decide) (by decide) (fun h33 => ?_) (fun h33 => ?_)
    · refine w_ld d_29_48 rfl rfl rfl ?_
      refine w_bip d_29_49 (by decide) ?_
      refine w_icmp_eq (g := 61) d_29_51 (by decide) (by decide) (fun h51 => ?_) (fun h51 => ?_)
      · exact absurd h51 (by decide)
      · refine w_ld d_29_54 rfl rfl rfl ?_
        refine w_cS1 (as := [_]) (rest := _) rfl d_29_55 (by rfl) (by rfl) (by rfl) (by rfl) (Nat.le_of_ble_eq_true rfl) (by omega) (by omega) (t_isDigit (k := -1) (by decide)) ?_
        refine w_if_eq (g := 68) d_29_58 (by decide) (by decide) (fun h58 => ?_) (fun h58 => ?_)
        · refine w_ld d_29_68 rfl rfl rfl ?_
          refine w_ld d_29_69 rfl rfl rfl ?_
          refine w_cVx (as := [_]) (rest := _) rfl d_29_70 (by rfl) (by rfl) (by first | rfl | assumption) (by rfl) (by rfl) (Nat.le_of_ble_eq_true rfl) (by omega) (by omega) (f_name (by omega) (by omega) hr) ?_
          exact ⟨rfl, rfl⟩
        · exact absurd (show (if (48 : Int) ≤ -1 ∧ (-1 : Int) ≤ 57 then (1 : Int) else 0) = 0 by decide) h58
    · exact absurd h33 (by decide)
  · exact absurd h19 (by decide)
theorem f_readText {sc : Nat × (Nat → Int32)} {fr lo : Nat} {ρ : Nat × Nat × Nat} (hf : 24 ≤ fr) (hl : 1200 ≤ lo) (hr : 1 ≤ ρ.2.1 ∧ 6 ≤ ρ.2.2) : w_E sc fr lo 26 [.ref 20, .ref 44] (hp mu0, ρ) (.inr (1, ρ.1)) (hp mC, ρ.1 + 1, ρ.2.1 - 1, ρ.2.2 - 6) := by
  refine w_S.of (L0 := [some (.ref 20), some (.ref 44)]) rfl rfl (Nat.le_of_ble_eq_true rfl) (by rfl) ?_
  refine w_ld d_26_0 rfl rfl rfl ?_
  refine w_ld d_26_1 rfl rfl rfl ?_
  refine w_putR d_26_2 (by rfl) (by first | rfl | assumption) (by rfl) (fit_R (by rfl)) (by rfl) ?_
  refine w_ld d_26_5 rfl rfl rfl ?_
  refine w_con d_26_6 ?_
  refine w_putI d_26_7 (by rfl) (by first | rfl | assumption) (by rfl) (fit_I (by rfl)) (by rfl) ?_
  refine w_ld d_26_10 rfl rfl rfl ?_
  refine w_con d_26_11 ?_
  refine w_putI d_26_12 (by rfl) (by first | rfl | assumption) (by rfl) (fit_I (by rfl)) (by rfl) ?_
  refine w_ld d_26_15 rfl rfl rfl ?_
  refine w_getF d_26_16 (by rfl) (by first | rfl | assumption) (by rfl) (by rfl) ?_
  refine w_cV0 (as := []) (rest := _) rfl d_26_19 (by rfl) (by rfl) (by first | rfl | assumption) (by rfl) (by rfl) (Nat.le_of_ble_eq_true rfl) (by omega) (by omega) (t_forget (a := 21) (Or.inl rfl)) ?_
  refine w_ld d_26_22 rfl rfl rfl ?_
  refine w_getR d_26_23 (by rfl) (by first | rfl | assumption) (by rfl) (show _ = Value.ref 26 from rfl) ?_
  refine w_cV0 (as := []) (rest := _) rfl d_26_26 (by rfl) (by rfl) (by first | rfl | assumption) (by rfl) (by rfl) (Nat.le_of_ble_eq_true rfl) (by omega) (by omega) (t_clear (a := 26) (Or.inr (Or.inr rfl)) (by omega) (by omega) ⟨by decide, by decide⟩) ?_
  refine w_ld d_26_29 rfl rfl rfl ?_
  refine w_con d_26_30 ?_
  refine w_con d_26_31 ?_
  refine w_cVx (as := [_, _]) (rest := _) rfl d_26_32 (by rfl) (by rfl) (by first | rfl | assumption) (by rfl) (by rfl) (Nat.le_of_ble_eq_true rfl) (by omega) (by omega) (show w_E sc (fr - 1) (lo - (19 + 4)) 29 [.ref 20, .int (ji 0), .int (ji 0)] (hp mA, ρ) (.inr (1, ρ.1)) (hp mC, ρ.1 + 1, ρ.2.1 - 1, ρ.2.2 - 6) from f_element (by omega) (by omega) hr) ?_
  exact ⟨rfl, rfl⟩
theorem f_read {sc : Nat × (Nat → Int32)} {fr lo : Nat} {ρ : Nat × Nat × Nat} {p : Int} (hk : p = 0 ∨ p = 1) (hf : 26 ≤ fr) (hl : 1300 ≤ lo) (hr : 1 ≤ ρ.2.1 ∧ 6 ≤ ρ.2.2) : w_E sc fr lo 24 [.ref 0, .int (ji p)] (hp mu0, ρ) (.inr (1, ρ.1)) (hp mC, ρ.1 + 1, ρ.2.1 - 1, ρ.2.2 - 6) := by
  refine w_S.of (L0 := [some (.ref 0), some (.int (ji p))]) rfl rfl (Nat.le_of_ble_eq_true rfl) (by rfl) ?_
  refine w_ld d_24_0 rfl rfl rfl ?_
  refine w_cS0 (as := [_]) (rest := _) rfl d_24_1 (by rfl) (by rfl) (by rfl) (by rfl) (Nat.le_of_ble_eq_true rfl) (by omega) (by omega) (t_rs hk) ?_
  refine w_ld d_24_4 rfl rfl rfl ?_
  refine w_getF d_24_5 (by rfl) (by first | rfl | assumption) (by rfl) (by rfl) ?_
  refine w_ld d_24_8 rfl rfl rfl ?_
  refine w_getR d_24_9 (by rfl) (by first | rfl | assumption) (by rfl) (show _ = Value.ref 44 from rfl) ?_
  refine w_cVx (as := [_]) (rest := _) rfl d_24_12 (by rfl) (by rfl) (by first | rfl | assumption) (by rfl) (by rfl) (Nat.le_of_ble_eq_true rfl) (by omega) (by omega) (f_readText (by omega) (by omega) hr) ?_
  exact ⟨rfl, rfl⟩
theorem f_readx {sc : Nat × (Nat → Int32)} {fr lo : Nat} {ρ : Nat × Nat × Nat} {p : Int} (hp1 : -2147483648 ≤ p ∧ p < 2147483648) (hk : ¬ (p = 0 ∨ p = 1)) (hf : 26 ≤ fr) (hl : 1300 ≤ lo) (hr : 1 ≤ ρ.2.1 ∧ 6 ≤ ρ.2.2) : w_E sc fr lo 24 [.ref 0, .int (ji p)] (hp mu0, ρ) (.inr (0, ρ.1)) (hp mu0, ρ.1 + 1, ρ.2.1 - 1, ρ.2.2 - 6) := by
  refine w_S.of (L0 := [some (.ref 0), some (.int (ji p))]) rfl rfl (Nat.le_of_ble_eq_true rfl) (by rfl) ?_
  refine w_ld d_24_0 rfl rfl rfl ?_
  refine w_cSx (as := [_]) (rest := _) rfl d_24_1 (by rfl) (by rfl) (by rfl) (by rfl) (Nat.le_of_ble_eq_true rfl) (by omega) (by omega) (t_rsx hp1 hk (by omega) (by omega) hr) ?_
  exact ⟨rfl, rfl⟩
theorem f_lread {sc : Nat × (Nat → Int32)} {fr lo : Nat} {ρ : Nat × Nat × Nat} {p : Int} (hk : p = 0 ∨ p = 1) (hf : 28 ≤ fr) (hl : 1400 ≤ lo) (hr : 1 ≤ ρ.2.1 ∧ 6 ≤ ρ.2.2) : w_E sc fr lo 23 [.ref 0, .int (ji p), .ref 73] (hp mu0, ρ) (.inl (some (.int (ji 2)))) (hp mC, ρ.1 + 1, ρ.2.1 - 1, ρ.2.2 - 6) := by
  refine w_S.of (L0 := [some (.ref 0), some (.int (ji p)), some (.ref 73), none]) rfl rfl (Nat.le_of_ble_eq_true rfl) (by rfl) ?_
  refine w_ld d_23_0 rfl rfl rfl ?_
  refine w_con d_23_1 ?_
  refine w_ld d_23_2 rfl rfl rfl ?_
  refine w_ld d_23_3 rfl rfl rfl ?_
  refine w_hVx (g := 15) (as := [_]) (rest := _) (by decide) d_23_4 (by rfl) (by rfl) (by first | rfl | assumption) (by rfl) (by rfl) (Nat.le_of_ble_eq_true rfl) (by omega) (by omega) (f_read hk (by omega) (by omega) hr) ?_
  refine w_st1 (L' := [_, _, _, _]) d_23_15 rfl (by decide) rfl (by decide) rfl ?_
  refine w_con d_23_16 ?_
  refine w_iret d_23_17 rfl ?_
  exact ⟨rfl, rfl⟩
theorem f_lreadx {sc : Nat × (Nat → Int32)} {fr lo : Nat} {ρ : Nat × Nat × Nat} {p : Int} (hp1 : -2147483648 ≤ p ∧ p < 2147483648) (hk : ¬ (p = 0 ∨ p = 1)) (hf : 28 ≤ fr) (hl : 1400 ≤ lo) (hr : 1 ≤ ρ.2.1 ∧ 6 ≤ ρ.2.2) : w_E sc fr lo 23 [.ref 0, .int (ji p), .ref 73] (hp mu0, ρ) (.inl (some (.int (ji 1)))) (hp mu0, ρ.1 + 1, ρ.2.1 - 1, ρ.2.2 - 6) := by
  refine w_S.of (L0 := [some (.ref 0), some (.int (ji p)), some (.ref 73), none]) rfl rfl (Nat.le_of_ble_eq_true rfl) (by rfl) ?_
  refine w_ld d_23_0 rfl rfl rfl ?_
  refine w_con d_23_1 ?_
  refine w_ld d_23_2 rfl rfl rfl ?_
  refine w_ld d_23_3 rfl rfl rfl ?_
  refine w_hVx (g := 12) (as := [_]) (rest := _) (by decide) d_23_4 (by rfl) (by rfl) (by first | rfl | assumption) (by rfl) (by rfl) (Nat.le_of_ble_eq_true rfl) (by omega) (by omega) (f_readx hp1 hk (by omega) (by omega) hr) ?_
  refine w_st1 (L' := [_, _, _, _]) d_23_12 rfl (by decide) rfl (by decide) rfl ?_
  refine w_con d_23_13 ?_
  refine w_iret d_23_14 rfl ?_
  exact ⟨rfl, rfl⟩
theorem f_write {sc : Nat × (Nat → Int32)} {fr lo : Nat} {ρ : Nat × Nat × Nat} {p : Int} (hk : p = 0 ∨ p = 1) (hf : 26 ≤ fr) (hl : 1300 ≤ lo) (hr : 1 ≤ ρ.2.1 ∧ 6 ≤ ρ.2.2) : w_E sc fr lo 71 [.ref 0, .int (ji p)] (hp mu0, ρ) (.inr (2, ρ.1)) (hp mu0, ρ.1 + 1, ρ.2.1 - 1, ρ.2.2 - 6) := by
  obtain ⟨t, hT, ht, hc⟩ : ∃ t : Nat, isT t ∧ mu0.2.1 1 p.toNat = .ref t ∧ mu0.1 t 7 = 0 := by
    rcases hk with rfl | rfl
    · exact ⟨2, Or.inl rfl, rfl, rfl⟩
    · exact ⟨11, Or.inr (Or.inl rfl), rfl, rfl⟩
  obtain ⟨hT0, hT1, hT2, hT3, hT4, hT5, hT6, hT7, hT8⟩ := hT.sh
  refine w_S.of (L0 := [some (.ref 0), some (.int (ji p))]) rfl rfl (Nat.le_of_ble_eq_true rfl) (by rfl) ?_
  refine w_ld d_71_0 rfl rfl rfl ?_
  refine w_cS0 (as := [_]) (rest := _) rfl d_71_1 (by rfl) (by rfl) (by rfl) (by rfl) (Nat.le_of_ble_eq_true rfl) (by omega) (by omega) (t_rs hk) ?_
  refine w_ld d_71_4 rfl rfl rfl ?_
  refine w_getF d_71_5 (by rfl) (by first | rfl | assumption) (by rfl) (by rfl) ?_
  refine w_ld d_71_8 rfl rfl rfl ?_
  refine w_aald d_71_9 (by first | rfl | assumption) (by omega) ht ?_
  refine w_gI d_71_10 (by rfl) (by first | rfl | assumption) (by rfl) hc ?_
  refine w_if_ne (g := 24) d_71_13 (by decide) (by decide) (fun h13 => ?_) (fun h13 => ?_)
  · exact absurd h13 (by omega)
  · refine w_thr rfl d_71_16 (by rfl) (by rfl) d_71_19 d_71_20 d_71_23 (show 1 ≤ ρ.2.1 ∧ 6 ≤ ρ.2.2 ∧ 5 < fr ∧ 0 + 81 ≤ lo by omega) ?_
    exact ⟨rfl, rfl⟩
theorem f_writex {sc : Nat × (Nat → Int32)} {fr lo : Nat} {ρ : Nat × Nat × Nat} {p : Int} (hp1 : -2147483648 ≤ p ∧ p < 2147483648) (hk : ¬ (p = 0 ∨ p = 1)) (hf : 26 ≤ fr) (hl : 1300 ≤ lo) (hr : 1 ≤ ρ.2.1 ∧ 6 ≤ ρ.2.2) : w_E sc fr lo 71 [.ref 0, .int (ji p)] (hp mu0, ρ) (.inr (0, ρ.1)) (hp mu0, ρ.1 + 1, ρ.2.1 - 1, ρ.2.2 - 6) := by
  refine w_S.of (L0 := [some (.ref 0), some (.int (ji p))]) rfl rfl (Nat.le_of_ble_eq_true rfl) (by rfl) ?_
  refine w_ld d_71_0 rfl rfl rfl ?_
  refine w_cSx (as := [_]) (rest := _) rfl d_71_1 (by rfl) (by rfl) (by rfl) (by rfl) (Nat.le_of_ble_eq_true rfl) (by omega) (by omega) (t_rsx hp1 hk (by omega) (by omega) hr) ?_
  exact ⟨rfl, rfl⟩
theorem f_lwrite {sc : Nat × (Nat → Int32)} {fr lo : Nat} {ρ : Nat × Nat × Nat} {p : Int} (hk : p = 0 ∨ p = 1) (hf : 28 ≤ fr) (hl : 1400 ≤ lo) (hr : 1 ≤ ρ.2.1 ∧ 6 ≤ ρ.2.2) : w_E sc fr lo 70 [.ref 0, .int (ji p), .ref 73] (hp mu0, ρ) (.inl (some (.int (ji 2)))) (hp mu0, ρ.1 + 1, ρ.2.1 - 1, ρ.2.2 - 6) := by
  refine w_S.of (L0 := [some (.ref 0), some (.int (ji p)), some (.ref 73), none]) rfl rfl (Nat.le_of_ble_eq_true rfl) (by rfl) ?_
  refine w_ld d_70_0 rfl rfl rfl ?_
  refine w_con d_70_1 ?_
  refine w_ld d_70_2 rfl rfl rfl ?_
  refine w_ld d_70_3 rfl rfl rfl ?_
  refine w_hVx (g := 15) (as := [_]) (rest := _) (by decide) d_70_4 (by rfl) (by rfl) (by first | rfl | assumption) (by rfl) (by rfl) (Nat.le_of_ble_eq_true rfl) (by omega) (by omega) (f_write hk (by omega) (by omega) hr) ?_
  refine w_st1 (L' := [_, _, _, _]) d_70_15 rfl (by decide) rfl (by decide) rfl ?_
  refine w_con d_70_16 ?_
  refine w_iret d_70_17 rfl ?_
  exact ⟨rfl, rfl⟩
theorem f_lwritex {sc : Nat × (Nat → Int32)} {fr lo : Nat} {ρ : Nat × Nat × Nat} {p : Int} (hp1 : -2147483648 ≤ p ∧ p < 2147483648) (hk : ¬ (p = 0 ∨ p = 1)) (hf : 28 ≤ fr) (hl : 1400 ≤ lo) (hr : 1 ≤ ρ.2.1 ∧ 6 ≤ ρ.2.2) : w_E sc fr lo 70 [.ref 0, .int (ji p), .ref 73] (hp mu0, ρ) (.inl (some (.int (ji 1)))) (hp mu0, ρ.1 + 1, ρ.2.1 - 1, ρ.2.2 - 6) := by
  refine w_S.of (L0 := [some (.ref 0), some (.int (ji p)), some (.ref 73), none]) rfl rfl (Nat.le_of_ble_eq_true rfl) (by rfl) ?_
  refine w_ld d_70_0 rfl rfl rfl ?_
  refine w_con d_70_1 ?_
  refine w_ld d_70_2 rfl rfl rfl ?_
  refine w_ld d_70_3 rfl rfl rfl ?_
  refine w_hVx (g := 12) (as := [_]) (rest := _) (by decide) d_70_4 (by rfl) (by rfl) (by first | rfl | assumption) (by rfl) (by rfl) (Nat.le_of_ble_eq_true rfl) (by omega) (by omega) (f_writex hp1 hk (by omega) (by omega) hr) ?_
  refine w_st1 (L' := [_, _, _, _]) d_70_12 rfl (by decide) rfl (by decide) rfl ?_
  refine w_con d_70_13 ?_
  refine w_iret d_70_14 rfl ?_
  exact ⟨rfl, rfl⟩
theorem f_same {sc : Nat × (Nat → Int32)} {fr lo : Nat} {ρ : Nat × Nat × Nat} (hf : 5 ≤ fr) (hl : 200 ≤ lo) (hr : 1 ≤ ρ.2.1 ∧ 6 ≤ ρ.2.2) : w_E sc fr lo 15 [.ref 0] (hp mu0, ρ) (.inl (some (.int (ji 1)))) (hp mu0, ρ) := by
  refine w_S.of (L0 := [some (.ref 0)]) rfl rfl (Nat.le_of_ble_eq_true rfl) (by rfl) ?_
  refine w_ld d_15_0 rfl rfl rfl ?_
  refine w_getF d_15_1 (by rfl) (by first | rfl | assumption) (by rfl) (by rfl) ?_
  refine w_con d_15_4 ?_
  refine w_aald d_15_5 (by first | rfl | assumption) (by decide) (show _ = Value.ref 2 from rfl) ?_
  refine w_gI d_15_6 (by rfl) (by first | rfl | assumption) (by rfl) (show _ = (0 : Int) from rfl) ?_
  refine w_if_eq (g := 24) d_15_9 (by decide) (by decide) (fun h9 => ?_) (fun h9 => ?_)
  · refine w_ld d_15_24 rfl rfl rfl ?_
    refine w_getF d_15_25 (by rfl) (by first | rfl | assumption) (by rfl) (by rfl) ?_
    refine w_con d_15_28 ?_
    refine w_aald d_15_29 (by first | rfl | assumption) (by decide) (show _ = Value.ref 2 from rfl) ?_
    refine w_gI d_15_30 (by rfl) (by first | rfl | assumption) (by rfl) (show _ = (0 : Int) from rfl) ?_
    refine w_ld d_15_33 rfl rfl rfl ?_
    refine w_getF d_15_34 (by rfl) (by first | rfl | assumption) (by rfl) (by rfl) ?_
    refine w_con d_15_37 ?_
    refine w_aald d_15_38 (by first | rfl | assumption) (by decide) (show _ = Value.ref 11 from rfl) ?_
    refine w_gI d_15_39 (by rfl) (by first | rfl | assumption) (by rfl) (show _ = (0 : Int) from rfl) ?_
    refine w_icmp_ne (g := 49) d_15_42 (by decide) (by decide) (fun h42 => ?_) (fun h42 => ?_)
    · exact absurd rfl h42
    · refine w_con d_15_45 ?_
      refine w_goto (g := 50) d_15_46 (by decide) ?_
      refine w_zret d_15_50 rfl (by decide) ?_
      exact ⟨rfl, rfl⟩
  · exact absurd rfl h9
theorem f_mreadx {sc : Nat × (Nat → Int32)} {fr lo : Nat} {μ : Mem} {ρ : Nat × Nat × Nat} {p : Int} (hp1 : -2147483648 ≤ p ∧ p < 2147483648) (hk : ¬ (p = 0 ∨ p = 1)) (hf : 20 ≤ fr) (hl : 1000 ≤ lo) : w_E sc fr lo 115 [.ref 46, .int (ji p)] (hp μ, ρ) (.inl (some (.int (ji 0)))) (hp (stI μ 46 0 1), ρ) := by
  refine w_S.of (L0 := [some (.ref 46), some (.int (ji p)), none, none]) rfl rfl (Nat.le_of_ble_eq_true rfl) (by rfl) ?_
  refine w_ld d_115_0 rfl rfl rfl ?_
  refine w_cS1 (as := [_]) (rest := _) rfl d_115_1 (by rfl) (by rfl) (by rfl) (by rfl) (Nat.le_of_ble_eq_true rfl) (by omega) (by omega) (m_noSlot hp1) ?_
  refine w_if_eq (g := 14) d_115_4 (by decide) (by split <;> omega) (fun h4 => ?_) (fun h4 => ?_)
  · exact absurd h4 (by rw [if_pos (by omega)]; decide)
  · refine w_ld d_115_7 rfl rfl rfl ?_
    refine w_con d_115_8 ?_
    refine w_putI d_115_9 (by rfl) (by first | rfl | assumption) (by rfl) (fit_I (by rfl)) (by rfl) ?_
    refine w_con d_115_12 ?_
    refine w_iret d_115_13 rfl ?_
    exact ⟨rfl, rfl⟩
theorem f_mwritex {sc : Nat × (Nat → Int32)} {fr lo : Nat} {μ : Mem} {ρ : Nat × Nat × Nat} {p : Int} (hp1 : -2147483648 ≤ p ∧ p < 2147483648) (hk : ¬ (p = 0 ∨ p = 1)) (hf : 20 ≤ fr) (hl : 1000 ≤ lo) : w_E sc fr lo 153 [.ref 46, .int (ji p)] (hp μ, ρ) (.inl (some (.int (ji 0)))) (hp (stI μ 46 0 1), ρ) := by
  refine w_S.of (L0 := [some (.ref 46), some (.int (ji p)), none]) rfl rfl (Nat.le_of_ble_eq_true rfl) (by rfl) ?_
  refine w_ld d_153_0 rfl rfl rfl ?_
  refine w_ld d_153_1 rfl rfl rfl ?_
  refine w_cS1 (as := [_]) (rest := _) rfl d_153_2 (by rfl) (by rfl) (by rfl) (by rfl) (Nat.le_of_ble_eq_true rfl) (by omega) (by omega) (m_noSlot hp1) ?_
  refine w_if_eq (g := 12) d_153_5 (by decide) (by split <;> omega) (fun h5 => ?_) (fun h5 => ?_)
  · exact absurd h5 (by rw [if_pos (by omega)]; decide)
  · refine w_con d_153_8 ?_
    refine w_goto (g := 30) d_153_9 (by decide) ?_
    refine w_putI d_153_30 (by rfl) (by first | rfl | assumption) (by rfl) (fit_I (by rfl)) (by rfl) ?_
    refine w_ld d_153_33 rfl rfl rfl ?_
    refine w_gI d_153_34 (by rfl) (by first | rfl | assumption) (by rfl) (stI_at _ _ _ _) ?_
    refine w_if_le (g := 42) d_153_37 (by decide) (by decide) (fun h37 => ?_) (fun h37 => ?_)
    · exact absurd h37 (by decide)
    · refine w_con d_153_40 ?_
      refine w_iret d_153_41 rfl ?_
      exact ⟨rfl, rfl⟩
theorem f_mwrite {sc : Nat × (Nat → Int32)} {fr lo : Nat} {μ : Mem} {ρ : Nat × Nat × Nat} {p : Int} (hk : p = 0 ∨ p = 1) (h4 : μ.1 46 4 = 0) (hm : μ.2.2 48 p = 0) (hf : 20 ≤ fr) (hl : 1000 ≤ lo) : w_E sc fr lo 153 [.ref 46, .int (ji p)] (hp μ, ρ) (.inl (some (.int (ji 0)))) (hp (stI μ 46 0 2), ρ) := by
  refine w_S.of (L0 := [some (.ref 46), some (.int (ji p)), none]) rfl rfl (Nat.le_of_ble_eq_true rfl) (by rfl) ?_
  refine w_ld d_153_0 rfl rfl rfl ?_
  refine w_ld d_153_1 rfl rfl rfl ?_
  refine w_cS1 (as := [_]) (rest := _) rfl d_153_2 (by rfl) (by rfl) (by rfl) (by rfl) (Nat.le_of_ble_eq_true rfl) (by omega) (by omega) (m_noSlot (by omega)) ?_
  refine w_if_eq (g := 12) d_153_5 (by decide) (by split <;> omega) (fun h5 => ?_) (fun h5 => ?_)
  · refine w_ld d_153_12 rfl rfl rfl ?_
    refine w_getF d_153_13 (by rfl) (by first | rfl | assumption) (by rfl) (by rfl) ?_
    refine w_ld d_153_16 rfl rfl rfl ?_
    refine w_ld d_153_17 rfl rfl rfl ?_
    refine w_cV1 (a := 46) (as := [_]) (rest := _) rfl d_153_18 (by rfl) (by rfl) (by first | rfl | assumption) (by rfl) (by rfl) (Nat.le_of_ble_eq_true rfl) (by omega) (by omega) (by have e := m_area (sc := sc) (fr := fr - 1) (lo := lo - (19 + 2)) (μ := μ) (ρ := ρ) (Or.inl h4) (k := p); rw [if_pos h4] at e; exact e) ?_
    refine w_aI d_153_21 (by first | rfl | assumption) (by omega) hm ?_
    refine w_if_ne (g := 29) d_153_22 (by decide) (by decide) (fun h22 => ?_) (fun h22 => ?_)
    · exact absurd rfl h22
    · refine w_con d_153_25 ?_
      refine w_goto (g := 30) d_153_26 (by decide) ?_
      refine w_putI d_153_30 (by rfl) (by first | rfl | assumption) (by rfl) (fit_I (by rfl)) (by rfl) ?_
      refine w_ld d_153_33 rfl rfl rfl ?_
      refine w_gI d_153_34 (by rfl) (by first | rfl | assumption) (by rfl) (stI_at _ _ _ _) ?_
      refine w_if_le (g := 42) d_153_37 (by decide) (by decide) (fun h37 => ?_) (fun h37 => ?_)
      · exact absurd h37 (by decide)
      · refine w_con d_153_40 ?_
        refine w_iret d_153_41 rfl ?_
        exact ⟨rfl, rfl⟩
  · exact absurd (if_neg (by omega)) h5
theorem f_msame {sc : Nat × (Nat → Int32)} {fr lo : Nat} {μ : Mem} {ρ : Nat × Nat × Nat} (hm : μ.2.2 48 0 = 0) (hm1 : μ.2.2 48 1 = 0) : w_E sc fr lo 179 [.ref 46] (hp μ, ρ) (.inl (some (.int (ji 1)))) (hp (stI μ 46 0 0), ρ) := by
  refine w_S.of (L0 := [some (.ref 46), none, none]) rfl rfl (Nat.le_of_ble_eq_true rfl) (by rfl) ?_
  refine w_ld d_179_0 rfl rfl rfl ?_
  refine w_con d_179_1 ?_
  refine w_putI d_179_2 (by rfl) (by first | rfl | assumption) (by rfl) (fit_I (by rfl)) (by rfl) ?_
  refine w_ld d_179_5 rfl rfl rfl ?_
  refine w_getF d_179_6 (by rfl) (by first | rfl | assumption) (by rfl) (by rfl) ?_
  refine w_con d_179_9 ?_
  refine w_aI d_179_10 (by first | rfl | assumption) (by decide) hm ?_
  refine w_if_eq (g := 23) d_179_11 (by decide) (by decide) (fun h11 => ?_) (fun h11 => ?_)
  · refine w_ld d_179_23 rfl rfl rfl ?_
    refine w_getF d_179_24 (by rfl) (by first | rfl | assumption) (by rfl) (by rfl) ?_
    refine w_con d_179_27 ?_
    refine w_aI d_179_28 (by first | rfl | assumption) (by decide) hm ?_
    refine w_ld d_179_29 rfl rfl rfl ?_
    refine w_getF d_179_30 (by rfl) (by first | rfl | assumption) (by rfl) (by rfl) ?_
    refine w_con d_179_33 ?_
    refine w_aI d_179_34 (by first | rfl | assumption) (by decide) hm1 ?_
    refine w_icmp_ne (g := 42) d_179_35 (by decide) (by decide) (fun h35 => ?_) (fun h35 => ?_)
    · exact absurd rfl h35
    · refine w_con d_179_38 ?_
      refine w_goto (g := 43) d_179_39 (by decide) ?_
      refine w_zret d_179_43 rfl (by decide) ?_
      exact ⟨rfl, rfl⟩
  · exact absurd rfl h11
theorem f_numeral {sc : Nat × (Nat → Int32)} {fr lo : Nat} {μ : Mem} {ρ : Nat × Nat × Nat} (hn : μ.1 46 3 = 0) (hq15 : μ.1 46 15 = 0) (hq16 : μ.1 46 16 = -1) (hf : 8 ≤ fr) (hl : 200 ≤ lo) : w_E sc fr lo 145 [.ref 46] (hp μ, ρ) (.inl (some (.long (jl 0)))) (hp (stI (stI μ 46 15 0) 46 16 0), ρ) := by
  have lk0 : w_E sc (fr - 1) (lo - (19 + 2)) 119 [.ref 46, .int (ji 0)] (hp μ, ρ) (.inl (some (.int (ji 0)))) (hp μ, ρ) := by
    have e := m_look (sc := sc) (fr := fr - 1) (lo := lo - (19 + 2)) (μ := μ) (ρ := ρ) (by omega) (k := 0) (by decide) (by decide)
    rw [if_neg (by omega)] at e
    exact e
  have lk1 : w_E sc (fr - 1) (lo - (19 + 2)) 119 [.ref 46, .int (ji 0)] (hp (stI μ 46 15 0), ρ) (.inl (some (.int (ji 0)))) (hp (stI μ 46 15 0), ρ) := by
    have e0 : (stI μ 46 15 0).1 46 3 = 0 := by rw [stI_ne (by decide)]; exact hn
    have e := m_look (sc := sc) (fr := fr - 1) (lo := lo - (19 + 2)) (μ := stI μ 46 15 0) (ρ := ρ) (by omega) (k := 0) (by decide) (by decide)
    rw [if_neg (by omega)] at e
    exact e
  refine w_S.of (L0 := [some (.ref 46), none, none, none, none, none, none, none]) rfl rfl (Nat.le_of_ble_eq_true rfl) (by rfl) ?_
  refine w_ld d_145_0 rfl rfl rfl ?_
  refine w_gI d_145_1 (by rfl) (by first | rfl | assumption) (by rfl) (by first | exact hq15 | exact stI_at _ _ _ _) ?_
  refine w_st1 (L' := [_, _, _, _, _, _, _, _]) d_145_4 rfl (by decide) rfl (by decide) rfl ?_
  refine w_ld d_145_5 rfl rfl rfl ?_
  refine w_ld d_145_6 rfl rfl rfl ?_
  refine w_gI d_145_7 (by rfl) (by first | rfl | assumption) (by rfl) (by first | exact hq15 | exact stI_at _ _ _ _) ?_
  refine w_cV1 (a := 46) (as := [_]) (rest := _) rfl d_145_10 (by rfl) (by rfl) (by first | rfl | assumption) (by rfl) (by rfl) (Nat.le_of_ble_eq_true rfl) (by omega) (by omega) (by have e := lk0; first | exact e | exact lk1) ?_
  refine w_bip d_145_13 (by decide) ?_
  refine w_icmp_ne (g := 22) d_145_15 (by decide) (by decide) (fun h15 => ?_) (fun h15 => ?_)
  · refine w_con d_145_22 ?_
    refine w_st1 (L' := [_, _, _, _, _, _, _, _]) d_145_23 rfl (by decide) rfl (by decide) rfl ?_
    refine w_ld d_145_24 rfl rfl rfl ?_
    refine w_ld d_145_25 rfl rfl rfl ?_
    refine w_if_eq (g := 38) d_145_26 (by decide) (by decide) (fun h26 => ?_) (fun h26 => ?_)
    · refine w_ld d_145_38 rfl rfl rfl ?_
      refine w_gI d_145_39 (by rfl) (by first | rfl | assumption) (by rfl) (by first | exact hq15 | exact stI_at _ _ _ _) ?_
      refine w_putI d_145_42 (by rfl) (by first | rfl | assumption) (by rfl) (fit_I (by rfl)) (by rfl) ?_
      refine w_ld d_145_45 rfl rfl rfl ?_
      refine w_if_ne (g := 74) d_145_46 (by decide) (by decide) (fun h46 => ?_) (fun h46 => ?_)
      · exact absurd rfl h46
      · refine w_ld d_145_49 rfl rfl rfl ?_
        refine w_ld d_145_50 rfl rfl rfl ?_
        refine w_gI d_145_51 (by rfl) (by first | rfl | assumption) (by rfl) (by first | exact hq15 | exact stI_at _ _ _ _) ?_
        refine w_cV1 (a := 46) (as := [_]) (rest := _) rfl d_145_54 (by rfl) (by rfl) (by first | rfl | assumption) (by rfl) (by rfl) (Nat.le_of_ble_eq_true rfl) (by omega) (by omega) (by have e := lk0; first | exact e | exact lk1) ?_
        refine w_bip d_145_57 (by decide) ?_
        refine w_icmp_ne (g := 74) d_145_59 (by decide) (by decide) (fun h59 => ?_) (fun h59 => ?_)
        · refine w_ld d_145_74 rfl rfl rfl ?_
          refine w_ld d_145_75 rfl rfl rfl ?_
          refine w_gI d_145_76 (by rfl) (by first | rfl | assumption) (by rfl) (by first | exact hq15 | exact stI_at _ _ _ _) ?_
          refine w_cV1 (a := 46) (as := [_]) (rest := _) rfl d_145_79 (by rfl) (by rfl) (by first | rfl | assumption) (by rfl) (by rfl) (Nat.le_of_ble_eq_true rfl) (by omega) (by omega) (by have e := lk0; first | exact e | exact lk1) ?_
          refine w_cS1 (as := [_]) (rest := _) rfl d_145_82 (by rfl) (by rfl) (by rfl) (by rfl) (Nat.le_of_ble_eq_true rfl) (by omega) (by omega) (m_digit (k := 0) (by decide)) ?_
          refine w_if_eq (g := 101) d_145_85 (by decide) (by decide) (fun h85 => ?_) (fun h85 => ?_)
          · refine w_ld d_145_101 rfl rfl rfl ?_
            refine w_ld d_145_102 rfl rfl rfl ?_
            refine w_gI d_145_103 (by rfl) (by first | rfl | assumption) (by rfl) (by first | exact hq15 | exact stI_at _ _ _ _) ?_
            refine w_cV0 (a := 46) (as := [_]) (rest := _) rfl d_145_106 (by rfl) (by rfl) (by first | rfl | assumption) (by rfl) (by rfl) (Nat.le_of_ble_eq_true rfl) (by omega) (by omega) (by have e := m_fail (sc := sc) (fr := fr - 1) (lo := lo - (19 + 2)) (μ := stI μ 46 15 0) (ρ := ρ) (by rw [stI_ne (by decide), hq16]; decide) (k := 0); rw [stI_ne (by decide), hq16, if_pos (by decide)] at e; exact e) ?_
            refine w_lcon0 d_145_109 ?_
            refine w_ret d_145_110 rfl ?_
            exact ⟨rfl, rfl⟩
          · exact absurd (show (if (48 : Int) ≤ 0 ∧ (0 : Int) ≤ 57 then (1 : Int) else 0) = 0 by decide) h85
        · exact absurd h59 (by decide)
    · exact absurd rfl h26
  · exact absurd h15 (by decide)
theorem f_classify {sc : Nat × (Nat → Int32)} {fr lo : Nat} {μ : Mem} {ρ : Nat × Nat × Nat} (hf : 8 ≤ fr) (hl : 200 ≤ lo) : w_E sc fr lo 136 [.ref 46, .int (ji 256), .int (ji 256), .int (ji 257)] (hp μ, ρ) (.inl none) (hp (stA μ 56 256 256), ρ) := by
  refine w_S.of (L0 := [some (.ref 46), some (.int (ji 256)), some (.int (ji 256)), some (.int (ji 257)), none, none]) rfl rfl (Nat.le_of_ble_eq_true rfl) (by rfl) ?_
  refine w_ld d_136_0 rfl rfl rfl ?_
  refine w_getF d_136_1 (by rfl) (by first | rfl | assumption) (by rfl) (by rfl) ?_
  refine w_ld d_136_4 rfl rfl rfl ?_
  refine w_ld d_136_5 rfl rfl rfl ?_
  refine w_iast d_136_6 (by first | rfl | assumption) (by decide) ?_
  refine w_ld d_136_7 rfl rfl rfl ?_
  refine w_st1 (L' := [_, _, _, _, _, _]) d_136_8 rfl (by decide) rfl (by decide) rfl ?_
  refine w_ld d_136_10 rfl rfl rfl ?_
  refine w_ld d_136_12 rfl rfl rfl ?_
  refine w_icmp_ge (g := 133) d_136_13 (by decide) (by decide) (fun h13 => ?_) (fun h13 => ?_)
  · exact absurd h13 (by decide)
  · refine w_ld d_136_16 rfl rfl rfl ?_
    refine w_ld d_136_18 rfl rfl rfl ?_
    refine w_icmp_eq (g := 95) d_136_19 (by decide) (by decide) (fun h19 => ?_) (fun h19 => ?_)
    · refine w_con d_136_95 ?_
      refine w_st1 (L' := [_, _, _, _, _, _]) d_136_96 rfl (by decide) rfl (by decide) rfl ?_
      refine w_ld d_136_98 rfl rfl rfl ?_
      refine w_if_eq (g := 127) d_136_100 (by decide) (by decide) (fun h100 => ?_) (fun h100 => ?_)
      · refine w_inc (L' := [_, _, _, _, _, _]) d_136_127 rfl (by decide) rfl ?_
        refine w_goto (g := 10) d_136_130 (by decide) ?_
        refine w_ld d_136_10 rfl rfl rfl ?_
        refine w_ld d_136_12 rfl rfl rfl ?_
        refine w_icmp_ge (g := 133) d_136_13 (by decide) (by decide) (fun h13b => ?_) (fun h13b => ?_)
        · refine w_ret d_136_133 rfl ?_
          exact ⟨rfl, rfl⟩
        · exact absurd h13b (by decide)
      · exact absurd rfl h100
    · exact absurd rfl h19
theorem f_ready {sc : Nat × (Nat → Int32)} {fr lo : Nat} {μ : Mem} {ρ : Nat × Nat × Nat} (ht : μ.1 46 17 = 1) (hf : 10 ≤ fr) (hl : 300 ≤ lo) : w_E sc fr lo 135 [.ref 46, .int (ji 256)] (hp μ, ρ) (.inl none) (hp (stA (stA μ 54 256 1) 56 256 256), ρ) := by
  refine w_S.of (L0 := [some (.ref 46), some (.int (ji 256))]) rfl rfl (Nat.le_of_ble_eq_true rfl) (by rfl) ?_
  refine w_ld d_135_0 rfl rfl rfl ?_
  refine w_getF d_135_1 (by rfl) (by first | rfl | assumption) (by rfl) (by rfl) ?_
  refine w_ld d_135_4 rfl rfl rfl ?_
  refine w_sip d_135_5 (by decide) ?_
  refine w_ld d_135_8 rfl rfl rfl ?_
  refine w_gI d_135_9 (by rfl) (by first | rfl | assumption) (by rfl) ht ?_
  refine w_iadd d_135_12 ?_
  refine w_ld d_135_13 rfl rfl rfl ?_
  refine w_isub d_135_14 ?_
  refine w_iast d_135_15 (by first | rfl | assumption) (by decide) ?_
  refine w_ld d_135_16 rfl rfl rfl ?_
  refine w_ld d_135_17 rfl rfl rfl ?_
  refine w_sip d_135_18 (by decide) ?_
  refine w_sip d_135_21 (by decide) ?_
  refine w_ld d_135_24 rfl rfl rfl ?_
  refine w_gI d_135_25 (by rfl) (by first | rfl | assumption) (by rfl) ht ?_
  refine w_iadd d_135_28 ?_
  refine w_cV0 (as := [_, _, _]) (rest := _) rfl d_135_29 (by rfl) (by rfl) (by first | rfl | assumption) (by rfl) (by rfl) (Nat.le_of_ble_eq_true rfl) (by omega) (by omega) (f_classify (by omega) (by omega)) ?_
  refine w_ret d_135_32 rfl ?_
  exact ⟨rfl, rfl⟩
theorem f_readSimple {sc : Nat × (Nat → Int32)} {fr lo : Nat} {μ : Mem} {ρ : Nat × Nat × Nat} (hn : μ.1 46 3 = 0) (hq15 : μ.1 46 15 = 0) (hq16 : μ.1 46 16 = -1) (hq17 : μ.1 46 17 = 0) (hf : 14 ≤ fr) (hl : 500 ≤ lo) : w_S sc fr lo 123 [.ref 46] (hp μ, ρ) (fun o t' => ∃ μ', o = .inl (some (.int (ji 1))) ∧ (μ'.1 46 3 = 0 ∧ μ'.1 46 15 = 0 ∧ μ'.1 46 16 = 0 ∧ μ'.1 46 19 = μ.1 46 19 ∧ (∀ k, 0 ≤ μ.2.2 47 k ∧ μ.2.2 47 k < 65536 → 0 ≤ μ'.2.2 47 k ∧ μ'.2.2 47 k < 65536)) ∧ t' = (hp μ', ρ)) := by
  have lk0 : w_E sc (fr - 1) (lo - (19 + 2)) 119 [.ref 46, .int (ji 0)] (hp μ, ρ) (.inl (some (.int (ji 0)))) (hp μ, ρ) := by
    have e := m_look (sc := sc) (fr := fr - 1) (lo := lo - (19 + 2)) (μ := μ) (ρ := ρ) (by omega) (k := 0) (by decide) (by decide)
    rw [if_neg (by omega)] at e
    exact e
  have mk0 : w_E sc (fr - 1) (lo - (19 + 4)) 122 [.ref 46, .int (ji 2), .int (ji 0)] (hp μ, ρ) (.inl (some (.int (ji 256)))) (hp (stA (stA (stA (stA (stA (stA (stA (stA (stI μ 46 17 (μ.1 46 17 + 1)) 49 (256 + μ.1 46 17) 2) 50 (256 + μ.1 46 17) 0) 51 (256 + μ.1 46 17) 0) 52 (256 + μ.1 46 17) 0) 53 (256 + μ.1 46 17) 0) 54 (256 + μ.1 46 17) 1) 55 (256 + μ.1 46 17) 0) 56 (256 + μ.1 46 17) (-1)), ρ) := by
    have e := m_make (sc := sc) (fr := fr - 1) (lo := lo - (19 + 4)) (μ := μ) (ρ := ρ) (by omega) (k := 2) (p := 0)
    rw [hq17] at e ⊢
    exact e
  obtain ⟨ν, hν⟩ : ∃ ν, ν = (stA (stA (stA (stA (stA (stA (stA (stA (stI μ 46 17 (μ.1 46 17 + 1)) 49 (256 + μ.1 46 17) 2) 50 (256 + μ.1 46 17) 0) 51 (256 + μ.1 46 17) 0) 52 (256 + μ.1 46 17) 0) 53 (256 + μ.1 46 17) 0) 54 (256 + μ.1 46 17) 1) 55 (256 + μ.1 46 17) 0) 56 (256 + μ.1 46 17) (-1)) := ⟨_, rfl⟩
  rw [← hν] at mk0
  have v3 : ν.1 46 3 = 0 := by rw [hν]; exact hn
  have v15 : ν.1 46 15 = 0 := by rw [hν]; exact hq15
  have v16 : ν.1 46 16 = -1 := by rw [hν]; exact hq16
  have v17 : ν.1 46 17 = 1 := by rw [hν]; show μ.1 46 17 + 1 = 1; omega
  have v19 : ν.1 46 19 = μ.1 46 19 := by rw [hν]; rfl
  have nm0 : w_E sc (fr - 1) (lo - (19 + 8)) 145 [.ref 46] (hp ν, ρ) (.inl (some (.long (jl 0)))) (hp (stI (stI ν 46 15 0) 46 16 0), ρ) := f_numeral v3 v15 v16 (by omega) (by omega)
  have rd0 : w_E sc (fr - 1) (lo - (19 + 2)) 135 [.ref 46, .int (ji 256)] (hp (stA (stI (stI ν 46 15 0) 46 16 0) 50 256 0), ρ) (.inl none) (hp (stA (stA (stA (stI (stI ν 46 15 0) 46 16 0) 50 256 0) 54 256 1) 56 256 256), ρ) := f_ready v17 (by omega) (by omega)
  have e3 : (stA (stA (stA (stI (stI ν 46 15 0) 46 16 0) 50 256 0) 54 256 1) 56 256 256).1 46 3 = 0 := v3
  have e15 : (stA (stA (stA (stI (stI ν 46 15 0) 46 16 0) 50 256 0) 54 256 1) 56 256 256).1 46 15 = 0 := rfl
  have e16 : (stA (stA (stA (stI (stI ν 46 15 0) 46 16 0) 50 256 0) 54 256 1) 56 256 256).1 46 16 = 0 := rfl
  have e19 : (stA (stA (stA (stI (stI ν 46 15 0) 46 16 0) 50 256 0) 54 256 1) 56 256 256).1 46 19 = μ.1 46 19 := v19
  have e47 : ∀ k, (stA (stA (stA (stI (stI ν 46 15 0) 46 16 0) 50 256 0) 54 256 1) 56 256 256).2.2 47 k = μ.2.2 47 k := fun k => by rw [hν]; rfl
  refine w_S.of (L0 := [some (.ref 46), none, none, none, none]) rfl rfl (Nat.le_of_ble_eq_true rfl) (by rfl) ?_
  refine w_ld d_123_0 rfl rfl rfl ?_
  refine w_gI d_123_1 (by rfl) (by first | rfl | assumption) (by rfl) (by exact hq15) ?_
  refine w_st1 (L' := [_, _, _, _, _]) d_123_4 rfl (by decide) rfl (by decide) rfl ?_
  refine w_ld d_123_5 rfl rfl rfl ?_
  refine w_ld d_123_6 rfl rfl rfl ?_
  refine w_gI d_123_7 (by rfl) (by first | rfl | assumption) (by rfl) (by exact hq15) ?_
  refine w_cV1 (a := 46) (as := [_]) (rest := _) rfl d_123_10 (by rfl) (by rfl) (by first | rfl | assumption) (by rfl) (by rfl) (Nat.le_of_ble_eq_true rfl) (by omega) (by omega) lk0 ?_
  refine w_st1 (L' := [_, _, _, _, _]) d_123_13 rfl (by decide) rfl (by decide) rfl ?_
  refine w_ld d_123_14 rfl rfl rfl ?_
  refine w_bip d_123_15 (by decide) ?_
  refine w_icmp_ne (g := 25) d_123_17 (by decide) (by decide) (fun h17 => ?_) (fun h17 => ?_)
  · refine w_ld d_123_25 rfl rfl rfl ?_
    refine w_bip d_123_26 (by decide) ?_
    refine w_icmp_ne (g := 47) d_123_28 (by decide) (by decide) (fun h28 => ?_) (fun h28 => ?_)
    · refine w_ld d_123_47 rfl rfl rfl ?_
      refine w_bip d_123_48 (by decide) ?_
      refine w_icmp_ne (g := 69) d_123_50 (by decide) (by decide) (fun h50 => ?_) (fun h50 => ?_)
      · refine w_ld d_123_69 rfl rfl rfl ?_
        refine w_bip d_123_70 (by decide) ?_
        refine w_icmp_ne (g := 89) d_123_72 (by decide) (by decide) (fun h72 => ?_) (fun h72 => ?_)
        · refine w_ld d_123_89 rfl rfl rfl ?_
          refine w_bip d_123_90 (by decide) ?_
          refine w_icmp_eq (g := 107) d_123_92 (by decide) (by decide) (fun h92 => ?_) (fun h92 => ?_)
          · exact absurd h92 (by decide)
          · refine w_ld d_123_95 rfl rfl rfl ?_
            refine w_bip d_123_96 (by decide) ?_
            refine w_icmp_eq (g := 107) d_123_98 (by decide) (by decide) (fun h98 => ?_) (fun h98 => ?_)
            · exact absurd h98 (by decide)
            · refine w_ld d_123_101 rfl rfl rfl ?_
              refine w_bip d_123_102 (by decide) ?_
              refine w_icmp_ne (g := 111) d_123_104 (by decide) (by decide) (fun h104 => ?_) (fun h104 => ?_)
              · refine w_con d_123_111 ?_
                refine w_st1 (L' := [_, _, _, _, _]) d_123_112 rfl (by decide) rfl (by decide) rfl ?_
                refine w_ld d_123_113 rfl rfl rfl ?_
                refine w_ld d_123_114 rfl rfl rfl ?_
                refine w_bip d_123_115 (by decide) ?_
                refine w_icmp_ne (g := 124) d_123_117 (by decide) (by decide) (fun h117 => ?_) (fun h117 => ?_)
                · refine w_ld d_123_124 rfl rfl rfl ?_
                  refine w_if_eq (g := 132) d_123_125 (by decide) (by decide) (fun h125 => ?_) (fun h125 => ?_)
                  · refine w_con d_123_132 ?_
                    refine w_ld d_123_133 rfl rfl rfl ?_
                    refine w_cV1 (a := 46) (as := [_, _]) (rest := _) rfl d_123_134 (by rfl) (by rfl) (by first | rfl | assumption) (by rfl) (by rfl) (Nat.le_of_ble_eq_true rfl) (by omega) (by omega) mk0 ?_
                    refine w_st1 (L' := [_, _, _, _, _]) d_123_137 rfl (by decide) rfl (by decide) rfl ?_
                    refine w_ld d_123_139 rfl rfl rfl ?_
                    refine w_getF d_123_140 (by rfl) (by first | rfl | assumption) (by rfl) (by rfl) ?_
                    refine w_ld d_123_143 rfl rfl rfl ?_
                    refine w_ld d_123_145 rfl rfl rfl ?_
                    refine w_if_eq (g := 163) d_123_146 (by decide) (by decide) (fun h146 => ?_) (fun h146 => ?_)
                    · refine w_ld d_123_163 rfl rfl rfl ?_
                      refine w_cV1 (a := 46) (as := []) (rest := _) rfl d_123_164 (by rfl) (by rfl) (by first | rfl | assumption) (by rfl) (by rfl) (Nat.le_of_ble_eq_true rfl) (by omega) (by omega) nm0 ?_
                      refine w_last d_123_167 (by first | rfl | assumption) (by decide) ?_
                      refine w_ld d_123_168 rfl rfl rfl ?_
                      refine w_ld d_123_169 rfl rfl rfl ?_
                      refine w_cV0 (a := 46) (as := [_]) (rest := _) rfl d_123_171 (by rfl) (by rfl) (by first | rfl | assumption) (by rfl) (by rfl) (Nat.le_of_ble_eq_true rfl) (by omega) (by omega) rd0 ?_
                      refine w_con d_123_174 ?_
                      refine w_zret d_123_175 rfl (by decide) ?_
                      exact ⟨_, rfl, ⟨e3, e15, e16, e19, fun k hk => by rw [e47]; exact hk⟩, rfl⟩
                    · exact absurd rfl h146
                  · exact absurd rfl h125
                · exact absurd h117 (by decide)
              · exact absurd h104 (by decide)
        · exact absurd h72 (by decide)
      · exact absurd h50 (by decide)
    · exact absurd h28 (by decide)
  · exact absurd h17 (by decide)
theorem f_complete {sc : Nat × (Nat → Int32)} {fr lo : Nat} {μ : Mem} {ρ : Nat × Nat × Nat} (hq19 : μ.1 46 19 = 0) : w_E sc fr lo 146 [.ref 46] (hp μ, ρ) (.inl none) (hp μ, ρ) := by
  refine w_S.of (L0 := [some (.ref 46)]) rfl rfl (Nat.le_of_ble_eq_true rfl) (by rfl) ?_
  refine w_ld d_146_0 rfl rfl rfl ?_
  refine w_gI d_146_1 (by rfl) (by first | rfl | assumption) (by rfl) hq19 ?_
  refine w_if_le (g := 54) d_146_4 (by decide) (by decide) (fun h4 => ?_) (fun h4 => ?_)
  · refine w_ret d_146_54 rfl ?_
    exact ⟨rfl, rfl⟩
  · exact absurd h4 (by decide)
theorem f_readAll_e {sc : Nat × (Nat → Int32)} {fr lo : Nat} {ν : Mem} {ρ : Nat × Nat × Nat} (v3 : ν.1 46 3 = 0) (v15 : ν.1 46 15 = 0) (v16 : ν.1 46 16 = 0) (v47 : ∀ k, 0 ≤ ν.2.2 47 k ∧ ν.2.2 47 k < 65536) (hf : 18 ≤ fr) (hl : 700 ≤ lo) : w_P sc fr lo 117 7 4 false (none) prog_9_method_39_code 34 [some (.ref 46), some (.int (ji 0)), some (.int (ji 0)), none] [] (hp ν, ρ) (fun o t' => ∃ μ', o = .inl none ∧ (μ'.1 46 16 = 0) ∧ t' = (hp μ', ρ)) := by
  have sp0 : w_E sc (fr - 1) (lo - (19 + 1)) 118 [.ref 46] (hp ν, ρ) (.inl none) (hp ν, ρ) := by
    have e := m_spaces (sc := sc) (fr := fr - 1) (lo := lo - (19 + 1)) (μ := ν) (ρ := ρ) (by omega) v47 (by omega) (by omega) (by omega)
    rw [sk_big _ _ _ (by omega), stI_self] at e
    exact e
  have u15 := v15
  have u3 := v3
  refine w_ld d_117_34 rfl rfl rfl ?_
  refine w_gI d_117_35 (by rfl) (by first | rfl | assumption) (by rfl) v16 ?_
  refine w_if_ge (g := 185) d_117_38 (by decide) (by decide) (fun h38 => ?_) (fun h38 => ?_)
  · refine w_ld d_117_185 rfl rfl rfl ?_
    refine w_cV0 (a := 46) (as := []) (rest := _) rfl d_117_186 (by rfl) (by rfl) (by first | rfl | assumption) (by rfl) (by rfl) (Nat.le_of_ble_eq_true rfl) (by omega) (by omega) sp0 ?_
    refine w_ld d_117_189 rfl rfl rfl ?_
    refine w_gI d_117_190 (by rfl) (by first | rfl | assumption) (by rfl) u15 ?_
    refine w_ld d_117_193 rfl rfl rfl ?_
    refine w_gI d_117_194 (by rfl) (by first | rfl | assumption) (by rfl) u3 ?_
    refine w_icmp_ge (g := 208) d_117_197 (by decide) (by decide) (fun h197 => ?_) (fun h197 => ?_)
    · refine w_ret d_117_208 rfl ?_
      exact ⟨_, rfl, v16, rfl⟩
    · exact absurd h197 (by decide)
  · exact absurd h38 (by decide)
theorem f_readAll_l {sc : Nat × (Nat → Int32)} {fr lo : Nat} {ν : Mem} {ρ : Nat × Nat × Nat} (v3 : ν.1 46 3 = 0) (v15 : ν.1 46 15 = 0) (v16 : ν.1 46 16 = -1) (v17 : ν.1 46 17 = 0) (v19 : ν.1 46 19 = 0) (v47 : ∀ k, 0 ≤ ν.2.2 47 k ∧ ν.2.2 47 k < 65536) (hf : 18 ≤ fr) (hl : 700 ≤ lo) : w_P sc fr lo 117 7 4 false (none) prog_9_method_39_code 34 [some (.ref 46), some (.int (ji 1)), some (.int (ji 0)), none] [] (hp ν, ρ) (fun o t' => ∃ μ', o = .inl none ∧ (μ'.1 46 16 = 0) ∧ t' = (hp μ', ρ)) := by
  have sp0 : w_E sc (fr - 1) (lo - (19 + 1)) 118 [.ref 46] (hp ν, ρ) (.inl none) (hp ν, ρ) := by
    have e := m_spaces (sc := sc) (fr := fr - 1) (lo := lo - (19 + 1)) (μ := ν) (ρ := ρ) (by omega) v47 (by omega) (by omega) (by omega)
    rw [sk_big _ _ _ (by omega), stI_self] at e
    exact e
  have lk0 : w_E sc (fr - 1) (lo - (19 + 2)) 119 [.ref 46, .int (ji 0)] (hp ν, ρ) (.inl (some (.int (ji 0)))) (hp ν, ρ) := by
    have e := m_look (sc := sc) (fr := fr - 1) (lo := lo - (19 + 2)) (μ := ν) (ρ := ρ) (by omega) (k := 0) (by decide) (by decide)
    rw [if_neg (by omega)] at e
    exact e
  refine w_ld d_117_34 rfl rfl rfl ?_
  refine w_gI d_117_35 (by rfl) (by first | rfl | assumption) (by rfl) v16 ?_
  refine w_if_ge (g := 185) d_117_38 (by decide) (by decide) (fun h38 => ?_) (fun h38 => ?_)
  · exact absurd h38 (by decide)
  · refine w_ld d_117_41 rfl rfl rfl ?_
    refine w_if_ne (g := 52) d_117_42 (by decide) (by decide) (fun h42 => ?_) (fun h42 => ?_)
    · refine w_ld d_117_52 rfl rfl rfl ?_
      refine w_cV0 (a := 46) (as := []) (rest := _) rfl d_117_53 (by rfl) (by rfl) (by first | rfl | assumption) (by rfl) (by rfl) (Nat.le_of_ble_eq_true rfl) (by omega) (by omega) sp0 ?_
      refine w_ld d_117_56 rfl rfl rfl ?_
      refine w_ld d_117_57 rfl rfl rfl ?_
      refine w_gI d_117_58 (by rfl) (by first | rfl | assumption) (by rfl) v15 ?_
      refine w_cV1 (a := 46) (as := [_]) (rest := _) rfl d_117_61 (by rfl) (by rfl) (by first | rfl | assumption) (by rfl) (by rfl) (Nat.le_of_ble_eq_true rfl) (by omega) (by omega) lk0 ?_
      refine w_st1 (L' := [_, _, _, _]) d_117_64 rfl (by decide) rfl (by decide) rfl ?_
      refine w_ld d_117_65 rfl rfl rfl ?_
      refine w_if_eq (g := 84) d_117_66 (by decide) (by decide) (fun h66 => ?_) (fun h66 => ?_)
      · exact absurd h66 (by decide)
      · refine w_ld d_117_69 rfl rfl rfl ?_
        refine w_bip d_117_70 (by decide) ?_
        refine w_icmp_ne (g := 84) d_117_72 (by decide) (by decide) (fun h72 => ?_) (fun h72 => ?_)
        · refine w_ld d_117_84 rfl rfl rfl ?_
          refine w_if_eq (g := 116) d_117_85 (by decide) (by decide) (fun h85 => ?_) (fun h85 => ?_)
          · exact absurd h85 (by decide)
          · refine w_ld d_117_88 rfl rfl rfl ?_
            refine w_if_eq (g := 98) d_117_89 (by decide) (by decide) (fun h89 => ?_) (fun h89 => ?_)
            · refine w_ld d_117_98 rfl rfl rfl ?_
              obtain ⟨μ1, ⟨w3, w15, w16, w19, w47⟩, hw⟩ := w_S.ex (f_readSimple (sc := sc) (fr := fr - 1) (lo := lo - (19 + 5)) (ρ := ρ) v3 v15 v16 v17 (by omega) (by omega))
              refine w_cV1 (a := 46) (as := []) (rest := _) rfl d_117_99 (by rfl) (by rfl) rfl (by rfl) (by rfl) (Nat.le_of_ble_eq_true rfl) (by omega) (by omega) hw ?_
              refine w_if_eq (g := 109) d_117_102 (by decide) (by decide) (fun h => absurd h (by decide)) (fun h => ?_)
              refine w_ld d_117_105 rfl rfl rfl ?_
              refine w_cV0 (a := 46) (as := []) (rest := _) rfl d_117_106 (by rfl) (by rfl) rfl (by rfl) (by rfl) (Nat.le_of_ble_eq_true rfl) (by omega) (by omega) (f_complete (w19.trans v19)) ?_
              refine w_con d_117_109 ?_
              refine w_st1 (L' := [_, _, _, _]) d_117_110 rfl (by decide) rfl (by decide) rfl ?_
              refine w_con d_117_111 ?_
              refine w_st1 (L' := [_, _, _, _]) d_117_112 rfl (by decide) rfl (by decide) rfl ?_
              refine w_goto (g := 182) d_117_113 (by decide) ?_
              refine w_goto (g := 34) d_117_182 (by decide) ?_
              exact w_P.le (f_readAll_e w3 w15 w16 (fun k => w47 k (v47 k)) hf hl) ⟨rfl, rfl, rfl, trivial⟩
            · exact absurd rfl h89
        · exact absurd h72 (by decide)
    · exact absurd h42 (by decide)
theorem f_readAll {sc : Nat × (Nat → Int32)} {fr lo : Nat} {μ : Mem} {ρ : Nat × Nat × Nat} (hn : μ.1 46 3 = 0) (hch : ∀ k, 0 ≤ μ.2.2 47 k ∧ μ.2.2 47 k < 65536) (hf : 18 ≤ fr) (hl : 700 ≤ lo) : w_S sc fr lo 117 [.ref 46] (hp μ, ρ) (fun o t' => ∃ μ', o = .inl none ∧ (μ'.1 46 16 = 0) ∧ t' = (hp μ', ρ)) := by
  refine w_S.of (L0 := [some (.ref 46), none, none, none]) rfl rfl (Nat.le_of_ble_eq_true rfl) (by rfl) ?_
  refine w_ld d_117_0 rfl rfl rfl ?_
  refine w_con d_117_1 ?_
  refine w_putI d_117_2 (by rfl) (by first | rfl | assumption) (by rfl) (fit_I (by rfl)) (by rfl) ?_
  refine w_ld d_117_5 rfl rfl rfl ?_
  refine w_con d_117_6 ?_
  refine w_putI d_117_7 (by rfl) (by first | rfl | assumption) (by rfl) (fit_I (by rfl)) (by rfl) ?_
  refine w_ld d_117_10 rfl rfl rfl ?_
  refine w_con d_117_11 ?_
  refine w_putI d_117_12 (by rfl) (by first | rfl | assumption) (by rfl) (fit_I (by rfl)) (by rfl) ?_
  refine w_ld d_117_15 rfl rfl rfl ?_
  refine w_con d_117_16 ?_
  refine w_putI d_117_17 (by rfl) (by first | rfl | assumption) (by rfl) (fit_I (by rfl)) (by rfl) ?_
  refine w_ld d_117_20 rfl rfl rfl ?_
  refine w_con d_117_21 ?_
  refine w_putI d_117_22 (by rfl) (by first | rfl | assumption) (by rfl) (fit_I (by rfl)) (by rfl) ?_
  refine w_ld d_117_25 rfl rfl rfl ?_
  refine w_con d_117_26 ?_
  refine w_putI d_117_27 (by rfl) (by first | rfl | assumption) (by rfl) (fit_I (by rfl)) (by rfl) ?_
  refine w_con d_117_30 ?_
  refine w_st1 (L' := [_, _, _, _]) d_117_31 rfl (by decide) rfl (by decide) rfl ?_
  refine w_con d_117_32 ?_
  refine w_st1 (L' := [_, _, _, _]) d_117_33 rfl (by decide) rfl (by decide) rfl ?_
  obtain ⟨ν, hν⟩ : ∃ ν, ν = (stI (stI (stI (stI (stI (stI μ 46 15 0) 46 16 (-1)) 46 17 0) 46 18 0) 46 19 0) 46 26 0) := ⟨_, rfl⟩
  rw [← hν]
  have v3 : ν.1 46 3 = 0 := by rw [hν]; exact hn
  have v15 : ν.1 46 15 = 0 := by rw [hν]; rfl
  have v16 : ν.1 46 16 = -1 := by rw [hν]; rfl
  have v17 : ν.1 46 17 = 0 := by rw [hν]; rfl
  have v19 : ν.1 46 19 = 0 := by rw [hν]; rfl
  have v47 : ∀ k, 0 ≤ ν.2.2 47 k ∧ ν.2.2 47 k < 65536 := by rw [hν]; exact hch
  exact f_readAll_l v3 v15 v16 v17 v19 v47 hf hl
theorem f_mread {sc : Nat × (Nat → Int32)} {fr lo : Nat} {μ : Mem} {ρ : Nat × Nat × Nat} {p : Int} (hk : p = 0 ∨ p = 1) (hn : μ.1 46 3 = 0) (hch : ∀ k, 0 ≤ μ.2.2 47 k ∧ μ.2.2 47 k < 65536) (hf : 24 ≤ fr) (hl : 900 ≤ lo) : w_S sc fr lo 115 [.ref 46, .int (ji p)] (hp μ, ρ) (fun o t' => ∃ μ', o = .inl (some (.int (ji 0))) ∧ (μ'.1 46 0 = 2) ∧ t' = (hp μ', ρ)) := by
  refine w_S.of (L0 := [some (.ref 46), some (.int (ji p)), none, none]) rfl rfl (Nat.le_of_ble_eq_true rfl) (by rfl) ?_
  refine w_ld d_115_0 rfl rfl rfl ?_
  refine w_cS1 (as := [_]) (rest := _) rfl d_115_1 (by rfl) (by rfl) (by rfl) (by rfl) (Nat.le_of_ble_eq_true rfl) (by omega) (by omega) (m_noSlot (by omega)) ?_
  refine w_if_eq (g := 14) d_115_4 (by decide) (by split <;> omega) (fun h4 => ?_) (fun h4 => ?_)
  · refine w_ld d_115_14 rfl rfl rfl ?_
    obtain ⟨μ1, w16, hw⟩ := w_S.ex (f_readAll (sc := sc) (fr := fr - 1) (lo := lo - (19 + 4)) (ρ := ρ) hn hch (by omega) (by omega))
    refine w_cV0 (a := 46) (as := []) (rest := _) rfl d_115_15 (by rfl) (by rfl) rfl (by rfl) (by rfl) (Nat.le_of_ble_eq_true rfl) (by omega) (by omega) hw ?_
    refine w_ld d_115_18 rfl rfl rfl ?_
    refine w_ld d_115_19 rfl rfl rfl ?_
    refine w_gI d_115_20 (by rfl) (by first | rfl | assumption) (by rfl) w16 ?_
    refine w_putI d_115_23 (by rfl) (by first | rfl | assumption) (by rfl) (fit_I (by rfl)) (by rfl) ?_
    refine w_ld d_115_26 rfl rfl rfl ?_
    refine w_ld d_115_27 rfl rfl rfl ?_
    refine w_gI d_115_28 (by rfl) (by first | rfl | assumption) (by rfl) (show (stI μ1 46 1 0).1 46 16 = 0 from w16) ?_
    refine w_if_lt (g := 38) d_115_31 (by decide) (by decide) (fun h31 => ?_) (fun h31 => ?_)
    · exact absurd h31 (by decide)
    · refine w_con d_115_34 ?_
      refine w_goto (g := 39) d_115_35 (by decide) ?_
      refine w_putI d_115_39 (by rfl) (by first | rfl | assumption) (by rfl) (fit_I (by rfl)) (by rfl) ?_
      refine w_ld d_115_42 rfl rfl rfl ?_
      refine w_gI d_115_43 (by rfl) (by first | rfl | assumption) (by rfl) (stI_at _ _ _ _) ?_
      refine w_if_le (g := 51) d_115_46 (by decide) (by decide) (fun h46 => ?_) (fun h46 => ?_)
      · exact absurd h46 (by decide)
      · refine w_con d_115_49 ?_
        refine w_iret d_115_50 rfl ?_
        exact ⟨_, rfl, stI_at _ _ _ _, rfl⟩
  · exact absurd (if_neg (by omega)) h4
