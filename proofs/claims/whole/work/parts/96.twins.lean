/-! THE PURE PART, 78: contracts: tags, and parts that come twice -/
theorem t_kot {sc : Nat × (Nat → Int32)} {fr lo : Nat} {μ : Mem} {ρ : Nat × Nat × Nat} {t : Nat} (hT : isT t) (ht : μ.2.1 20 4 = .ref t) (hc : 0 ≤ μ.1 (t + 7) 1 ∧ μ.1 (t + 7) 1 ≤ 240) {f s : Int} (hfs : 0 ≤ f ∧ 0 ≤ s ∧ f + s ≤ μ.1 (t + 7) 1) (hch : ∀ k, 0 ≤ μ.2.2 (t + 7 + 1) k ∧ μ.2.2 (t + 7 + 1) k < 65536) (hf : 12 ≤ fr) (hl : 600 ≤ lo) : w_S sc fr lo 54 [.ref 20, .int (ji f), .int (ji s)] (hp μ, ρ) (fun o t' => ∃ r : Int, o = .inl (some (.int (ji r))) ∧ (r = -1 ∧ (s = slen 1 ∧ ∀ j, 0 ≤ j → j < s → μ.2.2 (t + 7 + 1) (f + j) = sch 1 j) ∨ r = 10 ∧ ¬ (s = slen 1 ∧ ∀ j, 0 ≤ j → j < s → μ.2.2 (t + 7 + 1) (f + j) = sch 1 j) ∧ (s = slen 2 ∧ ∀ j, 0 ≤ j → j < s → μ.2.2 (t + 7 + 1) (f + j) = sch 2 j) ∨ r = 9 ∧ ¬ (s = slen 1 ∧ ∀ j, 0 ≤ j → j < s → μ.2.2 (t + 7 + 1) (f + j) = sch 1 j) ∧ ¬ (s = slen 2 ∧ ∀ j, 0 ≤ j → j < s → μ.2.2 (t + 7 + 1) (f + j) = sch 2 j) ∧ (s = slen 3 ∧ ∀ j, 0 ≤ j → j < s → μ.2.2 (t + 7 + 1) (f + j) = sch 3 j) ∨ r = 11 ∧ ¬ (s = slen 1 ∧ ∀ j, 0 ≤ j → j < s → μ.2.2 (t + 7 + 1) (f + j) = sch 1 j) ∧ ¬ (s = slen 2 ∧ ∀ j, 0 ≤ j → j < s → μ.2.2 (t + 7 + 1) (f + j) = sch 2 j) ∧ ¬ (s = slen 3 ∧ ∀ j, 0 ≤ j → j < s → μ.2.2 (t + 7 + 1) (f + j) = sch 3 j) ∧ (s = slen 4 ∧ ∀ j, 0 ≤ j → j < s → μ.2.2 (t + 7 + 1) (f + j) = sch 4 j) ∨ r = 12 ∧ ¬ (s = slen 1 ∧ ∀ j, 0 ≤ j → j < s → μ.2.2 (t + 7 + 1) (f + j) = sch 1 j) ∧ ¬ (s = slen 2 ∧ ∀ j, 0 ≤ j → j < s → μ.2.2 (t + 7 + 1) (f + j) = sch 2 j) ∧ ¬ (s = slen 3 ∧ ∀ j, 0 ≤ j → j < s → μ.2.2 (t + 7 + 1) (f + j) = sch 3 j) ∧ ¬ (s = slen 4 ∧ ∀ j, 0 ≤ j → j < s → μ.2.2 (t + 7 + 1) (f + j) = sch 4 j)) ∧ t' = (hp μ, ρ)) := by
  obtain ⟨hT0, hT1, hT2, hT3, hT4, hT5, hT6, hT7, hT8⟩ := hT.sh
  have hT9 : t = 2 ∨ t = 11 ∨ t = 26 := hT
  refine w_S.of (L0 := [some (.ref 20), some (.int (ji f)), some (.int (ji s))]) rfl rfl (Nat.le_of_ble_eq_true rfl) (by rfl) ?_
  refine w_ld d_54_0 rfl rfl rfl ?_
  refine w_getR d_54_1 (by rfl) (by first | rfl | assumption) (by rfl) (by assumption) ?_
  refine w_getF d_54_4 (by rfl) (by first | rfl | assumption) (by rfl) (by rfl) ?_
  refine w_ld d_54_7 rfl rfl rfl ?_
  refine w_ld d_54_8 rfl rfl rfl ?_
  refine w_lds (k := 1) d_54_9 (by rfl) ?_
  refine w_cV1 (a := (t + 7)) (as := [_, _, _]) (rest := _) rfl d_54_11 (by rfl) (by rfl) (by first | rfl | assumption) (by rfl) (by rfl) (Nat.le_of_ble_eq_true rfl) (by omega) (by omega) (t_spells (k := 1) hT.toL hc hfs (by decide) hch (by omega) (by omega)) ?_
  refine w_if_eq (g := 19) d_54_14 (by decide) (by first | exact b01_in _ | decide) (fun h14 => ?_) (fun h14 => ?_)
  · refine w_ld d_54_19 rfl rfl rfl ?_
    refine w_getR d_54_20 (by rfl) (by first | rfl | assumption) (by rfl) (by assumption) ?_
    refine w_getF d_54_23 (by rfl) (by first | rfl | assumption) (by rfl) (by rfl) ?_
    refine w_ld d_54_26 rfl rfl rfl ?_
    refine w_ld d_54_27 rfl rfl rfl ?_
    refine w_lds (k := 2) d_54_28 (by rfl) ?_
    refine w_cV1 (a := (t + 7)) (as := [_, _, _]) (rest := _) rfl d_54_30 (by rfl) (by rfl) (by first | rfl | assumption) (by rfl) (by rfl) (Nat.le_of_ble_eq_true rfl) (by omega) (by omega) (t_spells (k := 2) hT.toL hc hfs (by decide) hch (by omega) (by omega)) ?_
    refine w_if_eq (g := 39) d_54_33 (by decide) (by first | exact b01_in _ | decide) (fun h33 => ?_) (fun h33 => ?_)
    · refine w_ld d_54_39 rfl rfl rfl ?_
      refine w_getR d_54_40 (by rfl) (by first | rfl | assumption) (by rfl) (by assumption) ?_
      refine w_getF d_54_43 (by rfl) (by first | rfl | assumption) (by rfl) (by rfl) ?_
      refine w_ld d_54_46 rfl rfl rfl ?_
      refine w_ld d_54_47 rfl rfl rfl ?_
      refine w_lds (k := 3) d_54_48 (by rfl) ?_
      refine w_cV1 (a := (t + 7)) (as := [_, _, _]) (rest := _) rfl d_54_50 (by rfl) (by rfl) (by first | rfl | assumption) (by rfl) (by rfl) (Nat.le_of_ble_eq_true rfl) (by omega) (by omega) (t_spells (k := 3) hT.toL hc hfs (by decide) hch (by omega) (by omega)) ?_
      refine w_if_eq (g := 59) d_54_53 (by decide) (by first | exact b01_in _ | decide) (fun h53 => ?_) (fun h53 => ?_)
      · refine w_ld d_54_59 rfl rfl rfl ?_
        refine w_getR d_54_60 (by rfl) (by first | rfl | assumption) (by rfl) (by assumption) ?_
        refine w_getF d_54_63 (by rfl) (by first | rfl | assumption) (by rfl) (by rfl) ?_
        refine w_ld d_54_66 rfl rfl rfl ?_
        refine w_ld d_54_67 rfl rfl rfl ?_
        refine w_lds (k := 4) d_54_68 (by rfl) ?_
        refine w_cV1 (a := (t + 7)) (as := [_, _, _]) (rest := _) rfl d_54_70 (by rfl) (by rfl) (by first | rfl | assumption) (by rfl) (by rfl) (Nat.le_of_ble_eq_true rfl) (by omega) (by omega) (t_spells (k := 4) hT.toL hc hfs (by decide) hch (by omega) (by omega)) ?_
        refine w_if_eq (g := 81) d_54_73 (by decide) (by first | exact b01_in _ | decide) (fun h73 => ?_) (fun h73 => ?_)
        · refine w_bip d_54_81 (by decide) ?_
          refine w_iret d_54_83 rfl ?_
          exact ⟨12, rfl, Or.inr (Or.inr (Or.inr (Or.inr ⟨rfl, b01_eq h14, b01_eq h33, b01_eq h53, b01_eq h73⟩))), rfl⟩
        · refine w_bip d_54_76 (by decide) ?_
          refine w_goto (g := 83) d_54_78 (by decide) ?_
          refine w_iret d_54_83 rfl ?_
          exact ⟨11, rfl, Or.inr (Or.inr (Or.inr (Or.inl ⟨rfl, b01_eq h14, b01_eq h33, b01_eq h53, b01_ne h73⟩))), rfl⟩
      · refine w_bip d_54_56 (by decide) ?_
        refine w_iret d_54_58 rfl ?_
        exact ⟨9, rfl, Or.inr (Or.inr (Or.inl ⟨rfl, b01_eq h14, b01_eq h33, b01_ne h53⟩)), rfl⟩
    · refine w_bip d_54_36 (by decide) ?_
      refine w_iret d_54_38 rfl ?_
      exact ⟨10, rfl, Or.inr (Or.inl ⟨rfl, b01_eq h14, b01_ne h33⟩), rfl⟩
  · refine w_con d_54_17 ?_
    refine w_iret d_54_18 rfl ?_
    exact ⟨-1, rfl, Or.inl ⟨rfl, b01_ne h14⟩, rfl⟩
theorem t_rqa {sc : Nat × (Nat → Int32)} {fr lo : Nat} {μ : Mem} {ρ : Nat × Nat × Nat} {t : Nat} (hT : isT t) (ht : μ.2.1 20 4 = .ref t) {top kd : Int} (h0 : 0 ≤ top ∧ top < 240) (hP : 0 ≤ μ.2.2 (t + 5) top ∧ μ.2.2 (t + 5) top ≤ 240) (hk0 : 0 ≤ μ.2.2 (t + 1) top ∧ μ.2.2 (t + 1) top ≤ 12) (hkd : 0 ≤ kd ∧ kd ≤ 12) (hok : μ.2.2 (t + 1) top = 8 ∧ (kd = 11 → μ.2.2 (t + 5) top % 2 = 0)) : w_E sc fr lo 57 [.ref 20, .int (ji top), .int (ji kd)] (hp μ, ρ) (.inl none) (hp μ, ρ) := by
  obtain ⟨hT0, hT1, hT2, hT3, hT4, hT5, hT6, hT7, hT8⟩ := hT.sh
  have hT9 : t = 2 ∨ t = 11 ∨ t = 26 := hT
  have ht2 : (μ.2.2 (t + 5) top).tmod 2 = μ.2.2 (t + 5) top % 2 := Int.tmod_eq_emod_of_nonneg hP.1
  refine w_S.of (L0 := [some (.ref 20), some (.int (ji top)), some (.int (ji kd)), none]) rfl rfl (Nat.le_of_ble_eq_true rfl) (by rfl) ?_
  refine w_ld d_57_0 rfl rfl rfl ?_
  refine w_getR d_57_1 (by rfl) (by first | rfl | assumption) (by rfl) (by assumption) ?_
  refine w_getF d_57_4 (by rfl) (by first | rfl | assumption) (by rfl) (by rfl) ?_
  refine w_ld d_57_7 rfl rfl rfl ?_
  refine w_aI d_57_8 (by first | rfl | assumption) (by omega) (by (try simp only [Nat.reduceAdd]) <;> rfl) ?_
  refine w_con d_57_9 ?_
  refine w_irem d_57_10 (by omega) (by decide) ?_
  refine w_if_eq (g := 18) d_57_11 (by decide) (by rw [ht2]; omega) (fun h11 => ?_) (fun h11 => ?_)
  · refine w_con d_57_18 ?_
    refine w_st1 (L' := [_, _, _, _]) d_57_19 rfl (by decide) rfl (by decide) rfl ?_
    refine w_ld d_57_20 rfl rfl rfl ?_
    refine w_getR d_57_21 (by rfl) (by first | rfl | assumption) (by rfl) (by assumption) ?_
    refine w_getF d_57_24 (by rfl) (by first | rfl | assumption) (by rfl) (by rfl) ?_
    refine w_ld d_57_27 rfl rfl rfl ?_
    refine w_aI d_57_28 (by first | rfl | assumption) (by omega) (by (try simp only [Nat.reduceAdd]) <;> rfl) ?_
    refine w_bip d_57_29 (by decide) ?_
    refine w_icmp_ne (g := 44) d_57_31 (by decide) (by omega) (fun h31 => ?_) (fun h31 => ?_)
    · exact absurd hok.1 h31
    · refine w_ld d_57_34 rfl rfl rfl ?_
      refine w_bip d_57_35 (by decide) ?_
      refine w_icmp_ne (g := 54) d_57_37 (by decide) (by omega) (fun h37 => ?_) (fun h37 => ?_)
      · refine w_ret d_57_54 rfl ?_
        exact ⟨rfl, rfl⟩
      · refine w_ld d_57_40 rfl rfl rfl ?_
        refine w_if_eq (g := 54) d_57_41 (by decide) (by decide) (fun h41 => ?_) (fun h41 => ?_)
        · refine w_ret d_57_54 rfl ?_
          exact ⟨rfl, rfl⟩
        · exact absurd rfl h41
  · refine w_con d_57_14 ?_
    refine w_goto (g := 19) d_57_15 (by decide) ?_
    refine w_st1 (L' := [_, _, _, _]) d_57_19 rfl (by decide) rfl (by decide) rfl ?_
    refine w_ld d_57_20 rfl rfl rfl ?_
    refine w_getR d_57_21 (by rfl) (by first | rfl | assumption) (by rfl) (by assumption) ?_
    refine w_getF d_57_24 (by rfl) (by first | rfl | assumption) (by rfl) (by rfl) ?_
    refine w_ld d_57_27 rfl rfl rfl ?_
    refine w_aI d_57_28 (by first | rfl | assumption) (by omega) (by (try simp only [Nat.reduceAdd]) <;> rfl) ?_
    refine w_bip d_57_29 (by decide) ?_
    refine w_icmp_ne (g := 44) d_57_31 (by decide) (by omega) (fun h31 => ?_) (fun h31 => ?_)
    · exact absurd hok.1 h31
    · refine w_ld d_57_34 rfl rfl rfl ?_
      refine w_bip d_57_35 (by decide) ?_
      refine w_icmp_ne (g := 54) d_57_37 (by decide) (by omega) (fun h37 => ?_) (fun h37 => ?_)
      · refine w_ret d_57_54 rfl ?_
        exact ⟨rfl, rfl⟩
      · exact absurd (hok.2 h37) (by rw [← ht2]; exact h11)
theorem t_rqax {sc : Nat × (Nat → Int32)} {fr lo : Nat} {μ : Mem} {ρ : Nat × Nat × Nat} {t : Nat} (hT : isT t) (ht : μ.2.1 20 4 = .ref t) {top kd : Int} (h0 : 0 ≤ top ∧ top < 240) (hP : 0 ≤ μ.2.2 (t + 5) top ∧ μ.2.2 (t + 5) top ≤ 240) (hk0 : 0 ≤ μ.2.2 (t + 1) top ∧ μ.2.2 (t + 1) top ≤ 12) (hkd : 0 ≤ kd ∧ kd ≤ 12) (hbad : μ.2.2 (t + 1) top ≠ 8 ∨ kd = 11 ∧ μ.2.2 (t + 5) top % 2 = 1) (hf : 8 ≤ fr) (hl : 200 ≤ lo) (hr : 1 ≤ ρ.2.1 ∧ 6 ≤ ρ.2.2) : w_E sc fr lo 57 [.ref 20, .int (ji top), .int (ji kd)] (hp μ, ρ) (.inr (1, ρ.1)) (hp (stI μ 20 6 (μ.2.2 25 top)), ρ.1 + 1, ρ.2.1 - 1, ρ.2.2 - 6) := by
  obtain ⟨hT0, hT1, hT2, hT3, hT4, hT5, hT6, hT7, hT8⟩ := hT.sh
  have hT9 : t = 2 ∨ t = 11 ∨ t = 26 := hT
  have ht2 : (μ.2.2 (t + 5) top).tmod 2 = μ.2.2 (t + 5) top % 2 := Int.tmod_eq_emod_of_nonneg hP.1
  refine w_S.of (L0 := [some (.ref 20), some (.int (ji top)), some (.int (ji kd)), none]) rfl rfl (Nat.le_of_ble_eq_true rfl) (by rfl) ?_
  refine w_ld d_57_0 rfl rfl rfl ?_
  refine w_getR d_57_1 (by rfl) (by first | rfl | assumption) (by rfl) (by assumption) ?_
  refine w_getF d_57_4 (by rfl) (by first | rfl | assumption) (by rfl) (by rfl) ?_
  refine w_ld d_57_7 rfl rfl rfl ?_
  refine w_aI d_57_8 (by first | rfl | assumption) (by omega) (by (try simp only [Nat.reduceAdd]) <;> rfl) ?_
  refine w_con d_57_9 ?_
  refine w_irem d_57_10 (by omega) (by decide) ?_
  refine w_if_eq (g := 18) d_57_11 (by decide) (by rw [ht2]; omega) (fun h11 => ?_) (fun h11 => ?_)
  · refine w_con d_57_18 ?_
    refine w_st1 (L' := [_, _, _, _]) d_57_19 rfl (by decide) rfl (by decide) rfl ?_
    refine w_ld d_57_20 rfl rfl rfl ?_
    refine w_getR d_57_21 (by rfl) (by first | rfl | assumption) (by rfl) (by assumption) ?_
    refine w_getF d_57_24 (by rfl) (by first | rfl | assumption) (by rfl) (by rfl) ?_
    refine w_ld d_57_27 rfl rfl rfl ?_
    refine w_aI d_57_28 (by first | rfl | assumption) (by omega) (by (try simp only [Nat.reduceAdd]) <;> rfl) ?_
    refine w_bip d_57_29 (by decide) ?_
    refine w_icmp_ne (g := 44) d_57_31 (by decide) (by omega) (fun h31 => ?_) (fun h31 => ?_)
    · refine w_ld d_57_44 rfl rfl rfl ?_
      refine w_ld d_57_45 rfl rfl rfl ?_
      refine w_getF d_57_46 (by rfl) (by first | rfl | assumption) (by rfl) (by rfl) ?_
      refine w_ld d_57_49 rfl rfl rfl ?_
      refine w_aI d_57_50 (by first | rfl | assumption) (by omega) (by (try simp only [Nat.reduceAdd]) <;> rfl) ?_
      refine w_cVx (as := [_]) (rest := _) rfl d_57_51 (by rfl) (by rfl) (by first | rfl | assumption) (by rfl) (by rfl) (Nat.le_of_ble_eq_true rfl) (by omega) (by omega) (t_fail hr (by omega) (by omega)) ?_
      exact ⟨rfl, rfl⟩
    · refine w_ld d_57_34 rfl rfl rfl ?_
      refine w_bip d_57_35 (by decide) ?_
      refine w_icmp_ne (g := 54) d_57_37 (by decide) (by omega) (fun h37 => ?_) (fun h37 => ?_)
      · exact absurd hbad (by omega)
      · refine w_ld d_57_40 rfl rfl rfl ?_
        refine w_if_eq (g := 54) d_57_41 (by decide) (by decide) (fun h41 => ?_) (fun h41 => ?_)
        · exact absurd hbad (by rw [ht2] at h11; omega)
        · refine w_ld d_57_44 rfl rfl rfl ?_
          refine w_ld d_57_45 rfl rfl rfl ?_
          refine w_getF d_57_46 (by rfl) (by first | rfl | assumption) (by rfl) (by rfl) ?_
          refine w_ld d_57_49 rfl rfl rfl ?_
          refine w_aI d_57_50 (by first | rfl | assumption) (by omega) (by (try simp only [Nat.reduceAdd]) <;> rfl) ?_
          refine w_cVx (as := [_]) (rest := _) rfl d_57_51 (by rfl) (by rfl) (by first | rfl | assumption) (by rfl) (by rfl) (Nat.le_of_ble_eq_true rfl) (by omega) (by omega) (t_fail hr (by omega) (by omega)) ?_
          exact ⟨rfl, rfl⟩
  · refine w_con d_57_14 ?_
    refine w_goto (g := 19) d_57_15 (by decide) ?_
    refine w_st1 (L' := [_, _, _, _]) d_57_19 rfl (by decide) rfl (by decide) rfl ?_
    refine w_ld d_57_20 rfl rfl rfl ?_
    refine w_getR d_57_21 (by rfl) (by first | rfl | assumption) (by rfl) (by assumption) ?_
    refine w_getF d_57_24 (by rfl) (by first | rfl | assumption) (by rfl) (by rfl) ?_
    refine w_ld d_57_27 rfl rfl rfl ?_
    refine w_aI d_57_28 (by first | rfl | assumption) (by omega) (by (try simp only [Nat.reduceAdd]) <;> rfl) ?_
    refine w_bip d_57_29 (by decide) ?_
    refine w_icmp_ne (g := 44) d_57_31 (by decide) (by omega) (fun h31 => ?_) (fun h31 => ?_)
    · refine w_ld d_57_44 rfl rfl rfl ?_
      refine w_ld d_57_45 rfl rfl rfl ?_
      refine w_getF d_57_46 (by rfl) (by first | rfl | assumption) (by rfl) (by rfl) ?_
      refine w_ld d_57_49 rfl rfl rfl ?_
      refine w_aI d_57_50 (by first | rfl | assumption) (by omega) (by (try simp only [Nat.reduceAdd]) <;> rfl) ?_
      refine w_cVx (as := [_]) (rest := _) rfl d_57_51 (by rfl) (by rfl) (by first | rfl | assumption) (by rfl) (by rfl) (Nat.le_of_ble_eq_true rfl) (by omega) (by omega) (t_fail hr (by omega) (by omega)) ?_
      exact ⟨rfl, rfl⟩
    · refine w_ld d_57_34 rfl rfl rfl ?_
      refine w_bip d_57_35 (by decide) ?_
      refine w_icmp_ne (g := 54) d_57_37 (by decide) (by omega) (fun h37 => ?_) (fun h37 => ?_)
      · exact absurd hbad (by omega)
      · refine w_ld d_57_40 rfl rfl rfl ?_
        refine w_if_eq (g := 54) d_57_41 (by decide) (by decide) (fun h41 => ?_) (fun h41 => ?_)
        · exact absurd h41 (by decide)
        · refine w_ld d_57_44 rfl rfl rfl ?_
          refine w_ld d_57_45 rfl rfl rfl ?_
          refine w_getF d_57_46 (by rfl) (by first | rfl | assumption) (by rfl) (by rfl) ?_
          refine w_ld d_57_49 rfl rfl rfl ?_
          refine w_aI d_57_50 (by first | rfl | assumption) (by omega) (by (try simp only [Nat.reduceAdd]) <;> rfl) ?_
          refine w_cVx (as := [_]) (rest := _) rfl d_57_51 (by rfl) (by rfl) (by first | rfl | assumption) (by rfl) (by rfl) (Nat.le_of_ble_eq_true rfl) (by omega) (by omega) (t_fail hr (by omega) (by omega)) ?_
          exact ⟨rfl, rfl⟩
theorem t_twins_i {sc : Nat × (Nat → Int32)} {fr lo : Nat} {μ : Mem} {ρ : Nat × Nat × Nat} {t : Nat} (hT : isT t) (ht : μ.2.1 20 4 = .ref t) {top n : Int} (hr : rok μ t top n) (h0 : top < n) (ho : ∀ k, top < k → k < n → okv 10 (vT μ t) k) (hch : ∀ a n, isL a n → ∀ k, 0 ≤ μ.2.2 (a + 1) k ∧ μ.2.2 (a + 1) k < 65536) {s : Nat} {p : Int} (hs : p = 0 ∧ s = 1 ∨ p = 1 ∧ s = 2) (hev : p = 1 → μ.2.2 (t + 5) top % 2 = 0) (hf : 30 ≤ fr) (hl : 1000 ≤ lo) (hrr : 1 ≤ ρ.2.1 ∧ 6 ≤ ρ.2.2) {k : Nat} (hk : ((s * k : Nat) : Int) < μ.2.2 (t + 5) top) {Q : z_O → z_T → Prop} (K : (∀ i : Nat, i < k → ¬ al 10 (vT μ t) (pt (vT μ t) top (s * i)) (vT μ t) (pt (vT μ t) top (s * k))) → w_P sc fr lo 51 5 8 false (none) prog_5_method_29_code 118 [some (.ref 20), some (.int (ji top)), some (.int (ji p)), some (.int (ji (s : Int))), some (.int (ji (pt (vT μ t) top (s * k)))), some (.int (ji ((s * k : Nat) : Int))), none, none] [] (hp μ, ρ) Q) (KX : ∀ i : Nat, i < k → al 10 (vT μ t) (pt (vT μ t) top (s * i)) (vT μ t) (pt (vT μ t) top (s * k)) → Q (.inr (1, ρ.1)) (hp (stI μ 20 6 (μ.2.2 25 (pt (vT μ t) top (s * k)))), ρ.1 + 1, ρ.2.1 - 1, ρ.2.2 - 6)) : ∀ (m : Nat) (q : Nat), ((k : Int) - q).toNat = m → q ≤ k → (∀ i : Nat, i < q → ¬ al 10 (vT μ t) (pt (vT μ t) top (s * i)) (vT μ t) (pt (vT μ t) top (s * k))) → w_P sc fr lo 51 5 8 false (none) prog_5_method_29_code 60 [some (.ref 20), some (.int (ji top)), some (.int (ji p)), some (.int (ji (s : Int))), some (.int (ji (pt (vT μ t) top (s * k)))), some (.int (ji ((s * k : Nat) : Int))), some (.int (ji (pt (vT μ t) top (s * q)))), some (.int (ji ((s * q : Nat) : Int)))] [] (hp (μ), ρ) Q := by
  intro m
  induction m using Nat.strongRecOn with
  | ind m ih =>
    intro q hm hq hqs
    have hsq : s * q ≤ s * k := Nat.mul_le_mul_left s hq
    obtain ⟨hT0, hT1, hT2, hT3, hT4, hT5, hT6, hT7, hT8⟩ := hT.sh
    have hT9 : t = 2 ∨ t = 11 ∨ t = 26 := hT
    have hrt := hr.2 top (Int.le_refl _) h0
    have h240 := hr.1
    have hs3 : s = 1 ∨ s = 2 := by rcases hs with z | z <;> omega
    have pk := hr.prt ⟨Int.le_refl _, h0⟩ hk
    have pk2 := hrt.2.2.2.2.2 _ hk
    refine w_ld d_51_60 rfl rfl rfl ?_
    refine w_ld d_51_62 rfl rfl rfl ?_
    refine w_icmp_ge (g := 118) d_51_64 (by decide) (by omega) (fun h64 => ?_) (fun h64 => ?_)
    · exact w_P.le (K (fun i hi => hqs i (by rcases hs3 with rfl | rfl <;> omega))) ⟨rfl, rfl, rfl, rfl, rfl, rfl, trivial⟩
    · have hqk : q < k := by rcases hs3 with rfl | rfl <;> omega
      have hq2 : ((s * q : Nat) : Int) < μ.2.2 (t + 5) top := by omega
      have pq := hr.prt ⟨Int.le_refl _, h0⟩ hq2
      have pq2 := hrt.2.2.2.2.2 _ hq2
      refine w_ld d_51_67 rfl rfl rfl ?_
      refine w_getR d_51_68 (by rfl) (by first | rfl | assumption) (by rfl) (by assumption) ?_
      refine w_ld d_51_71 rfl rfl rfl ?_
      refine w_ld d_51_73 rfl rfl rfl ?_
      refine w_getR d_51_74 (by rfl) (by first | rfl | assumption) (by rfl) (by assumption) ?_
      refine w_ld d_51_77 rfl rfl rfl ?_
      refine w_con d_51_79 ?_
      refine w_cS1 (as := [_, _, _, _, _]) (rest := _) rfl d_51_80 (by rfl) (by rfl) (by rfl) (by rfl) (Nat.le_of_ble_eq_true rfl) (by omega) (by omega) (t_alike hT hT hr hr hch 10 0 (by decide) _ _ (by omega) (by omega) _ _ pq.1 pk.1 (ho _ pq2.1 (by have := hrt.2.2.2.1.2.1; omega)) (ho _ pk2.1 (by have := hrt.2.2.2.1.2.1; omega))) ?_
      refine w_if_eq (g := 97) d_51_83 (by decide) (b01_in _) (fun h83 => ?_) (fun h83 => ?_)
      · refine w_ld d_51_97 rfl rfl rfl ?_
        refine w_getR d_51_98 (by rfl) (by first | rfl | assumption) (by rfl) (by assumption) ?_
        refine w_ld d_51_101 rfl rfl rfl ?_
        refine w_ld d_51_103 rfl rfl rfl ?_
        refine w_cV1 (a := t) (as := [_, _]) (rest := _) rfl d_51_104 (by rfl) (by rfl) (by first | rfl | assumption) (by rfl) (by rfl) (Nat.le_of_ble_eq_true rfl) (by omega) (by omega) (t_behindp hT hr ⟨Int.le_refl _, h0⟩ hs hev hq2) ?_
        refine w_st1 (L' := [_, _, _, _, _, _, _, _]) d_51_107 rfl (by decide) rfl (by decide) rfl ?_
        refine w_ld d_51_109 rfl rfl rfl ?_
        refine w_ld d_51_111 rfl rfl rfl ?_
        refine w_iadd d_51_112 ?_
        refine w_st1 (L' := [_, _, _, _, _, _, _, _]) d_51_113 rfl (by decide) rfl (by decide) rfl ?_
        refine w_goto (g := 60) d_51_115 (by decide) ?_
        rw [st_add]
        exact ih _ (by omega) (q + 1) rfl (by omega) (fun i hi => by
          by_cases z : i = q
          · rw [z]; exact b01_eq h83
          · exact hqs i (by omega))
      · refine w_ld d_51_86 rfl rfl rfl ?_
        refine w_ld d_51_87 rfl rfl rfl ?_
        refine w_getF d_51_88 (by rfl) (by first | rfl | assumption) (by rfl) (by rfl) ?_
        refine w_ld d_51_91 rfl rfl rfl ?_
        refine w_aI d_51_93 (by first | rfl | assumption) (by omega) (by (try simp only [Nat.reduceAdd]) <;> rfl) ?_
        refine w_cVx (a := 20) (as := [_]) (rest := _) rfl d_51_94 (by rfl) (by rfl) (by first | rfl | assumption) (by rfl) (by rfl) (Nat.le_of_ble_eq_true rfl) (by omega) (by omega) (t_fail hrr (by omega) (by omega)) ?_
        exact KX q hqk (b01_ne h83)
theorem t_twins_o {sc : Nat × (Nat → Int32)} {fr lo : Nat} {μ : Mem} {ρ : Nat × Nat × Nat} {t : Nat} (hT : isT t) (ht : μ.2.1 20 4 = .ref t) {top n : Int} (hr : rok μ t top n) (h0 : top < n) (ho : ∀ k, top < k → k < n → okv 10 (vT μ t) k) (hch : ∀ a n, isL a n → ∀ k, 0 ≤ μ.2.2 (a + 1) k ∧ μ.2.2 (a + 1) k < 65536) {s : Nat} {p : Int} (hs : p = 0 ∧ s = 1 ∨ p = 1 ∧ s = 2) (hev : p = 1 → μ.2.2 (t + 5) top % 2 = 0) (hf : 30 ≤ fr) (hl : 1000 ≤ lo) (hrr : 1 ≤ ρ.2.1 ∧ 6 ≤ ρ.2.2) : ∀ (m : Nat) (k : Nat), (μ.2.2 (t + 5) top - k).toNat = m → ((s * k : Nat) : Int) ≤ μ.2.2 (t + 5) top → (∀ i k' : Nat, i < k' → k' < k → ¬ al 10 (vT μ t) (pt (vT μ t) top (s * i)) (vT μ t) (pt (vT μ t) top (s * k'))) → w_P sc fr lo 51 5 8 false (none) prog_5_method_29_code 38 [some (.ref 20), some (.int (ji top)), some (.int (ji p)), some (.int (ji (s : Int))), some (.int (ji (pt (vT μ t) top (s * k)))), some (.int (ji ((s * k : Nat) : Int))), none, none] [] (hp (μ), ρ) (fun o t' => o = .inl none ∧ (∀ i k : Nat, i < k → ((s * k : Nat) : Int) < μ.2.2 (t + 5) top → ¬ al 10 (vT μ t) (pt (vT μ t) top (s * i)) (vT μ t) (pt (vT μ t) top (s * k))) ∧ t' = (hp μ, ρ) ∨ o = .inr (1, ρ.1) ∧ ∃ k : Nat, ((s * k : Nat) : Int) < μ.2.2 (t + 5) top ∧ (∃ i, i < k ∧ al 10 (vT μ t) (pt (vT μ t) top (s * i)) (vT μ t) (pt (vT μ t) top (s * k))) ∧ (∀ i k' : Nat, i < k' → k' < k → ¬ al 10 (vT μ t) (pt (vT μ t) top (s * i)) (vT μ t) (pt (vT μ t) top (s * k'))) ∧ t' = (hp (stI μ 20 6 (μ.2.2 25 (pt (vT μ t) top (s * k)))), ρ.1 + 1, ρ.2.1 - 1, ρ.2.2 - 6)) := by
  intro m
  induction m using Nat.strongRecOn with
  | ind m ih =>
    intro k hm hk hks
    obtain ⟨hT0, hT1, hT2, hT3, hT4, hT5, hT6, hT7, hT8⟩ := hT.sh
    have hT9 : t = 2 ∨ t = 11 ∨ t = 26 := hT
    have hrt := hr.2 top (Int.le_refl _) h0
    have h240 := hr.1
    have hs3 : s = 1 ∨ s = 2 := by rcases hs with z | z <;> omega
    refine w_ld d_51_38 rfl rfl rfl ?_
    refine w_ld d_51_40 rfl rfl rfl ?_
    refine w_getR d_51_41 (by rfl) (by first | rfl | assumption) (by rfl) (by assumption) ?_
    refine w_getF d_51_44 (by rfl) (by first | rfl | assumption) (by rfl) (by rfl) ?_
    refine w_ld d_51_47 rfl rfl rfl ?_
    refine w_aI d_51_48 (by first | rfl | assumption) (by omega) (by (try simp only [Nat.reduceAdd]) <;> rfl) ?_
    refine w_icmp_ge (g := 139) d_51_49 (by decide) (by omega) (fun h49 => ?_) (fun h49 => ?_)
    · refine w_ret d_51_139 rfl ?_
      exact Or.inl ⟨rfl, fun i k' hi hk2 => hks i k' hi (by rcases hs3 with rfl | rfl <;> omega), rfl⟩
    · refine w_ld d_51_52 rfl rfl rfl ?_
      refine w_con d_51_53 ?_
      refine w_iadd d_51_54 ?_
      refine w_st1 (L' := [_, _, _, _, _, _, _, _]) d_51_55 rfl (by decide) rfl (by decide) rfl ?_
      refine w_con d_51_57 ?_
      refine w_st1 (L' := [_, _, _, _, _, _, _, _]) d_51_58 rfl (by decide) rfl (by decide) rfl ?_
      refine t_twins_i hT ht hr h0 ho hch hs hev hf hl hrr h49 (fun hno => ?_) (fun i hi he => Or.inr ⟨rfl, k, h49, ⟨i, hi, he⟩, hks, rfl⟩) _ 0 rfl (Nat.zero_le _) (fun i hi => absurd hi (Nat.not_lt_zero _))
      refine w_ld d_51_118 rfl rfl rfl ?_
      refine w_getR d_51_119 (by rfl) (by first | rfl | assumption) (by rfl) (by assumption) ?_
      refine w_ld d_51_122 rfl rfl rfl ?_
      refine w_ld d_51_124 rfl rfl rfl ?_
      refine w_cV1 (a := t) (as := [_, _]) (rest := _) rfl d_51_125 (by rfl) (by rfl) (by first | rfl | assumption) (by rfl) (by rfl) (Nat.le_of_ble_eq_true rfl) (by omega) (by omega) (t_behindp hT hr ⟨Int.le_refl _, h0⟩ hs hev h49) ?_
      refine w_st1 (L' := [_, _, _, _, _, _, _, _]) d_51_128 rfl (by decide) rfl (by decide) rfl ?_
      refine w_ld d_51_130 rfl rfl rfl ?_
      refine w_ld d_51_132 rfl rfl rfl ?_
      refine w_iadd d_51_133 ?_
      refine w_st1 (L' := [_, _, _, _, _, _, _, _]) d_51_134 rfl (by decide) rfl (by decide) rfl ?_
      refine w_goto (g := 38) d_51_136 (by decide) ?_
      rw [st_add]
      exact w_P.le (ih _ (by have := st_m hs h49; omega) (k + 1) rfl (st_next hs hev h49) (fun i k' hi hk2 => by
        by_cases z : k' = k
        · rw [z] at hi ⊢; exact hno i hi
        · exact hks i k' hi (by omega))) ⟨rfl, rfl, rfl, rfl, rfl, rfl, trivial⟩
theorem t_twins1 {sc : Nat × (Nat → Int32)} {fr lo : Nat} {μ : Mem} {ρ : Nat × Nat × Nat} {t : Nat} (hT : isT t) (ht : μ.2.1 20 4 = .ref t) {top n : Int} (hr : rok μ t top n) (h0 : top < n) (ho : ∀ k, top < k → k < n → okv 10 (vT μ t) k) (hch : ∀ a n, isL a n → ∀ k, 0 ≤ μ.2.2 (a + 1) k ∧ μ.2.2 (a + 1) k < 65536) (hkd : μ.2.2 (t + 1) top ≠ 11)  (hf : 30 ≤ fr) (hl : 1000 ≤ lo) (hrr : 1 ≤ ρ.2.1 ∧ 6 ≤ ρ.2.2) : w_S sc fr lo 51 [.ref 20, .int (ji top)] (hp μ, ρ) (fun o t' => o = .inl none ∧ (∀ i k : Nat, i < k → ((1 * k : Nat) : Int) < μ.2.2 (t + 5) top → ¬ al 10 (vT μ t) (pt (vT μ t) top (1 * i)) (vT μ t) (pt (vT μ t) top (1 * k))) ∧ t' = (hp μ, ρ) ∨ o = .inr (1, ρ.1) ∧ ∃ k : Nat, ((1 * k : Nat) : Int) < μ.2.2 (t + 5) top ∧ (∃ i, i < k ∧ al 10 (vT μ t) (pt (vT μ t) top (1 * i)) (vT μ t) (pt (vT μ t) top (1 * k))) ∧ (∀ i k' : Nat, i < k' → k' < k → ¬ al 10 (vT μ t) (pt (vT μ t) top (1 * i)) (vT μ t) (pt (vT μ t) top (1 * k'))) ∧ t' = (hp (stI μ 20 6 (μ.2.2 25 (pt (vT μ t) top (1 * k)))), ρ.1 + 1, ρ.2.1 - 1, ρ.2.2 - 6)) := by
  obtain ⟨hT0, hT1, hT2, hT3, hT4, hT5, hT6, hT7, hT8⟩ := hT.sh
  have hT9 : t = 2 ∨ t = 11 ∨ t = 26 := hT
  have hrt := hr.2 top (Int.le_refl _) h0
  have h240 := hr.1
  refine w_S.of (L0 := [some (.ref 20), some (.int (ji top)), none, none, none, none, none, none]) rfl rfl (Nat.le_of_ble_eq_true rfl) (by rfl) ?_
  refine w_ld d_51_0 rfl rfl rfl ?_
  refine w_getR d_51_1 (by rfl) (by first | rfl | assumption) (by rfl) (by assumption) ?_
  refine w_getF d_51_4 (by rfl) (by first | rfl | assumption) (by rfl) (by rfl) ?_
  refine w_ld d_51_7 rfl rfl rfl ?_
  refine w_aI d_51_8 (by first | rfl | assumption) (by omega) (by (try simp only [Nat.reduceAdd]) <;> rfl) ?_
  refine w_bip d_51_9 (by decide) ?_
  refine w_icmp_ne (g := 18) d_51_11 (by decide) (by omega) (fun h11 => ?_) (fun h11 => ?_)
  · refine w_con d_51_18 ?_
    refine w_st1 (L' := [_, _, _, _, _, _, _, _]) d_51_19 rfl (by decide) rfl (by decide) rfl ?_
    refine w_ld d_51_20 rfl rfl rfl ?_
    refine w_if_eq (g := 28) d_51_21 (by decide) (by decide) (fun h21 => ?_) (fun h21 => ?_)
    · refine w_con d_51_28 ?_
      refine w_st1 (L' := [_, _, _, _, _, _, _, _]) d_51_29 rfl (by decide) rfl (by decide) rfl ?_
      refine w_ld d_51_30 rfl rfl rfl ?_
      refine w_con d_51_31 ?_
      refine w_iadd d_51_32 ?_
      refine w_st1 (L' := [_, _, _, _, _, _, _, _]) d_51_33 rfl (by decide) rfl (by decide) rfl ?_
      refine w_con d_51_35 ?_
      refine w_st1 (L' := [_, _, _, _, _, _, _, _]) d_51_36 rfl (by decide) rfl (by decide) rfl ?_
      exact t_twins_o hT ht hr h0 ho hch (s := 1) (p := 0) (by decide) (fun z => by cases z) hf hl hrr _ 0 rfl (by rw [Nat.mul_zero]; omega) (fun i k' _ hk2 => absurd hk2 (Nat.not_lt_zero _))
    · exact absurd rfl h21
  · exact absurd h11 hkd
theorem t_twins2 {sc : Nat × (Nat → Int32)} {fr lo : Nat} {μ : Mem} {ρ : Nat × Nat × Nat} {t : Nat} (hT : isT t) (ht : μ.2.1 20 4 = .ref t) {top n : Int} (hr : rok μ t top n) (h0 : top < n) (ho : ∀ k, top < k → k < n → okv 10 (vT μ t) k) (hch : ∀ a n, isL a n → ∀ k, 0 ≤ μ.2.2 (a + 1) k ∧ μ.2.2 (a + 1) k < 65536) (hkd : μ.2.2 (t + 1) top = 11) (hev : μ.2.2 (t + 5) top % 2 = 0) (hf : 30 ≤ fr) (hl : 1000 ≤ lo) (hrr : 1 ≤ ρ.2.1 ∧ 6 ≤ ρ.2.2) : w_S sc fr lo 51 [.ref 20, .int (ji top)] (hp μ, ρ) (fun o t' => o = .inl none ∧ (∀ i k : Nat, i < k → ((2 * k : Nat) : Int) < μ.2.2 (t + 5) top → ¬ al 10 (vT μ t) (pt (vT μ t) top (2 * i)) (vT μ t) (pt (vT μ t) top (2 * k))) ∧ t' = (hp μ, ρ) ∨ o = .inr (1, ρ.1) ∧ ∃ k : Nat, ((2 * k : Nat) : Int) < μ.2.2 (t + 5) top ∧ (∃ i, i < k ∧ al 10 (vT μ t) (pt (vT μ t) top (2 * i)) (vT μ t) (pt (vT μ t) top (2 * k))) ∧ (∀ i k' : Nat, i < k' → k' < k → ¬ al 10 (vT μ t) (pt (vT μ t) top (2 * i)) (vT μ t) (pt (vT μ t) top (2 * k'))) ∧ t' = (hp (stI μ 20 6 (μ.2.2 25 (pt (vT μ t) top (2 * k)))), ρ.1 + 1, ρ.2.1 - 1, ρ.2.2 - 6)) := by
  obtain ⟨hT0, hT1, hT2, hT3, hT4, hT5, hT6, hT7, hT8⟩ := hT.sh
  have hT9 : t = 2 ∨ t = 11 ∨ t = 26 := hT
  have hrt := hr.2 top (Int.le_refl _) h0
  have h240 := hr.1
  refine w_S.of (L0 := [some (.ref 20), some (.int (ji top)), none, none, none, none, none, none]) rfl rfl (Nat.le_of_ble_eq_true rfl) (by rfl) ?_
  refine w_ld d_51_0 rfl rfl rfl ?_
  refine w_getR d_51_1 (by rfl) (by first | rfl | assumption) (by rfl) (by assumption) ?_
  refine w_getF d_51_4 (by rfl) (by first | rfl | assumption) (by rfl) (by rfl) ?_
  refine w_ld d_51_7 rfl rfl rfl ?_
  refine w_aI d_51_8 (by first | rfl | assumption) (by omega) (by (try simp only [Nat.reduceAdd]) <;> rfl) ?_
  refine w_bip d_51_9 (by decide) ?_
  refine w_icmp_ne (g := 18) d_51_11 (by decide) (by omega) (fun h11 => ?_) (fun h11 => ?_)
  · exact absurd hkd h11
  · refine w_con d_51_14 ?_
    refine w_goto (g := 19) d_51_15 (by decide) ?_
    refine w_st1 (L' := [_, _, _, _, _, _, _, _]) d_51_19 rfl (by decide) rfl (by decide) rfl ?_
    refine w_ld d_51_20 rfl rfl rfl ?_
    refine w_if_eq (g := 28) d_51_21 (by decide) (by decide) (fun h21 => ?_) (fun h21 => ?_)
    · exact absurd h21 (by decide)
    · refine w_con d_51_24 ?_
      refine w_goto (g := 29) d_51_25 (by decide) ?_
      refine w_st1 (L' := [_, _, _, _, _, _, _, _]) d_51_29 rfl (by decide) rfl (by decide) rfl ?_
      refine w_ld d_51_30 rfl rfl rfl ?_
      refine w_con d_51_31 ?_
      refine w_iadd d_51_32 ?_
      refine w_st1 (L' := [_, _, _, _, _, _, _, _]) d_51_33 rfl (by decide) rfl (by decide) rfl ?_
      refine w_con d_51_35 ?_
      refine w_st1 (L' := [_, _, _, _, _, _, _, _]) d_51_36 rfl (by decide) rfl (by decide) rfl ?_
      exact t_twins_o hT ht hr h0 ho hch (s := 2) (p := 1) (by decide) (fun _ => hev) hf hl hrr _ 0 rfl (by rw [Nat.mul_zero]; omega) (fun i k' _ hk2 => absurd hk2 (Nat.not_lt_zero _))
