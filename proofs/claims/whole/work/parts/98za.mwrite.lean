/-! THE PURE PART, 99h: contracts: write of the reference; what is written elsewhere is the same; it is printable -/
/-- the draft becomes the text -/
def cpw (μ : Mem) (k : Int) : Mem := (μ.1, μ.2.1, fun b q => if b = 47 ∧ 0 ≤ q ∧ q < k then μ.2.2 64 q else μ.2.2 b q)
theorem cpw_0 (μ : Mem) : cpw μ 0 = μ := by
  refine Prod.ext rfl (Prod.ext rfl ?_)
  funext b q
  exact if_neg (by omega)
theorem cpw_step {μ : Mem} {k : Int} (hk : 0 ≤ k) : stA (cpw μ k) 47 k (μ.2.2 64 k) = cpw μ (k + 1) := by
  refine Prod.ext rfl (Prod.ext rfl ?_)
  funext b q
  show (if b = 47 ∧ q = k then μ.2.2 64 k else if b = 47 ∧ 0 ≤ q ∧ q < k then μ.2.2 64 q else μ.2.2 b q) = if b = 47 ∧ 0 ≤ q ∧ q < k + 1 then μ.2.2 64 q else μ.2.2 b q
  by_cases h1 : b = 47 ∧ q = k
  · rw [if_pos h1, if_pos (by omega), h1.2]
  · rw [if_neg h1]
    by_cases h2 : b = 47 ∧ 0 ≤ q ∧ q < k
    · rw [if_pos h2, if_pos (by omega)]
    · rw [if_neg h2, if_neg (by omega)]
theorem cpw_o {μ : Mem} {k : Int} {b : Nat} (h : b ≠ 47) : (cpw μ k).2.2 b = μ.2.2 b := by
  funext q
  exact if_neg (fun z => h z.1)
theorem cpw_src {μ : Mem} {k q : Int} : (cpw μ k).2.2 64 q = μ.2.2 64 q := congrFun (cpw_o (by decide)) q
theorem m_cpw_l {sc : Nat × (Nat → Int32)} {fr lo : Nat} {μ : Mem} {ρ : Nat × Nat × Nat} {p n : Int} (hn : μ.1 46 3 = n ∧ 0 ≤ n ∧ n ≤ 240) : ∀ (m : Nat) (k : Int), (n - k).toNat = m → (0 ≤ k ∧ k ≤ n) → w_P sc fr lo 153 7 3 false ((some FieldType.int)) prog_9_method_63_code 79 [some (.ref 46), some (.int (ji p)), some (.int (ji k))] [] (hp (cpw μ k), ρ) (fun o t' => o = .inl (some (.int (ji n))) ∧ t' = (hp (cpw μ n), ρ)) := by
  intro m
  induction m using Nat.strongRecOn with
  | ind m ih =>
    intro k hm hk
    refine w_ld d_153_79 rfl rfl rfl ?_
    refine w_ld d_153_80 rfl rfl rfl ?_
    refine w_gI d_153_81 (by rfl) (by first | rfl | assumption) (by rfl) (show (cpw μ k).1 46 3 = n from hn.1) ?_
    refine w_icmp_ge (g := 105) d_153_84 (by decide) (by omega) (fun h84 => ?_) (fun h84 => ?_)
    · refine w_ld d_153_105 rfl rfl rfl ?_
      refine w_gI d_153_106 (by rfl) (by first | rfl | assumption) (by rfl) (show (cpw μ k).1 46 3 = n from hn.1) ?_
      refine w_iret d_153_109 rfl ?_
      have e : k = n := by omega
      subst e
      exact ⟨rfl, rfl⟩
    · refine w_ld d_153_87 rfl rfl rfl ?_
      refine w_getF d_153_88 (by rfl) (by first | rfl | assumption) (by rfl) (by rfl) ?_
      refine w_ld d_153_91 rfl rfl rfl ?_
      refine w_ld d_153_92 rfl rfl rfl ?_
      refine w_getF d_153_93 (by rfl) (by first | rfl | assumption) (by rfl) (by rfl) ?_
      refine w_ld d_153_96 rfl rfl rfl ?_
      refine w_aI d_153_97 (by first | rfl | assumption) (by omega) cpw_src ?_
      refine w_iast d_153_98 (by first | rfl | assumption) (by omega) ?_
      refine w_inc (L' := [_, _, _]) d_153_99 rfl (by decide) rfl ?_
      refine w_goto (g := 79) d_153_102 (by decide) ?_
      rw [cpw_step hk.1]
      exact ih _ (by omega) (k + 1) rfl (by omega)
theorem m_writeOK {sc : Nat × (Nat → Int32)} {fr lo : Nat} {μ : Mem} {ρ : Nat × Nat × Nat} {p r : Int} {ν : Mem} (hp01 : p = 0 ∨ p = 1) (ha : μ.1 46 4 = 0 ∧ r = p ∨ μ.1 46 4 = 1 ∧ r = 1 - p) (hm : 0 < μ.2.2 48 r ∧ μ.2.2 48 r ≤ 240) (hA : w_E sc (fr - 1) (lo - (19 + 5)) 154 [.ref 46, .int (ji (128 * r))] (hp (stI μ 46 0 0), ρ) (.inl none) (hp ν, ρ)) {n : Int} (hb : ν.1 46 31 = 0) (hn : ν.1 46 30 = n ∧ 0 ≤ n ∧ n ≤ 240) (hf : 20 ≤ fr) (hl : 700 ≤ lo) : w_E sc fr lo 153 [.ref 46, .int (ji p)] (hp μ, ρ) (.inl (some (.int (ji n)))) (hp (cpw (stI ν 46 3 n) n), ρ) := by
  have hr0 : r = 0 ∨ r = 1 := by omega
  refine w_S.of (L0 := [some (.ref 46), some (.int (ji p)), none]) rfl rfl (Nat.le_of_ble_eq_true rfl) (by rfl) ?_
  refine w_ld d_153_0 rfl rfl rfl ?_
  refine w_ld d_153_1 rfl rfl rfl ?_
  refine w_cS1 (as := [_]) (rest := _) rfl d_153_2 (by rfl) (by rfl) (by rfl) (by rfl) (Nat.le_of_ble_eq_true rfl) (by omega) (by omega) (m_noSlot0 hp01) ?_
  refine w_if_eq (g := 12) d_153_5 (by decide) (by decide) (fun h5 => ?_) (fun h5 => ?_)
  · refine w_ld d_153_12 rfl rfl rfl ?_
    refine w_getF d_153_13 (by rfl) (by first | rfl | assumption) (by rfl) (by rfl) ?_
    refine w_ld d_153_16 rfl rfl rfl ?_
    refine w_ld d_153_17 rfl rfl rfl ?_
    refine w_cV1 (a := 46) (as := [_]) (rest := _) rfl d_153_18 (by rfl) (by rfl) (by first | rfl | assumption) (by rfl) (by rfl) (Nat.le_of_ble_eq_true rfl) (by omega) (by omega) (m_are ha) ?_
    refine w_aI d_153_21 (by first | rfl | assumption) (by omega) (show _ = μ.2.2 48 r from rfl) ?_
    refine w_if_ne (g := 29) d_153_22 (by decide) (by omega) (fun h22 => ?_) (fun h22 => ?_)
    · refine w_con d_153_29 ?_
      refine w_putI d_153_30 (by rfl) (by first | rfl | assumption) (by rfl) (fit_I (by rfl)) (by rfl) ?_
      refine w_ld d_153_33 rfl rfl rfl ?_
      refine w_gI d_153_34 (by rfl) (by first | rfl | assumption) (by rfl) (by exact stI_at _ _ _ _) ?_
      refine w_if_le (g := 42) d_153_37 (by decide) (by decide) (fun h37 => ?_) (fun h37 => ?_)
      · refine w_ld d_153_42 rfl rfl rfl ?_
        refine w_sip d_153_43 (by decide) ?_
        refine w_ld d_153_46 rfl rfl rfl ?_
        refine w_ld d_153_47 rfl rfl rfl ?_
        refine w_cV1 (a := 46) (as := [_]) (rest := _) rfl d_153_48 (by rfl) (by rfl) (by first | rfl | assumption) (by rfl) (by rfl) (Nat.le_of_ble_eq_true rfl) (by omega) (by omega) (m_are (show (stI μ 46 0 0).1 46 4 = 0 ∧ r = p ∨ (stI μ 46 0 0).1 46 4 = 1 ∧ r = 1 - p from ha)) ?_
        refine w_imul d_153_51 ?_
        refine w_cV0 (a := 46) (as := [_]) (rest := _) rfl d_153_52 (by rfl) (by rfl) (by first | rfl | assumption) (by rfl) (by rfl) (Nat.le_of_ble_eq_true rfl) (by omega) (by omega) hA ?_
        refine w_ld d_153_55 rfl rfl rfl ?_
        refine w_gI d_153_56 (by rfl) (by first | rfl | assumption) (by rfl) hb ?_
        refine w_if_eq (g := 69) d_153_59 (by decide) (by decide) (fun h59 => ?_) (fun h59 => ?_)
        · refine w_ld d_153_69 rfl rfl rfl ?_
          refine w_ld d_153_70 rfl rfl rfl ?_
          refine w_gI d_153_71 (by rfl) (by first | rfl | assumption) (by rfl) hn.1 ?_
          refine w_putI d_153_74 (by rfl) (by first | rfl | assumption) (by rfl) (fit_I (by rfl)) (by rfl) ?_
          refine w_con d_153_77 ?_
          refine w_st1 (L' := [_, _, _]) d_153_78 rfl (by decide) rfl (by decide) rfl ?_
          have e := m_cpw_l (sc := sc) (fr := fr) (lo := lo) (μ := stI ν 46 3 n) (ρ := ρ) (p := p) (n := n) ⟨stI_at _ _ _ _, hn.2⟩ _ 0 rfl (by omega)
          rw [cpw_0] at e
          exact e
        · exact absurd rfl h59
      · exact absurd h37 (by decide)
    · exact absurd h22 (by omega)
  · exact absurd rfl h5
theorem m_writeX {sc : Nat × (Nat → Int32)} {fr lo : Nat} {μ : Mem} {ρ : Nat × Nat × Nat} {p r : Int} {ν : Mem} (hp01 : p = 0 ∨ p = 1) (ha : μ.1 46 4 = 0 ∧ r = p ∨ μ.1 46 4 = 1 ∧ r = 1 - p) (hm : 0 < μ.2.2 48 r ∧ μ.2.2 48 r ≤ 240) (hA : w_E sc (fr - 1) (lo - (19 + 5)) 154 [.ref 46, .int (ji (128 * r))] (hp (stI μ 46 0 0), ρ) (.inl none) (hp ν, ρ)) (hb : ν.1 46 31 = 1) (hf : 20 ≤ fr) (hl : 700 ≤ lo) : w_E sc fr lo 153 [.ref 46, .int (ji p)] (hp μ, ρ) (.inl (some (.int (ji 0)))) (hp (stI ν 46 0 3), ρ) := by
  have hr0 : r = 0 ∨ r = 1 := by omega
  refine w_S.of (L0 := [some (.ref 46), some (.int (ji p)), none]) rfl rfl (Nat.le_of_ble_eq_true rfl) (by rfl) ?_
  refine w_ld d_153_0 rfl rfl rfl ?_
  refine w_ld d_153_1 rfl rfl rfl ?_
  refine w_cS1 (as := [_]) (rest := _) rfl d_153_2 (by rfl) (by rfl) (by rfl) (by rfl) (Nat.le_of_ble_eq_true rfl) (by omega) (by omega) (m_noSlot0 hp01) ?_
  refine w_if_eq (g := 12) d_153_5 (by decide) (by decide) (fun h5 => ?_) (fun h5 => ?_)
  · refine w_ld d_153_12 rfl rfl rfl ?_
    refine w_getF d_153_13 (by rfl) (by first | rfl | assumption) (by rfl) (by rfl) ?_
    refine w_ld d_153_16 rfl rfl rfl ?_
    refine w_ld d_153_17 rfl rfl rfl ?_
    refine w_cV1 (a := 46) (as := [_]) (rest := _) rfl d_153_18 (by rfl) (by rfl) (by first | rfl | assumption) (by rfl) (by rfl) (Nat.le_of_ble_eq_true rfl) (by omega) (by omega) (m_are ha) ?_
    refine w_aI d_153_21 (by first | rfl | assumption) (by omega) (show _ = μ.2.2 48 r from rfl) ?_
    refine w_if_ne (g := 29) d_153_22 (by decide) (by omega) (fun h22 => ?_) (fun h22 => ?_)
    · refine w_con d_153_29 ?_
      refine w_putI d_153_30 (by rfl) (by first | rfl | assumption) (by rfl) (fit_I (by rfl)) (by rfl) ?_
      refine w_ld d_153_33 rfl rfl rfl ?_
      refine w_gI d_153_34 (by rfl) (by first | rfl | assumption) (by rfl) (by exact stI_at _ _ _ _) ?_
      refine w_if_le (g := 42) d_153_37 (by decide) (by decide) (fun h37 => ?_) (fun h37 => ?_)
      · refine w_ld d_153_42 rfl rfl rfl ?_
        refine w_sip d_153_43 (by decide) ?_
        refine w_ld d_153_46 rfl rfl rfl ?_
        refine w_ld d_153_47 rfl rfl rfl ?_
        refine w_cV1 (a := 46) (as := [_]) (rest := _) rfl d_153_48 (by rfl) (by rfl) (by first | rfl | assumption) (by rfl) (by rfl) (Nat.le_of_ble_eq_true rfl) (by omega) (by omega) (m_are (show (stI μ 46 0 0).1 46 4 = 0 ∧ r = p ∨ (stI μ 46 0 0).1 46 4 = 1 ∧ r = 1 - p from ha)) ?_
        refine w_imul d_153_51 ?_
        refine w_cV0 (a := 46) (as := [_]) (rest := _) rfl d_153_52 (by rfl) (by rfl) (by first | rfl | assumption) (by rfl) (by rfl) (Nat.le_of_ble_eq_true rfl) (by omega) (by omega) hA ?_
        refine w_ld d_153_55 rfl rfl rfl ?_
        refine w_gI d_153_56 (by rfl) (by first | rfl | assumption) (by rfl) hb ?_
        refine w_if_eq (g := 69) d_153_59 (by decide) (by decide) (fun h59 => ?_) (fun h59 => ?_)
        · exact absurd h59 (by decide)
        · refine w_ld d_153_62 rfl rfl rfl ?_
          refine w_con d_153_63 ?_
          refine w_putI d_153_64 (by rfl) (by first | rfl | assumption) (by rfl) (fit_I (by rfl)) (by rfl) ?_
          refine w_con d_153_67 ?_
          refine w_iret d_153_68 rfl ?_
          exact ⟨rfl, rfl⟩
      · exact absurd h37 (by decide)
    · exact absurd h22 (by omega)
  · exact absurd rfl h5
theorem m_writeE {sc : Nat × (Nat → Int32)} {fr lo : Nat} {μ : Mem} {ρ : Nat × Nat × Nat} {p r : Int} (hp01 : p = 0 ∨ p = 1) (ha : μ.1 46 4 = 0 ∧ r = p ∨ μ.1 46 4 = 1 ∧ r = 1 - p) (hm : μ.2.2 48 r = 0) (hf : 20 ≤ fr) (hl : 700 ≤ lo) : w_E sc fr lo 153 [.ref 46, .int (ji p)] (hp μ, ρ) (.inl (some (.int (ji 0)))) (hp (stI μ 46 0 2), ρ) := by
  have hr0 : r = 0 ∨ r = 1 := by omega
  refine w_S.of (L0 := [some (.ref 46), some (.int (ji p)), none]) rfl rfl (Nat.le_of_ble_eq_true rfl) (by rfl) ?_
  refine w_ld d_153_0 rfl rfl rfl ?_
  refine w_ld d_153_1 rfl rfl rfl ?_
  refine w_cS1 (as := [_]) (rest := _) rfl d_153_2 (by rfl) (by rfl) (by rfl) (by rfl) (Nat.le_of_ble_eq_true rfl) (by omega) (by omega) (m_noSlot0 hp01) ?_
  refine w_if_eq (g := 12) d_153_5 (by decide) (by decide) (fun h5 => ?_) (fun h5 => ?_)
  · refine w_ld d_153_12 rfl rfl rfl ?_
    refine w_getF d_153_13 (by rfl) (by first | rfl | assumption) (by rfl) (by rfl) ?_
    refine w_ld d_153_16 rfl rfl rfl ?_
    refine w_ld d_153_17 rfl rfl rfl ?_
    refine w_cV1 (a := 46) (as := [_]) (rest := _) rfl d_153_18 (by rfl) (by rfl) (by first | rfl | assumption) (by rfl) (by rfl) (Nat.le_of_ble_eq_true rfl) (by omega) (by omega) (m_are ha) ?_
    refine w_aI d_153_21 (by first | rfl | assumption) (by omega) hm ?_
    refine w_if_ne (g := 29) d_153_22 (by decide) (by decide) (fun h22 => ?_) (fun h22 => ?_)
    · exact absurd rfl h22
    · refine w_con d_153_25 ?_
      refine w_goto (g := 30) d_153_26 (by decide) ?_
      refine w_putI d_153_30 (by rfl) (by first | rfl | assumption) (by rfl) (fit_I (by rfl)) (by rfl) ?_
      refine w_ld d_153_33 rfl rfl rfl ?_
      refine w_gI d_153_34 (by rfl) (by first | rfl | assumption) (by rfl) (by exact stI_at _ _ _ _) ?_
      refine w_if_le (g := 42) d_153_37 (by decide) (by decide) (fun h37 => ?_) (fun h37 => ?_)
      · exact absurd h37 (by decide)
      · refine w_con d_153_40 ?_
        refine w_iret d_153_41 rfl ?_
        exact ⟨rfl, rfl⟩
  · exact absurd rfl h5
theorem m_writeI {sc : Nat × (Nat → Int32)} {fr lo : Nat} {μ : Mem} {ρ : Nat × Nat × Nat} {p : Int} (hp1 : -2147483648 ≤ p ∧ p < 2147483648) (h01 : ¬ (p = 0 ∨ p = 1)) (hf : 20 ≤ fr) (hl : 700 ≤ lo) : w_E sc fr lo 153 [.ref 46, .int (ji p)] (hp μ, ρ) (.inl (some (.int (ji 0)))) (hp (stI μ 46 0 1), ρ) := by
  refine w_S.of (L0 := [some (.ref 46), some (.int (ji p)), none]) rfl rfl (Nat.le_of_ble_eq_true rfl) (by rfl) ?_
  refine w_ld d_153_0 rfl rfl rfl ?_
  refine w_ld d_153_1 rfl rfl rfl ?_
  refine w_cS1 (as := [_]) (rest := _) rfl d_153_2 (by rfl) (by rfl) (by rfl) (by rfl) (Nat.le_of_ble_eq_true rfl) (by omega) (by omega) (m_noSlot1 hp1 h01) ?_
  refine w_if_eq (g := 12) d_153_5 (by decide) (by decide) (fun h5 => ?_) (fun h5 => ?_)
  · exact absurd h5 (by decide)
  · refine w_con d_153_8 ?_
    refine w_goto (g := 30) d_153_9 (by decide) ?_
    refine w_putI d_153_30 (by rfl) (by first | rfl | assumption) (by rfl) (fit_I (by rfl)) (by rfl) ?_
    refine w_ld d_153_33 rfl rfl rfl ?_
    refine w_gI d_153_34 (by rfl) (by first | rfl | assumption) (by rfl) (by exact stI_at _ _ _ _) ?_
    refine w_if_le (g := 42) d_153_37 (by decide) (by decide) (fun h37 => ?_) (fun h37 => ?_)
    · exact absurd h37 (by decide)
    · refine w_con d_153_40 ?_
      refine w_iret d_153_41 rfl ?_
      exact ⟨rfl, rfl⟩
section ISO
variable {A B : View} {s : Int} {C : Int → Prop}
theorem wrd_bas {k j : Int} (h : bas A k B j) : wrd B j = wrd A k := by
  unfold wrd
  rw [← h.2.2.2.1]
  refine List.map_congr_left (fun i hi => ?_)
  rw [List.mem_range] at hi
  exact (h.2.2.2.2 i (by omega) (by omega)).symm
theorem rwo_bas {k j : Int} (h : bas A k B j) : rwo B j = rwo A k := by
  have e : (if 0 < B.2.2.2.2.1 j ∧ (B.2.2.2.2.2 j 0 = 126 ∨ B.2.2.2.2.2 j 0 = 94 ∨ B.2.2.2.2.2 j 0 = 96) then ([126] : List Int) else []) = if 0 < A.2.2.2.2.1 k ∧ (A.2.2.2.2.2 k 0 = 126 ∨ A.2.2.2.2.2 k 0 = 94 ∨ A.2.2.2.2.2 k 0 = 96) then [126] else [] := by
    by_cases z : 0 < A.2.2.2.2.1 k
    · rw [← h.2.2.2.2 0 (Int.le_refl _) z, ← h.2.2.2.1]
    · rw [if_neg (fun y => z (by rw [h.2.2.2.1]; exact y.1)), if_neg (fun y => z y.1)]
  unfold rwo
  rw [e, wrd_bas h, ← h.1, ← h.2.1]
theorem smp_bas {k j key : Int} {N : List (List Int)} (h : bas A k B j) : smp B j key N = smp A k key N := by
  unfold smp
  rw [rwo_bas h, ← h.1, ← h.2.1]
theorem spk_iso (h : iso s A B C) (hr : reg A C) {k : Int} (hk : C k) : spk B (k + s) ↔ spk A k := by
  have hb := (h k hk).1
  have p : ∀ n : Nat, (n : Int) < A.2.2.1 k → B.1 (pt B (k + s) n) = A.1 (pt A k n) := fun n hn => by
    rw [pt_iso h hr hk n (by omega)]
    exact ((h _ ((hr k hk).2 n hn)).1.1).symm
  constructor
  · intro q n hn
    rw [← p _ hn]
    exact q n (by rw [← hb.2.2.1]; exact hn)
  · intro q n hn
    rw [← hb.2.2.1] at hn
    rw [p _ hn]
    exact q n hn
theorem wpt_cong {G G' : Int → Int → List (List Int) → Option (List Int × List (List Int))} {k j : Int} {kf : Nat → Int} {c0 : Nat} : ∀ (n : Nat) (N : List (List Int)), (∀ m, m < n → ∀ M, G (pt B j m) (kf m) M = G' (pt A k m) (kf m) M) → wpt G B j kf c0 n N = wpt G' A k kf c0 n N
  | 0, _, _ => rfl
  | n + 1, N, h => by
    unfold wpt
    rw [wpt_cong n N (fun m hm => h m (by omega))]
    simp only [h n (by omega)]
theorem wv_iso (h : iso s A B C) (hr : reg A C) (hq : ∀ k, C k → (0 ≤ A.1 k ∧ A.1 k ≤ 12) ∧ (A.1 k = 12 → A.2.2.1 k = 1)) : ∀ (f : Nat) (d k key : Int) (N : List (List Int)), C k → wv B f d (k + s) key N = wv A f d k key N
  | 0, _, _, _, _, _ => rfl
  | f + 1, d, k, key, N, hk => by
    have hb := (h k hk).1
    have hq1 := hq k hk
    have hw : ∀ (d' : Int) (kf : Nat → Int) (c0 : Nat) (M : List (List Int)), wpt (fun i c M => wv B f d' i c M) B (k + s) kf c0 (B.2.2.1 (k + s)).toNat M = wpt (fun i c M => wv A f d' i c M) A k kf c0 (A.2.2.1 k).toNat M := fun d' kf c0 M => by
      rw [← hb.2.2.1]
      refine wpt_cong _ M (fun m hm M' => ?_)
      show wv B f d' (pt B (k + s) m) (kf m) M' = wv A f d' (pt A k m) (kf m) M'
      rw [pt_iso h hr hk m (by omega)]
      exact wv_iso h hr hq f d' _ _ _ ((hr k hk).2 m (by omega))
    have ha : ∀ (d' : Int) (M : List (List Int)), arw B f d' (k + s) M = arw A f d' k M := fun d' M => by
      unfold arw
      rw [hw]
    by_cases h8 : A.1 k < 8
    · rw [wv_s h8, wv_s (by rw [← hb.1]; exact h8), smp_bas hb]
    rcases (show A.1 k = 8 ∨ A.1 k = 9 ∨ A.1 k = 10 ∨ A.1 k = 11 ∨ A.1 k = 12 by omega) with e | e | e | e | e
    · rw [wv_8 e, wv_8 (hb.1.symm.trans e), ha]
    · rw [wv_t (Or.inl e) (fun z => absurd z (by omega)), wv_t (Or.inl (hb.1.symm.trans e)) (fun z => absurd (hb.1.trans z) (by omega)), ← hb.1, ha]
    · rw [wv_t (Or.inr (Or.inl e)) (fun z => absurd z (by omega)), wv_t (Or.inr (Or.inl (hb.1.symm.trans e))) (fun z => absurd (hb.1.trans z) (by omega)), ← hb.1, ha]
    · by_cases hs : spk A k
      · rw [wv_m e hs, wv_m (hb.1.symm.trans e) ((spk_iso h hr hk).mpr hs)]
        unfold mpw
        rw [hw]
      · rw [wv_t (Or.inr (Or.inr e)) (fun _ => hs), wv_t (Or.inr (Or.inr (hb.1.symm.trans e))) (fun _ z => hs ((spk_iso h hr hk).mp z)), ← hb.1, ha]
    · rw [wv_12 e, wv_12 (hb.1.symm.trans e), wrd_bas hb, show k + s + 1 = (k + 1) + s by omega, wv_iso h hr hq f _ (k + 1) _ _ ((hr k hk).2 0 (by rw [hq1.2 e]; decide))]
theorem wtm_iso (h : iso s A B C) (hr : reg A C) (hq : ∀ k, C k → (0 ≤ A.1 k ∧ A.1 k ≤ 12) ∧ (A.1 k = 12 → A.2.2.1 k = 1)) (h0 : C 0) : wtm B (0 + s) = wtr A := by
  have hb := (h 0 h0).1
  unfold wtm wtr
  rw [← hb.1, smp_bas hb, wv_iso h hr hq 10 0 0 0 [] h0]
end ISO
/-- printable -/
def prt (l : List Int) : Prop := ∀ c, c ∈ l → 32 ≤ c ∧ c ≤ 126
theorem prt_nil : prt [] := fun c h => absurd h (by simp)
theorem prt_cons {x : Int} {l : List Int} (hx : 32 ≤ x ∧ x ≤ 126) (h : prt l) : prt (x :: l) := fun c hc => by
  rcases List.mem_cons.mp hc with z | z
  · rw [z]; exact hx
  · exact h c z
theorem prt_app {l m : List Int} (h : prt l) (g : prt m) : prt (l ++ m) := fun c hc => by
  rcases List.mem_append.mp hc with z | z
  · exact h c z
  · exact g c z
theorem prt_1 {x : Int} (hx : 32 ≤ x ∧ x ≤ 126) : prt [x] := prt_cons hx prt_nil
theorem prt_esc : ∀ {w : List Int}, prt w → prt (esc w)
  | [], _ => prt_nil
  | c :: w, h => by
    have hc := h c List.mem_cons_self
    have hw := prt_esc (w := w) (fun d hd => h d (List.mem_cons_of_mem _ hd))
    show prt ((if c = 34 ∨ c = 92 then [92, c] else [c]) ++ esc w)
    split
    · exact prt_app (prt_cons (by decide) (prt_1 hc)) hw
    · exact prt_app (prt_1 hc) hw
theorem prt_cdt {n : Nat} (h : n < 24) : prt (cdt n) := by
  unfold cdt
  split
  · exact prt_cons (by decide) (prt_cons (by omega) (prt_1 (by omega)))
  · exact prt_cons (by decide) (prt_1 (by omega))
theorem prt_txt {N : List (List Int)} {w : List Int} {key : Int} (h : prt w) (hN : N.length ≤ 24) : prt (txt N w key) := by
  unfold txt
  split
  · rename_i z
    exact prt_cons (by decide) (prt_app (prt_cdt (by omega)) (prt_1 (by decide)))
  · exact prt_cons (by decide) (prt_app (prt_esc h) (prt_1 (by decide)))
theorem nts_len {N : List (List Int)} {w : List Int} {key : Int} (hN : N.length ≤ 24) : (nts N w key).length ≤ 24 := by
  unfold nts
  split
  · rw [List.length_append]
    split
    · show 0 + 1 ≤ 24
      decide
    · show N.length + 1 ≤ 24
      omega
  · exact hN
theorem prt_dec {v : Int} : prt (dec v) := fun c hc => by
  have := dec_in hc
  omega
theorem prt_wrd {A : View} {k : Int} (h : ∀ i, 0 ≤ i → i < A.2.2.2.2.1 k → 32 ≤ A.2.2.2.2.2 k i ∧ A.2.2.2.2.2 k i ≤ 126) : prt (wrd A k) := fun c hc => by
  unfold wrd at hc
  obtain ⟨i, hi, rfl⟩ := List.mem_map.mp hc
  rw [List.mem_range] at hi
  exact h i (by omega) (by omega)
def rwp (A : View) (k : Int) : Prop := (∀ i, 0 ≤ i → i < A.2.2.2.2.1 k → 32 ≤ A.2.2.2.2.2 k i ∧ A.2.2.2.2.2 k i ≤ 126) ∧ (A.1 k = 7 → 32 ≤ A.2.1 k ∧ A.2.1 k ≤ 126)
theorem prt_rwo {A : View} {k : Int} (h : rwp A k) : prt (rwo A k) := by
  have hw := prt_wrd h.1
  have p2 : ∀ x : Int, 32 ≤ x ∧ x ≤ 126 → prt [126, x] := fun x hx => prt_cons (by decide) (prt_1 hx)
  unfold rwo
  by_cases z0 : A.1 k = 0
  · rw [if_pos z0]; exact p2 _ (by decide)
  rw [if_neg z0]
  by_cases z1 : A.1 k = 1
  · rw [if_pos z1]
    split
    · exact prt_cons (by decide) (prt_cons (by decide) (prt_1 (by decide)))
    · exact prt_cons (by decide) (prt_cons (by decide) (prt_1 (by decide)))
  rw [if_neg z1]
  by_cases z2 : A.1 k = 2
  · rw [if_pos z2]; exact prt_app (p2 _ (by decide)) prt_dec
  rw [if_neg z2]
  by_cases z3 : A.1 k = 3
  · rw [if_pos z3]; exact prt_app (p2 _ (by decide)) prt_dec
  rw [if_neg z3]
  by_cases z5 : A.1 k = 5
  · rw [if_pos z5]; exact prt_app (p2 _ (by decide)) hw
  rw [if_neg z5]
  by_cases z6 : A.1 k = 6
  · rw [if_pos z6]; exact prt_app (p2 _ (by decide)) hw
  rw [if_neg z6]
  by_cases z7 : A.1 k = 7
  · rw [if_pos z7]; exact prt_cons (by decide) (prt_cons (by decide) (prt_1 (h.2 z7)))
  rw [if_neg z7]
  split
  · exact prt_app (prt_1 (by decide)) hw
  · exact prt_app prt_nil hw
theorem prt_smp {A : View} {k key : Int} {N : List (List Int)} (h : rwp A k) (hN : N.length ≤ 24) : prt (smp A k key N).1 ∧ (smp A k key N).2.length ≤ 24 := by
  unfold smp
  split
  · exact ⟨prt_cons (by decide) (prt_cons (by decide) (prt_cons (by decide) (prt_1 (by decide)))), hN⟩
  split
  · refine ⟨?_, hN⟩
    show prt (if A.2.1 k = 1 then [116, 114, 117, 101] else [102, 97, 108, 115, 101])
    split
    · exact prt_cons (by decide) (prt_cons (by decide) (prt_cons (by decide) (prt_1 (by decide))))
    · exact prt_cons (by decide) (prt_cons (by decide) (prt_cons (by decide) (prt_cons (by decide) (prt_1 (by decide)))))
  split
  · exact ⟨prt_dec, hN⟩
  · exact ⟨prt_txt (prt_rwo h) hN, nts_len hN⟩
theorem prt_wpt {G : Int → Int → List (List Int) → Option (List Int × List (List Int))} {A : View} {k : Int} {kf : Nat → Int} {c0 : Nat} : ∀ (n : Nat) (N : List (List Int)) (l : List Int) (N' : List (List Int)), (∀ m, m < n → ∀ M l M', M.length ≤ 24 → G (pt A k m) (kf m) M = some (l, M') → prt l ∧ M'.length ≤ 24) → N.length ≤ 24 → wpt G A k kf c0 n N = some (l, N') → prt l ∧ N'.length ≤ 24
  | 0, N, l, N', _, hN, e => by
    have e : some (([] : List Int), N) = some (l, N') := e
    cases e
    exact ⟨prt_nil, hN⟩
  | n + 1, N, l, N', h, hN, e => by
    unfold wpt at e
    cases hw : wpt G A k kf c0 n N with
    | none => rw [hw] at e; cases e
    | some p =>
      obtain ⟨l1, N1⟩ := p
      obtain ⟨a1, a2⟩ := prt_wpt n N l1 N1 (fun m hm => h m (by omega)) hN hw
      rw [hw] at e
      have e : (match G (pt A k n) (kf n) N1 with
        | none => none
        | some (l2, N2) => some (l1 ++ ((if n + c0 = 0 then [] else [44]) ++ l2), N2)) = some (l, N') := e
      cases hg : G (pt A k n) (kf n) N1 with
      | none => rw [hg] at e; cases e
      | some q =>
        obtain ⟨l2, N2⟩ := q
        obtain ⟨b1, b2⟩ := h n (by omega) N1 l2 N2 a2 hg
        rw [hg] at e
        cases e
        refine ⟨prt_app a1 (prt_app ?_ b1), b2⟩
        split
        · exact prt_nil
        · exact prt_1 (by decide)
theorem prt_tgw (c : Int) : prt (tgw c) := by
  unfold tgw
  have h1 : ∀ a b d e f g : Int, (32 ≤ a ∧ a ≤ 126) → (32 ≤ b ∧ b ≤ 126) → (32 ≤ d ∧ d ≤ 126) → (32 ≤ e ∧ e ≤ 126) → (32 ≤ f ∧ f ≤ 126) → (32 ≤ g ∧ g ≤ 126) → prt [a, b, d, e, f, g] := fun a b d e f g ha hb hd he hf hg => prt_cons ha (prt_cons hb (prt_cons hd (prt_cons he (prt_cons hf (prt_1 hg)))))
  split
  · exact h1 _ _ _ _ _ _ (by decide) (by decide) (by decide) (by decide) (by decide) (by decide)
  split
  · exact prt_cons (by decide) (prt_cons (by decide) (prt_cons (by decide) (prt_cons (by decide) (prt_1 (by decide)))))
  · exact h1 _ _ _ _ _ _ (by decide) (by decide) (by decide) (by decide) (by decide) (by decide)
theorem prt_wv {A : View} {C : Int → Prop} (hr : reg A C) (hq : ∀ k, C k → (0 ≤ A.1 k ∧ A.1 k ≤ 12) ∧ (A.1 k = 12 → A.2.2.1 k = 1)) (hp : ∀ k, C k → rwp A k) : ∀ (f : Nat) (d k key : Int) (N : List (List Int)) (l : List Int) (N' : List (List Int)), C k → N.length ≤ 24 → wv A f d k key N = some (l, N') → prt l ∧ N'.length ≤ 24
  | 0, _, _, _, _, _, _, _, _, e => by cases e
  | f + 1, d, k, key, N, l, N', hk, hN, e => by
    have hq1 := hq k hk
    have hw : ∀ (d' : Int) (kf : Nat → Int) (c0 : Nat) (M : List (List Int)) (l : List Int) (M' : List (List Int)), M.length ≤ 24 → wpt (fun i c M => wv A f d' i c M) A k kf c0 (A.2.2.1 k).toNat M = some (l, M') → prt l ∧ M'.length ≤ 24 := fun d' kf c0 M l M' hM e =>
      prt_wpt _ M l M' (fun m hm M1 l1 M2 hM1 e1 => prt_wv hr hq hp f d' _ _ M1 l1 M2 ((hr k hk).2 m (by omega)) hM1 e1) hM e
    have ha : ∀ (d' : Int) (M : List (List Int)) (l : List Int) (M' : List (List Int)), M.length ≤ 24 → arw A f d' k M = some (l, M') → prt l ∧ M'.length ≤ 24 := fun d' M l M' hM e => by
      unfold arw at e
      by_cases z : 8 ≤ d'
      · rw [if_pos z] at e; cases e
      · rw [if_neg z] at e
        cases hx : wpt (fun i c M => wv A f (d' + 1) i c M) A k (fun _ => 0) 0 (A.2.2.1 k).toNat M with
        | none => rw [hx] at e; cases e
        | some p =>
          obtain ⟨l1, N1⟩ := p
          rw [hx] at e
          obtain ⟨b1, b2⟩ := hw _ _ _ _ _ _ hM hx
          cases e
          exact ⟨prt_cons (by decide) (prt_app b1 (prt_1 (by decide))), b2⟩
    have hb : ∀ (tw : List Int) (r : Option (List Int × List (List Int))), prt tw → (∀ lx Nx, r = some (lx, Nx) → prt lx ∧ Nx.length ≤ 24) → brk d tw N r = some (l, N') → prt l ∧ N'.length ≤ 24 := fun tw r ht hx e => by
      obtain ⟨lx, e1, e2⟩ := brk_p e
      obtain ⟨b1, b2⟩ := hx _ _ e1
      rw [e2]
      exact ⟨prt_app (prt_1 (by decide)) (prt_app (prt_txt ht hN) (prt_app (prt_1 (by decide)) (prt_app b1 (prt_1 (by decide))))), b2⟩
    by_cases h8 : A.1 k < 8
    · rw [wv_s h8] at e
      obtain ⟨b1, b2⟩ := prt_smp (key := key) (hp k hk) hN
      have e : smp A k key N = (l, N') := Option.some.inj e
      rw [e] at b1 b2
      exact ⟨b1, b2⟩
    have ht : ∀ tw : List Int, prt tw → brk d tw N (arw A f (d + 1) k (nts N tw 0)) = some (l, N') → prt l ∧ N'.length ≤ 24 := fun tw htw e => hb tw _ htw (fun lx Nx ex => ha _ _ _ _ (nts_len hN) ex) e
    rcases (show A.1 k = 8 ∨ A.1 k = 9 ∨ A.1 k = 10 ∨ A.1 k = 11 ∨ A.1 k = 12 by omega) with c | c | c | c | c
    · rw [wv_8 c] at e
      exact ha _ _ _ _ hN e
    · rw [wv_t (Or.inl c) (fun z => absurd z (by omega))] at e
      exact ht _ (prt_tgw _) e
    · rw [wv_t (Or.inr (Or.inl c)) (fun z => absurd z (by omega))] at e
      exact ht _ (prt_tgw _) e
    · by_cases hs : spk A k
      · rw [wv_m c hs] at e
        unfold mpw at e
        by_cases z : 8 ≤ d
        · rw [if_pos z] at e; cases e
        · rw [if_neg z] at e
          cases hx : wpt (fun i c M => wv A f (d + 1) i c M) A k (fun i => if i % 2 = 0 then 1 else 0) 1 (A.2.2.1 k).toNat N with
          | none => rw [hx] at e; cases e
          | some p =>
            obtain ⟨l1, N1⟩ := p
            rw [hx] at e
            obtain ⟨b1, b2⟩ := hw _ _ _ _ _ _ hN hx
            cases e
            exact ⟨prt_app (prt_cons (by decide) (prt_cons (by decide) (prt_cons (by decide) (prt_cons (by decide) (prt_1 (by decide)))))) (prt_app b1 (prt_1 (by decide))), b2⟩
      · rw [wv_t (Or.inr (Or.inr c)) (fun _ => hs)] at e
        exact ht _ (prt_tgw _) e
    · rw [wv_12 c] at e
      exact hb _ _ (prt_cons (by decide) (prt_cons (by decide) (prt_wrd (hp k hk).1))) (fun lx Nx ex => prt_wv hr hq hp f _ (k + 1) _ _ lx Nx ((hr k hk).2 0 (by rw [hq1.2 c]; decide)) (nts_len hN) ex) e
theorem prt_wtr {A : View} {C : Int → Prop} (hr : reg A C) (hq : ∀ k, C k → (0 ≤ A.1 k ∧ A.1 k ≤ 12) ∧ (A.1 k = 12 → A.2.2.1 k = 1)) (hp : ∀ k, C k → rwp A k) (h0 : C 0) {l : List Int} {N : List (List Int)} (e : wtr A = some (l, N)) : prt l := by
  unfold wtr at e
  by_cases z : A.1 0 < 8
  · rw [if_pos z] at e
    have b := (prt_smp (key := 0) (N := []) (hp 0 h0) (by decide)).1
    cases e
    exact prt_app (prt_cons (by decide) (prt_cons (by decide) (prt_cons (by decide) (prt_cons (by decide) (prt_cons (by decide) (prt_cons (by decide) (prt_1 (by decide)))))))) (prt_app b (prt_1 (by decide)))
  · rw [if_neg z] at e
    exact (prt_wv hr hq hp 10 0 0 0 [] l N h0 (by decide) e).1
