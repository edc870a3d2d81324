/-! THE PURE PART, 58: contracts: the reference opens an array, looks for doubles -/
def opP (μ μ' : Mem) (n d : Int) : Prop := MI μ' ∧ (μ'.1 46 19 = d + 1 ∧ μ'.1 46 15 = μ.1 46 15 + 1 ∧ μ'.1 46 17 = n + 1) ∧ (∀ a q, ¬ (a = 46 ∧ (q = 15 ∨ q = 17 ∨ q = 19)) → μ'.1 a q = μ.1 a q) ∧ μ'.2.1 = μ.2.1 ∧ (∀ a i, ¬ (49 ≤ a ∧ a ≤ 56 ∧ i = 256 + n) → ¬ (58 ≤ a ∧ a ≤ 61 ∧ i = d + 1) → μ'.2.2 a i = μ.2.2 a i) ∧ (μ'.2.2 49 (256 + n) = 8 ∧ μ'.2.2 50 (256 + n) = 0 ∧ μ'.2.2 52 (256 + n) = 0 ∧ μ'.2.2 53 (256 + n) = 0 ∧ μ'.2.2 54 (256 + n) = 1 ∧ μ'.2.2 55 (256 + n) = μ.1 46 15 ∧ μ'.2.2 56 (256 + n) = -1) ∧ μ'.2.2 58 (d + 1) = 256 + n ∧ μ'.2.2 59 (d + 1) = 0 ∧ μ'.2.2 60 (d + 1) = 0 ∧ μ'.2.2 61 (d + 1) = μ.1 46 15
theorem m_open {sc : Nat × (Nat → Int32)} {fr lo : Nat} {μ : Mem} {ρ : Nat × Nat × Nat} (hM : MI μ) {n d : Int} (hN : μ.1 46 17 = n ∧ 0 ≤ n ∧ n ≤ 125) (hd : μ.1 46 19 = d ∧ 0 ≤ d ∧ d < 8) (hf : 3 ≤ fr) (hl : 100 ≤ lo) : w_S sc fr lo 120 [.ref 46] (hp μ, ρ) (fun o t' => ∃ μ' : Mem, o = .inl none ∧ opP μ μ' n d ∧ t' = (hp μ', ρ)) := by
  obtain ⟨ν, hk1, ⟨r49, r50, r51, r52, r53, r54, r55, r56⟩, hmk⟩ := m_mk sc (fr - 1) (lo - (19 + 4)) ρ (μ := (stI μ 46 19 (d + 1))) (n := n) ⟨hN.1, hN.2.1, by omega⟩ 8 (μ.1 46 15)
  have v15 : ν.1 46 15 = μ.1 46 15 := (hk1.1 46 15 (by decide)).trans (stI_ne (by decide))
  have v19 : ν.1 46 19 = d + 1 := (hk1.1 46 19 (by decide)).trans (stI_at _ _ _ _)
  refine w_S.of (L0 := [some (.ref 46)]) rfl rfl (Nat.le_of_ble_eq_true rfl) (by rfl) ?_
  refine w_ld d_120_0 rfl rfl rfl ?_
  refine w_gI d_120_1 (by rfl) (by first | rfl | assumption) (by rfl) (by first | exact hd.1 | exact v15 | exact v19 | exact stI_at _ _ _ _ | rfl) ?_
  refine w_bip d_120_4 (by decide) ?_
  refine w_icmp_ne (g := 18) d_120_6 (by decide) (by omega) (fun h6 => ?_) (fun h6 => ?_)
  · refine w_ld d_120_18 rfl rfl rfl ?_
    refine w_stk d_120_19 rfl ?_
    refine w_gI d_120_20 (by rfl) (by first | rfl | assumption) (by rfl) (by first | exact hd.1 | exact v15 | exact v19 | exact stI_at _ _ _ _ | rfl) ?_
    refine w_con d_120_23 ?_
    refine w_iadd d_120_24 ?_
    refine w_putI d_120_25 (by rfl) (by first | rfl | assumption) (by rfl) (fit_I (by rfl)) (by rfl) ?_
    refine w_ld d_120_28 rfl rfl rfl ?_
    refine w_getF d_120_29 (by rfl) (by first | rfl | assumption) (by rfl) (by rfl) ?_
    refine w_ld d_120_32 rfl rfl rfl ?_
    refine w_gI d_120_33 (by rfl) (by first | rfl | assumption) (by rfl) (by first | exact hd.1 | exact v15 | exact v19 | exact stI_at _ _ _ _ | rfl) ?_
    refine w_ld d_120_36 rfl rfl rfl ?_
    refine w_bip d_120_37 (by decide) ?_
    refine w_ld d_120_39 rfl rfl rfl ?_
    refine w_gI d_120_40 (by rfl) (by first | rfl | assumption) (by rfl) (by first | exact hd.1 | exact v15 | exact v19 | exact stI_at _ _ _ _ | rfl) ?_
    refine w_cV1 (a := 46) (as := [_, _]) (rest := _) rfl d_120_43 (by rfl) (by rfl) (by first | rfl | assumption) (by rfl) (by rfl) (Nat.le_of_ble_eq_true rfl) (by omega) (by omega) hmk ?_
    refine w_iast d_120_46 (by first | rfl | assumption) (by omega) ?_
    refine w_ld d_120_47 rfl rfl rfl ?_
    refine w_getF d_120_48 (by rfl) (by first | rfl | assumption) (by rfl) (by rfl) ?_
    refine w_ld d_120_51 rfl rfl rfl ?_
    refine w_gI d_120_52 (by rfl) (by first | rfl | assumption) (by rfl) (by first | exact hd.1 | exact v15 | exact v19 | exact stI_at _ _ _ _ | rfl) ?_
    refine w_con d_120_55 ?_
    refine w_iast d_120_56 (by first | rfl | assumption) (by omega) ?_
    refine w_ld d_120_57 rfl rfl rfl ?_
    refine w_getF d_120_58 (by rfl) (by first | rfl | assumption) (by rfl) (by rfl) ?_
    refine w_ld d_120_61 rfl rfl rfl ?_
    refine w_gI d_120_62 (by rfl) (by first | rfl | assumption) (by rfl) (by first | exact hd.1 | exact v15 | exact v19 | exact stI_at _ _ _ _ | rfl) ?_
    refine w_con d_120_65 ?_
    refine w_iast d_120_66 (by first | rfl | assumption) (by omega) ?_
    refine w_ld d_120_67 rfl rfl rfl ?_
    refine w_getF d_120_68 (by rfl) (by first | rfl | assumption) (by rfl) (by rfl) ?_
    refine w_ld d_120_71 rfl rfl rfl ?_
    refine w_gI d_120_72 (by rfl) (by first | rfl | assumption) (by rfl) (by first | exact hd.1 | exact v15 | exact v19 | exact stI_at _ _ _ _ | rfl) ?_
    refine w_ld d_120_75 rfl rfl rfl ?_
    refine w_gI d_120_76 (by rfl) (by first | rfl | assumption) (by rfl) (by first | exact hd.1 | exact v15 | exact v19 | exact stI_at _ _ _ _ | rfl) ?_
    refine w_iast d_120_79 (by first | rfl | assumption) (by omega) ?_
    refine w_ld d_120_80 rfl rfl rfl ?_
    refine w_stk d_120_81 rfl ?_
    refine w_gI d_120_82 (by rfl) (by first | rfl | assumption) (by rfl) (by first | exact hd.1 | exact v15 | exact v19 | exact stI_at _ _ _ _ | rfl) ?_
    refine w_con d_120_85 ?_
    refine w_iadd d_120_86 ?_
    refine w_putI d_120_87 (by rfl) (by first | rfl | assumption) (by rfl) (fit_I (by rfl)) (by rfl) ?_
    refine w_ret d_120_90 rfl ?_
    have hk2 : MI ν := mk1_MI hk1 hM ⟨hN.1, by omega⟩ r56
    refine ⟨(stI (stA (stA (stA (stA ν 58 (d + 1) (256 + n)) 59 (d + 1) 0) 60 (d + 1) 0) 61 (d + 1) (μ.1 46 15)) 46 15 (μ.1 46 15 + 1)), rfl, ⟨hk2, ⟨v19, stI_at _ _ _ _, hk1.2.1⟩, fun a q z => ?_, hk1.2.2.1, fun a i z z2 => ?_, ⟨r49, r50, r52, r53, r54, r55, r56⟩, ?_, ?_, ?_, ?_⟩, rfl⟩
    · rw [stI_ne (by omega)]
      show ν.1 a q = _
      rw [hk1.1 a q (by omega), stI_ne (by omega)]
    · show (if a = 61 ∧ i = d + 1 then _ else if a = 60 ∧ i = d + 1 then _ else if a = 59 ∧ i = d + 1 then _ else if a = 58 ∧ i = d + 1 then _ else ν.2.2 a i) = _
      rw [if_neg (by omega), if_neg (by omega), if_neg (by omega), if_neg (by omega)]
      exact hk1.2.2.2 a i (by omega)
    · show (stA (stA (stA (stA ν 58 (d + 1) (256 + n)) 59 (d + 1) 0) 60 (d + 1) 0) 61 (d + 1) (μ.1 46 15)).2.2 58 (d + 1) = _
      rw [stA_o2 (by decide), stA_o2 (by decide), stA_o2 (by decide), stA_at]
    · show (stA (stA (stA (stA ν 58 (d + 1) (256 + n)) 59 (d + 1) 0) 60 (d + 1) 0) 61 (d + 1) (μ.1 46 15)).2.2 59 (d + 1) = _
      rw [stA_o2 (by decide), stA_o2 (by decide), stA_at]
    · show (stA (stA (stA (stA ν 58 (d + 1) (256 + n)) 59 (d + 1) 0) 60 (d + 1) 0) 61 (d + 1) (μ.1 46 15)).2.2 60 (d + 1) = _
      rw [stA_o2 (by decide), stA_at]
    · show (stA (stA (stA (stA ν 58 (d + 1) (256 + n)) 59 (d + 1) 0) 60 (d + 1) 0) 61 (d + 1) (μ.1 46 15)).2.2 61 (d + 1) = _
      rw [stA_at]
  · exact absurd h6 (by omega)
theorem m_openX {sc : Nat × (Nat → Int32)} {fr lo : Nat} {μ : Mem} {ρ : Nat × Nat × Nat} (h16 : μ.1 46 16 = -1) (hd : μ.1 46 19 = 8) (hf : 3 ≤ fr) (hl : 100 ≤ lo) : w_E sc fr lo 120 [.ref 46] (hp μ, ρ) (.inl none) (hp (stI μ 46 16 (μ.1 46 15)), ρ) := by
  have ef := m_fail (sc := sc) (fr := fr - 1) (lo := lo - (19 + 2)) (μ := μ) (ρ := ρ) (by rw [h16]; decide) (k := μ.1 46 15)
  rw [h16, if_pos (by decide)] at ef
  refine w_S.of (L0 := [some (.ref 46)]) rfl rfl (Nat.le_of_ble_eq_true rfl) (by rfl) ?_
  refine w_ld d_120_0 rfl rfl rfl ?_
  refine w_gI d_120_1 (by rfl) (by first | rfl | assumption) (by rfl) (by first | exact hd | rfl) ?_
  refine w_bip d_120_4 (by decide) ?_
  refine w_icmp_ne (g := 18) d_120_6 (by decide) (by decide) (fun h6 => ?_) (fun h6 => ?_)
  · exact absurd rfl h6
  · refine w_ld d_120_9 rfl rfl rfl ?_
    refine w_ld d_120_10 rfl rfl rfl ?_
    refine w_gI d_120_11 (by rfl) (by first | rfl | assumption) (by rfl) (by first | exact hd | rfl) ?_
    refine w_cV0 (a := 46) (as := [_]) (rest := _) rfl d_120_14 (by rfl) (by rfl) (by first | rfl | assumption) (by rfl) (by rfl) (Nat.le_of_ble_eq_true rfl) (by omega) (by omega) ef ?_
    refine w_ret d_120_17 rfl ?_
    exact ⟨rfl, rfl⟩
theorem m_dblS_i {sc : Nat × (Nat → Int32)} {fr lo : Nat} {μ : Mem} {ρ : Nat × Nat × Nat} {v : Int} {s : Nat} (hs : s = 1 ∨ s = 2) (hv : 0 ≤ v ∧ v < 384) (hP : 0 ≤ μ.2.2 53 v ∧ μ.2.2 53 v ≤ 240) (hp0 : ∀ n : Nat, (n : Int) < μ.2.2 53 v → (0 ≤ pt (vM μ) v n ∧ pt (vM μ) v n < 384) ∧ mok μ (pt (vM μ) v n) ∧ 0 ≤ μ.2.2 55 (pt (vM μ) v n) ∧ μ.2.2 55 (pt (vM μ) v n) ≤ 1000) (h16 : 0 ≤ μ.1 46 16 ∧ μ.1 46 16 < 2147483648)  (hf : 2 ≤ fr) (hl : 100 ≤ lo) {q : Nat} (hq : (q : Int) < μ.2.2 53 v) {Q : z_O → z_T → Prop} (K : w_P sc fr lo 149 7 7 false (none) prog_9_method_36_code 91 [some (.ref 46), some (.int (ji v)), some (.int (ji (s : Int))), some (.int (ji (pt (vM μ) v q))), some (.int (ji (q : Int))), none, none] [] (hp μ, ρ) Q) : ∀ (m : Nat) (j : Nat), ((q : Int) - j).toNat = m → j ≤ q →  w_P sc fr lo 149 7 7 false (none) prog_9_method_36_code 26 [some (.ref 46), some (.int (ji v)), some (.int (ji (s : Int))), some (.int (ji (pt (vM μ) v q))), some (.int (ji (q : Int))), some (.int (ji (pt (vM μ) v j))), some (.int (ji (j : Int)))] [] (hp (μ), ρ) Q := by
  intro m
  induction m using Nat.strongRecOn with
  | ind m ih =>
    intro j hm hjq
    have hmod : ∀ q : Nat, -2147483648 ≤ (q : Int).tmod (s : Int) ∧ (q : Int).tmod (s : Int) < 2147483648 := fun q => by
      rw [← Int.ofNat_tmod]
      have : q % s < 2 := by rcases hs with rfl | rfl <;> omega
      omega
    have ef := m_fail (sc := sc) (fr := fr - 1) (lo := lo - (19 + 2)) (μ := μ) (ρ := ρ) (by omega) (k := μ.2.2 55 (pt (vM μ) v q))
    rw [if_neg (by omega), stI_self] at ef
    have a := hp0 q hq
    obtain ⟨a1, a2, a3, a4, a5, a6, a7⟩ := a.2.1
    refine w_ld d_149_26 rfl rfl rfl ?_
    refine w_ld d_149_28 rfl rfl rfl ?_
    refine w_icmp_ge (g := 91) d_149_30 (by decide) (by omega) (fun h30 => ?_) (fun h30 => ?_)
    · exact w_P.le K ⟨rfl, rfl, rfl, rfl, rfl, trivial⟩
    · have b := hp0 j (by omega)
      obtain ⟨b1, b2, b3, b4, b5, b6, b7⟩ := b.2.1
      refine w_ld d_149_33 rfl rfl rfl ?_
      refine w_ld d_149_35 rfl rfl rfl ?_
      refine w_irem d_149_36 (by omega) (by rcases hs with rfl | rfl <;> decide) ?_
      refine w_if_ne (g := 91) d_149_37 (by decide) (hmod q) (fun h37 => ?_) (fun h37 => ?_)
      · exact w_P.le K ⟨rfl, rfl, rfl, rfl, rfl, trivial⟩
      · refine w_ld d_149_40 rfl rfl rfl ?_
        refine w_ld d_149_42 rfl rfl rfl ?_
        refine w_irem d_149_43 (by omega) (by rcases hs with rfl | rfl <;> decide) ?_
        refine w_if_ne (g := 73) d_149_44 (by decide) (hmod j) (fun h44 => ?_) (fun h44 => ?_)
        · refine w_ld d_149_73 rfl rfl rfl ?_
          refine w_ld d_149_75 rfl rfl rfl ?_
          refine w_getF d_149_76 (by rfl) (by first | rfl | assumption) (by rfl) (by rfl) ?_
          refine w_ld d_149_79 rfl rfl rfl ?_
          refine w_aI d_149_81 (by first | rfl | assumption) (by omega) (by (try simp only [Nat.reduceAdd]) <;> rfl) ?_
          refine w_iadd d_149_82 ?_
          refine w_st1 (L' := [_, _, _, _, _, _, _]) d_149_83 rfl (by decide) rfl (by decide) rfl ?_
          refine w_inc (L' := [_, _, _, _, _, _, _]) d_149_85 rfl (by decide) rfl ?_
          refine w_goto (g := 26) d_149_88 (by decide) ?_
          exact ih _ (by omega) (j + 1) rfl (by omega)
        · refine w_ld d_149_47 rfl rfl rfl ?_
          refine w_getF d_149_48 (by rfl) (by first | rfl | assumption) (by rfl) (by rfl) ?_
          refine w_ld d_149_51 rfl rfl rfl ?_
          refine w_aI d_149_52 (by first | rfl | assumption) (by omega) (by (try simp only [Nat.reduceAdd]) <;> rfl) ?_
          refine w_ld d_149_53 rfl rfl rfl ?_
          refine w_getF d_149_54 (by rfl) (by first | rfl | assumption) (by rfl) (by rfl) ?_
          refine w_ld d_149_57 rfl rfl rfl ?_
          refine w_aI d_149_59 (by first | rfl | assumption) (by omega) (by (try simp only [Nat.reduceAdd]) <;> rfl) ?_
          refine w_icmp_ne (g := 73) d_149_60 (by decide) (by omega) (fun h60 => ?_) (fun h60 => ?_)
          · refine w_ld d_149_73 rfl rfl rfl ?_
            refine w_ld d_149_75 rfl rfl rfl ?_
            refine w_getF d_149_76 (by rfl) (by first | rfl | assumption) (by rfl) (by rfl) ?_
            refine w_ld d_149_79 rfl rfl rfl ?_
            refine w_aI d_149_81 (by first | rfl | assumption) (by omega) (by (try simp only [Nat.reduceAdd]) <;> rfl) ?_
            refine w_iadd d_149_82 ?_
            refine w_st1 (L' := [_, _, _, _, _, _, _]) d_149_83 rfl (by decide) rfl (by decide) rfl ?_
            refine w_inc (L' := [_, _, _, _, _, _, _]) d_149_85 rfl (by decide) rfl ?_
            refine w_goto (g := 26) d_149_88 (by decide) ?_
            exact ih _ (by omega) (j + 1) rfl (by omega)
          · refine w_ld d_149_63 rfl rfl rfl ?_
            refine w_ld d_149_64 rfl rfl rfl ?_
            refine w_getF d_149_65 (by rfl) (by first | rfl | assumption) (by rfl) (by rfl) ?_
            refine w_ld d_149_68 rfl rfl rfl ?_
            refine w_aI d_149_69 (by first | rfl | assumption) (by omega) (by (try simp only [Nat.reduceAdd]) <;> rfl) ?_
            refine w_cV0 (a := 46) (as := [_]) (rest := _) rfl d_149_70 (by rfl) (by rfl) (by first | rfl | assumption) (by rfl) (by rfl) (Nat.le_of_ble_eq_true rfl) (by omega) (by omega) ef ?_
            refine w_ld d_149_73 rfl rfl rfl ?_
            refine w_ld d_149_75 rfl rfl rfl ?_
            refine w_getF d_149_76 (by rfl) (by first | rfl | assumption) (by rfl) (by rfl) ?_
            refine w_ld d_149_79 rfl rfl rfl ?_
            refine w_aI d_149_81 (by first | rfl | assumption) (by omega) (by (try simp only [Nat.reduceAdd]) <;> rfl) ?_
            refine w_iadd d_149_82 ?_
            refine w_st1 (L' := [_, _, _, _, _, _, _]) d_149_83 rfl (by decide) rfl (by decide) rfl ?_
            refine w_inc (L' := [_, _, _, _, _, _, _]) d_149_85 rfl (by decide) rfl ?_
            refine w_goto (g := 26) d_149_88 (by decide) ?_
            exact ih _ (by omega) (j + 1) rfl (by omega)
theorem m_dblS_j {sc : Nat × (Nat → Int32)} {fr lo : Nat} {μ : Mem} {ρ : Nat × Nat × Nat} {v : Int} {s : Nat} (hs : s = 1 ∨ s = 2) (hv : 0 ≤ v ∧ v < 384) (hP : 0 ≤ μ.2.2 53 v ∧ μ.2.2 53 v ≤ 240) (hp0 : ∀ n : Nat, (n : Int) < μ.2.2 53 v → (0 ≤ pt (vM μ) v n ∧ pt (vM μ) v n < 384) ∧ mok μ (pt (vM μ) v n) ∧ 0 ≤ μ.2.2 55 (pt (vM μ) v n) ∧ μ.2.2 55 (pt (vM μ) v n) ≤ 1000) (h16 : 0 ≤ μ.1 46 16 ∧ μ.1 46 16 < 2147483648)  (hf : 2 ≤ fr) (hl : 100 ≤ lo) {q : Nat} (hq : (q : Int) < μ.2.2 53 v) {Q : z_O → z_T → Prop} (K : w_P sc fr lo 149 7 7 false (none) prog_9_method_36_code 91 [some (.ref 46), some (.int (ji v)), some (.int (ji (s : Int))), some (.int (ji (pt (vM μ) v q))), some (.int (ji (q : Int))), none, none] [] (hp μ, ρ) Q) (j : Nat) (hjq : j < q) : w_P sc fr lo 149 7 7 false (none) prog_9_method_36_code 73 [some (.ref 46), some (.int (ji v)), some (.int (ji (s : Int))), some (.int (ji (pt (vM μ) v q))), some (.int (ji (q : Int))), some (.int (ji (pt (vM μ) v j))), some (.int (ji (j : Int)))] [] (hp μ, ρ) Q := by
  have b := hp0 j (by omega)
  obtain ⟨b1, b2, b3, b4, b5, b6, b7⟩ := b.2.1
  refine w_ld d_149_73 rfl rfl rfl ?_
  refine w_ld d_149_75 rfl rfl rfl ?_
  refine w_getF d_149_76 (by rfl) (by first | rfl | assumption) (by rfl) (by rfl) ?_
  refine w_ld d_149_79 rfl rfl rfl ?_
  refine w_aI d_149_81 (by first | rfl | assumption) (by omega) (by (try simp only [Nat.reduceAdd]) <;> rfl) ?_
  refine w_iadd d_149_82 ?_
  refine w_st1 (L' := [_, _, _, _, _, _, _]) d_149_83 rfl (by decide) rfl (by decide) rfl ?_
  refine w_inc (L' := [_, _, _, _, _, _, _]) d_149_85 rfl (by decide) rfl ?_
  refine w_goto (g := 26) d_149_88 (by decide) ?_
  exact m_dblS_i hs hv hP hp0 h16 hf hl hq K _ (j + 1) rfl (by omega)
theorem m_dblS_o {sc : Nat × (Nat → Int32)} {fr lo : Nat} {μ : Mem} {ρ : Nat × Nat × Nat} {v : Int} {s : Nat} (hs : s = 1 ∨ s = 2) (hv : 0 ≤ v ∧ v < 384) (hP : 0 ≤ μ.2.2 53 v ∧ μ.2.2 53 v ≤ 240) (hp0 : ∀ n : Nat, (n : Int) < μ.2.2 53 v → (0 ≤ pt (vM μ) v n ∧ pt (vM μ) v n < 384) ∧ mok μ (pt (vM μ) v n) ∧ 0 ≤ μ.2.2 55 (pt (vM μ) v n) ∧ μ.2.2 55 (pt (vM μ) v n) ≤ 1000) (h16 : 0 ≤ μ.1 46 16 ∧ μ.1 46 16 < 2147483648)  (hf : 2 ≤ fr) (hl : 100 ≤ lo) : ∀ (m : Nat) (q : Nat), (μ.2.2 53 v - q).toNat = m → (q : Int) ≤ μ.2.2 53 v →  w_P sc fr lo 149 7 7 false (none) prog_9_method_36_code 7 [some (.ref 46), some (.int (ji v)), some (.int (ji (s : Int))), some (.int (ji (pt (vM μ) v q))), some (.int (ji (q : Int))), none, none] [] (hp (μ), ρ) (fun o t' => o = .inl none ∧ t' = (hp μ, ρ)) := by
  intro m
  induction m using Nat.strongRecOn with
  | ind m ih =>
    intro q hm hq
    refine w_ld d_149_7 rfl rfl rfl ?_
    refine w_ld d_149_9 rfl rfl rfl ?_
    refine w_getF d_149_10 (by rfl) (by first | rfl | assumption) (by rfl) (by rfl) ?_
    refine w_ld d_149_13 rfl rfl rfl ?_
    refine w_aI d_149_14 (by first | rfl | assumption) (by omega) (by (try simp only [Nat.reduceAdd]) <;> rfl) ?_
    refine w_icmp_ge (g := 106) d_149_15 (by decide) (by omega) (fun h15 => ?_) (fun h15 => ?_)
    · refine w_ret d_149_106 rfl ?_
      exact ⟨rfl, rfl⟩
    · have a := hp0 q h15
      obtain ⟨a1, a2, a3, a4, a5, a6, a7⟩ := a.2.1
      refine w_ld d_149_18 rfl rfl rfl ?_
      refine w_con d_149_19 ?_
      refine w_iadd d_149_20 ?_
      refine w_st1 (L' := [_, _, _, _, _, _, _]) d_149_21 rfl (by decide) rfl (by decide) rfl ?_
      refine w_con d_149_23 ?_
      refine w_st1 (L' := [_, _, _, _, _, _, _]) d_149_24 rfl (by decide) rfl (by decide) rfl ?_
      refine m_dblS_i hs hv hP hp0 h16 hf hl h15 ?_ _ 0 rfl (Nat.zero_le _)
      refine w_ld d_149_91 rfl rfl rfl ?_
      refine w_ld d_149_92 rfl rfl rfl ?_
      refine w_getF d_149_93 (by rfl) (by first | rfl | assumption) (by rfl) (by rfl) ?_
      refine w_ld d_149_96 rfl rfl rfl ?_
      refine w_aI d_149_97 (by first | rfl | assumption) (by omega) (by (try simp only [Nat.reduceAdd]) <;> rfl) ?_
      refine w_iadd d_149_98 ?_
      refine w_st1 (L' := [_, _, _, _, _, _, _]) d_149_99 rfl (by decide) rfl (by decide) rfl ?_
      refine w_inc (L' := [_, _, _, _, _, _, _]) d_149_100 rfl (by decide) rfl ?_
      refine w_goto (g := 7) d_149_103 (by decide) ?_
      exact w_P.le (ih _ (by omega) (q + 1) rfl (by omega)) ⟨rfl, rfl, rfl, rfl, rfl, trivial⟩
theorem m_doublesS {sc : Nat × (Nat → Int32)} {fr lo : Nat} {μ : Mem} {ρ : Nat × Nat × Nat} {v : Int} {s : Nat} (hs : s = 1 ∨ s = 2) (hv : 0 ≤ v ∧ v < 384) (hP : 0 ≤ μ.2.2 53 v ∧ μ.2.2 53 v ≤ 240) (hp0 : ∀ n : Nat, (n : Int) < μ.2.2 53 v → (0 ≤ pt (vM μ) v n ∧ pt (vM μ) v n < 384) ∧ mok μ (pt (vM μ) v n) ∧ 0 ≤ μ.2.2 55 (pt (vM μ) v n) ∧ μ.2.2 55 (pt (vM μ) v n) ≤ 1000) (h16 : 0 ≤ μ.1 46 16 ∧ μ.1 46 16 < 2147483648)  (hf : 2 ≤ fr) (hl : 100 ≤ lo) : w_S sc fr lo 149 [.ref 46, .int (ji v), .int (ji (s : Int))] (hp μ, ρ) (fun o t' => o = .inl none ∧ t' = (hp μ, ρ)) := by
  refine w_S.of (L0 := [some (.ref 46), some (.int (ji v)), some (.int (ji (s : Int))), none, none, none, none]) rfl rfl (Nat.le_of_ble_eq_true rfl) (by rfl) ?_
  refine w_ld d_149_0 rfl rfl rfl ?_
  refine w_con d_149_1 ?_
  refine w_iadd d_149_2 ?_
  refine w_st1 (L' := [_, _, _, _, _, _, _]) d_149_3 rfl (by decide) rfl (by decide) rfl ?_
  refine w_con d_149_4 ?_
  refine w_st1 (L' := [_, _, _, _, _, _, _]) d_149_5 rfl (by decide) rfl (by decide) rfl ?_
  exact m_dblS_o hs hv hP hp0 h16 hf hl _ 0 rfl (by omega)
theorem m_dblB_i {sc : Nat × (Nat → Int32)} {fr lo : Nat} {μ : Mem} {ρ : Nat × Nat × Nat} {v : Int} {s : Nat} (hs : s = 1 ∨ s = 2) (hv : 0 ≤ v ∧ v < 384) (hP : 0 ≤ μ.2.2 53 v ∧ μ.2.2 53 v ≤ 240) (hp0 : ∀ n : Nat, (n : Int) < μ.2.2 53 v → (0 ≤ pt (vM μ) v n ∧ pt (vM μ) v n < 384) ∧ mok μ (pt (vM μ) v n) ∧ 0 ≤ μ.2.2 55 (pt (vM μ) v n) ∧ μ.2.2 55 (pt (vM μ) v n) ≤ 1000) (h16 : μ.1 46 16 = -1)  (hf : 2 ≤ fr) (hl : 100 ≤ lo) {q : Nat} (hq : (q : Int) < μ.2.2 53 v) {Q : z_O → z_T → Prop} (K : (∀ m : Nat, s * m < q → (∃ k : Nat, q = s * k) → μ.2.2 56 (pt (vM μ) v q) ≠ μ.2.2 56 (pt (vM μ) v (s * m))) → w_P sc fr lo 149 7 7 false (none) prog_9_method_36_code 91 [some (.ref 46), some (.int (ji v)), some (.int (ji (s : Int))), some (.int (ji (pt (vM μ) v q))), some (.int (ji (q : Int))), none, none] [] (hp μ, ρ) Q) (KX : ∀ (k m : Nat), q = s * k → s * m < q → μ.2.2 56 (pt (vM μ) v q) = μ.2.2 56 (pt (vM μ) v (s * m)) → w_P sc fr lo 149 7 7 false (none) prog_9_method_36_code 91 [some (.ref 46), some (.int (ji v)), some (.int (ji (s : Int))), some (.int (ji (pt (vM μ) v q))), some (.int (ji (q : Int))), none, none] [] (hp (stI μ 46 16 (μ.2.2 55 (pt (vM μ) v q))), ρ) Q) : ∀ (m : Nat) (j : Nat), ((q : Int) - j).toNat = m → j ≤ q → (∀ m : Nat, s * m < j → (∃ k : Nat, q = s * k) → μ.2.2 56 (pt (vM μ) v q) ≠ μ.2.2 56 (pt (vM μ) v (s * m))) →  w_P sc fr lo 149 7 7 false (none) prog_9_method_36_code 26 [some (.ref 46), some (.int (ji v)), some (.int (ji (s : Int))), some (.int (ji (pt (vM μ) v q))), some (.int (ji (q : Int))), some (.int (ji (pt (vM μ) v j))), some (.int (ji (j : Int)))] [] (hp (μ), ρ) Q := by
  intro m
  induction m using Nat.strongRecOn with
  | ind m ih =>
    intro j hm hjq hj
    have hmod : ∀ q : Nat, -2147483648 ≤ (q : Int).tmod (s : Int) ∧ (q : Int).tmod (s : Int) < 2147483648 := fun q => by
      rw [← Int.ofNat_tmod]
      have : q % s < 2 := by rcases hs with rfl | rfl <;> omega
      omega
    have ef := m_fail (sc := sc) (fr := fr - 1) (lo := lo - (19 + 2)) (μ := μ) (ρ := ρ) (by omega) (k := μ.2.2 55 (pt (vM μ) v q))
    rw [h16, if_pos (by decide)] at ef
    have a := hp0 q hq
    obtain ⟨a1, a2, a3, a4, a5, a6, a7⟩ := a.2.1
    refine w_ld d_149_26 rfl rfl rfl ?_
    refine w_ld d_149_28 rfl rfl rfl ?_
    refine w_icmp_ge (g := 91) d_149_30 (by decide) (by omega) (fun h30 => ?_) (fun h30 => ?_)
    · exact w_P.le (K (fun m hm2 hk => hj m (by omega) hk)) ⟨rfl, rfl, rfl, rfl, rfl, trivial⟩
    · have b := hp0 j (by omega)
      obtain ⟨b1, b2, b3, b4, b5, b6, b7⟩ := b.2.1
      refine w_ld d_149_33 rfl rfl rfl ?_
      refine w_ld d_149_35 rfl rfl rfl ?_
      refine w_irem d_149_36 (by omega) (by rcases hs with rfl | rfl <;> decide) ?_
      refine w_if_ne (g := 91) d_149_37 (by decide) (hmod q) (fun h37 => ?_) (fun h37 => ?_)
      · exact w_P.le (K (fun m hm2 hk => absurd ((tmod_nat q s hs).mpr hk) h37)) ⟨rfl, rfl, rfl, rfl, rfl, trivial⟩
      · refine w_ld d_149_40 rfl rfl rfl ?_
        refine w_ld d_149_42 rfl rfl rfl ?_
        refine w_irem d_149_43 (by omega) (by rcases hs with rfl | rfl <;> decide) ?_
        refine w_if_ne (g := 73) d_149_44 (by decide) (hmod j) (fun h44 => ?_) (fun h44 => ?_)
        · refine w_ld d_149_73 rfl rfl rfl ?_
          refine w_ld d_149_75 rfl rfl rfl ?_
          refine w_getF d_149_76 (by rfl) (by first | rfl | assumption) (by rfl) (by rfl) ?_
          refine w_ld d_149_79 rfl rfl rfl ?_
          refine w_aI d_149_81 (by first | rfl | assumption) (by omega) (by (try simp only [Nat.reduceAdd]) <;> rfl) ?_
          refine w_iadd d_149_82 ?_
          refine w_st1 (L' := [_, _, _, _, _, _, _]) d_149_83 rfl (by decide) rfl (by decide) rfl ?_
          refine w_inc (L' := [_, _, _, _, _, _, _]) d_149_85 rfl (by decide) rfl ?_
          refine w_goto (g := 26) d_149_88 (by decide) ?_
          refine ih _ (by omega) (j + 1) rfl (by omega) (fun m hm2 hk => ?_)
          by_cases hq2 : s * m = j
          · first
            | (rw [hq2]; exact h60)
            | exact absurd ((tmod_nat j s hs).mpr ⟨m, hq2.symm⟩) h44
          · exact hj m (by omega) hk
        · refine w_ld d_149_47 rfl rfl rfl ?_
          refine w_getF d_149_48 (by rfl) (by first | rfl | assumption) (by rfl) (by rfl) ?_
          refine w_ld d_149_51 rfl rfl rfl ?_
          refine w_aI d_149_52 (by first | rfl | assumption) (by omega) (by (try simp only [Nat.reduceAdd]) <;> rfl) ?_
          refine w_ld d_149_53 rfl rfl rfl ?_
          refine w_getF d_149_54 (by rfl) (by first | rfl | assumption) (by rfl) (by rfl) ?_
          refine w_ld d_149_57 rfl rfl rfl ?_
          refine w_aI d_149_59 (by first | rfl | assumption) (by omega) (by (try simp only [Nat.reduceAdd]) <;> rfl) ?_
          refine w_icmp_ne (g := 73) d_149_60 (by decide) (by omega) (fun h60 => ?_) (fun h60 => ?_)
          · refine w_ld d_149_73 rfl rfl rfl ?_
            refine w_ld d_149_75 rfl rfl rfl ?_
            refine w_getF d_149_76 (by rfl) (by first | rfl | assumption) (by rfl) (by rfl) ?_
            refine w_ld d_149_79 rfl rfl rfl ?_
            refine w_aI d_149_81 (by first | rfl | assumption) (by omega) (by (try simp only [Nat.reduceAdd]) <;> rfl) ?_
            refine w_iadd d_149_82 ?_
            refine w_st1 (L' := [_, _, _, _, _, _, _]) d_149_83 rfl (by decide) rfl (by decide) rfl ?_
            refine w_inc (L' := [_, _, _, _, _, _, _]) d_149_85 rfl (by decide) rfl ?_
            refine w_goto (g := 26) d_149_88 (by decide) ?_
            refine ih _ (by omega) (j + 1) rfl (by omega) (fun m hm2 hk => ?_)
            by_cases hq2 : s * m = j
            · first
              | (rw [hq2]; exact h60)
              | exact absurd ((tmod_nat j s hs).mpr ⟨m, hq2.symm⟩) h44
            · exact hj m (by omega) hk
          · refine w_ld d_149_63 rfl rfl rfl ?_
            refine w_ld d_149_64 rfl rfl rfl ?_
            refine w_getF d_149_65 (by rfl) (by first | rfl | assumption) (by rfl) (by rfl) ?_
            refine w_ld d_149_68 rfl rfl rfl ?_
            refine w_aI d_149_69 (by first | rfl | assumption) (by omega) (by (try simp only [Nat.reduceAdd]) <;> rfl) ?_
            refine w_cV0 (a := 46) (as := [_]) (rest := _) rfl d_149_70 (by rfl) (by rfl) (by first | rfl | assumption) (by rfl) (by rfl) (Nat.le_of_ble_eq_true rfl) (by omega) (by omega) ef ?_
            obtain ⟨k, hk⟩ := (tmod_nat q s hs).mp h37
            obtain ⟨m2, hm2⟩ := (tmod_nat j s hs).mp h44
            have kx := KX k m2 hk (by omega) (by rw [← hm2]; exact h60)
            have rest := m_dblS_j (sc := sc) (fr := fr) (lo := lo) (ρ := ρ) (μ := stI μ 46 16 (μ.2.2 55 (pt (vM μ) v q))) hs hv hP hp0 (by rw [stI_at]; omega) hf hl (q := q) hq kx j (by omega)
            exact rest
theorem m_dblB_o {sc : Nat × (Nat → Int32)} {fr lo : Nat} {μ : Mem} {ρ : Nat × Nat × Nat} {v : Int} {s : Nat} (hs : s = 1 ∨ s = 2) (hv : 0 ≤ v ∧ v < 384) (hP : 0 ≤ μ.2.2 53 v ∧ μ.2.2 53 v ≤ 240) (hp0 : ∀ n : Nat, (n : Int) < μ.2.2 53 v → (0 ≤ pt (vM μ) v n ∧ pt (vM μ) v n < 384) ∧ mok μ (pt (vM μ) v n) ∧ 0 ≤ μ.2.2 55 (pt (vM μ) v n) ∧ μ.2.2 55 (pt (vM μ) v n) ≤ 1000) (h16 : μ.1 46 16 = -1)  (hf : 2 ≤ fr) (hl : 100 ≤ lo) : ∀ (m : Nat) (q : Nat), (μ.2.2 53 v - q).toNat = m → (q : Int) ≤ μ.2.2 53 v → (∀ k : Nat, s * k < q → ¬ (∃ j : Nat, j < k ∧ μ.2.2 56 (pt (vM μ) v (s * k)) = μ.2.2 56 (pt (vM μ) v (s * j)))) →  w_P sc fr lo 149 7 7 false (none) prog_9_method_36_code 7 [some (.ref 46), some (.int (ji v)), some (.int (ji (s : Int))), some (.int (ji (pt (vM μ) v q))), some (.int (ji (q : Int))), none, none] [] (hp (μ), ρ) (fun o t' => o = .inl none ∧ ((∀ k : Nat, ((s * k : Nat) : Int) < μ.2.2 53 v → ¬ (∃ j : Nat, j < k ∧ μ.2.2 56 (pt (vM μ) v (s * k)) = μ.2.2 56 (pt (vM μ) v (s * j)))) ∧ t' = (hp μ, ρ) ∨ ∃ k : Nat, ((s * k : Nat) : Int) < μ.2.2 53 v ∧ (∃ j : Nat, j < k ∧ μ.2.2 56 (pt (vM μ) v (s * k)) = μ.2.2 56 (pt (vM μ) v (s * j))) ∧ (∀ k' : Nat, k' < k → ¬ (∃ j : Nat, j < k' ∧ μ.2.2 56 (pt (vM μ) v (s * k')) = μ.2.2 56 (pt (vM μ) v (s * j)))) ∧ t' = (hp (stI μ 46 16 (μ.2.2 55 (pt (vM μ) v (s * k)))), ρ))) := by
  intro m
  induction m using Nat.strongRecOn with
  | ind m ih =>
    intro q hm hq hqs
    refine w_ld d_149_7 rfl rfl rfl ?_
    refine w_ld d_149_9 rfl rfl rfl ?_
    refine w_getF d_149_10 (by rfl) (by first | rfl | assumption) (by rfl) (by rfl) ?_
    refine w_ld d_149_13 rfl rfl rfl ?_
    refine w_aI d_149_14 (by first | rfl | assumption) (by omega) (by (try simp only [Nat.reduceAdd]) <;> rfl) ?_
    refine w_icmp_ge (g := 106) d_149_15 (by decide) (by omega) (fun h15 => ?_) (fun h15 => ?_)
    · refine w_ret d_149_106 rfl ?_
      exact ⟨rfl, Or.inl ⟨fun k hk2 => hqs k (by omega), rfl⟩⟩
    · have a := hp0 q h15
      obtain ⟨a1, a2, a3, a4, a5, a6, a7⟩ := a.2.1
      refine w_ld d_149_18 rfl rfl rfl ?_
      refine w_con d_149_19 ?_
      refine w_iadd d_149_20 ?_
      refine w_st1 (L' := [_, _, _, _, _, _, _]) d_149_21 rfl (by decide) rfl (by decide) rfl ?_
      refine w_con d_149_23 ?_
      refine w_st1 (L' := [_, _, _, _, _, _, _]) d_149_24 rfl (by decide) rfl (by decide) rfl ?_
      refine m_dblB_i hs hv hP hp0 h16 hf hl h15 (fun hno => ?_) (fun k m hk hm2 he => ?_) _ 0 rfl (Nat.zero_le _) (fun m hm2 _ => absurd hm2 (Nat.not_lt_zero _))
      · refine w_ld d_149_91 rfl rfl rfl ?_
        refine w_ld d_149_92 rfl rfl rfl ?_
        refine w_getF d_149_93 (by rfl) (by first | rfl | assumption) (by rfl) (by rfl) ?_
        refine w_ld d_149_96 rfl rfl rfl ?_
        refine w_aI d_149_97 (by first | rfl | assumption) (by omega) (by (try simp only [Nat.reduceAdd]) <;> rfl) ?_
        refine w_iadd d_149_98 ?_
        refine w_st1 (L' := [_, _, _, _, _, _, _]) d_149_99 rfl (by decide) rfl (by decide) rfl ?_
        refine w_inc (L' := [_, _, _, _, _, _, _]) d_149_100 rfl (by decide) rfl ?_
        refine w_goto (g := 7) d_149_103 (by decide) ?_
        exact w_P.le (ih _ (by omega) (q + 1) rfl (by omega) (fun k hk2 => by
          by_cases z : s * k = q
          · rintro ⟨j, hj, he⟩
            rw [z] at he
            exact hno j (by rw [← z]; exact Nat.mul_lt_mul_of_pos_left hj (by omega)) ⟨k, z.symm⟩ he
          · exact hqs k (by omega))) ⟨rfl, rfl, rfl, rfl, rfl, trivial⟩
      · refine w_ld d_149_91 rfl rfl rfl ?_
        refine w_ld d_149_92 rfl rfl rfl ?_
        refine w_getF d_149_93 (by rfl) (by first | rfl | assumption) (by rfl) (by rfl) ?_
        refine w_ld d_149_96 rfl rfl rfl ?_
        refine w_aI d_149_97 (by first | rfl | assumption) (by omega) (by (try simp only [Nat.reduceAdd]) <;> rfl) ?_
        refine w_iadd d_149_98 ?_
        refine w_st1 (L' := [_, _, _, _, _, _, _]) d_149_99 rfl (by decide) rfl (by decide) rfl ?_
        refine w_inc (L' := [_, _, _, _, _, _, _]) d_149_100 rfl (by decide) rfl ?_
        refine w_goto (g := 7) d_149_103 (by decide) ?_
        have e := m_dblS_o (sc := sc) (fr := fr) (lo := lo) (ρ := ρ) (μ := stI μ 46 16 (μ.2.2 55 (pt (vM μ) v q))) hs hv hP hp0 (by rw [stI_at]; omega) hf hl _ (q + 1) rfl (by show ((q + 1 : Nat) : Int) ≤ μ.2.2 53 v; omega)
        subst hk
        refine w_P.le (w_P.mono ?_ e) ⟨rfl, rfl, rfl, rfl, rfl, trivial⟩
        rintro o t ⟨rfl, rfl⟩
        have hmk : m < k := Nat.lt_of_mul_lt_mul_left hm2
        exact ⟨rfl, Or.inr ⟨k, h15, ⟨m, hmk, he⟩, fun k' hk' => hqs k' (Nat.mul_lt_mul_of_pos_left hk' (by omega)), rfl⟩⟩
theorem m_doublesB {sc : Nat × (Nat → Int32)} {fr lo : Nat} {μ : Mem} {ρ : Nat × Nat × Nat} {v : Int} {s : Nat} (hs : s = 1 ∨ s = 2) (hv : 0 ≤ v ∧ v < 384) (hP : 0 ≤ μ.2.2 53 v ∧ μ.2.2 53 v ≤ 240) (hp0 : ∀ n : Nat, (n : Int) < μ.2.2 53 v → (0 ≤ pt (vM μ) v n ∧ pt (vM μ) v n < 384) ∧ mok μ (pt (vM μ) v n) ∧ 0 ≤ μ.2.2 55 (pt (vM μ) v n) ∧ μ.2.2 55 (pt (vM μ) v n) ≤ 1000) (h16 : μ.1 46 16 = -1)  (hf : 2 ≤ fr) (hl : 100 ≤ lo) : w_S sc fr lo 149 [.ref 46, .int (ji v), .int (ji (s : Int))] (hp μ, ρ) (fun o t' => o = .inl none ∧ ((∀ k : Nat, ((s * k : Nat) : Int) < μ.2.2 53 v → ¬ (∃ j : Nat, j < k ∧ μ.2.2 56 (pt (vM μ) v (s * k)) = μ.2.2 56 (pt (vM μ) v (s * j)))) ∧ t' = (hp μ, ρ) ∨ ∃ k : Nat, ((s * k : Nat) : Int) < μ.2.2 53 v ∧ (∃ j : Nat, j < k ∧ μ.2.2 56 (pt (vM μ) v (s * k)) = μ.2.2 56 (pt (vM μ) v (s * j))) ∧ (∀ k' : Nat, k' < k → ¬ (∃ j : Nat, j < k' ∧ μ.2.2 56 (pt (vM μ) v (s * k')) = μ.2.2 56 (pt (vM μ) v (s * j)))) ∧ t' = (hp (stI μ 46 16 (μ.2.2 55 (pt (vM μ) v (s * k)))), ρ))) := by
  refine w_S.of (L0 := [some (.ref 46), some (.int (ji v)), some (.int (ji (s : Int))), none, none, none, none]) rfl rfl (Nat.le_of_ble_eq_true rfl) (by rfl) ?_
  refine w_ld d_149_0 rfl rfl rfl ?_
  refine w_con d_149_1 ?_
  refine w_iadd d_149_2 ?_
  refine w_st1 (L' := [_, _, _, _, _, _, _]) d_149_3 rfl (by decide) rfl (by decide) rfl ?_
  refine w_con d_149_4 ?_
  refine w_st1 (L' := [_, _, _, _, _, _, _]) d_149_5 rfl (by decide) rfl (by decide) rfl ?_
  exact m_dblB_o hs hv hP hp0 h16 hf hl _ 0 rfl (by omega) (fun k hk2 => absurd hk2 (Nat.not_lt_zero _))
