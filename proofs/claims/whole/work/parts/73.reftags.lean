/-! THE PURE PART, 55: contracts: the reference's raw word as a whole; its tags -/
/-- the memory before the loop of readRaw; when the raw word has been read -/
def rM0 (μ : Mem) : Mem := stI (stI μ 46 24 (480 + μ.1 46 18)) 46 15 (μ.1 46 15 + 1)
def rM (μ : Mem) (l : List Int) (q : Int) : Mem := stI (stI (stI (apM (rM0 μ) l) 46 15 q) 46 25 (480 + (μ.1 46 18 + l.length) - (480 + μ.1 46 18))) 46 15 (q + 1)
theorem apM_at {μ : Mem} {l : List Int} : (apM μ l).1 46 18 = μ.1 46 18 + l.length := by
  show (if 46 = 46 ∧ 18 = 18 then μ.1 46 18 + (l.length : Int) else μ.1 46 18) = _
  rw [if_pos ⟨rfl, rfl⟩]
theorem apM_ne {μ : Mem} {b q : Nat} {l : List Int} (h : ¬ (b = 46 ∧ q = 18)) : (apM μ l).1 b q = μ.1 b q := by
  unfold apM
  exact if_neg h
theorem rM_f {μ : Mem} {l : List Int} {q : Int} : (rM μ l q).1 46 15 = q + 1 ∧ (rM μ l q).1 46 18 = μ.1 46 18 + l.length ∧ (rM μ l q).1 46 24 = 480 + μ.1 46 18 ∧ (rM μ l q).1 46 25 = l.length ∧ (∀ a p, ¬ (a = 46 ∧ (p = 15 ∨ p = 18 ∨ p = 24 ∨ p = 25)) → (rM μ l q).1 a p = μ.1 a p) ∧ (rM μ l q).2.1 = μ.2.1 ∧ (∀ a, a ≠ 57 → (rM μ l q).2.2 a = μ.2.2 a) ∧ ∀ i, (rM μ l q).2.2 57 i = if 480 + μ.1 46 18 ≤ i ∧ i < 480 + μ.1 46 18 + l.length then l.getD (i - (480 + μ.1 46 18)).toNat 0 else μ.2.2 57 i := by
  have e18 : (rM0 μ).1 46 18 = μ.1 46 18 := by unfold rM0; rw [stI_ne (by decide), stI_ne (by decide)]
  refine ⟨stI_at _ _ _ _, ?_, ?_, ?_, fun a p h => ?_, rfl, fun a h => ?_, fun i => ?_⟩
  · unfold rM
    rw [stI_ne (by decide), stI_ne (by decide), stI_ne (by decide), apM_at, e18]
  · unfold rM
    rw [stI_ne (by decide), stI_ne (by decide), stI_ne (by decide), apM_ne (by decide)]
    unfold rM0
    rw [stI_ne (by decide), stI_at]
  · unfold rM
    rw [stI_ne (by decide), stI_at]
    omega
  · unfold rM
    rw [stI_ne (by omega), stI_ne (by omega), stI_ne (by omega), apM_ne (by omega)]
    unfold rM0
    rw [stI_ne (by omega), stI_ne (by omega)]
  · funext i
    show (if a = 57 ∧ _ then _ else μ.2.2 a i) = _
    rw [if_neg (fun z => h z.1)]
  · show (if 57 = 57 ∧ 480 + (rM0 μ).1 46 18 ≤ i ∧ i < 480 + (rM0 μ).1 46 18 + (l.length : Int) then l.getD (i - (480 + (rM0 μ).1 46 18)).toNat 0 else μ.2.2 57 i) = _
    rw [e18]
    by_cases z : 480 + μ.1 46 18 ≤ i ∧ i < 480 + μ.1 46 18 + (l.length : Int)
    · rw [if_pos ⟨rfl, z⟩, if_pos z]
    · rw [if_neg (fun w => z w.2), if_neg z]
theorem m_readRaw {sc : Nat × (Nat → Int32)} {fr lo : Nat} {μ : Mem} {ρ : Nat × Nat × Nat} (h16 : μ.1 46 16 = -1) (hn : 0 ≤ μ.1 46 3 ∧ μ.1 46 3 ≤ 240) (hch : ∀ k, 0 ≤ μ.2.2 47 k ∧ μ.2.2 47 k < 65536) (h32 : ∀ k, 0 ≤ k → k < μ.1 46 3 → 32 ≤ μ.2.2 47 k) (hpl : 0 ≤ μ.1 46 15 ∧ μ.1 46 15 < μ.1 46 3) (hu : 0 ≤ μ.1 46 18 ∧ μ.1 46 18 ≤ μ.1 46 15) (hf : 10 ≤ fr) (hl : 300 ≤ lo) {q : Int} {l : List Int} (hrw : rw' (μ.2.2 47) (μ.1 46 3) (μ.1 46 15 + 1) = .inr (q, l)) : w_E sc fr lo 125 [.ref 46] (hp μ, ρ) (.inl none) (hp (rM μ l q), ρ) := by
  have m15 : (rM0 μ).1 46 15 = μ.1 46 15 + 1 := stI_at _ _ _ _
  have m18 : (rM0 μ).1 46 18 = μ.1 46 18 := by unfold rM0; rw [stI_ne (by decide), stI_ne (by decide)]
  have m16 : (rM0 μ).1 46 16 = -1 := by unfold rM0; rw [stI_ne (by decide), stI_ne (by decide)]; exact h16
  refine w_S.of (L0 := [some (.ref 46), none]) rfl rfl (Nat.le_of_ble_eq_true rfl) (by rfl) ?_
  refine w_ld d_125_0 rfl rfl rfl ?_
  refine w_sip d_125_1 (by decide) ?_
  refine w_ld d_125_4 rfl rfl rfl ?_
  refine w_gI d_125_5 (by rfl) (by first | rfl | assumption) (by rfl) rfl ?_
  refine w_iadd d_125_8 ?_
  refine w_putI d_125_9 (by rfl) (by first | rfl | assumption) (by rfl) (fit_I (by rfl)) (by rfl) ?_
  refine w_ld d_125_12 rfl rfl rfl ?_
  refine w_stk d_125_13 rfl ?_
  refine w_gI d_125_14 (by rfl) (by first | rfl | assumption) (by rfl) rfl ?_
  refine w_con d_125_17 ?_
  refine w_iadd d_125_18 ?_
  refine w_putI d_125_19 (by rfl) (by first | rfl | assumption) (by rfl) (fit_I (by rfl)) (by rfl) ?_
  have HL := m_readRaw_l (sc := sc) (fr := fr) (lo := lo) (ρ := ρ) (Q := (fun o t' => o = .inl none ∧ t' = (hp (rM μ l q), ρ))) (by omega) (by omega) _ (rM0 μ) rfl m16 hn hch h32 (by rw [m15]; show _ ∧ _ ≤ μ.1 46 3; omega) (by rw [m18, m15]; show _ ∧ _ + (μ.1 46 3 - _) ≤ _; omega)
  rw [m15] at HL
  refine w_P.le (HL (fun q' l' h => ?_) (fun w' μ' h hw _ => absurd (hrw.symm.trans h) (by intro z; cases z))) ⟨rfl, trivial⟩
  cases hrw.symm.trans h
  have d18 : (stI (apM (rM0 μ) l) 46 15 q).1 46 18 = μ.1 46 18 + l.length := by rw [stI_ne (by decide), apM_at, m18]
  have d24 : (stI (apM (rM0 μ) l) 46 15 q).1 46 24 = 480 + μ.1 46 18 := by
    rw [stI_ne (by decide), apM_ne (by decide)]
    unfold rM0
    rw [stI_ne (by decide), stI_at]
  have d15 : (stI (stI (apM (rM0 μ) l) 46 15 q) 46 25 (480 + (μ.1 46 18 + l.length) - (480 + μ.1 46 18))).1 46 15 = q := by rw [stI_ne (by decide), stI_at]
  refine w_ld d_125_165 rfl rfl rfl ?_
  refine w_sip d_125_166 (by decide) ?_
  refine w_ld d_125_169 rfl rfl rfl ?_
  refine w_gI d_125_170 (by rfl) (by first | rfl | assumption) (by rfl) (show _ = μ.1 46 18 + (l.length : Int) from d18) ?_
  refine w_iadd d_125_173 ?_
  refine w_ld d_125_174 rfl rfl rfl ?_
  refine w_gI d_125_175 (by rfl) (by first | rfl | assumption) (by rfl) (show _ = 480 + μ.1 46 18 from d24) ?_
  refine w_isub d_125_178 ?_
  refine w_putI d_125_179 (by rfl) (by first | rfl | assumption) (by rfl) (fit_I (by rfl)) (by rfl) ?_
  refine w_ld d_125_182 rfl rfl rfl ?_
  refine w_stk d_125_183 rfl ?_
  refine w_gI d_125_184 (by rfl) (by first | rfl | assumption) (by rfl) (show _ = q from d15) ?_
  refine w_con d_125_187 ?_
  refine w_iadd d_125_188 ?_
  refine w_putI d_125_189 (by rfl) (by first | rfl | assumption) (by rfl) (fit_I (by rfl)) (by rfl) ?_
  refine w_ret d_125_192 rfl ?_
  exact ⟨rfl, rfl⟩
theorem m_readRawx {sc : Nat × (Nat → Int32)} {fr lo : Nat} {μ : Mem} {ρ : Nat × Nat × Nat} (h16 : μ.1 46 16 = -1) (hn : 0 ≤ μ.1 46 3 ∧ μ.1 46 3 ≤ 240) (hch : ∀ k, 0 ≤ μ.2.2 47 k ∧ μ.2.2 47 k < 65536) (h32 : ∀ k, 0 ≤ k → k < μ.1 46 3 → 32 ≤ μ.2.2 47 k) (hpl : 0 ≤ μ.1 46 15 ∧ μ.1 46 15 < μ.1 46 3) (hu : 0 ≤ μ.1 46 18 ∧ μ.1 46 18 ≤ μ.1 46 15) (hf : 10 ≤ fr) (hl : 300 ≤ lo) {w : Int} (hrw : rw' (μ.2.2 47) (μ.1 46 3) (μ.1 46 15 + 1) = .inl w) : w_S sc fr lo 125 [.ref 46] (hp μ, ρ) (fun o t' => ∃ μ', o = .inl none ∧ (mbad μ μ' w ∧ ∀ k, (0 ≤ μ.2.2 57 k ∧ μ.2.2 57 k < 65536) → 0 ≤ μ'.2.2 57 k ∧ μ'.2.2 57 k < 65536) ∧ t' = (hp μ', ρ)) := by
  have m15 : (rM0 μ).1 46 15 = μ.1 46 15 + 1 := stI_at _ _ _ _
  have m18 : (rM0 μ).1 46 18 = μ.1 46 18 := by unfold rM0; rw [stI_ne (by decide), stI_ne (by decide)]
  have m16 : (rM0 μ).1 46 16 = -1 := by unfold rM0; rw [stI_ne (by decide), stI_ne (by decide)]; exact h16
  refine w_S.of (L0 := [some (.ref 46), none]) rfl rfl (Nat.le_of_ble_eq_true rfl) (by rfl) ?_
  refine w_ld d_125_0 rfl rfl rfl ?_
  refine w_sip d_125_1 (by decide) ?_
  refine w_ld d_125_4 rfl rfl rfl ?_
  refine w_gI d_125_5 (by rfl) (by first | rfl | assumption) (by rfl) rfl ?_
  refine w_iadd d_125_8 ?_
  refine w_putI d_125_9 (by rfl) (by first | rfl | assumption) (by rfl) (fit_I (by rfl)) (by rfl) ?_
  refine w_ld d_125_12 rfl rfl rfl ?_
  refine w_stk d_125_13 rfl ?_
  refine w_gI d_125_14 (by rfl) (by first | rfl | assumption) (by rfl) rfl ?_
  refine w_con d_125_17 ?_
  refine w_iadd d_125_18 ?_
  refine w_putI d_125_19 (by rfl) (by first | rfl | assumption) (by rfl) (fit_I (by rfl)) (by rfl) ?_
  have HL := m_readRaw_l (sc := sc) (fr := fr) (lo := lo) (ρ := ρ) (Q := (fun o t' => ∃ μ', o = .inl none ∧ (mbad μ μ' w ∧ ∀ k, (0 ≤ μ.2.2 57 k ∧ μ.2.2 57 k < 65536) → 0 ≤ μ'.2.2 57 k ∧ μ'.2.2 57 k < 65536) ∧ t' = (hp μ', ρ))) (by omega) (by omega) _ (rM0 μ) rfl m16 hn hch h32 (by rw [m15]; show _ ∧ _ ≤ μ.1 46 3; omega) (by rw [m18, m15]; show _ ∧ _ + (μ.1 46 3 - _) ≤ _; omega)
  rw [m15] at HL
  refine w_P.le (HL (fun q' l' h => absurd (hrw.symm.trans h) (by intro z; cases z)) (fun w' μ' h hw hw2 => ?_)) ⟨rfl, trivial⟩
  cases hrw.symm.trans h
  refine w_ld d_125_165 rfl rfl rfl ?_
  refine w_sip d_125_166 (by decide) ?_
  refine w_ld d_125_169 rfl rfl rfl ?_
  refine w_gI d_125_170 (by rfl) (by first | rfl | assumption) (by rfl) rfl ?_
  refine w_iadd d_125_173 ?_
  refine w_ld d_125_174 rfl rfl rfl ?_
  refine w_gI d_125_175 (by rfl) (by first | rfl | assumption) (by rfl) rfl ?_
  refine w_isub d_125_178 ?_
  refine w_putI d_125_179 (by rfl) (by first | rfl | assumption) (by rfl) (fit_I (by rfl)) (by rfl) ?_
  refine w_ld d_125_182 rfl rfl rfl ?_
  refine w_stk d_125_183 rfl ?_
  refine w_gI d_125_184 (by rfl) (by first | rfl | assumption) (by rfl) rfl ?_
  refine w_con d_125_187 ?_
  refine w_iadd d_125_188 ?_
  refine w_putI d_125_189 (by rfl) (by first | rfl | assumption) (by rfl) (fit_I (by rfl)) (by rfl) ?_
  refine w_ret d_125_192 rfl ?_
  refine ⟨_, rfl, ⟨⟨mfr_trans (mfr_I (q := 24) (v := 480 + μ.1 46 18) (by decide)) (mfr_trans (mfr_I (q := 15) (v := μ.1 46 15 + 1) (by decide)) (mfr_trans hw.1 (mfr_trans (mfr_I (by decide)) (mfr_I (by decide))))), ?_, ?_⟩, hw2⟩, rfl⟩
  · exact hw.2.1
  · show 0 ≤ μ'.1 46 15 + 1 ∧ μ'.1 46 15 + 1 ≤ 900
    have := hw.2.2
    omega
/-- the tag is the literal k -/
def tgk (w : Int → Int) (s : Int) (k : Nat) : Prop := s = slen k + 2 ∧ ∀ j, 0 ≤ j → j < slen k → w (2 + j) = sch k j
theorem m_isTag1 {sc : Nat × (Nat → Int32)} {fr lo : Nat} {μ : Mem} {ρ : Nat × Nat × Nat} (hr : 0 ≤ μ.1 46 24 ∧ 0 ≤ μ.1 46 25 ∧ μ.1 46 24 + μ.1 46 25 ≤ 720 ∧ μ.1 46 25 ≤ 240) (hw : ∀ i, 0 ≤ i → i < μ.1 46 25 → 32 ≤ μ.2.2 57 (μ.1 46 24 + i) ∧ μ.2.2 57 (μ.1 46 24 + i) ≤ 126) (hf : 6 ≤ fr) (hl : 200 ≤ lo) : w_E sc fr lo 132 [.ref 46, .int (ji 39), .int (ji 0), .int (ji 0), .int (ji 0)] (hp μ, ρ) (.inl (some (.int (ji (b01 (tgk (fun i => μ.2.2 57 (μ.1 46 24 + i)) (μ.1 46 25) 1)))))) (hp μ, ρ) := by
  have r2 : w_E sc (fr - 1) (lo - (19 + 2)) 127 [.ref 46, .int (ji 2)] (hp μ, ρ) (.inl (some (.int (ji (wl0 (fun i => μ.2.2 57 (μ.1 46 24 + i)) (μ.1 46 25) 2))))) (hp μ, ρ) := m_rawLetter (by omega) (by decide)
  have r3 : w_E sc (fr - 1) (lo - (19 + 2)) 127 [.ref 46, .int (ji 3)] (hp μ, ρ) (.inl (some (.int (ji (wl0 (fun i => μ.2.2 57 (μ.1 46 24 + i)) (μ.1 46 25) 3))))) (hp μ, ρ) := m_rawLetter (by omega) (by decide)
  have r4 : w_E sc (fr - 1) (lo - (19 + 2)) 127 [.ref 46, .int (ji 4)] (hp μ, ρ) (.inl (some (.int (ji (wl0 (fun i => μ.2.2 57 (μ.1 46 24 + i)) (μ.1 46 25) 4))))) (hp μ, ρ) := m_rawLetter (by omega) (by decide)
  have r5 : w_E sc (fr - 1) (lo - (19 + 2)) 127 [.ref 46, .int (ji 5)] (hp μ, ρ) (.inl (some (.int (ji (wl0 (fun i => μ.2.2 57 (μ.1 46 24 + i)) (μ.1 46 25) 5))))) (hp μ, ρ) := m_rawLetter (by omega) (by decide)
  have l2 := wl_wl0 (w := (fun i => μ.2.2 57 (μ.1 46 24 + i))) (s := (μ.1 46 25)) hw (k := 2) (by decide)
  have l3 := wl_wl0 (w := (fun i => μ.2.2 57 (μ.1 46 24 + i))) (s := (μ.1 46 25)) hw (k := 3) (by decide)
  have l4 := wl_wl0 (w := (fun i => μ.2.2 57 (μ.1 46 24 + i))) (s := (μ.1 46 25)) hw (k := 4) (by decide)
  have l5 := wl_wl0 (w := (fun i => μ.2.2 57 (μ.1 46 24 + i))) (s := (μ.1 46 25)) hw (k := 5) (by decide)
  refine w_S.of (L0 := [some (.ref 46), some (.int (ji 39)), some (.int (ji 0)), some (.int (ji 0)), some (.int (ji 0)), none]) rfl rfl (Nat.le_of_ble_eq_true rfl) (by rfl) ?_
  refine w_ld d_132_0 rfl rfl rfl ?_
  refine w_if_le (g := 9) d_132_2 (by decide) (by decide) (fun h2 => ?_) (fun h2 => ?_)
  · refine w_ld d_132_9 rfl rfl rfl ?_
    refine w_if_le (g := 17) d_132_10 (by decide) (by decide) (fun h10 => ?_) (fun h10 => ?_)
    · refine w_con d_132_17 ?_
      refine w_st1 (L' := [_, _, _, _, _, _]) d_132_18 rfl (by decide) rfl (by decide) rfl ?_
      refine w_ld d_132_20 rfl rfl rfl ?_
      refine w_gI d_132_21 (by rfl) (by first | rfl | assumption) (by rfl) rfl ?_
      refine w_ld d_132_24 rfl rfl rfl ?_
      refine w_con d_132_26 ?_
      refine w_iadd d_132_27 ?_
      refine w_icmp_ne (g := 84) d_132_28 (by decide) (by omega) (fun h28 => ?_) (fun h28 => ?_)
      · refine w_con d_132_84 ?_
        refine w_zret d_132_85 rfl (by decide) ?_
        rw [b01_f (show ¬ (tgk (fun i => μ.2.2 57 (μ.1 46 24 + i)) (μ.1 46 25) 1) from fun z => ?_)]
        · exact ⟨rfl, rfl⟩
        · exact h28 (z.1.trans (by decide))
      · refine w_ld d_132_31 rfl rfl rfl ?_
        refine w_con d_132_32 ?_
        refine w_cV1 (a := 46) (as := [_]) (rest := _) rfl d_132_33 (by rfl) (by rfl) (by first | rfl | assumption) (by rfl) (by rfl) (Nat.le_of_ble_eq_true rfl) (by omega) (by omega) r2 ?_
        refine w_ld d_132_36 rfl rfl rfl ?_
        refine w_icmp_ne (g := 84) d_132_37 (by decide) (by omega) (fun h37 => ?_) (fun h37 => ?_)
        · refine w_con d_132_84 ?_
          refine w_zret d_132_85 rfl (by decide) ?_
          rw [b01_f (show ¬ (tgk (fun i => μ.2.2 57 (μ.1 46 24 + i)) (μ.1 46 25) 1) from fun z => ?_)]
          · exact ⟨rfl, rfl⟩
          · have hs : μ.1 46 25 = 3 := z.1.trans (by decide)
            have h1 : μ.2.2 57 (μ.1 46 24 + (2 + 0)) = 39 := z.2 0 (by decide) (by decide)
            have h2 : (wl0 (fun i => μ.2.2 57 (μ.1 46 24 + i)) (μ.1 46 25) 2) = μ.2.2 57 (μ.1 46 24 + 2) := if_pos (by omega)
            have h1 : μ.2.2 57 (μ.1 46 24 + 2) = 39 := h1
            omega
        · refine w_ld d_132_40 rfl rfl rfl ?_
          refine w_con d_132_42 ?_
          refine w_icmp_lt (g := 64) d_132_43 (by decide) (by decide) (fun h43 => ?_) (fun h43 => ?_)
          · refine w_ld d_132_64 rfl rfl rfl ?_
            refine w_con d_132_66 ?_
            refine w_icmp_lt (g := 80) d_132_67 (by decide) (by decide) (fun h67 => ?_) (fun h67 => ?_)
            · refine w_con d_132_80 ?_
              refine w_goto (g := 85) d_132_81 (by decide) ?_
              refine w_zret d_132_85 rfl (by decide) ?_
              rw [b01_t (show (tgk (fun i => μ.2.2 57 (μ.1 46 24 + i)) (μ.1 46 25) 1) from ⟨by rw [h28]; decide, fun j j0 j1 => ?_⟩)]
              · exact ⟨rfl, rfl⟩
              · have j1 : j < 1 := j1
                have e0 : (wl0 (fun i => μ.2.2 57 (μ.1 46 24 + i)) (μ.1 46 25) 2) = μ.2.2 57 (μ.1 46 24 + 2) := if_pos (by omega)
                rcases (show j = 0 by omega) with rfl
                · show μ.2.2 57 (μ.1 46 24 + 2) = 39
                  omega
            · exact absurd h67 (by decide)
          · exact absurd h43 (by decide)
    · exact absurd h10 (by decide)
  · exact absurd h2 (by decide)
theorem m_isTag2 {sc : Nat × (Nat → Int32)} {fr lo : Nat} {μ : Mem} {ρ : Nat × Nat × Nat} (hr : 0 ≤ μ.1 46 24 ∧ 0 ≤ μ.1 46 25 ∧ μ.1 46 24 + μ.1 46 25 ≤ 720 ∧ μ.1 46 25 ≤ 240) (hw : ∀ i, 0 ≤ i → i < μ.1 46 25 → 32 ≤ μ.2.2 57 (μ.1 46 24 + i) ∧ μ.2.2 57 (μ.1 46 24 + i) ≤ 126) (hf : 6 ≤ fr) (hl : 200 ≤ lo) : w_E sc fr lo 132 [.ref 46, .int (ji 115), .int (ji 101), .int (ji 116), .int (ji 0)] (hp μ, ρ) (.inl (some (.int (ji (b01 (tgk (fun i => μ.2.2 57 (μ.1 46 24 + i)) (μ.1 46 25) 2)))))) (hp μ, ρ) := by
  have r2 : w_E sc (fr - 1) (lo - (19 + 2)) 127 [.ref 46, .int (ji 2)] (hp μ, ρ) (.inl (some (.int (ji (wl0 (fun i => μ.2.2 57 (μ.1 46 24 + i)) (μ.1 46 25) 2))))) (hp μ, ρ) := m_rawLetter (by omega) (by decide)
  have r3 : w_E sc (fr - 1) (lo - (19 + 2)) 127 [.ref 46, .int (ji 3)] (hp μ, ρ) (.inl (some (.int (ji (wl0 (fun i => μ.2.2 57 (μ.1 46 24 + i)) (μ.1 46 25) 3))))) (hp μ, ρ) := m_rawLetter (by omega) (by decide)
  have r4 : w_E sc (fr - 1) (lo - (19 + 2)) 127 [.ref 46, .int (ji 4)] (hp μ, ρ) (.inl (some (.int (ji (wl0 (fun i => μ.2.2 57 (μ.1 46 24 + i)) (μ.1 46 25) 4))))) (hp μ, ρ) := m_rawLetter (by omega) (by decide)
  have r5 : w_E sc (fr - 1) (lo - (19 + 2)) 127 [.ref 46, .int (ji 5)] (hp μ, ρ) (.inl (some (.int (ji (wl0 (fun i => μ.2.2 57 (μ.1 46 24 + i)) (μ.1 46 25) 5))))) (hp μ, ρ) := m_rawLetter (by omega) (by decide)
  have l2 := wl_wl0 (w := (fun i => μ.2.2 57 (μ.1 46 24 + i))) (s := (μ.1 46 25)) hw (k := 2) (by decide)
  have l3 := wl_wl0 (w := (fun i => μ.2.2 57 (μ.1 46 24 + i))) (s := (μ.1 46 25)) hw (k := 3) (by decide)
  have l4 := wl_wl0 (w := (fun i => μ.2.2 57 (μ.1 46 24 + i))) (s := (μ.1 46 25)) hw (k := 4) (by decide)
  have l5 := wl_wl0 (w := (fun i => μ.2.2 57 (μ.1 46 24 + i))) (s := (μ.1 46 25)) hw (k := 5) (by decide)
  refine w_S.of (L0 := [some (.ref 46), some (.int (ji 115)), some (.int (ji 101)), some (.int (ji 116)), some (.int (ji 0)), none]) rfl rfl (Nat.le_of_ble_eq_true rfl) (by rfl) ?_
  refine w_ld d_132_0 rfl rfl rfl ?_
  refine w_if_le (g := 9) d_132_2 (by decide) (by decide) (fun h2 => ?_) (fun h2 => ?_)
  · refine w_ld d_132_9 rfl rfl rfl ?_
    refine w_if_le (g := 17) d_132_10 (by decide) (by decide) (fun h10 => ?_) (fun h10 => ?_)
    · exact absurd h10 (by decide)
    · refine w_con d_132_13 ?_
      refine w_goto (g := 18) d_132_14 (by decide) ?_
      refine w_st1 (L' := [_, _, _, _, _, _]) d_132_18 rfl (by decide) rfl (by decide) rfl ?_
      refine w_ld d_132_20 rfl rfl rfl ?_
      refine w_gI d_132_21 (by rfl) (by first | rfl | assumption) (by rfl) rfl ?_
      refine w_ld d_132_24 rfl rfl rfl ?_
      refine w_con d_132_26 ?_
      refine w_iadd d_132_27 ?_
      refine w_icmp_ne (g := 84) d_132_28 (by decide) (by omega) (fun h28 => ?_) (fun h28 => ?_)
      · refine w_con d_132_84 ?_
        refine w_zret d_132_85 rfl (by decide) ?_
        rw [b01_f (show ¬ (tgk (fun i => μ.2.2 57 (μ.1 46 24 + i)) (μ.1 46 25) 2) from fun z => ?_)]
        · exact ⟨rfl, rfl⟩
        · exact h28 (z.1.trans (by decide))
      · refine w_ld d_132_31 rfl rfl rfl ?_
        refine w_con d_132_32 ?_
        refine w_cV1 (a := 46) (as := [_]) (rest := _) rfl d_132_33 (by rfl) (by rfl) (by first | rfl | assumption) (by rfl) (by rfl) (Nat.le_of_ble_eq_true rfl) (by omega) (by omega) r2 ?_
        refine w_ld d_132_36 rfl rfl rfl ?_
        refine w_icmp_ne (g := 84) d_132_37 (by decide) (by omega) (fun h37 => ?_) (fun h37 => ?_)
        · refine w_con d_132_84 ?_
          refine w_zret d_132_85 rfl (by decide) ?_
          rw [b01_f (show ¬ (tgk (fun i => μ.2.2 57 (μ.1 46 24 + i)) (μ.1 46 25) 2) from fun z => ?_)]
          · exact ⟨rfl, rfl⟩
          · have hs : μ.1 46 25 = 5 := z.1.trans (by decide)
            have h1 : μ.2.2 57 (μ.1 46 24 + (2 + 0)) = 115 := z.2 0 (by decide) (by decide)
            have h2 : (wl0 (fun i => μ.2.2 57 (μ.1 46 24 + i)) (μ.1 46 25) 2) = μ.2.2 57 (μ.1 46 24 + 2) := if_pos (by omega)
            have h1 : μ.2.2 57 (μ.1 46 24 + 2) = 115 := h1
            omega
        · refine w_ld d_132_40 rfl rfl rfl ?_
          refine w_con d_132_42 ?_
          refine w_icmp_lt (g := 64) d_132_43 (by decide) (by decide) (fun h43 => ?_) (fun h43 => ?_)
          · exact absurd h43 (by decide)
          · refine w_ld d_132_46 rfl rfl rfl ?_
            refine w_con d_132_47 ?_
            refine w_cV1 (a := 46) (as := [_]) (rest := _) rfl d_132_48 (by rfl) (by rfl) (by first | rfl | assumption) (by rfl) (by rfl) (Nat.le_of_ble_eq_true rfl) (by omega) (by omega) r3 ?_
            refine w_ld d_132_51 rfl rfl rfl ?_
            refine w_icmp_ne (g := 84) d_132_52 (by decide) (by omega) (fun h52 => ?_) (fun h52 => ?_)
            · refine w_con d_132_84 ?_
              refine w_zret d_132_85 rfl (by decide) ?_
              rw [b01_f (show ¬ (tgk (fun i => μ.2.2 57 (μ.1 46 24 + i)) (μ.1 46 25) 2) from fun z => ?_)]
              · exact ⟨rfl, rfl⟩
              · have hs : μ.1 46 25 = 5 := z.1.trans (by decide)
                have h1 : μ.2.2 57 (μ.1 46 24 + (2 + 1)) = 101 := z.2 1 (by decide) (by decide)
                have h2 : (wl0 (fun i => μ.2.2 57 (μ.1 46 24 + i)) (μ.1 46 25) 3) = μ.2.2 57 (μ.1 46 24 + 3) := if_pos (by omega)
                have h1 : μ.2.2 57 (μ.1 46 24 + 3) = 101 := h1
                omega
            · refine w_ld d_132_55 rfl rfl rfl ?_
              refine w_con d_132_56 ?_
              refine w_cV1 (a := 46) (as := [_]) (rest := _) rfl d_132_57 (by rfl) (by rfl) (by first | rfl | assumption) (by rfl) (by rfl) (Nat.le_of_ble_eq_true rfl) (by omega) (by omega) r4 ?_
              refine w_ld d_132_60 rfl rfl rfl ?_
              refine w_icmp_ne (g := 84) d_132_61 (by decide) (by omega) (fun h61 => ?_) (fun h61 => ?_)
              · refine w_con d_132_84 ?_
                refine w_zret d_132_85 rfl (by decide) ?_
                rw [b01_f (show ¬ (tgk (fun i => μ.2.2 57 (μ.1 46 24 + i)) (μ.1 46 25) 2) from fun z => ?_)]
                · exact ⟨rfl, rfl⟩
                · have hs : μ.1 46 25 = 5 := z.1.trans (by decide)
                  have h1 : μ.2.2 57 (μ.1 46 24 + (2 + 2)) = 116 := z.2 2 (by decide) (by decide)
                  have h2 : (wl0 (fun i => μ.2.2 57 (μ.1 46 24 + i)) (μ.1 46 25) 4) = μ.2.2 57 (μ.1 46 24 + 4) := if_pos (by omega)
                  have h1 : μ.2.2 57 (μ.1 46 24 + 4) = 116 := h1
                  omega
              · refine w_ld d_132_64 rfl rfl rfl ?_
                refine w_con d_132_66 ?_
                refine w_icmp_lt (g := 80) d_132_67 (by decide) (by decide) (fun h67 => ?_) (fun h67 => ?_)
                · refine w_con d_132_80 ?_
                  refine w_goto (g := 85) d_132_81 (by decide) ?_
                  refine w_zret d_132_85 rfl (by decide) ?_
                  rw [b01_t (show (tgk (fun i => μ.2.2 57 (μ.1 46 24 + i)) (μ.1 46 25) 2) from ⟨by rw [h28]; decide, fun j j0 j1 => ?_⟩)]
                  · exact ⟨rfl, rfl⟩
                  · have j1 : j < 3 := j1
                    have e0 : (wl0 (fun i => μ.2.2 57 (μ.1 46 24 + i)) (μ.1 46 25) 2) = μ.2.2 57 (μ.1 46 24 + 2) := if_pos (by omega)
                    have e1 : (wl0 (fun i => μ.2.2 57 (μ.1 46 24 + i)) (μ.1 46 25) 3) = μ.2.2 57 (μ.1 46 24 + 3) := if_pos (by omega)
                    have e2 : (wl0 (fun i => μ.2.2 57 (μ.1 46 24 + i)) (μ.1 46 25) 4) = μ.2.2 57 (μ.1 46 24 + 4) := if_pos (by omega)
                    rcases (show j = 0 ∨ j = 1 ∨ j = 2 by omega) with rfl | rfl | rfl
                    · show μ.2.2 57 (μ.1 46 24 + 2) = 115
                      omega
                    · show μ.2.2 57 (μ.1 46 24 + 3) = 101
                      omega
                    · show μ.2.2 57 (μ.1 46 24 + 4) = 116
                      omega
                · exact absurd h67 (by decide)
  · exact absurd h2 (by decide)
theorem m_isTag3 {sc : Nat × (Nat → Int32)} {fr lo : Nat} {μ : Mem} {ρ : Nat × Nat × Nat} (hr : 0 ≤ μ.1 46 24 ∧ 0 ≤ μ.1 46 25 ∧ μ.1 46 24 + μ.1 46 25 ≤ 720 ∧ μ.1 46 25 ≤ 240) (hw : ∀ i, 0 ≤ i → i < μ.1 46 25 → 32 ≤ μ.2.2 57 (μ.1 46 24 + i) ∧ μ.2.2 57 (μ.1 46 24 + i) ≤ 126) (hf : 6 ≤ fr) (hl : 200 ≤ lo) : w_E sc fr lo 132 [.ref 46, .int (ji 108), .int (ji 105), .int (ji 115), .int (ji 116)] (hp μ, ρ) (.inl (some (.int (ji (b01 (tgk (fun i => μ.2.2 57 (μ.1 46 24 + i)) (μ.1 46 25) 3)))))) (hp μ, ρ) := by
  have r2 : w_E sc (fr - 1) (lo - (19 + 2)) 127 [.ref 46, .int (ji 2)] (hp μ, ρ) (.inl (some (.int (ji (wl0 (fun i => μ.2.2 57 (μ.1 46 24 + i)) (μ.1 46 25) 2))))) (hp μ, ρ) := m_rawLetter (by omega) (by decide)
  have r3 : w_E sc (fr - 1) (lo - (19 + 2)) 127 [.ref 46, .int (ji 3)] (hp μ, ρ) (.inl (some (.int (ji (wl0 (fun i => μ.2.2 57 (μ.1 46 24 + i)) (μ.1 46 25) 3))))) (hp μ, ρ) := m_rawLetter (by omega) (by decide)
  have r4 : w_E sc (fr - 1) (lo - (19 + 2)) 127 [.ref 46, .int (ji 4)] (hp μ, ρ) (.inl (some (.int (ji (wl0 (fun i => μ.2.2 57 (μ.1 46 24 + i)) (μ.1 46 25) 4))))) (hp μ, ρ) := m_rawLetter (by omega) (by decide)
  have r5 : w_E sc (fr - 1) (lo - (19 + 2)) 127 [.ref 46, .int (ji 5)] (hp μ, ρ) (.inl (some (.int (ji (wl0 (fun i => μ.2.2 57 (μ.1 46 24 + i)) (μ.1 46 25) 5))))) (hp μ, ρ) := m_rawLetter (by omega) (by decide)
  have l2 := wl_wl0 (w := (fun i => μ.2.2 57 (μ.1 46 24 + i))) (s := (μ.1 46 25)) hw (k := 2) (by decide)
  have l3 := wl_wl0 (w := (fun i => μ.2.2 57 (μ.1 46 24 + i))) (s := (μ.1 46 25)) hw (k := 3) (by decide)
  have l4 := wl_wl0 (w := (fun i => μ.2.2 57 (μ.1 46 24 + i))) (s := (μ.1 46 25)) hw (k := 4) (by decide)
  have l5 := wl_wl0 (w := (fun i => μ.2.2 57 (μ.1 46 24 + i))) (s := (μ.1 46 25)) hw (k := 5) (by decide)
  refine w_S.of (L0 := [some (.ref 46), some (.int (ji 108)), some (.int (ji 105)), some (.int (ji 115)), some (.int (ji 116)), none]) rfl rfl (Nat.le_of_ble_eq_true rfl) (by rfl) ?_
  refine w_ld d_132_0 rfl rfl rfl ?_
  refine w_if_le (g := 9) d_132_2 (by decide) (by decide) (fun h2 => ?_) (fun h2 => ?_)
  · exact absurd h2 (by decide)
  · refine w_con d_132_5 ?_
    refine w_goto (g := 18) d_132_6 (by decide) ?_
    refine w_st1 (L' := [_, _, _, _, _, _]) d_132_18 rfl (by decide) rfl (by decide) rfl ?_
    refine w_ld d_132_20 rfl rfl rfl ?_
    refine w_gI d_132_21 (by rfl) (by first | rfl | assumption) (by rfl) rfl ?_
    refine w_ld d_132_24 rfl rfl rfl ?_
    refine w_con d_132_26 ?_
    refine w_iadd d_132_27 ?_
    refine w_icmp_ne (g := 84) d_132_28 (by decide) (by omega) (fun h28 => ?_) (fun h28 => ?_)
    · refine w_con d_132_84 ?_
      refine w_zret d_132_85 rfl (by decide) ?_
      rw [b01_f (show ¬ (tgk (fun i => μ.2.2 57 (μ.1 46 24 + i)) (μ.1 46 25) 3) from fun z => ?_)]
      · exact ⟨rfl, rfl⟩
      · exact h28 (z.1.trans (by decide))
    · refine w_ld d_132_31 rfl rfl rfl ?_
      refine w_con d_132_32 ?_
      refine w_cV1 (a := 46) (as := [_]) (rest := _) rfl d_132_33 (by rfl) (by rfl) (by first | rfl | assumption) (by rfl) (by rfl) (Nat.le_of_ble_eq_true rfl) (by omega) (by omega) r2 ?_
      refine w_ld d_132_36 rfl rfl rfl ?_
      refine w_icmp_ne (g := 84) d_132_37 (by decide) (by omega) (fun h37 => ?_) (fun h37 => ?_)
      · refine w_con d_132_84 ?_
        refine w_zret d_132_85 rfl (by decide) ?_
        rw [b01_f (show ¬ (tgk (fun i => μ.2.2 57 (μ.1 46 24 + i)) (μ.1 46 25) 3) from fun z => ?_)]
        · exact ⟨rfl, rfl⟩
        · have hs : μ.1 46 25 = 6 := z.1.trans (by decide)
          have h1 : μ.2.2 57 (μ.1 46 24 + (2 + 0)) = 108 := z.2 0 (by decide) (by decide)
          have h2 : (wl0 (fun i => μ.2.2 57 (μ.1 46 24 + i)) (μ.1 46 25) 2) = μ.2.2 57 (μ.1 46 24 + 2) := if_pos (by omega)
          have h1 : μ.2.2 57 (μ.1 46 24 + 2) = 108 := h1
          omega
      · refine w_ld d_132_40 rfl rfl rfl ?_
        refine w_con d_132_42 ?_
        refine w_icmp_lt (g := 64) d_132_43 (by decide) (by decide) (fun h43 => ?_) (fun h43 => ?_)
        · exact absurd h43 (by decide)
        · refine w_ld d_132_46 rfl rfl rfl ?_
          refine w_con d_132_47 ?_
          refine w_cV1 (a := 46) (as := [_]) (rest := _) rfl d_132_48 (by rfl) (by rfl) (by first | rfl | assumption) (by rfl) (by rfl) (Nat.le_of_ble_eq_true rfl) (by omega) (by omega) r3 ?_
          refine w_ld d_132_51 rfl rfl rfl ?_
          refine w_icmp_ne (g := 84) d_132_52 (by decide) (by omega) (fun h52 => ?_) (fun h52 => ?_)
          · refine w_con d_132_84 ?_
            refine w_zret d_132_85 rfl (by decide) ?_
            rw [b01_f (show ¬ (tgk (fun i => μ.2.2 57 (μ.1 46 24 + i)) (μ.1 46 25) 3) from fun z => ?_)]
            · exact ⟨rfl, rfl⟩
            · have hs : μ.1 46 25 = 6 := z.1.trans (by decide)
              have h1 : μ.2.2 57 (μ.1 46 24 + (2 + 1)) = 105 := z.2 1 (by decide) (by decide)
              have h2 : (wl0 (fun i => μ.2.2 57 (μ.1 46 24 + i)) (μ.1 46 25) 3) = μ.2.2 57 (μ.1 46 24 + 3) := if_pos (by omega)
              have h1 : μ.2.2 57 (μ.1 46 24 + 3) = 105 := h1
              omega
          · refine w_ld d_132_55 rfl rfl rfl ?_
            refine w_con d_132_56 ?_
            refine w_cV1 (a := 46) (as := [_]) (rest := _) rfl d_132_57 (by rfl) (by rfl) (by first | rfl | assumption) (by rfl) (by rfl) (Nat.le_of_ble_eq_true rfl) (by omega) (by omega) r4 ?_
            refine w_ld d_132_60 rfl rfl rfl ?_
            refine w_icmp_ne (g := 84) d_132_61 (by decide) (by omega) (fun h61 => ?_) (fun h61 => ?_)
            · refine w_con d_132_84 ?_
              refine w_zret d_132_85 rfl (by decide) ?_
              rw [b01_f (show ¬ (tgk (fun i => μ.2.2 57 (μ.1 46 24 + i)) (μ.1 46 25) 3) from fun z => ?_)]
              · exact ⟨rfl, rfl⟩
              · have hs : μ.1 46 25 = 6 := z.1.trans (by decide)
                have h1 : μ.2.2 57 (μ.1 46 24 + (2 + 2)) = 115 := z.2 2 (by decide) (by decide)
                have h2 : (wl0 (fun i => μ.2.2 57 (μ.1 46 24 + i)) (μ.1 46 25) 4) = μ.2.2 57 (μ.1 46 24 + 4) := if_pos (by omega)
                have h1 : μ.2.2 57 (μ.1 46 24 + 4) = 115 := h1
                omega
            · refine w_ld d_132_64 rfl rfl rfl ?_
              refine w_con d_132_66 ?_
              refine w_icmp_lt (g := 80) d_132_67 (by decide) (by decide) (fun h67 => ?_) (fun h67 => ?_)
              · exact absurd h67 (by decide)
              · refine w_ld d_132_70 rfl rfl rfl ?_
                refine w_con d_132_71 ?_
                refine w_cV1 (a := 46) (as := [_]) (rest := _) rfl d_132_72 (by rfl) (by rfl) (by first | rfl | assumption) (by rfl) (by rfl) (Nat.le_of_ble_eq_true rfl) (by omega) (by omega) r5 ?_
                refine w_ld d_132_75 rfl rfl rfl ?_
                refine w_icmp_ne (g := 84) d_132_77 (by decide) (by omega) (fun h77 => ?_) (fun h77 => ?_)
                · refine w_con d_132_84 ?_
                  refine w_zret d_132_85 rfl (by decide) ?_
                  rw [b01_f (show ¬ (tgk (fun i => μ.2.2 57 (μ.1 46 24 + i)) (μ.1 46 25) 3) from fun z => ?_)]
                  · exact ⟨rfl, rfl⟩
                  · have hs : μ.1 46 25 = 6 := z.1.trans (by decide)
                    have h1 : μ.2.2 57 (μ.1 46 24 + (2 + 3)) = 116 := z.2 3 (by decide) (by decide)
                    have h2 : (wl0 (fun i => μ.2.2 57 (μ.1 46 24 + i)) (μ.1 46 25) 5) = μ.2.2 57 (μ.1 46 24 + 5) := if_pos (by omega)
                    have h1 : μ.2.2 57 (μ.1 46 24 + 5) = 116 := h1
                    omega
                · refine w_con d_132_80 ?_
                  refine w_goto (g := 85) d_132_81 (by decide) ?_
                  refine w_zret d_132_85 rfl (by decide) ?_
                  rw [b01_t (show (tgk (fun i => μ.2.2 57 (μ.1 46 24 + i)) (μ.1 46 25) 3) from ⟨by rw [h28]; decide, fun j j0 j1 => ?_⟩)]
                  · exact ⟨rfl, rfl⟩
                  · have j1 : j < 4 := j1
                    have e0 : (wl0 (fun i => μ.2.2 57 (μ.1 46 24 + i)) (μ.1 46 25) 2) = μ.2.2 57 (μ.1 46 24 + 2) := if_pos (by omega)
                    have e1 : (wl0 (fun i => μ.2.2 57 (μ.1 46 24 + i)) (μ.1 46 25) 3) = μ.2.2 57 (μ.1 46 24 + 3) := if_pos (by omega)
                    have e2 : (wl0 (fun i => μ.2.2 57 (μ.1 46 24 + i)) (μ.1 46 25) 4) = μ.2.2 57 (μ.1 46 24 + 4) := if_pos (by omega)
                    have e3 : (wl0 (fun i => μ.2.2 57 (μ.1 46 24 + i)) (μ.1 46 25) 5) = μ.2.2 57 (μ.1 46 24 + 5) := if_pos (by omega)
                    rcases (show j = 0 ∨ j = 1 ∨ j = 2 ∨ j = 3 by omega) with rfl | rfl | rfl | rfl
                    · show μ.2.2 57 (μ.1 46 24 + 2) = 108
                      omega
                    · show μ.2.2 57 (μ.1 46 24 + 3) = 105
                      omega
                    · show μ.2.2 57 (μ.1 46 24 + 4) = 115
                      omega
                    · show μ.2.2 57 (μ.1 46 24 + 5) = 116
                      omega
theorem m_isTag4 {sc : Nat × (Nat → Int32)} {fr lo : Nat} {μ : Mem} {ρ : Nat × Nat × Nat} (hr : 0 ≤ μ.1 46 24 ∧ 0 ≤ μ.1 46 25 ∧ μ.1 46 24 + μ.1 46 25 ≤ 720 ∧ μ.1 46 25 ≤ 240) (hw : ∀ i, 0 ≤ i → i < μ.1 46 25 → 32 ≤ μ.2.2 57 (μ.1 46 24 + i) ∧ μ.2.2 57 (μ.1 46 24 + i) ≤ 126) (hf : 6 ≤ fr) (hl : 200 ≤ lo) : w_E sc fr lo 132 [.ref 46, .int (ji 99), .int (ji 109), .int (ji 97), .int (ji 112)] (hp μ, ρ) (.inl (some (.int (ji (b01 (tgk (fun i => μ.2.2 57 (μ.1 46 24 + i)) (μ.1 46 25) 4)))))) (hp μ, ρ) := by
  have r2 : w_E sc (fr - 1) (lo - (19 + 2)) 127 [.ref 46, .int (ji 2)] (hp μ, ρ) (.inl (some (.int (ji (wl0 (fun i => μ.2.2 57 (μ.1 46 24 + i)) (μ.1 46 25) 2))))) (hp μ, ρ) := m_rawLetter (by omega) (by decide)
  have r3 : w_E sc (fr - 1) (lo - (19 + 2)) 127 [.ref 46, .int (ji 3)] (hp μ, ρ) (.inl (some (.int (ji (wl0 (fun i => μ.2.2 57 (μ.1 46 24 + i)) (μ.1 46 25) 3))))) (hp μ, ρ) := m_rawLetter (by omega) (by decide)
  have r4 : w_E sc (fr - 1) (lo - (19 + 2)) 127 [.ref 46, .int (ji 4)] (hp μ, ρ) (.inl (some (.int (ji (wl0 (fun i => μ.2.2 57 (μ.1 46 24 + i)) (μ.1 46 25) 4))))) (hp μ, ρ) := m_rawLetter (by omega) (by decide)
  have r5 : w_E sc (fr - 1) (lo - (19 + 2)) 127 [.ref 46, .int (ji 5)] (hp μ, ρ) (.inl (some (.int (ji (wl0 (fun i => μ.2.2 57 (μ.1 46 24 + i)) (μ.1 46 25) 5))))) (hp μ, ρ) := m_rawLetter (by omega) (by decide)
  have l2 := wl_wl0 (w := (fun i => μ.2.2 57 (μ.1 46 24 + i))) (s := (μ.1 46 25)) hw (k := 2) (by decide)
  have l3 := wl_wl0 (w := (fun i => μ.2.2 57 (μ.1 46 24 + i))) (s := (μ.1 46 25)) hw (k := 3) (by decide)
  have l4 := wl_wl0 (w := (fun i => μ.2.2 57 (μ.1 46 24 + i))) (s := (μ.1 46 25)) hw (k := 4) (by decide)
  have l5 := wl_wl0 (w := (fun i => μ.2.2 57 (μ.1 46 24 + i))) (s := (μ.1 46 25)) hw (k := 5) (by decide)
  refine w_S.of (L0 := [some (.ref 46), some (.int (ji 99)), some (.int (ji 109)), some (.int (ji 97)), some (.int (ji 112)), none]) rfl rfl (Nat.le_of_ble_eq_true rfl) (by rfl) ?_
  refine w_ld d_132_0 rfl rfl rfl ?_
  refine w_if_le (g := 9) d_132_2 (by decide) (by decide) (fun h2 => ?_) (fun h2 => ?_)
  · exact absurd h2 (by decide)
  · refine w_con d_132_5 ?_
    refine w_goto (g := 18) d_132_6 (by decide) ?_
    refine w_st1 (L' := [_, _, _, _, _, _]) d_132_18 rfl (by decide) rfl (by decide) rfl ?_
    refine w_ld d_132_20 rfl rfl rfl ?_
    refine w_gI d_132_21 (by rfl) (by first | rfl | assumption) (by rfl) rfl ?_
    refine w_ld d_132_24 rfl rfl rfl ?_
    refine w_con d_132_26 ?_
    refine w_iadd d_132_27 ?_
    refine w_icmp_ne (g := 84) d_132_28 (by decide) (by omega) (fun h28 => ?_) (fun h28 => ?_)
    · refine w_con d_132_84 ?_
      refine w_zret d_132_85 rfl (by decide) ?_
      rw [b01_f (show ¬ (tgk (fun i => μ.2.2 57 (μ.1 46 24 + i)) (μ.1 46 25) 4) from fun z => ?_)]
      · exact ⟨rfl, rfl⟩
      · exact h28 (z.1.trans (by decide))
    · refine w_ld d_132_31 rfl rfl rfl ?_
      refine w_con d_132_32 ?_
      refine w_cV1 (a := 46) (as := [_]) (rest := _) rfl d_132_33 (by rfl) (by rfl) (by first | rfl | assumption) (by rfl) (by rfl) (Nat.le_of_ble_eq_true rfl) (by omega) (by omega) r2 ?_
      refine w_ld d_132_36 rfl rfl rfl ?_
      refine w_icmp_ne (g := 84) d_132_37 (by decide) (by omega) (fun h37 => ?_) (fun h37 => ?_)
      · refine w_con d_132_84 ?_
        refine w_zret d_132_85 rfl (by decide) ?_
        rw [b01_f (show ¬ (tgk (fun i => μ.2.2 57 (μ.1 46 24 + i)) (μ.1 46 25) 4) from fun z => ?_)]
        · exact ⟨rfl, rfl⟩
        · have hs : μ.1 46 25 = 6 := z.1.trans (by decide)
          have h1 : μ.2.2 57 (μ.1 46 24 + (2 + 0)) = 99 := z.2 0 (by decide) (by decide)
          have h2 : (wl0 (fun i => μ.2.2 57 (μ.1 46 24 + i)) (μ.1 46 25) 2) = μ.2.2 57 (μ.1 46 24 + 2) := if_pos (by omega)
          have h1 : μ.2.2 57 (μ.1 46 24 + 2) = 99 := h1
          omega
      · refine w_ld d_132_40 rfl rfl rfl ?_
        refine w_con d_132_42 ?_
        refine w_icmp_lt (g := 64) d_132_43 (by decide) (by decide) (fun h43 => ?_) (fun h43 => ?_)
        · exact absurd h43 (by decide)
        · refine w_ld d_132_46 rfl rfl rfl ?_
          refine w_con d_132_47 ?_
          refine w_cV1 (a := 46) (as := [_]) (rest := _) rfl d_132_48 (by rfl) (by rfl) (by first | rfl | assumption) (by rfl) (by rfl) (Nat.le_of_ble_eq_true rfl) (by omega) (by omega) r3 ?_
          refine w_ld d_132_51 rfl rfl rfl ?_
          refine w_icmp_ne (g := 84) d_132_52 (by decide) (by omega) (fun h52 => ?_) (fun h52 => ?_)
          · refine w_con d_132_84 ?_
            refine w_zret d_132_85 rfl (by decide) ?_
            rw [b01_f (show ¬ (tgk (fun i => μ.2.2 57 (μ.1 46 24 + i)) (μ.1 46 25) 4) from fun z => ?_)]
            · exact ⟨rfl, rfl⟩
            · have hs : μ.1 46 25 = 6 := z.1.trans (by decide)
              have h1 : μ.2.2 57 (μ.1 46 24 + (2 + 1)) = 109 := z.2 1 (by decide) (by decide)
              have h2 : (wl0 (fun i => μ.2.2 57 (μ.1 46 24 + i)) (μ.1 46 25) 3) = μ.2.2 57 (μ.1 46 24 + 3) := if_pos (by omega)
              have h1 : μ.2.2 57 (μ.1 46 24 + 3) = 109 := h1
              omega
          · refine w_ld d_132_55 rfl rfl rfl ?_
            refine w_con d_132_56 ?_
            refine w_cV1 (a := 46) (as := [_]) (rest := _) rfl d_132_57 (by rfl) (by rfl) (by first | rfl | assumption) (by rfl) (by rfl) (Nat.le_of_ble_eq_true rfl) (by omega) (by omega) r4 ?_
            refine w_ld d_132_60 rfl rfl rfl ?_
            refine w_icmp_ne (g := 84) d_132_61 (by decide) (by omega) (fun h61 => ?_) (fun h61 => ?_)
            · refine w_con d_132_84 ?_
              refine w_zret d_132_85 rfl (by decide) ?_
              rw [b01_f (show ¬ (tgk (fun i => μ.2.2 57 (μ.1 46 24 + i)) (μ.1 46 25) 4) from fun z => ?_)]
              · exact ⟨rfl, rfl⟩
              · have hs : μ.1 46 25 = 6 := z.1.trans (by decide)
                have h1 : μ.2.2 57 (μ.1 46 24 + (2 + 2)) = 97 := z.2 2 (by decide) (by decide)
                have h2 : (wl0 (fun i => μ.2.2 57 (μ.1 46 24 + i)) (μ.1 46 25) 4) = μ.2.2 57 (μ.1 46 24 + 4) := if_pos (by omega)
                have h1 : μ.2.2 57 (μ.1 46 24 + 4) = 97 := h1
                omega
            · refine w_ld d_132_64 rfl rfl rfl ?_
              refine w_con d_132_66 ?_
              refine w_icmp_lt (g := 80) d_132_67 (by decide) (by decide) (fun h67 => ?_) (fun h67 => ?_)
              · exact absurd h67 (by decide)
              · refine w_ld d_132_70 rfl rfl rfl ?_
                refine w_con d_132_71 ?_
                refine w_cV1 (a := 46) (as := [_]) (rest := _) rfl d_132_72 (by rfl) (by rfl) (by first | rfl | assumption) (by rfl) (by rfl) (Nat.le_of_ble_eq_true rfl) (by omega) (by omega) r5 ?_
                refine w_ld d_132_75 rfl rfl rfl ?_
                refine w_icmp_ne (g := 84) d_132_77 (by decide) (by omega) (fun h77 => ?_) (fun h77 => ?_)
                · refine w_con d_132_84 ?_
                  refine w_zret d_132_85 rfl (by decide) ?_
                  rw [b01_f (show ¬ (tgk (fun i => μ.2.2 57 (μ.1 46 24 + i)) (μ.1 46 25) 4) from fun z => ?_)]
                  · exact ⟨rfl, rfl⟩
                  · have hs : μ.1 46 25 = 6 := z.1.trans (by decide)
                    have h1 : μ.2.2 57 (μ.1 46 24 + (2 + 3)) = 112 := z.2 3 (by decide) (by decide)
                    have h2 : (wl0 (fun i => μ.2.2 57 (μ.1 46 24 + i)) (μ.1 46 25) 5) = μ.2.2 57 (μ.1 46 24 + 5) := if_pos (by omega)
                    have h1 : μ.2.2 57 (μ.1 46 24 + 5) = 112 := h1
                    omega
                · refine w_con d_132_80 ?_
                  refine w_goto (g := 85) d_132_81 (by decide) ?_
                  refine w_zret d_132_85 rfl (by decide) ?_
                  rw [b01_t (show (tgk (fun i => μ.2.2 57 (μ.1 46 24 + i)) (μ.1 46 25) 4) from ⟨by rw [h28]; decide, fun j j0 j1 => ?_⟩)]
                  · exact ⟨rfl, rfl⟩
                  · have j1 : j < 4 := j1
                    have e0 : (wl0 (fun i => μ.2.2 57 (μ.1 46 24 + i)) (μ.1 46 25) 2) = μ.2.2 57 (μ.1 46 24 + 2) := if_pos (by omega)
                    have e1 : (wl0 (fun i => μ.2.2 57 (μ.1 46 24 + i)) (μ.1 46 25) 3) = μ.2.2 57 (μ.1 46 24 + 3) := if_pos (by omega)
                    have e2 : (wl0 (fun i => μ.2.2 57 (μ.1 46 24 + i)) (μ.1 46 25) 4) = μ.2.2 57 (μ.1 46 24 + 4) := if_pos (by omega)
                    have e3 : (wl0 (fun i => μ.2.2 57 (μ.1 46 24 + i)) (μ.1 46 25) 5) = μ.2.2 57 (μ.1 46 24 + 5) := if_pos (by omega)
                    rcases (show j = 0 ∨ j = 1 ∨ j = 2 ∨ j = 3 by omega) with rfl | rfl | rfl | rfl
                    · show μ.2.2 57 (μ.1 46 24 + 2) = 99
                      omega
                    · show μ.2.2 57 (μ.1 46 24 + 3) = 109
                      omega
                    · show μ.2.2 57 (μ.1 46 24 + 4) = 97
                      omega
                    · show μ.2.2 57 (μ.1 46 24 + 5) = 112
                      omega
