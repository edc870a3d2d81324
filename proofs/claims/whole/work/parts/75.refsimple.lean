/-! THE PURE PART, 57: contracts: the reference reads a simple value that is no string -/
theorem MI_15 {μ : Mem} (h : MI μ) (x : Int) : MI (stI μ 46 15 x) := h
/-- a row was made of a value without word -/
def lfP (μ μ' : Mem) (n k v p pl : Int) : Prop := MI μ' ∧ kp (stI μ 46 15 pl) μ' n ∧ μ'.1 46 17 = n + 1 ∧ mrow μ' (256 + n) k v 0 0 0 1 p
def lfX (μ μ' : Mem) (w : Int) : Prop := mbad μ μ' w ∧ ∀ k, 0 ≤ μ'.2.2 57 k ∧ μ'.2.2 57 k < 65536
theorem fin_bad15 {μ μ' : Mem} {n q x : Int} (hn : 0 ≤ n) (hx : 0 ≤ x ∧ x ≤ 900) (h1 : MI μ') (h2 : kp (stI (stI μ 46 15 x) 46 16 q) μ' n) : lfX μ μ' q := by
  have e := fin_bad (μ := stI μ 46 15 x) (m := 0) hn (by rw [stI_at]; exact hx) h1 h2
  exact ⟨⟨mfr_trans (mfr_I (by decide)) e.1.1, e.1.2⟩, e.2⟩
theorem jl_wrap {v : Int} (h : -9223372036854775808 ≤ v ∧ v ≤ 9223372036854775808) : ∃ v', (-9223372036854775808 ≤ v' ∧ v' < 9223372036854775808) ∧ jl v = jl v' := by
  by_cases z : v = 9223372036854775808
  · exact ⟨-9223372036854775808, by decide, by rw [z]; decide⟩
  · exact ⟨v, by omega, rfl⟩
theorem m_smpN {sc : Nat × (Nat → Int32)} {fr lo : Nat} {μ : Mem} {ρ : Nat × Nat × Nat} (hM : MI μ) {n : Int} (hN : μ.1 46 17 = n ∧ 0 ≤ n ∧ n ≤ 125) (h16 : μ.1 46 16 = -1) (hn : 0 ≤ μ.1 46 3 ∧ μ.1 46 3 ≤ 240) (hch : ∀ k, 0 ≤ μ.2.2 47 k ∧ μ.2.2 47 k < 65536) (h32 : ∀ k, 0 ≤ k → k < μ.1 46 3 → 32 ≤ μ.2.2 47 k) (hpl : 0 ≤ μ.1 46 15 ∧ μ.1 46 15 ≤ μ.1 46 3) (hf : 14 ≤ fr) (hl : 600 ≤ lo) (hc : (if μ.1 46 15 < μ.1 46 3 then μ.2.2 47 (μ.1 46 15) else 0) = 110) (hm0 : (fm (μ.2.2 47) (μ.1 46 3) (μ.1 46 15) 5) = slen 5) : w_S sc fr lo 123 [.ref 46] (hp μ, ρ) (fun o t' => ∃ μ' : Mem, o = .inl (some (.int (ji 1))) ∧ (lfP μ μ' n 0 0 (μ.1 46 15) (μ.1 46 15 + slen 5)) ∧ t' = (hp μ', ρ)) := by
  have elk := m_look (sc := sc) (fr := fr - 1) (lo := lo - (19 + 2)) (μ := μ) (ρ := ρ) hn (k := μ.1 46 15) (by omega) hpl.1
  rw [hc] at elk
  have hfm := (fm_sp (T := μ.2.2 47) (n := μ.1 46 3) (p := μ.1 46 15) (k := 5) (by decide)).1
  have hs5 : slen 5 ≤ 5 := by decide
  refine w_S.of (L0 := [some (.ref 46), none, none, none, none]) rfl rfl (Nat.le_of_ble_eq_true rfl) (by rfl) ?_
  refine w_ld d_123_0 rfl rfl rfl ?_
  refine w_gI d_123_1 (by rfl) (by first | rfl | assumption) (by rfl) rfl ?_
  refine w_st1 (L' := [_, _, _, _, _]) d_123_4 rfl (by decide) rfl (by decide) rfl ?_
  refine w_ld d_123_5 rfl rfl rfl ?_
  refine w_ld d_123_6 rfl rfl rfl ?_
  refine w_gI d_123_7 (by rfl) (by first | rfl | assumption) (by rfl) rfl ?_
  refine w_cV1 (a := 46) (as := [_]) (rest := _) rfl d_123_10 (by rfl) (by rfl) (by first | rfl | assumption) (by rfl) (by rfl) (Nat.le_of_ble_eq_true rfl) (by omega) (by omega) elk ?_
  refine w_st1 (L' := [_, _, _, _, _]) d_123_13 rfl (by decide) rfl (by decide) rfl ?_
  refine w_ld d_123_14 rfl rfl rfl ?_
  refine w_bip d_123_15 (by decide) ?_
  refine w_icmp_ne (g := 25) d_123_17 (by decide) (by decide) (fun h17 => ?_) (fun h17 => ?_)
  · refine w_ld d_123_25 rfl rfl rfl ?_
    refine w_bip d_123_26 (by decide) ?_
    refine w_icmp_ne (g := 47) d_123_28 (by decide) (by decide) (fun h28 => ?_) (fun h28 => ?_)
    · exact absurd h28 (by decide)
    · refine w_ld d_123_31 rfl rfl rfl ?_
      refine w_bip d_123_32 (by decide) ?_
      refine w_bip d_123_34 (by decide) ?_
      refine w_bip d_123_36 (by decide) ?_
      refine w_bip d_123_38 (by decide) ?_
      refine w_con d_123_40 ?_
      refine w_cVm (a := 46) (as := [_, _, _, _, _]) (rest := _) rfl d_123_41 (by rfl) (by rfl) (by first | rfl | assumption) (by rfl) (by rfl) (Nat.le_of_ble_eq_true rfl) (by omega) (by omega) (m_word (k := 5) hn hch h16 (by decide) (by decide) (by omega) (by omega) (by omega)) (fun μ' hm => ?_)
      have e1 := hm.1 hm0
      subst e1
      obtain ⟨ν, hk1, ⟨r49, r50, r51, r52, r53, r54, r55, r56⟩, hmk⟩ := m_mk sc (fr - 1) (lo - (19 + 4)) ρ (μ := (stI μ 46 15 (μ.1 46 15 + slen 5))) (n := n) ⟨hN.1, hN.2.1, by omega⟩ 0 (μ.1 46 15)
      refine w_goto (g := 89) d_123_44 (by decide) ?_
      refine w_ld d_123_89 rfl rfl rfl ?_
      refine w_bip d_123_90 (by decide) ?_
      refine w_icmp_eq (g := 107) d_123_92 (by decide) (by decide) (fun h92 => ?_) (fun h92 => ?_)
      · refine w_con d_123_107 ?_
        refine w_goto (g := 112) d_123_108 (by decide) ?_
        refine w_st1 (L' := [_, _, _, _, _]) d_123_112 rfl (by decide) rfl (by decide) rfl ?_
        refine w_ld d_123_113 rfl rfl rfl ?_
        refine w_ld d_123_114 rfl rfl rfl ?_
        refine w_bip d_123_115 (by decide) ?_
        refine w_icmp_ne (g := 124) d_123_117 (by decide) (by decide) (fun h117 => ?_) (fun h117 => ?_)
        · exact absurd h117 (by decide)
        · refine w_con d_123_120 ?_
          refine w_goto (g := 133) d_123_121 (by decide) ?_
          refine w_ld d_123_133 rfl rfl rfl ?_
          refine w_cV1 (a := 46) (as := [_, _]) (rest := _) rfl d_123_134 (by rfl) (by rfl) (by first | rfl | assumption) (by rfl) (by rfl) (Nat.le_of_ble_eq_true rfl) (by omega) (by omega) hmk ?_
          refine w_st1 (L' := [_, _, _, _, _]) d_123_137 rfl (by decide) rfl (by decide) rfl ?_
          refine w_ld d_123_139 rfl rfl rfl ?_
          refine w_getF d_123_140 (by rfl) (by first | rfl | assumption) (by rfl) (by rfl) ?_
          refine w_ld d_123_143 rfl rfl rfl ?_
          refine w_ld d_123_145 rfl rfl rfl ?_
          refine w_if_eq (g := 163) d_123_146 (by decide) (by decide) (fun h146 => ?_) (fun h146 => ?_)
          · exact absurd h146 (by decide)
          · refine w_ld d_123_149 rfl rfl rfl ?_
            refine w_bip d_123_150 (by decide) ?_
            refine w_icmp_ne (g := 159) d_123_152 (by decide) (by decide) (fun h152 => ?_) (fun h152 => ?_)
            · refine w_lcon0 d_123_159 ?_
              refine w_goto (g := 167) d_123_160 (by decide) ?_
              refine w_last d_123_167 (by first | rfl | assumption) (by omega) ?_
              refine w_ld d_123_168 rfl rfl rfl ?_
              refine w_ld d_123_169 rfl rfl rfl ?_
              refine w_cVm (a := 46) (as := [_]) (rest := _) rfl d_123_171 (by rfl) (by rfl) (by first | rfl | assumption) (by rfl) (by rfl) (Nat.le_of_ble_eq_true rfl) (by omega) (by omega) (m_finish (μ := (stI μ 46 15 (μ.1 46 15 + slen 5))) (mk1_A hk1 (a := 50) (by decide) rfl) (MI_15 hM _) ⟨hN.1, by omega⟩ (by rw [stA_o2 (by decide)]; exact r56) (by rw [stA_o2 (by decide)]; exact r53) (by rw [stA_o2 (by decide), r49]; decide) (by rw [stA_at]; decide) (by rw [stA_o2 (by decide), r52]; exact ⟨by decide, Or.inl rfl⟩) (by omega) (by omega)) (fun μ1 h2 => ?_)
              refine w_con d_123_174 ?_
              refine w_zret d_123_175 rfl (by decide) ?_
              exact ⟨μ1, rfl, fin_ok h2 ⟨by rw [stA_o2 (by decide)]; exact r49, stA_at _ _ _ _, Or.inl rfl, by rw [stA_o2 (by decide)]; exact r52, by rw [stA_o2 (by decide)]; exact r53, by rw [stA_o2 (by decide)]; exact r55⟩, rfl⟩
            · exact absurd h152 (by decide)
      · exact absurd h92 (by decide)
  · exact absurd h17 (by decide)
theorem m_smpNx {sc : Nat × (Nat → Int32)} {fr lo : Nat} {μ : Mem} {ρ : Nat × Nat × Nat} (hM : MI μ) {n : Int} (hN : μ.1 46 17 = n ∧ 0 ≤ n ∧ n ≤ 125) (h16 : μ.1 46 16 = -1) (hn : 0 ≤ μ.1 46 3 ∧ μ.1 46 3 ≤ 240) (hch : ∀ k, 0 ≤ μ.2.2 47 k ∧ μ.2.2 47 k < 65536) (h32 : ∀ k, 0 ≤ k → k < μ.1 46 3 → 32 ≤ μ.2.2 47 k) (hpl : 0 ≤ μ.1 46 15 ∧ μ.1 46 15 ≤ μ.1 46 3) (hf : 14 ≤ fr) (hl : 600 ≤ lo) (hc : (if μ.1 46 15 < μ.1 46 3 then μ.2.2 47 (μ.1 46 15) else 0) = 110) (hm0 : (fm (μ.2.2 47) (μ.1 46 3) (μ.1 46 15) 5) ≠ slen 5) : w_S sc fr lo 123 [.ref 46] (hp μ, ρ) (fun o t' => ∃ μ' : Mem, o = .inl (some (.int (ji 1))) ∧ (lfX μ μ' (μ.1 46 15 + (fm (μ.2.2 47) (μ.1 46 3) (μ.1 46 15) 5))) ∧ t' = (hp μ', ρ)) := by
  have elk := m_look (sc := sc) (fr := fr - 1) (lo := lo - (19 + 2)) (μ := μ) (ρ := ρ) hn (k := μ.1 46 15) (by omega) hpl.1
  rw [hc] at elk
  have hfm := (fm_sp (T := μ.2.2 47) (n := μ.1 46 3) (p := μ.1 46 15) (k := 5) (by decide)).1
  have hs5 : slen 5 ≤ 5 := by decide
  refine w_S.of (L0 := [some (.ref 46), none, none, none, none]) rfl rfl (Nat.le_of_ble_eq_true rfl) (by rfl) ?_
  refine w_ld d_123_0 rfl rfl rfl ?_
  refine w_gI d_123_1 (by rfl) (by first | rfl | assumption) (by rfl) rfl ?_
  refine w_st1 (L' := [_, _, _, _, _]) d_123_4 rfl (by decide) rfl (by decide) rfl ?_
  refine w_ld d_123_5 rfl rfl rfl ?_
  refine w_ld d_123_6 rfl rfl rfl ?_
  refine w_gI d_123_7 (by rfl) (by first | rfl | assumption) (by rfl) rfl ?_
  refine w_cV1 (a := 46) (as := [_]) (rest := _) rfl d_123_10 (by rfl) (by rfl) (by first | rfl | assumption) (by rfl) (by rfl) (Nat.le_of_ble_eq_true rfl) (by omega) (by omega) elk ?_
  refine w_st1 (L' := [_, _, _, _, _]) d_123_13 rfl (by decide) rfl (by decide) rfl ?_
  refine w_ld d_123_14 rfl rfl rfl ?_
  refine w_bip d_123_15 (by decide) ?_
  refine w_icmp_ne (g := 25) d_123_17 (by decide) (by decide) (fun h17 => ?_) (fun h17 => ?_)
  · refine w_ld d_123_25 rfl rfl rfl ?_
    refine w_bip d_123_26 (by decide) ?_
    refine w_icmp_ne (g := 47) d_123_28 (by decide) (by decide) (fun h28 => ?_) (fun h28 => ?_)
    · exact absurd h28 (by decide)
    · refine w_ld d_123_31 rfl rfl rfl ?_
      refine w_bip d_123_32 (by decide) ?_
      refine w_bip d_123_34 (by decide) ?_
      refine w_bip d_123_36 (by decide) ?_
      refine w_bip d_123_38 (by decide) ?_
      refine w_con d_123_40 ?_
      refine w_cVm (a := 46) (as := [_, _, _, _, _]) (rest := _) rfl d_123_41 (by rfl) (by rfl) (by first | rfl | assumption) (by rfl) (by rfl) (Nat.le_of_ble_eq_true rfl) (by omega) (by omega) (m_word (k := 5) hn hch h16 (by decide) (by decide) (by omega) (by omega) (by omega)) (fun μ' hm => ?_)
      have e1 := hm.2 hm0
      subst e1
      obtain ⟨ν, hk1, ⟨r49, r50, r51, r52, r53, r54, r55, r56⟩, hmk⟩ := m_mk sc (fr - 1) (lo - (19 + 4)) ρ (μ := (stI (stI μ 46 15 (μ.1 46 15 + (fm (μ.2.2 47) (μ.1 46 3) (μ.1 46 15) 5) + 1)) 46 16 (μ.1 46 15 + (fm (μ.2.2 47) (μ.1 46 3) (μ.1 46 15) 5)))) (n := n) ⟨hN.1, hN.2.1, by omega⟩ 0 (μ.1 46 15)
      refine w_goto (g := 89) d_123_44 (by decide) ?_
      refine w_ld d_123_89 rfl rfl rfl ?_
      refine w_bip d_123_90 (by decide) ?_
      refine w_icmp_eq (g := 107) d_123_92 (by decide) (by decide) (fun h92 => ?_) (fun h92 => ?_)
      · refine w_con d_123_107 ?_
        refine w_goto (g := 112) d_123_108 (by decide) ?_
        refine w_st1 (L' := [_, _, _, _, _]) d_123_112 rfl (by decide) rfl (by decide) rfl ?_
        refine w_ld d_123_113 rfl rfl rfl ?_
        refine w_ld d_123_114 rfl rfl rfl ?_
        refine w_bip d_123_115 (by decide) ?_
        refine w_icmp_ne (g := 124) d_123_117 (by decide) (by decide) (fun h117 => ?_) (fun h117 => ?_)
        · exact absurd h117 (by decide)
        · refine w_con d_123_120 ?_
          refine w_goto (g := 133) d_123_121 (by decide) ?_
          refine w_ld d_123_133 rfl rfl rfl ?_
          refine w_cV1 (a := 46) (as := [_, _]) (rest := _) rfl d_123_134 (by rfl) (by rfl) (by first | rfl | assumption) (by rfl) (by rfl) (Nat.le_of_ble_eq_true rfl) (by omega) (by omega) hmk ?_
          refine w_st1 (L' := [_, _, _, _, _]) d_123_137 rfl (by decide) rfl (by decide) rfl ?_
          refine w_ld d_123_139 rfl rfl rfl ?_
          refine w_getF d_123_140 (by rfl) (by first | rfl | assumption) (by rfl) (by rfl) ?_
          refine w_ld d_123_143 rfl rfl rfl ?_
          refine w_ld d_123_145 rfl rfl rfl ?_
          refine w_if_eq (g := 163) d_123_146 (by decide) (by decide) (fun h146 => ?_) (fun h146 => ?_)
          · exact absurd h146 (by decide)
          · refine w_ld d_123_149 rfl rfl rfl ?_
            refine w_bip d_123_150 (by decide) ?_
            refine w_icmp_ne (g := 159) d_123_152 (by decide) (by decide) (fun h152 => ?_) (fun h152 => ?_)
            · refine w_lcon0 d_123_159 ?_
              refine w_goto (g := 167) d_123_160 (by decide) ?_
              refine w_last d_123_167 (by first | rfl | assumption) (by omega) ?_
              refine w_ld d_123_168 rfl rfl rfl ?_
              refine w_ld d_123_169 rfl rfl rfl ?_
              refine w_cVm (a := 46) (as := [_]) (rest := _) rfl d_123_171 (by rfl) (by rfl) (by first | rfl | assumption) (by rfl) (by rfl) (Nat.le_of_ble_eq_true rfl) (by omega) (by omega) (m_finish (μ := (stI (stI μ 46 15 (μ.1 46 15 + (fm (μ.2.2 47) (μ.1 46 3) (μ.1 46 15) 5) + 1)) 46 16 (μ.1 46 15 + (fm (μ.2.2 47) (μ.1 46 3) (μ.1 46 15) 5)))) (mk1_A hk1 (a := 50) (by decide) rfl) (MI_16 (MI_15 hM _) _) ⟨hN.1, by omega⟩ (by rw [stA_o2 (by decide)]; exact r56) (by rw [stA_o2 (by decide)]; exact r53) (by rw [stA_o2 (by decide), r49]; decide) (by rw [stA_at]; decide) (by rw [stA_o2 (by decide), r52]; exact ⟨by decide, Or.inl rfl⟩) (by omega) (by omega)) (fun μ1 h2 => ?_)
              refine w_con d_123_174 ?_
              refine w_zret d_123_175 rfl (by decide) ?_
              exact ⟨μ1, rfl, fin_bad15 hN.2.1 (by omega) h2.1 h2.2.1, rfl⟩
            · exact absurd h152 (by decide)
      · exact absurd h92 (by decide)
  · exact absurd h17 (by decide)
theorem m_smpT {sc : Nat × (Nat → Int32)} {fr lo : Nat} {μ : Mem} {ρ : Nat × Nat × Nat} (hM : MI μ) {n : Int} (hN : μ.1 46 17 = n ∧ 0 ≤ n ∧ n ≤ 125) (h16 : μ.1 46 16 = -1) (hn : 0 ≤ μ.1 46 3 ∧ μ.1 46 3 ≤ 240) (hch : ∀ k, 0 ≤ μ.2.2 47 k ∧ μ.2.2 47 k < 65536) (h32 : ∀ k, 0 ≤ k → k < μ.1 46 3 → 32 ≤ μ.2.2 47 k) (hpl : 0 ≤ μ.1 46 15 ∧ μ.1 46 15 ≤ μ.1 46 3) (hf : 14 ≤ fr) (hl : 600 ≤ lo) (hc : (if μ.1 46 15 < μ.1 46 3 then μ.2.2 47 (μ.1 46 15) else 0) = 116) (hm0 : (fm (μ.2.2 47) (μ.1 46 3) (μ.1 46 15) 6) = slen 6) : w_S sc fr lo 123 [.ref 46] (hp μ, ρ) (fun o t' => ∃ μ' : Mem, o = .inl (some (.int (ji 1))) ∧ (lfP μ μ' n 1 1 (μ.1 46 15) (μ.1 46 15 + slen 6)) ∧ t' = (hp μ', ρ)) := by
  have elk := m_look (sc := sc) (fr := fr - 1) (lo := lo - (19 + 2)) (μ := μ) (ρ := ρ) hn (k := μ.1 46 15) (by omega) hpl.1
  rw [hc] at elk
  have hfm := (fm_sp (T := μ.2.2 47) (n := μ.1 46 3) (p := μ.1 46 15) (k := 6) (by decide)).1
  have hs5 : slen 6 ≤ 5 := by decide
  refine w_S.of (L0 := [some (.ref 46), none, none, none, none]) rfl rfl (Nat.le_of_ble_eq_true rfl) (by rfl) ?_
  refine w_ld d_123_0 rfl rfl rfl ?_
  refine w_gI d_123_1 (by rfl) (by first | rfl | assumption) (by rfl) rfl ?_
  refine w_st1 (L' := [_, _, _, _, _]) d_123_4 rfl (by decide) rfl (by decide) rfl ?_
  refine w_ld d_123_5 rfl rfl rfl ?_
  refine w_ld d_123_6 rfl rfl rfl ?_
  refine w_gI d_123_7 (by rfl) (by first | rfl | assumption) (by rfl) rfl ?_
  refine w_cV1 (a := 46) (as := [_]) (rest := _) rfl d_123_10 (by rfl) (by rfl) (by first | rfl | assumption) (by rfl) (by rfl) (Nat.le_of_ble_eq_true rfl) (by omega) (by omega) elk ?_
  refine w_st1 (L' := [_, _, _, _, _]) d_123_13 rfl (by decide) rfl (by decide) rfl ?_
  refine w_ld d_123_14 rfl rfl rfl ?_
  refine w_bip d_123_15 (by decide) ?_
  refine w_icmp_ne (g := 25) d_123_17 (by decide) (by decide) (fun h17 => ?_) (fun h17 => ?_)
  · refine w_ld d_123_25 rfl rfl rfl ?_
    refine w_bip d_123_26 (by decide) ?_
    refine w_icmp_ne (g := 47) d_123_28 (by decide) (by decide) (fun h28 => ?_) (fun h28 => ?_)
    · refine w_ld d_123_47 rfl rfl rfl ?_
      refine w_bip d_123_48 (by decide) ?_
      refine w_icmp_ne (g := 69) d_123_50 (by decide) (by decide) (fun h50 => ?_) (fun h50 => ?_)
      · exact absurd h50 (by decide)
      · refine w_ld d_123_53 rfl rfl rfl ?_
        refine w_bip d_123_54 (by decide) ?_
        refine w_bip d_123_56 (by decide) ?_
        refine w_bip d_123_58 (by decide) ?_
        refine w_bip d_123_60 (by decide) ?_
        refine w_con d_123_62 ?_
        refine w_cVm (a := 46) (as := [_, _, _, _, _]) (rest := _) rfl d_123_63 (by rfl) (by rfl) (by first | rfl | assumption) (by rfl) (by rfl) (Nat.le_of_ble_eq_true rfl) (by omega) (by omega) (m_word (k := 6) hn hch h16 (by decide) (by decide) (by omega) (by omega) (by omega)) (fun μ' hm => ?_)
        have e1 := hm.1 hm0
        subst e1
        obtain ⟨ν, hk1, ⟨r49, r50, r51, r52, r53, r54, r55, r56⟩, hmk⟩ := m_mk sc (fr - 1) (lo - (19 + 4)) ρ (μ := (stI μ 46 15 (μ.1 46 15 + slen 6))) (n := n) ⟨hN.1, hN.2.1, by omega⟩ 1 (μ.1 46 15)
        refine w_goto (g := 89) d_123_66 (by decide) ?_
        refine w_ld d_123_89 rfl rfl rfl ?_
        refine w_bip d_123_90 (by decide) ?_
        refine w_icmp_eq (g := 107) d_123_92 (by decide) (by decide) (fun h92 => ?_) (fun h92 => ?_)
        · exact absurd h92 (by decide)
        · refine w_ld d_123_95 rfl rfl rfl ?_
          refine w_bip d_123_96 (by decide) ?_
          refine w_icmp_eq (g := 107) d_123_98 (by decide) (by decide) (fun h98 => ?_) (fun h98 => ?_)
          · refine w_con d_123_107 ?_
            refine w_goto (g := 112) d_123_108 (by decide) ?_
            refine w_st1 (L' := [_, _, _, _, _]) d_123_112 rfl (by decide) rfl (by decide) rfl ?_
            refine w_ld d_123_113 rfl rfl rfl ?_
            refine w_ld d_123_114 rfl rfl rfl ?_
            refine w_bip d_123_115 (by decide) ?_
            refine w_icmp_ne (g := 124) d_123_117 (by decide) (by decide) (fun h117 => ?_) (fun h117 => ?_)
            · refine w_ld d_123_124 rfl rfl rfl ?_
              refine w_if_eq (g := 132) d_123_125 (by decide) (by decide) (fun h125 => ?_) (fun h125 => ?_)
              · exact absurd h125 (by decide)
              · refine w_con d_123_128 ?_
                refine w_goto (g := 133) d_123_129 (by decide) ?_
                refine w_ld d_123_133 rfl rfl rfl ?_
                refine w_cV1 (a := 46) (as := [_, _]) (rest := _) rfl d_123_134 (by rfl) (by rfl) (by first | rfl | assumption) (by rfl) (by rfl) (Nat.le_of_ble_eq_true rfl) (by omega) (by omega) hmk ?_
                refine w_st1 (L' := [_, _, _, _, _]) d_123_137 rfl (by decide) rfl (by decide) rfl ?_
                refine w_ld d_123_139 rfl rfl rfl ?_
                refine w_getF d_123_140 (by rfl) (by first | rfl | assumption) (by rfl) (by rfl) ?_
                refine w_ld d_123_143 rfl rfl rfl ?_
                refine w_ld d_123_145 rfl rfl rfl ?_
                refine w_if_eq (g := 163) d_123_146 (by decide) (by decide) (fun h146 => ?_) (fun h146 => ?_)
                · exact absurd h146 (by decide)
                · refine w_ld d_123_149 rfl rfl rfl ?_
                  refine w_bip d_123_150 (by decide) ?_
                  refine w_icmp_ne (g := 159) d_123_152 (by decide) (by decide) (fun h152 => ?_) (fun h152 => ?_)
                  · exact absurd h152 (by decide)
                  · refine w_lcon1 d_123_155 ?_
                    refine w_goto (g := 167) d_123_156 (by decide) ?_
                    refine w_last d_123_167 (by first | rfl | assumption) (by omega) ?_
                    refine w_ld d_123_168 rfl rfl rfl ?_
                    refine w_ld d_123_169 rfl rfl rfl ?_
                    refine w_cVm (a := 46) (as := [_]) (rest := _) rfl d_123_171 (by rfl) (by rfl) (by first | rfl | assumption) (by rfl) (by rfl) (Nat.le_of_ble_eq_true rfl) (by omega) (by omega) (m_finish (μ := (stI μ 46 15 (μ.1 46 15 + slen 6))) (mk1_A hk1 (a := 50) (by decide) rfl) (MI_15 hM _) ⟨hN.1, by omega⟩ (by rw [stA_o2 (by decide)]; exact r56) (by rw [stA_o2 (by decide)]; exact r53) (by rw [stA_o2 (by decide), r49]; decide) (by rw [stA_at]; decide) (by rw [stA_o2 (by decide), r52]; exact ⟨by decide, Or.inl rfl⟩) (by omega) (by omega)) (fun μ1 h2 => ?_)
                    refine w_con d_123_174 ?_
                    refine w_zret d_123_175 rfl (by decide) ?_
                    exact ⟨μ1, rfl, fin_ok h2 ⟨by rw [stA_o2 (by decide)]; exact r49, stA_at _ _ _ _, Or.inl rfl, by rw [stA_o2 (by decide)]; exact r52, by rw [stA_o2 (by decide)]; exact r53, by rw [stA_o2 (by decide)]; exact r55⟩, rfl⟩
            · exact absurd h117 (by decide)
          · exact absurd h98 (by decide)
    · exact absurd h28 (by decide)
  · exact absurd h17 (by decide)
theorem m_smpTx {sc : Nat × (Nat → Int32)} {fr lo : Nat} {μ : Mem} {ρ : Nat × Nat × Nat} (hM : MI μ) {n : Int} (hN : μ.1 46 17 = n ∧ 0 ≤ n ∧ n ≤ 125) (h16 : μ.1 46 16 = -1) (hn : 0 ≤ μ.1 46 3 ∧ μ.1 46 3 ≤ 240) (hch : ∀ k, 0 ≤ μ.2.2 47 k ∧ μ.2.2 47 k < 65536) (h32 : ∀ k, 0 ≤ k → k < μ.1 46 3 → 32 ≤ μ.2.2 47 k) (hpl : 0 ≤ μ.1 46 15 ∧ μ.1 46 15 ≤ μ.1 46 3) (hf : 14 ≤ fr) (hl : 600 ≤ lo) (hc : (if μ.1 46 15 < μ.1 46 3 then μ.2.2 47 (μ.1 46 15) else 0) = 116) (hm0 : (fm (μ.2.2 47) (μ.1 46 3) (μ.1 46 15) 6) ≠ slen 6) : w_S sc fr lo 123 [.ref 46] (hp μ, ρ) (fun o t' => ∃ μ' : Mem, o = .inl (some (.int (ji 1))) ∧ (lfX μ μ' (μ.1 46 15 + (fm (μ.2.2 47) (μ.1 46 3) (μ.1 46 15) 6))) ∧ t' = (hp μ', ρ)) := by
  have elk := m_look (sc := sc) (fr := fr - 1) (lo := lo - (19 + 2)) (μ := μ) (ρ := ρ) hn (k := μ.1 46 15) (by omega) hpl.1
  rw [hc] at elk
  have hfm := (fm_sp (T := μ.2.2 47) (n := μ.1 46 3) (p := μ.1 46 15) (k := 6) (by decide)).1
  have hs5 : slen 6 ≤ 5 := by decide
  refine w_S.of (L0 := [some (.ref 46), none, none, none, none]) rfl rfl (Nat.le_of_ble_eq_true rfl) (by rfl) ?_
  refine w_ld d_123_0 rfl rfl rfl ?_
  refine w_gI d_123_1 (by rfl) (by first | rfl | assumption) (by rfl) rfl ?_
  refine w_st1 (L' := [_, _, _, _, _]) d_123_4 rfl (by decide) rfl (by decide) rfl ?_
  refine w_ld d_123_5 rfl rfl rfl ?_
  refine w_ld d_123_6 rfl rfl rfl ?_
  refine w_gI d_123_7 (by rfl) (by first | rfl | assumption) (by rfl) rfl ?_
  refine w_cV1 (a := 46) (as := [_]) (rest := _) rfl d_123_10 (by rfl) (by rfl) (by first | rfl | assumption) (by rfl) (by rfl) (Nat.le_of_ble_eq_true rfl) (by omega) (by omega) elk ?_
  refine w_st1 (L' := [_, _, _, _, _]) d_123_13 rfl (by decide) rfl (by decide) rfl ?_
  refine w_ld d_123_14 rfl rfl rfl ?_
  refine w_bip d_123_15 (by decide) ?_
  refine w_icmp_ne (g := 25) d_123_17 (by decide) (by decide) (fun h17 => ?_) (fun h17 => ?_)
  · refine w_ld d_123_25 rfl rfl rfl ?_
    refine w_bip d_123_26 (by decide) ?_
    refine w_icmp_ne (g := 47) d_123_28 (by decide) (by decide) (fun h28 => ?_) (fun h28 => ?_)
    · refine w_ld d_123_47 rfl rfl rfl ?_
      refine w_bip d_123_48 (by decide) ?_
      refine w_icmp_ne (g := 69) d_123_50 (by decide) (by decide) (fun h50 => ?_) (fun h50 => ?_)
      · exact absurd h50 (by decide)
      · refine w_ld d_123_53 rfl rfl rfl ?_
        refine w_bip d_123_54 (by decide) ?_
        refine w_bip d_123_56 (by decide) ?_
        refine w_bip d_123_58 (by decide) ?_
        refine w_bip d_123_60 (by decide) ?_
        refine w_con d_123_62 ?_
        refine w_cVm (a := 46) (as := [_, _, _, _, _]) (rest := _) rfl d_123_63 (by rfl) (by rfl) (by first | rfl | assumption) (by rfl) (by rfl) (Nat.le_of_ble_eq_true rfl) (by omega) (by omega) (m_word (k := 6) hn hch h16 (by decide) (by decide) (by omega) (by omega) (by omega)) (fun μ' hm => ?_)
        have e1 := hm.2 hm0
        subst e1
        obtain ⟨ν, hk1, ⟨r49, r50, r51, r52, r53, r54, r55, r56⟩, hmk⟩ := m_mk sc (fr - 1) (lo - (19 + 4)) ρ (μ := (stI (stI μ 46 15 (μ.1 46 15 + (fm (μ.2.2 47) (μ.1 46 3) (μ.1 46 15) 6) + 1)) 46 16 (μ.1 46 15 + (fm (μ.2.2 47) (μ.1 46 3) (μ.1 46 15) 6)))) (n := n) ⟨hN.1, hN.2.1, by omega⟩ 1 (μ.1 46 15)
        refine w_goto (g := 89) d_123_66 (by decide) ?_
        refine w_ld d_123_89 rfl rfl rfl ?_
        refine w_bip d_123_90 (by decide) ?_
        refine w_icmp_eq (g := 107) d_123_92 (by decide) (by decide) (fun h92 => ?_) (fun h92 => ?_)
        · exact absurd h92 (by decide)
        · refine w_ld d_123_95 rfl rfl rfl ?_
          refine w_bip d_123_96 (by decide) ?_
          refine w_icmp_eq (g := 107) d_123_98 (by decide) (by decide) (fun h98 => ?_) (fun h98 => ?_)
          · refine w_con d_123_107 ?_
            refine w_goto (g := 112) d_123_108 (by decide) ?_
            refine w_st1 (L' := [_, _, _, _, _]) d_123_112 rfl (by decide) rfl (by decide) rfl ?_
            refine w_ld d_123_113 rfl rfl rfl ?_
            refine w_ld d_123_114 rfl rfl rfl ?_
            refine w_bip d_123_115 (by decide) ?_
            refine w_icmp_ne (g := 124) d_123_117 (by decide) (by decide) (fun h117 => ?_) (fun h117 => ?_)
            · refine w_ld d_123_124 rfl rfl rfl ?_
              refine w_if_eq (g := 132) d_123_125 (by decide) (by decide) (fun h125 => ?_) (fun h125 => ?_)
              · exact absurd h125 (by decide)
              · refine w_con d_123_128 ?_
                refine w_goto (g := 133) d_123_129 (by decide) ?_
                refine w_ld d_123_133 rfl rfl rfl ?_
                refine w_cV1 (a := 46) (as := [_, _]) (rest := _) rfl d_123_134 (by rfl) (by rfl) (by first | rfl | assumption) (by rfl) (by rfl) (Nat.le_of_ble_eq_true rfl) (by omega) (by omega) hmk ?_
                refine w_st1 (L' := [_, _, _, _, _]) d_123_137 rfl (by decide) rfl (by decide) rfl ?_
                refine w_ld d_123_139 rfl rfl rfl ?_
                refine w_getF d_123_140 (by rfl) (by first | rfl | assumption) (by rfl) (by rfl) ?_
                refine w_ld d_123_143 rfl rfl rfl ?_
                refine w_ld d_123_145 rfl rfl rfl ?_
                refine w_if_eq (g := 163) d_123_146 (by decide) (by decide) (fun h146 => ?_) (fun h146 => ?_)
                · exact absurd h146 (by decide)
                · refine w_ld d_123_149 rfl rfl rfl ?_
                  refine w_bip d_123_150 (by decide) ?_
                  refine w_icmp_ne (g := 159) d_123_152 (by decide) (by decide) (fun h152 => ?_) (fun h152 => ?_)
                  · exact absurd h152 (by decide)
                  · refine w_lcon1 d_123_155 ?_
                    refine w_goto (g := 167) d_123_156 (by decide) ?_
                    refine w_last d_123_167 (by first | rfl | assumption) (by omega) ?_
                    refine w_ld d_123_168 rfl rfl rfl ?_
                    refine w_ld d_123_169 rfl rfl rfl ?_
                    refine w_cVm (a := 46) (as := [_]) (rest := _) rfl d_123_171 (by rfl) (by rfl) (by first | rfl | assumption) (by rfl) (by rfl) (Nat.le_of_ble_eq_true rfl) (by omega) (by omega) (m_finish (μ := (stI (stI μ 46 15 (μ.1 46 15 + (fm (μ.2.2 47) (μ.1 46 3) (μ.1 46 15) 6) + 1)) 46 16 (μ.1 46 15 + (fm (μ.2.2 47) (μ.1 46 3) (μ.1 46 15) 6)))) (mk1_A hk1 (a := 50) (by decide) rfl) (MI_16 (MI_15 hM _) _) ⟨hN.1, by omega⟩ (by rw [stA_o2 (by decide)]; exact r56) (by rw [stA_o2 (by decide)]; exact r53) (by rw [stA_o2 (by decide), r49]; decide) (by rw [stA_at]; decide) (by rw [stA_o2 (by decide), r52]; exact ⟨by decide, Or.inl rfl⟩) (by omega) (by omega)) (fun μ1 h2 => ?_)
                    refine w_con d_123_174 ?_
                    refine w_zret d_123_175 rfl (by decide) ?_
                    exact ⟨μ1, rfl, fin_bad15 hN.2.1 (by omega) h2.1 h2.2.1, rfl⟩
            · exact absurd h117 (by decide)
          · exact absurd h98 (by decide)
    · exact absurd h28 (by decide)
  · exact absurd h17 (by decide)
theorem m_smpF {sc : Nat × (Nat → Int32)} {fr lo : Nat} {μ : Mem} {ρ : Nat × Nat × Nat} (hM : MI μ) {n : Int} (hN : μ.1 46 17 = n ∧ 0 ≤ n ∧ n ≤ 125) (h16 : μ.1 46 16 = -1) (hn : 0 ≤ μ.1 46 3 ∧ μ.1 46 3 ≤ 240) (hch : ∀ k, 0 ≤ μ.2.2 47 k ∧ μ.2.2 47 k < 65536) (h32 : ∀ k, 0 ≤ k → k < μ.1 46 3 → 32 ≤ μ.2.2 47 k) (hpl : 0 ≤ μ.1 46 15 ∧ μ.1 46 15 ≤ μ.1 46 3) (hf : 14 ≤ fr) (hl : 600 ≤ lo) (hc : (if μ.1 46 15 < μ.1 46 3 then μ.2.2 47 (μ.1 46 15) else 0) = 102) (hm0 : (fm (μ.2.2 47) (μ.1 46 3) (μ.1 46 15) 7) = slen 7) : w_S sc fr lo 123 [.ref 46] (hp μ, ρ) (fun o t' => ∃ μ' : Mem, o = .inl (some (.int (ji 1))) ∧ (lfP μ μ' n 1 0 (μ.1 46 15) (μ.1 46 15 + slen 7)) ∧ t' = (hp μ', ρ)) := by
  have elk := m_look (sc := sc) (fr := fr - 1) (lo := lo - (19 + 2)) (μ := μ) (ρ := ρ) hn (k := μ.1 46 15) (by omega) hpl.1
  rw [hc] at elk
  have hfm := (fm_sp (T := μ.2.2 47) (n := μ.1 46 3) (p := μ.1 46 15) (k := 7) (by decide)).1
  have hs5 : slen 7 ≤ 5 := by decide
  refine w_S.of (L0 := [some (.ref 46), none, none, none, none]) rfl rfl (Nat.le_of_ble_eq_true rfl) (by rfl) ?_
  refine w_ld d_123_0 rfl rfl rfl ?_
  refine w_gI d_123_1 (by rfl) (by first | rfl | assumption) (by rfl) rfl ?_
  refine w_st1 (L' := [_, _, _, _, _]) d_123_4 rfl (by decide) rfl (by decide) rfl ?_
  refine w_ld d_123_5 rfl rfl rfl ?_
  refine w_ld d_123_6 rfl rfl rfl ?_
  refine w_gI d_123_7 (by rfl) (by first | rfl | assumption) (by rfl) rfl ?_
  refine w_cV1 (a := 46) (as := [_]) (rest := _) rfl d_123_10 (by rfl) (by rfl) (by first | rfl | assumption) (by rfl) (by rfl) (Nat.le_of_ble_eq_true rfl) (by omega) (by omega) elk ?_
  refine w_st1 (L' := [_, _, _, _, _]) d_123_13 rfl (by decide) rfl (by decide) rfl ?_
  refine w_ld d_123_14 rfl rfl rfl ?_
  refine w_bip d_123_15 (by decide) ?_
  refine w_icmp_ne (g := 25) d_123_17 (by decide) (by decide) (fun h17 => ?_) (fun h17 => ?_)
  · refine w_ld d_123_25 rfl rfl rfl ?_
    refine w_bip d_123_26 (by decide) ?_
    refine w_icmp_ne (g := 47) d_123_28 (by decide) (by decide) (fun h28 => ?_) (fun h28 => ?_)
    · refine w_ld d_123_47 rfl rfl rfl ?_
      refine w_bip d_123_48 (by decide) ?_
      refine w_icmp_ne (g := 69) d_123_50 (by decide) (by decide) (fun h50 => ?_) (fun h50 => ?_)
      · refine w_ld d_123_69 rfl rfl rfl ?_
        refine w_bip d_123_70 (by decide) ?_
        refine w_icmp_ne (g := 89) d_123_72 (by decide) (by decide) (fun h72 => ?_) (fun h72 => ?_)
        · exact absurd h72 (by decide)
        · refine w_ld d_123_75 rfl rfl rfl ?_
          refine w_bip d_123_76 (by decide) ?_
          refine w_bip d_123_78 (by decide) ?_
          refine w_bip d_123_80 (by decide) ?_
          refine w_bip d_123_82 (by decide) ?_
          refine w_bip d_123_84 (by decide) ?_
          refine w_cVm (a := 46) (as := [_, _, _, _, _]) (rest := _) rfl d_123_86 (by rfl) (by rfl) (by first | rfl | assumption) (by rfl) (by rfl) (Nat.le_of_ble_eq_true rfl) (by omega) (by omega) (m_word (k := 7) hn hch h16 (by decide) (by decide) (by omega) (by omega) (by omega)) (fun μ' hm => ?_)
          have e1 := hm.1 hm0
          subst e1
          obtain ⟨ν, hk1, ⟨r49, r50, r51, r52, r53, r54, r55, r56⟩, hmk⟩ := m_mk sc (fr - 1) (lo - (19 + 4)) ρ (μ := (stI μ 46 15 (μ.1 46 15 + slen 7))) (n := n) ⟨hN.1, hN.2.1, by omega⟩ 1 (μ.1 46 15)
          refine w_ld d_123_89 rfl rfl rfl ?_
          refine w_bip d_123_90 (by decide) ?_
          refine w_icmp_eq (g := 107) d_123_92 (by decide) (by decide) (fun h92 => ?_) (fun h92 => ?_)
          · exact absurd h92 (by decide)
          · refine w_ld d_123_95 rfl rfl rfl ?_
            refine w_bip d_123_96 (by decide) ?_
            refine w_icmp_eq (g := 107) d_123_98 (by decide) (by decide) (fun h98 => ?_) (fun h98 => ?_)
            · exact absurd h98 (by decide)
            · refine w_ld d_123_101 rfl rfl rfl ?_
              refine w_bip d_123_102 (by decide) ?_
              refine w_icmp_ne (g := 111) d_123_104 (by decide) (by decide) (fun h104 => ?_) (fun h104 => ?_)
              · exact absurd h104 (by decide)
              · refine w_con d_123_107 ?_
                refine w_goto (g := 112) d_123_108 (by decide) ?_
                refine w_st1 (L' := [_, _, _, _, _]) d_123_112 rfl (by decide) rfl (by decide) rfl ?_
                refine w_ld d_123_113 rfl rfl rfl ?_
                refine w_ld d_123_114 rfl rfl rfl ?_
                refine w_bip d_123_115 (by decide) ?_
                refine w_icmp_ne (g := 124) d_123_117 (by decide) (by decide) (fun h117 => ?_) (fun h117 => ?_)
                · refine w_ld d_123_124 rfl rfl rfl ?_
                  refine w_if_eq (g := 132) d_123_125 (by decide) (by decide) (fun h125 => ?_) (fun h125 => ?_)
                  · exact absurd h125 (by decide)
                  · refine w_con d_123_128 ?_
                    refine w_goto (g := 133) d_123_129 (by decide) ?_
                    refine w_ld d_123_133 rfl rfl rfl ?_
                    refine w_cV1 (a := 46) (as := [_, _]) (rest := _) rfl d_123_134 (by rfl) (by rfl) (by first | rfl | assumption) (by rfl) (by rfl) (Nat.le_of_ble_eq_true rfl) (by omega) (by omega) hmk ?_
                    refine w_st1 (L' := [_, _, _, _, _]) d_123_137 rfl (by decide) rfl (by decide) rfl ?_
                    refine w_ld d_123_139 rfl rfl rfl ?_
                    refine w_getF d_123_140 (by rfl) (by first | rfl | assumption) (by rfl) (by rfl) ?_
                    refine w_ld d_123_143 rfl rfl rfl ?_
                    refine w_ld d_123_145 rfl rfl rfl ?_
                    refine w_if_eq (g := 163) d_123_146 (by decide) (by decide) (fun h146 => ?_) (fun h146 => ?_)
                    · exact absurd h146 (by decide)
                    · refine w_ld d_123_149 rfl rfl rfl ?_
                      refine w_bip d_123_150 (by decide) ?_
                      refine w_icmp_ne (g := 159) d_123_152 (by decide) (by decide) (fun h152 => ?_) (fun h152 => ?_)
                      · refine w_lcon0 d_123_159 ?_
                        refine w_goto (g := 167) d_123_160 (by decide) ?_
                        refine w_last d_123_167 (by first | rfl | assumption) (by omega) ?_
                        refine w_ld d_123_168 rfl rfl rfl ?_
                        refine w_ld d_123_169 rfl rfl rfl ?_
                        refine w_cVm (a := 46) (as := [_]) (rest := _) rfl d_123_171 (by rfl) (by rfl) (by first | rfl | assumption) (by rfl) (by rfl) (Nat.le_of_ble_eq_true rfl) (by omega) (by omega) (m_finish (μ := (stI μ 46 15 (μ.1 46 15 + slen 7))) (mk1_A hk1 (a := 50) (by decide) rfl) (MI_15 hM _) ⟨hN.1, by omega⟩ (by rw [stA_o2 (by decide)]; exact r56) (by rw [stA_o2 (by decide)]; exact r53) (by rw [stA_o2 (by decide), r49]; decide) (by rw [stA_at]; decide) (by rw [stA_o2 (by decide), r52]; exact ⟨by decide, Or.inl rfl⟩) (by omega) (by omega)) (fun μ1 h2 => ?_)
                        refine w_con d_123_174 ?_
                        refine w_zret d_123_175 rfl (by decide) ?_
                        exact ⟨μ1, rfl, fin_ok h2 ⟨by rw [stA_o2 (by decide)]; exact r49, stA_at _ _ _ _, Or.inl rfl, by rw [stA_o2 (by decide)]; exact r52, by rw [stA_o2 (by decide)]; exact r53, by rw [stA_o2 (by decide)]; exact r55⟩, rfl⟩
                      · exact absurd h152 (by decide)
                · exact absurd h117 (by decide)
      · exact absurd h50 (by decide)
    · exact absurd h28 (by decide)
  · exact absurd h17 (by decide)
theorem m_smpFx {sc : Nat × (Nat → Int32)} {fr lo : Nat} {μ : Mem} {ρ : Nat × Nat × Nat} (hM : MI μ) {n : Int} (hN : μ.1 46 17 = n ∧ 0 ≤ n ∧ n ≤ 125) (h16 : μ.1 46 16 = -1) (hn : 0 ≤ μ.1 46 3 ∧ μ.1 46 3 ≤ 240) (hch : ∀ k, 0 ≤ μ.2.2 47 k ∧ μ.2.2 47 k < 65536) (h32 : ∀ k, 0 ≤ k → k < μ.1 46 3 → 32 ≤ μ.2.2 47 k) (hpl : 0 ≤ μ.1 46 15 ∧ μ.1 46 15 ≤ μ.1 46 3) (hf : 14 ≤ fr) (hl : 600 ≤ lo) (hc : (if μ.1 46 15 < μ.1 46 3 then μ.2.2 47 (μ.1 46 15) else 0) = 102) (hm0 : (fm (μ.2.2 47) (μ.1 46 3) (μ.1 46 15) 7) ≠ slen 7) : w_S sc fr lo 123 [.ref 46] (hp μ, ρ) (fun o t' => ∃ μ' : Mem, o = .inl (some (.int (ji 1))) ∧ (lfX μ μ' (μ.1 46 15 + (fm (μ.2.2 47) (μ.1 46 3) (μ.1 46 15) 7))) ∧ t' = (hp μ', ρ)) := by
  have elk := m_look (sc := sc) (fr := fr - 1) (lo := lo - (19 + 2)) (μ := μ) (ρ := ρ) hn (k := μ.1 46 15) (by omega) hpl.1
  rw [hc] at elk
  have hfm := (fm_sp (T := μ.2.2 47) (n := μ.1 46 3) (p := μ.1 46 15) (k := 7) (by decide)).1
  have hs5 : slen 7 ≤ 5 := by decide
  refine w_S.of (L0 := [some (.ref 46), none, none, none, none]) rfl rfl (Nat.le_of_ble_eq_true rfl) (by rfl) ?_
  refine w_ld d_123_0 rfl rfl rfl ?_
  refine w_gI d_123_1 (by rfl) (by first | rfl | assumption) (by rfl) rfl ?_
  refine w_st1 (L' := [_, _, _, _, _]) d_123_4 rfl (by decide) rfl (by decide) rfl ?_
  refine w_ld d_123_5 rfl rfl rfl ?_
  refine w_ld d_123_6 rfl rfl rfl ?_
  refine w_gI d_123_7 (by rfl) (by first | rfl | assumption) (by rfl) rfl ?_
  refine w_cV1 (a := 46) (as := [_]) (rest := _) rfl d_123_10 (by rfl) (by rfl) (by first | rfl | assumption) (by rfl) (by rfl) (Nat.le_of_ble_eq_true rfl) (by omega) (by omega) elk ?_
  refine w_st1 (L' := [_, _, _, _, _]) d_123_13 rfl (by decide) rfl (by decide) rfl ?_
  refine w_ld d_123_14 rfl rfl rfl ?_
  refine w_bip d_123_15 (by decide) ?_
  refine w_icmp_ne (g := 25) d_123_17 (by decide) (by decide) (fun h17 => ?_) (fun h17 => ?_)
  · refine w_ld d_123_25 rfl rfl rfl ?_
    refine w_bip d_123_26 (by decide) ?_
    refine w_icmp_ne (g := 47) d_123_28 (by decide) (by decide) (fun h28 => ?_) (fun h28 => ?_)
    · refine w_ld d_123_47 rfl rfl rfl ?_
      refine w_bip d_123_48 (by decide) ?_
      refine w_icmp_ne (g := 69) d_123_50 (by decide) (by decide) (fun h50 => ?_) (fun h50 => ?_)
      · refine w_ld d_123_69 rfl rfl rfl ?_
        refine w_bip d_123_70 (by decide) ?_
        refine w_icmp_ne (g := 89) d_123_72 (by decide) (by decide) (fun h72 => ?_) (fun h72 => ?_)
        · exact absurd h72 (by decide)
        · refine w_ld d_123_75 rfl rfl rfl ?_
          refine w_bip d_123_76 (by decide) ?_
          refine w_bip d_123_78 (by decide) ?_
          refine w_bip d_123_80 (by decide) ?_
          refine w_bip d_123_82 (by decide) ?_
          refine w_bip d_123_84 (by decide) ?_
          refine w_cVm (a := 46) (as := [_, _, _, _, _]) (rest := _) rfl d_123_86 (by rfl) (by rfl) (by first | rfl | assumption) (by rfl) (by rfl) (Nat.le_of_ble_eq_true rfl) (by omega) (by omega) (m_word (k := 7) hn hch h16 (by decide) (by decide) (by omega) (by omega) (by omega)) (fun μ' hm => ?_)
          have e1 := hm.2 hm0
          subst e1
          obtain ⟨ν, hk1, ⟨r49, r50, r51, r52, r53, r54, r55, r56⟩, hmk⟩ := m_mk sc (fr - 1) (lo - (19 + 4)) ρ (μ := (stI (stI μ 46 15 (μ.1 46 15 + (fm (μ.2.2 47) (μ.1 46 3) (μ.1 46 15) 7) + 1)) 46 16 (μ.1 46 15 + (fm (μ.2.2 47) (μ.1 46 3) (μ.1 46 15) 7)))) (n := n) ⟨hN.1, hN.2.1, by omega⟩ 1 (μ.1 46 15)
          refine w_ld d_123_89 rfl rfl rfl ?_
          refine w_bip d_123_90 (by decide) ?_
          refine w_icmp_eq (g := 107) d_123_92 (by decide) (by decide) (fun h92 => ?_) (fun h92 => ?_)
          · exact absurd h92 (by decide)
          · refine w_ld d_123_95 rfl rfl rfl ?_
            refine w_bip d_123_96 (by decide) ?_
            refine w_icmp_eq (g := 107) d_123_98 (by decide) (by decide) (fun h98 => ?_) (fun h98 => ?_)
            · exact absurd h98 (by decide)
            · refine w_ld d_123_101 rfl rfl rfl ?_
              refine w_bip d_123_102 (by decide) ?_
              refine w_icmp_ne (g := 111) d_123_104 (by decide) (by decide) (fun h104 => ?_) (fun h104 => ?_)
              · exact absurd h104 (by decide)
              · refine w_con d_123_107 ?_
                refine w_goto (g := 112) d_123_108 (by decide) ?_
                refine w_st1 (L' := [_, _, _, _, _]) d_123_112 rfl (by decide) rfl (by decide) rfl ?_
                refine w_ld d_123_113 rfl rfl rfl ?_
                refine w_ld d_123_114 rfl rfl rfl ?_
                refine w_bip d_123_115 (by decide) ?_
                refine w_icmp_ne (g := 124) d_123_117 (by decide) (by decide) (fun h117 => ?_) (fun h117 => ?_)
                · refine w_ld d_123_124 rfl rfl rfl ?_
                  refine w_if_eq (g := 132) d_123_125 (by decide) (by decide) (fun h125 => ?_) (fun h125 => ?_)
                  · exact absurd h125 (by decide)
                  · refine w_con d_123_128 ?_
                    refine w_goto (g := 133) d_123_129 (by decide) ?_
                    refine w_ld d_123_133 rfl rfl rfl ?_
                    refine w_cV1 (a := 46) (as := [_, _]) (rest := _) rfl d_123_134 (by rfl) (by rfl) (by first | rfl | assumption) (by rfl) (by rfl) (Nat.le_of_ble_eq_true rfl) (by omega) (by omega) hmk ?_
                    refine w_st1 (L' := [_, _, _, _, _]) d_123_137 rfl (by decide) rfl (by decide) rfl ?_
                    refine w_ld d_123_139 rfl rfl rfl ?_
                    refine w_getF d_123_140 (by rfl) (by first | rfl | assumption) (by rfl) (by rfl) ?_
                    refine w_ld d_123_143 rfl rfl rfl ?_
                    refine w_ld d_123_145 rfl rfl rfl ?_
                    refine w_if_eq (g := 163) d_123_146 (by decide) (by decide) (fun h146 => ?_) (fun h146 => ?_)
                    · exact absurd h146 (by decide)
                    · refine w_ld d_123_149 rfl rfl rfl ?_
                      refine w_bip d_123_150 (by decide) ?_
                      refine w_icmp_ne (g := 159) d_123_152 (by decide) (by decide) (fun h152 => ?_) (fun h152 => ?_)
                      · refine w_lcon0 d_123_159 ?_
                        refine w_goto (g := 167) d_123_160 (by decide) ?_
                        refine w_last d_123_167 (by first | rfl | assumption) (by omega) ?_
                        refine w_ld d_123_168 rfl rfl rfl ?_
                        refine w_ld d_123_169 rfl rfl rfl ?_
                        refine w_cVm (a := 46) (as := [_]) (rest := _) rfl d_123_171 (by rfl) (by rfl) (by first | rfl | assumption) (by rfl) (by rfl) (Nat.le_of_ble_eq_true rfl) (by omega) (by omega) (m_finish (μ := (stI (stI μ 46 15 (μ.1 46 15 + (fm (μ.2.2 47) (μ.1 46 3) (μ.1 46 15) 7) + 1)) 46 16 (μ.1 46 15 + (fm (μ.2.2 47) (μ.1 46 3) (μ.1 46 15) 7)))) (mk1_A hk1 (a := 50) (by decide) rfl) (MI_16 (MI_15 hM _) _) ⟨hN.1, by omega⟩ (by rw [stA_o2 (by decide)]; exact r56) (by rw [stA_o2 (by decide)]; exact r53) (by rw [stA_o2 (by decide), r49]; decide) (by rw [stA_at]; decide) (by rw [stA_o2 (by decide), r52]; exact ⟨by decide, Or.inl rfl⟩) (by omega) (by omega)) (fun μ1 h2 => ?_)
                        refine w_con d_123_174 ?_
                        refine w_zret d_123_175 rfl (by decide) ?_
                        exact ⟨μ1, rfl, fin_bad15 hN.2.1 (by omega) h2.1 h2.2.1, rfl⟩
                      · exact absurd h152 (by decide)
                · exact absurd h117 (by decide)
      · exact absurd h50 (by decide)
    · exact absurd h28 (by decide)
  · exact absurd h17 (by decide)
theorem m_smpI {sc : Nat × (Nat → Int32)} {fr lo : Nat} {μ : Mem} {ρ : Nat × Nat × Nat} (hM : MI μ) {n : Int} (hN : μ.1 46 17 = n ∧ 0 ≤ n ∧ n ≤ 125) (h16 : μ.1 46 16 = -1) (hn : 0 ≤ μ.1 46 3 ∧ μ.1 46 3 ≤ 240) (hch : ∀ k, 0 ≤ μ.2.2 47 k ∧ μ.2.2 47 k < 65536) (h32 : ∀ k, 0 ≤ k → k < μ.1 46 3 → 32 ≤ μ.2.2 47 k) (hpl : 0 ≤ μ.1 46 15 ∧ μ.1 46 15 ≤ μ.1 46 3) (hf : 14 ≤ fr) (hl : 600 ≤ lo) (hc : (if μ.1 46 15 < μ.1 46 3 then μ.2.2 47 (μ.1 46 15) else 0) ≠ 34 ∧ (if μ.1 46 15 < μ.1 46 3 then μ.2.2 47 (μ.1 46 15) else 0) ≠ 110 ∧ (if μ.1 46 15 < μ.1 46 3 then μ.2.2 47 (μ.1 46 15) else 0) ≠ 116 ∧ (if μ.1 46 15 < μ.1 46 3 then μ.2.2 47 (μ.1 46 15) else 0) ≠ 102) (hok : (scn (μ.2.2 47) (μ.1 46 15) (μ.1 46 3)).1 = true ∧ (scn (μ.2.2 47) (μ.1 46 15) (μ.1 46 3)).2.2.1 = true) : w_S sc fr lo 123 [.ref 46] (hp μ, ρ) (fun o t' => ∃ μ' : Mem, o = .inl (some (.int (ji 1))) ∧ (lfP μ μ' n 2 (scn (μ.2.2 47) (μ.1 46 15) (μ.1 46 3)).2.2.2 (μ.1 46 15) (scn (μ.2.2 47) (μ.1 46 15) (μ.1 46 3)).2.1) ∧ t' = (hp μ', ρ)) := by
  have elk := m_look (sc := sc) (fr := fr - 1) (lo := lo - (19 + 2)) (μ := μ) (ρ := ρ) hn (k := μ.1 46 15) (by omega) hpl.1
  obtain ⟨c, hcc⟩ : ∃ c, c = (if μ.1 46 15 < μ.1 46 3 then μ.2.2 47 (μ.1 46 15) else 0) := ⟨_, rfl⟩
  rw [← hcc] at elk hc
  have hc0 : 0 ≤ c ∧ c < 65536 := by
    rw [hcc]
    split
    · exact hch _
    · decide
  have hst := scn_stop (R := μ.2.2 47) hpl.2
  obtain ⟨ν, hk1, ⟨r49, r50, r51, r52, r53, r54, r55, r56⟩, hmk⟩ := m_mk sc (fr - 1) (lo - (19 + 4)) ρ (μ := μ) (n := n) ⟨hN.1, hN.2.1, by omega⟩ 2 (μ.1 46 15)
  have v47 : ν.2.2 47 = μ.2.2 47 := funext fun i => hk1.2.2.2 47 i (by omega)
  have v15 : ν.1 46 15 = μ.1 46 15 := hk1.1 46 15 (by decide)
  have v3 : ν.1 46 3 = μ.1 46 3 := hk1.1 46 3 (by decide)
  have v16 : ν.1 46 16 = μ.1 46 16 := hk1.1 46 16 (by decide)
  refine w_S.of (L0 := [some (.ref 46), none, none, none, none]) rfl rfl (Nat.le_of_ble_eq_true rfl) (by rfl) ?_
  refine w_ld d_123_0 rfl rfl rfl ?_
  refine w_gI d_123_1 (by rfl) (by first | rfl | assumption) (by rfl) rfl ?_
  refine w_st1 (L' := [_, _, _, _, _]) d_123_4 rfl (by decide) rfl (by decide) rfl ?_
  refine w_ld d_123_5 rfl rfl rfl ?_
  refine w_ld d_123_6 rfl rfl rfl ?_
  refine w_gI d_123_7 (by rfl) (by first | rfl | assumption) (by rfl) rfl ?_
  refine w_cV1 (a := 46) (as := [_]) (rest := _) rfl d_123_10 (by rfl) (by rfl) (by first | rfl | assumption) (by rfl) (by rfl) (Nat.le_of_ble_eq_true rfl) (by omega) (by omega) elk ?_
  refine w_st1 (L' := [_, _, _, _, _]) d_123_13 rfl (by decide) rfl (by decide) rfl ?_
  refine w_ld d_123_14 rfl rfl rfl ?_
  refine w_bip d_123_15 (by decide) ?_
  refine w_icmp_ne (g := 25) d_123_17 (by decide) (by omega) (fun h17 => ?_) (fun h17 => ?_)
  · refine w_ld d_123_25 rfl rfl rfl ?_
    refine w_bip d_123_26 (by decide) ?_
    refine w_icmp_ne (g := 47) d_123_28 (by decide) (by omega) (fun h28 => ?_) (fun h28 => ?_)
    · refine w_ld d_123_47 rfl rfl rfl ?_
      refine w_bip d_123_48 (by decide) ?_
      refine w_icmp_ne (g := 69) d_123_50 (by decide) (by omega) (fun h50 => ?_) (fun h50 => ?_)
      · refine w_ld d_123_69 rfl rfl rfl ?_
        refine w_bip d_123_70 (by decide) ?_
        refine w_icmp_ne (g := 89) d_123_72 (by decide) (by omega) (fun h72 => ?_) (fun h72 => ?_)
        · refine w_ld d_123_89 rfl rfl rfl ?_
          refine w_bip d_123_90 (by decide) ?_
          refine w_icmp_eq (g := 107) d_123_92 (by decide) (by omega) (fun h92 => ?_) (fun h92 => ?_)
          · exact absurd h92 (by omega)
          · refine w_ld d_123_95 rfl rfl rfl ?_
            refine w_bip d_123_96 (by decide) ?_
            refine w_icmp_eq (g := 107) d_123_98 (by decide) (by omega) (fun h98 => ?_) (fun h98 => ?_)
            · exact absurd h98 (by omega)
            · refine w_ld d_123_101 rfl rfl rfl ?_
              refine w_bip d_123_102 (by decide) ?_
              refine w_icmp_ne (g := 111) d_123_104 (by decide) (by omega) (fun h104 => ?_) (fun h104 => ?_)
              · refine w_con d_123_111 ?_
                refine w_st1 (L' := [_, _, _, _, _]) d_123_112 rfl (by decide) rfl (by decide) rfl ?_
                refine w_ld d_123_113 rfl rfl rfl ?_
                refine w_ld d_123_114 rfl rfl rfl ?_
                refine w_bip d_123_115 (by decide) ?_
                refine w_icmp_ne (g := 124) d_123_117 (by decide) (by omega) (fun h117 => ?_) (fun h117 => ?_)
                · refine w_ld d_123_124 rfl rfl rfl ?_
                  refine w_if_eq (g := 132) d_123_125 (by decide) (by decide) (fun h125 => ?_) (fun h125 => ?_)
                  · refine w_con d_123_132 ?_
                    refine w_ld d_123_133 rfl rfl rfl ?_
                    refine w_cV1 (a := 46) (as := [_, _]) (rest := _) rfl d_123_134 (by rfl) (by rfl) (by first | rfl | assumption) (by rfl) (by rfl) (Nat.le_of_ble_eq_true rfl) (by omega) (by omega) hmk ?_
                    refine w_st1 (L' := [_, _, _, _, _]) d_123_137 rfl (by decide) rfl (by decide) rfl ?_
                    refine w_ld d_123_139 rfl rfl rfl ?_
                    refine w_getF d_123_140 (by rfl) (by first | rfl | assumption) (by rfl) (by rfl) ?_
                    refine w_ld d_123_143 rfl rfl rfl ?_
                    refine w_ld d_123_145 rfl rfl rfl ?_
                    refine w_if_eq (g := 163) d_123_146 (by decide) (by decide) (fun h146 => ?_) (fun h146 => ?_)
                    · refine w_ld d_123_163 rfl rfl rfl ?_
                      refine w_cVq (a := 46) (as := []) (rest := _) rfl d_123_164 (by rfl) (by rfl) (by first | rfl | assumption) (by rfl) (by rfl) (Nat.le_of_ble_eq_true rfl) (by omega) (by omega) (m_numeral (by rw [v3]; exact hn) (by rw [v47]; exact hch) (by rw [v3, v47]; exact h32) (by rw [v15, v3]; exact hpl) (by rw [v16]; exact h16) (by omega) (by omega)) ?_ ?_
                      rotate_left
                      · rintro _ _ ⟨v, μ2, hv0, _⟩
                        cases hv0
                      rintro _ _ ⟨v, μ2, hv0, hv1, rfl, hg, hx1, hx2⟩
                      cases hv0
                      rw [v47, v15, v3] at hg hx1 hx2
                      obtain ⟨e1, e2⟩ := hg hok
                      subst e1
                      subst e2
                      have hkk := mk1_I (q := 15) (x := (scn (μ.2.2 47) (μ.1 46 15) (μ.1 46 3)).2.1) hk1 (by decide)
                      have hin := scn_in hok.2
                      refine w_last d_123_167 (by first | rfl | assumption) (by omega) ?_
                      refine w_ld d_123_168 rfl rfl rfl ?_
                      refine w_ld d_123_169 rfl rfl rfl ?_
                      refine w_cVm (a := 46) (as := [_]) (rest := _) rfl d_123_171 (by rfl) (by rfl) (by first | rfl | assumption) (by rfl) (by rfl) (Nat.le_of_ble_eq_true rfl) (by omega) (by omega) (m_finish (μ := (stI μ 46 15 (scn (μ.2.2 47) (μ.1 46 15) (μ.1 46 3)).2.1)) (mk1_A hkk (a := 50) (by decide) rfl) (MI_15 hM _) ⟨hN.1, by omega⟩ (by rw [stA_o2 (by decide)]; exact r56) (by rw [stA_o2 (by decide)]; exact r53) (by rw [stA_o2 (by decide)]; show 0 ≤ ν.2.2 49 (256 + n) ∧ ν.2.2 49 (256 + n) ≤ 12; rw [r49]; decide) (by rw [stA_at]; exact hin) (by rw [stA_o2 (by decide), stA_o2 (by decide)]; show (0 ≤ ν.2.2 52 (256 + n) ∧ ν.2.2 52 (256 + n) ≤ 240) ∧ (ν.2.2 52 (256 + n) = 0 ∨ _); rw [r52]; exact ⟨by decide, Or.inl rfl⟩) (by omega) (by omega)) (fun μ1 h2 => ?_)
                      refine w_con d_123_174 ?_
                      refine w_zret d_123_175 rfl (by decide) ?_
                      exact ⟨μ1, rfl, fin_ok h2 ⟨by rw [stA_o2 (by decide)]; exact r49, stA_at _ _ _ _, Or.inl rfl, by rw [stA_o2 (by decide)]; exact r52, by rw [stA_o2 (by decide)]; exact r53, by rw [stA_o2 (by decide)]; exact r55⟩, rfl⟩
                    · exact absurd rfl h146
                  · exact absurd rfl h125
                · exact absurd h117 (by omega)
              · exact absurd h104 (by omega)
        · exact absurd h72 (by omega)
      · exact absurd h50 (by omega)
    · exact absurd h28 (by omega)
  · exact absurd h17 (by omega)
theorem m_smpIx1 {sc : Nat × (Nat → Int32)} {fr lo : Nat} {μ : Mem} {ρ : Nat × Nat × Nat} (hM : MI μ) {n : Int} (hN : μ.1 46 17 = n ∧ 0 ≤ n ∧ n ≤ 125) (h16 : μ.1 46 16 = -1) (hn : 0 ≤ μ.1 46 3 ∧ μ.1 46 3 ≤ 240) (hch : ∀ k, 0 ≤ μ.2.2 47 k ∧ μ.2.2 47 k < 65536) (h32 : ∀ k, 0 ≤ k → k < μ.1 46 3 → 32 ≤ μ.2.2 47 k) (hpl : 0 ≤ μ.1 46 15 ∧ μ.1 46 15 ≤ μ.1 46 3) (hf : 14 ≤ fr) (hl : 600 ≤ lo) (hc : (if μ.1 46 15 < μ.1 46 3 then μ.2.2 47 (μ.1 46 15) else 0) ≠ 34 ∧ (if μ.1 46 15 < μ.1 46 3 then μ.2.2 47 (μ.1 46 15) else 0) ≠ 110 ∧ (if μ.1 46 15 < μ.1 46 3 then μ.2.2 47 (μ.1 46 15) else 0) ≠ 116 ∧ (if μ.1 46 15 < μ.1 46 3 then μ.2.2 47 (μ.1 46 15) else 0) ≠ 102) (hok : (scn (μ.2.2 47) (μ.1 46 15) (μ.1 46 3)).1 = false) : w_S sc fr lo 123 [.ref 46] (hp μ, ρ) (fun o t' => ∃ μ' : Mem, o = .inl (some (.int (ji 1))) ∧ (lfX μ μ' (scn (μ.2.2 47) (μ.1 46 15) (μ.1 46 3)).2.1) ∧ t' = (hp μ', ρ)) := by
  have elk := m_look (sc := sc) (fr := fr - 1) (lo := lo - (19 + 2)) (μ := μ) (ρ := ρ) hn (k := μ.1 46 15) (by omega) hpl.1
  obtain ⟨c, hcc⟩ : ∃ c, c = (if μ.1 46 15 < μ.1 46 3 then μ.2.2 47 (μ.1 46 15) else 0) := ⟨_, rfl⟩
  rw [← hcc] at elk hc
  have hc0 : 0 ≤ c ∧ c < 65536 := by
    rw [hcc]
    split
    · exact hch _
    · decide
  have hst := scn_stop (R := μ.2.2 47) hpl.2
  obtain ⟨ν, hk1, ⟨r49, r50, r51, r52, r53, r54, r55, r56⟩, hmk⟩ := m_mk sc (fr - 1) (lo - (19 + 4)) ρ (μ := μ) (n := n) ⟨hN.1, hN.2.1, by omega⟩ 2 (μ.1 46 15)
  have v47 : ν.2.2 47 = μ.2.2 47 := funext fun i => hk1.2.2.2 47 i (by omega)
  have v15 : ν.1 46 15 = μ.1 46 15 := hk1.1 46 15 (by decide)
  have v3 : ν.1 46 3 = μ.1 46 3 := hk1.1 46 3 (by decide)
  have v16 : ν.1 46 16 = μ.1 46 16 := hk1.1 46 16 (by decide)
  refine w_S.of (L0 := [some (.ref 46), none, none, none, none]) rfl rfl (Nat.le_of_ble_eq_true rfl) (by rfl) ?_
  refine w_ld d_123_0 rfl rfl rfl ?_
  refine w_gI d_123_1 (by rfl) (by first | rfl | assumption) (by rfl) rfl ?_
  refine w_st1 (L' := [_, _, _, _, _]) d_123_4 rfl (by decide) rfl (by decide) rfl ?_
  refine w_ld d_123_5 rfl rfl rfl ?_
  refine w_ld d_123_6 rfl rfl rfl ?_
  refine w_gI d_123_7 (by rfl) (by first | rfl | assumption) (by rfl) rfl ?_
  refine w_cV1 (a := 46) (as := [_]) (rest := _) rfl d_123_10 (by rfl) (by rfl) (by first | rfl | assumption) (by rfl) (by rfl) (Nat.le_of_ble_eq_true rfl) (by omega) (by omega) elk ?_
  refine w_st1 (L' := [_, _, _, _, _]) d_123_13 rfl (by decide) rfl (by decide) rfl ?_
  refine w_ld d_123_14 rfl rfl rfl ?_
  refine w_bip d_123_15 (by decide) ?_
  refine w_icmp_ne (g := 25) d_123_17 (by decide) (by omega) (fun h17 => ?_) (fun h17 => ?_)
  · refine w_ld d_123_25 rfl rfl rfl ?_
    refine w_bip d_123_26 (by decide) ?_
    refine w_icmp_ne (g := 47) d_123_28 (by decide) (by omega) (fun h28 => ?_) (fun h28 => ?_)
    · refine w_ld d_123_47 rfl rfl rfl ?_
      refine w_bip d_123_48 (by decide) ?_
      refine w_icmp_ne (g := 69) d_123_50 (by decide) (by omega) (fun h50 => ?_) (fun h50 => ?_)
      · refine w_ld d_123_69 rfl rfl rfl ?_
        refine w_bip d_123_70 (by decide) ?_
        refine w_icmp_ne (g := 89) d_123_72 (by decide) (by omega) (fun h72 => ?_) (fun h72 => ?_)
        · refine w_ld d_123_89 rfl rfl rfl ?_
          refine w_bip d_123_90 (by decide) ?_
          refine w_icmp_eq (g := 107) d_123_92 (by decide) (by omega) (fun h92 => ?_) (fun h92 => ?_)
          · exact absurd h92 (by omega)
          · refine w_ld d_123_95 rfl rfl rfl ?_
            refine w_bip d_123_96 (by decide) ?_
            refine w_icmp_eq (g := 107) d_123_98 (by decide) (by omega) (fun h98 => ?_) (fun h98 => ?_)
            · exact absurd h98 (by omega)
            · refine w_ld d_123_101 rfl rfl rfl ?_
              refine w_bip d_123_102 (by decide) ?_
              refine w_icmp_ne (g := 111) d_123_104 (by decide) (by omega) (fun h104 => ?_) (fun h104 => ?_)
              · refine w_con d_123_111 ?_
                refine w_st1 (L' := [_, _, _, _, _]) d_123_112 rfl (by decide) rfl (by decide) rfl ?_
                refine w_ld d_123_113 rfl rfl rfl ?_
                refine w_ld d_123_114 rfl rfl rfl ?_
                refine w_bip d_123_115 (by decide) ?_
                refine w_icmp_ne (g := 124) d_123_117 (by decide) (by omega) (fun h117 => ?_) (fun h117 => ?_)
                · refine w_ld d_123_124 rfl rfl rfl ?_
                  refine w_if_eq (g := 132) d_123_125 (by decide) (by decide) (fun h125 => ?_) (fun h125 => ?_)
                  · refine w_con d_123_132 ?_
                    refine w_ld d_123_133 rfl rfl rfl ?_
                    refine w_cV1 (a := 46) (as := [_, _]) (rest := _) rfl d_123_134 (by rfl) (by rfl) (by first | rfl | assumption) (by rfl) (by rfl) (Nat.le_of_ble_eq_true rfl) (by omega) (by omega) hmk ?_
                    refine w_st1 (L' := [_, _, _, _, _]) d_123_137 rfl (by decide) rfl (by decide) rfl ?_
                    refine w_ld d_123_139 rfl rfl rfl ?_
                    refine w_getF d_123_140 (by rfl) (by first | rfl | assumption) (by rfl) (by rfl) ?_
                    refine w_ld d_123_143 rfl rfl rfl ?_
                    refine w_ld d_123_145 rfl rfl rfl ?_
                    refine w_if_eq (g := 163) d_123_146 (by decide) (by decide) (fun h146 => ?_) (fun h146 => ?_)
                    · refine w_ld d_123_163 rfl rfl rfl ?_
                      refine w_cVq (a := 46) (as := []) (rest := _) rfl d_123_164 (by rfl) (by rfl) (by first | rfl | assumption) (by rfl) (by rfl) (Nat.le_of_ble_eq_true rfl) (by omega) (by omega) (m_numeral (by rw [v3]; exact hn) (by rw [v47]; exact hch) (by rw [v3, v47]; exact h32) (by rw [v15, v3]; exact hpl) (by rw [v16]; exact h16) (by omega) (by omega)) ?_ ?_
                      rotate_left
                      · rintro _ _ ⟨v, μ2, hv0, _⟩
                        cases hv0
                      rintro _ _ ⟨v, μ2, hv0, hv1, rfl, hg, hx1, hx2⟩
                      cases hv0
                      rw [v47, v15, v3] at hg hx1 hx2
                      have e2 := hx1 hok
                      subst e2
                      have hkk := mk1_I (q := 16) (x := (scn (μ.2.2 47) (μ.1 46 15) (μ.1 46 3)).2.1) (mk1_I (q := 15) (x := (scn (μ.2.2 47) (μ.1 46 15) (μ.1 46 3)).2.1) hk1 (by decide)) (by decide)
                      obtain ⟨v', hin, hj⟩ := jl_wrap hv1
                      rw [hj]
                      refine w_last d_123_167 (by first | rfl | assumption) (by omega) ?_
                      refine w_ld d_123_168 rfl rfl rfl ?_
                      refine w_ld d_123_169 rfl rfl rfl ?_
                      refine w_cVm (a := 46) (as := [_]) (rest := _) rfl d_123_171 (by rfl) (by rfl) (by first | rfl | assumption) (by rfl) (by rfl) (Nat.le_of_ble_eq_true rfl) (by omega) (by omega) (m_finish (μ := (stI (stI μ 46 15 (scn (μ.2.2 47) (μ.1 46 15) (μ.1 46 3)).2.1) 46 16 (scn (μ.2.2 47) (μ.1 46 15) (μ.1 46 3)).2.1)) (mk1_A hkk (a := 50) (by decide) rfl) (MI_16 (MI_15 hM _) _) ⟨hN.1, by omega⟩ (by rw [stA_o2 (by decide)]; exact r56) (by rw [stA_o2 (by decide)]; exact r53) (by rw [stA_o2 (by decide)]; show 0 ≤ ν.2.2 49 (256 + n) ∧ ν.2.2 49 (256 + n) ≤ 12; rw [r49]; decide) (by rw [stA_at]; exact hin) (by rw [stA_o2 (by decide), stA_o2 (by decide)]; show (0 ≤ ν.2.2 52 (256 + n) ∧ ν.2.2 52 (256 + n) ≤ 240) ∧ (ν.2.2 52 (256 + n) = 0 ∨ _); rw [r52]; exact ⟨by decide, Or.inl rfl⟩) (by omega) (by omega)) (fun μ1 h2 => ?_)
                      refine w_con d_123_174 ?_
                      refine w_zret d_123_175 rfl (by decide) ?_
                      exact ⟨μ1, rfl, fin_bad15 hN.2.1 (by omega) h2.1 h2.2.1, rfl⟩
                    · exact absurd rfl h146
                  · exact absurd rfl h125
                · exact absurd h117 (by omega)
              · exact absurd h104 (by omega)
        · exact absurd h72 (by omega)
      · exact absurd h50 (by omega)
    · exact absurd h28 (by omega)
  · exact absurd h17 (by omega)
theorem m_smpIx2 {sc : Nat × (Nat → Int32)} {fr lo : Nat} {μ : Mem} {ρ : Nat × Nat × Nat} (hM : MI μ) {n : Int} (hN : μ.1 46 17 = n ∧ 0 ≤ n ∧ n ≤ 125) (h16 : μ.1 46 16 = -1) (hn : 0 ≤ μ.1 46 3 ∧ μ.1 46 3 ≤ 240) (hch : ∀ k, 0 ≤ μ.2.2 47 k ∧ μ.2.2 47 k < 65536) (h32 : ∀ k, 0 ≤ k → k < μ.1 46 3 → 32 ≤ μ.2.2 47 k) (hpl : 0 ≤ μ.1 46 15 ∧ μ.1 46 15 ≤ μ.1 46 3) (hf : 14 ≤ fr) (hl : 600 ≤ lo) (hc : (if μ.1 46 15 < μ.1 46 3 then μ.2.2 47 (μ.1 46 15) else 0) ≠ 34 ∧ (if μ.1 46 15 < μ.1 46 3 then μ.2.2 47 (μ.1 46 15) else 0) ≠ 110 ∧ (if μ.1 46 15 < μ.1 46 3 then μ.2.2 47 (μ.1 46 15) else 0) ≠ 116 ∧ (if μ.1 46 15 < μ.1 46 3 then μ.2.2 47 (μ.1 46 15) else 0) ≠ 102) (hok : (scn (μ.2.2 47) (μ.1 46 15) (μ.1 46 3)).1 = true ∧ (scn (μ.2.2 47) (μ.1 46 15) (μ.1 46 3)).2.2.1 = false) : w_S sc fr lo 123 [.ref 46] (hp μ, ρ) (fun o t' => ∃ μ' : Mem, o = .inl (some (.int (ji 1))) ∧ (lfX μ μ' (μ.1 46 15)) ∧ t' = (hp μ', ρ)) := by
  have elk := m_look (sc := sc) (fr := fr - 1) (lo := lo - (19 + 2)) (μ := μ) (ρ := ρ) hn (k := μ.1 46 15) (by omega) hpl.1
  obtain ⟨c, hcc⟩ : ∃ c, c = (if μ.1 46 15 < μ.1 46 3 then μ.2.2 47 (μ.1 46 15) else 0) := ⟨_, rfl⟩
  rw [← hcc] at elk hc
  have hc0 : 0 ≤ c ∧ c < 65536 := by
    rw [hcc]
    split
    · exact hch _
    · decide
  have hst := scn_stop (R := μ.2.2 47) hpl.2
  obtain ⟨ν, hk1, ⟨r49, r50, r51, r52, r53, r54, r55, r56⟩, hmk⟩ := m_mk sc (fr - 1) (lo - (19 + 4)) ρ (μ := μ) (n := n) ⟨hN.1, hN.2.1, by omega⟩ 2 (μ.1 46 15)
  have v47 : ν.2.2 47 = μ.2.2 47 := funext fun i => hk1.2.2.2 47 i (by omega)
  have v15 : ν.1 46 15 = μ.1 46 15 := hk1.1 46 15 (by decide)
  have v3 : ν.1 46 3 = μ.1 46 3 := hk1.1 46 3 (by decide)
  have v16 : ν.1 46 16 = μ.1 46 16 := hk1.1 46 16 (by decide)
  refine w_S.of (L0 := [some (.ref 46), none, none, none, none]) rfl rfl (Nat.le_of_ble_eq_true rfl) (by rfl) ?_
  refine w_ld d_123_0 rfl rfl rfl ?_
  refine w_gI d_123_1 (by rfl) (by first | rfl | assumption) (by rfl) rfl ?_
  refine w_st1 (L' := [_, _, _, _, _]) d_123_4 rfl (by decide) rfl (by decide) rfl ?_
  refine w_ld d_123_5 rfl rfl rfl ?_
  refine w_ld d_123_6 rfl rfl rfl ?_
  refine w_gI d_123_7 (by rfl) (by first | rfl | assumption) (by rfl) rfl ?_
  refine w_cV1 (a := 46) (as := [_]) (rest := _) rfl d_123_10 (by rfl) (by rfl) (by first | rfl | assumption) (by rfl) (by rfl) (Nat.le_of_ble_eq_true rfl) (by omega) (by omega) elk ?_
  refine w_st1 (L' := [_, _, _, _, _]) d_123_13 rfl (by decide) rfl (by decide) rfl ?_
  refine w_ld d_123_14 rfl rfl rfl ?_
  refine w_bip d_123_15 (by decide) ?_
  refine w_icmp_ne (g := 25) d_123_17 (by decide) (by omega) (fun h17 => ?_) (fun h17 => ?_)
  · refine w_ld d_123_25 rfl rfl rfl ?_
    refine w_bip d_123_26 (by decide) ?_
    refine w_icmp_ne (g := 47) d_123_28 (by decide) (by omega) (fun h28 => ?_) (fun h28 => ?_)
    · refine w_ld d_123_47 rfl rfl rfl ?_
      refine w_bip d_123_48 (by decide) ?_
      refine w_icmp_ne (g := 69) d_123_50 (by decide) (by omega) (fun h50 => ?_) (fun h50 => ?_)
      · refine w_ld d_123_69 rfl rfl rfl ?_
        refine w_bip d_123_70 (by decide) ?_
        refine w_icmp_ne (g := 89) d_123_72 (by decide) (by omega) (fun h72 => ?_) (fun h72 => ?_)
        · refine w_ld d_123_89 rfl rfl rfl ?_
          refine w_bip d_123_90 (by decide) ?_
          refine w_icmp_eq (g := 107) d_123_92 (by decide) (by omega) (fun h92 => ?_) (fun h92 => ?_)
          · exact absurd h92 (by omega)
          · refine w_ld d_123_95 rfl rfl rfl ?_
            refine w_bip d_123_96 (by decide) ?_
            refine w_icmp_eq (g := 107) d_123_98 (by decide) (by omega) (fun h98 => ?_) (fun h98 => ?_)
            · exact absurd h98 (by omega)
            · refine w_ld d_123_101 rfl rfl rfl ?_
              refine w_bip d_123_102 (by decide) ?_
              refine w_icmp_ne (g := 111) d_123_104 (by decide) (by omega) (fun h104 => ?_) (fun h104 => ?_)
              · refine w_con d_123_111 ?_
                refine w_st1 (L' := [_, _, _, _, _]) d_123_112 rfl (by decide) rfl (by decide) rfl ?_
                refine w_ld d_123_113 rfl rfl rfl ?_
                refine w_ld d_123_114 rfl rfl rfl ?_
                refine w_bip d_123_115 (by decide) ?_
                refine w_icmp_ne (g := 124) d_123_117 (by decide) (by omega) (fun h117 => ?_) (fun h117 => ?_)
                · refine w_ld d_123_124 rfl rfl rfl ?_
                  refine w_if_eq (g := 132) d_123_125 (by decide) (by decide) (fun h125 => ?_) (fun h125 => ?_)
                  · refine w_con d_123_132 ?_
                    refine w_ld d_123_133 rfl rfl rfl ?_
                    refine w_cV1 (a := 46) (as := [_, _]) (rest := _) rfl d_123_134 (by rfl) (by rfl) (by first | rfl | assumption) (by rfl) (by rfl) (Nat.le_of_ble_eq_true rfl) (by omega) (by omega) hmk ?_
                    refine w_st1 (L' := [_, _, _, _, _]) d_123_137 rfl (by decide) rfl (by decide) rfl ?_
                    refine w_ld d_123_139 rfl rfl rfl ?_
                    refine w_getF d_123_140 (by rfl) (by first | rfl | assumption) (by rfl) (by rfl) ?_
                    refine w_ld d_123_143 rfl rfl rfl ?_
                    refine w_ld d_123_145 rfl rfl rfl ?_
                    refine w_if_eq (g := 163) d_123_146 (by decide) (by decide) (fun h146 => ?_) (fun h146 => ?_)
                    · refine w_ld d_123_163 rfl rfl rfl ?_
                      refine w_cVq (a := 46) (as := []) (rest := _) rfl d_123_164 (by rfl) (by rfl) (by first | rfl | assumption) (by rfl) (by rfl) (Nat.le_of_ble_eq_true rfl) (by omega) (by omega) (m_numeral (by rw [v3]; exact hn) (by rw [v47]; exact hch) (by rw [v3, v47]; exact h32) (by rw [v15, v3]; exact hpl) (by rw [v16]; exact h16) (by omega) (by omega)) ?_ ?_
                      rotate_left
                      · rintro _ _ ⟨v, μ2, hv0, _⟩
                        cases hv0
                      rintro _ _ ⟨v, μ2, hv0, hv1, rfl, hg, hx1, hx2⟩
                      cases hv0
                      rw [v47, v15, v3] at hg hx1 hx2
                      have e2 := hx2 hok
                      subst e2
                      have hkk := mk1_I (q := 16) (x := (μ.1 46 15)) (mk1_I (q := 15) (x := (scn (μ.2.2 47) (μ.1 46 15) (μ.1 46 3)).2.1) hk1 (by decide)) (by decide)
                      obtain ⟨v', hin, hj⟩ := jl_wrap hv1
                      rw [hj]
                      refine w_last d_123_167 (by first | rfl | assumption) (by omega) ?_
                      refine w_ld d_123_168 rfl rfl rfl ?_
                      refine w_ld d_123_169 rfl rfl rfl ?_
                      refine w_cVm (a := 46) (as := [_]) (rest := _) rfl d_123_171 (by rfl) (by rfl) (by first | rfl | assumption) (by rfl) (by rfl) (Nat.le_of_ble_eq_true rfl) (by omega) (by omega) (m_finish (μ := (stI (stI μ 46 15 (scn (μ.2.2 47) (μ.1 46 15) (μ.1 46 3)).2.1) 46 16 (μ.1 46 15))) (mk1_A hkk (a := 50) (by decide) rfl) (MI_16 (MI_15 hM _) _) ⟨hN.1, by omega⟩ (by rw [stA_o2 (by decide)]; exact r56) (by rw [stA_o2 (by decide)]; exact r53) (by rw [stA_o2 (by decide)]; show 0 ≤ ν.2.2 49 (256 + n) ∧ ν.2.2 49 (256 + n) ≤ 12; rw [r49]; decide) (by rw [stA_at]; exact hin) (by rw [stA_o2 (by decide), stA_o2 (by decide)]; show (0 ≤ ν.2.2 52 (256 + n) ∧ ν.2.2 52 (256 + n) ≤ 240) ∧ (ν.2.2 52 (256 + n) = 0 ∨ _); rw [r52]; exact ⟨by decide, Or.inl rfl⟩) (by omega) (by omega)) (fun μ1 h2 => ?_)
                      refine w_con d_123_174 ?_
                      refine w_zret d_123_175 rfl (by decide) ?_
                      exact ⟨μ1, rfl, fin_bad15 hN.2.1 (by omega) h2.1 h2.2.1, rfl⟩
                    · exact absurd rfl h146
                  · exact absurd rfl h125
                · exact absurd h117 (by omega)
              · exact absurd h104 (by omega)
        · exact absurd h72 (by omega)
      · exact absurd h50 (by omega)
    · exact absurd h28 (by omega)
  · exact absurd h17 (by omega)
/-- a string: readSimple is readString -/
theorem m_smpS {sc : Nat × (Nat → Int32)} {fr lo : Nat} {μ : Mem} {ρ : Nat × Nat × Nat} (hn : 0 ≤ μ.1 46 3 ∧ μ.1 46 3 ≤ 240) (hpl : 0 ≤ μ.1 46 15 ∧ μ.1 46 15 ≤ μ.1 46 3) (hf : 2 ≤ fr) (hl : 100 ≤ lo) (hc : (if μ.1 46 15 < μ.1 46 3 then μ.2.2 47 (μ.1 46 15) else 0) = 34) {Q : z_O → z_T → Prop} (hQ : ∀ o t, Q o t → ∃ (r : Int) (t0 : z_T), (r = 0 ∨ r = 1) ∧ o = .inl (some (.int (ji r)))) (K : w_S sc (fr - 1) (lo - (19 + 4)) 124 [.ref 46] (hp μ, ρ) Q) : w_S sc fr lo 123 [.ref 46] (hp μ, ρ) Q := by
  have elk := m_look (sc := sc) (fr := fr - 1) (lo := lo - (19 + 2)) (μ := μ) (ρ := ρ) hn (k := μ.1 46 15) (by omega) hpl.1
  rw [hc] at elk
  refine w_S.of (L0 := [some (.ref 46), none, none, none, none]) rfl rfl (Nat.le_of_ble_eq_true rfl) (by rfl) ?_
  refine w_ld d_123_0 rfl rfl rfl ?_
  refine w_gI d_123_1 (by rfl) (by first | rfl | assumption) (by rfl) rfl ?_
  refine w_st1 (L' := [_, _, _, _, _]) d_123_4 rfl (by decide) rfl (by decide) rfl ?_
  refine w_ld d_123_5 rfl rfl rfl ?_
  refine w_ld d_123_6 rfl rfl rfl ?_
  refine w_gI d_123_7 (by rfl) (by first | rfl | assumption) (by rfl) rfl ?_
  refine w_cV1 (a := 46) (as := [_]) (rest := _) rfl d_123_10 (by rfl) (by rfl) (by first | rfl | assumption) (by rfl) (by rfl) (Nat.le_of_ble_eq_true rfl) (by omega) (by omega) elk ?_
  refine w_st1 (L' := [_, _, _, _, _]) d_123_13 rfl (by decide) rfl (by decide) rfl ?_
  refine w_ld d_123_14 rfl rfl rfl ?_
  refine w_bip d_123_15 (by decide) ?_
  refine w_icmp_ne (g := 25) d_123_17 (by decide) (by decide) (fun h17 => ?_) (fun h17 => ?_)
  · exact absurd rfl h17
  · refine w_ld d_123_20 rfl rfl rfl ?_
    refine w_cVq (a := 46) (as := []) (rest := _) rfl d_123_21 (by rfl) (by rfl) (by first | rfl | assumption) (by rfl) (by rfl) (Nat.le_of_ble_eq_true rfl) (by omega) (by omega) K ?_ ?_
    rotate_left
    · intro r t hq
      obtain ⟨_, _, _, hv⟩ := hQ _ _ hq
      cases hv
    intro v t hq
    obtain ⟨r, _, hr, hv⟩ := hQ _ _ hq
    cases hv
    refine w_zret d_123_24 rfl (by omega) ?_
    exact hq
