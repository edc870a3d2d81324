/-! THE PURE PART, 60: the loop of readAll, step by step -/
def RLp (sc : Nat × (Nat → Int32)) (fr lo : Nat) (ρ : Nat × Nat × Nat) (Q : z_O → z_T → Prop) (w f : Int) (ν : Mem) : Prop := w_P sc fr lo 117 7 4 false (none) prog_9_method_39_code 34 [some (.ref 46), some (.int (ji w)), some (.int (ji f)), none] [] (hp ν, ρ) Q
def R65 (sc : Nat × (Nat → Int32)) (fr lo : Nat) (ρ : Nat × Nat × Nat) (Q : z_O → z_T → Prop) (w f c : Int) (ν : Mem) : Prop := w_P sc fr lo 117 7 4 false (none) prog_9_method_39_code 65 [some (.ref 46), some (.int (ji w)), some (.int (ji f)), some (.int (ji c))] [] (hp ν, ρ) Q
def skM (ν : Mem) : Mem := stI ν 46 15 (sk (ν.2.2 47) (ν.1 46 3) (ν.1 46 15))
theorem L_head {sc : Nat × (Nat → Int32)} {fr lo : Nat} {μ : Mem} {ρ : Nat × Nat × Nat} {Q : z_O → z_T → Prop} {w f : Int} (hn : 0 ≤ μ.1 46 3 ∧ μ.1 46 3 ≤ 240) (hch : ∀ k, 0 ≤ μ.2.2 47 k ∧ μ.2.2 47 k < 65536) (hpl : 0 ≤ μ.1 46 15 ∧ μ.1 46 15 ≤ 950) (h16 : μ.1 46 16 = -1) {d : Int} (hd : μ.1 46 19 = d ∧ 0 ≤ d ∧ d ≤ 8) (hw : w = 1 ∨ w = 0 ∧ 0 < d) (hf : 24 ≤ fr) (hl : 1000 ≤ lo) (K : R65 sc fr lo ρ Q w f (if sk (μ.2.2 47) (μ.1 46 3) (μ.1 46 15) < μ.1 46 3 then μ.2.2 47 (sk (μ.2.2 47) (μ.1 46 3) (μ.1 46 15)) else 0) (skM μ)) : RLp sc fr lo ρ Q w f μ := by
  unfold RLp
  have hsk : 0 ≤ sk (μ.2.2 47) (μ.1 46 3) (μ.1 46 15) ∧ sk (μ.2.2 47) (μ.1 46 3) (μ.1 46 15) ≤ 1000 := by
    have e := sk_ge (μ.2.2 47) (μ.1 46 3) (μ.1 46 15)
    by_cases z : μ.1 46 15 ≤ μ.1 46 3
    · have := sk_le (μ.2.2 47) (μ.1 46 3) (μ.1 46 15) z; omega
    · have := sk_big (μ.2.2 47) (μ.1 46 3) (μ.1 46 15) (by omega); omega
  refine w_ld d_117_34 rfl rfl rfl ?_
  refine w_gI d_117_35 (by rfl) (by first | rfl | assumption) (by rfl) (by first | exact h16 | exact hd.1 | exact stI_at _ _ _ _ | rfl) ?_
  refine w_if_ge (g := 185) d_117_38 (by decide) (by decide) (fun h38 => ?_) (fun h38 => ?_)
  · exact absurd h38 (by decide)
  · refine w_ld d_117_41 rfl rfl rfl ?_
    refine w_if_ne (g := 52) d_117_42 (by decide) (by omega) (fun h42 => ?_) (fun h42 => ?_)
    · refine w_ld d_117_52 rfl rfl rfl ?_
      refine w_cV0 (a := 46) (as := []) (rest := _) rfl d_117_53 (by rfl) (by rfl) (by first | rfl | assumption) (by rfl) (by rfl) (Nat.le_of_ble_eq_true rfl) (by omega) (by omega) (m_spaces hn hch (by omega) (by omega) (by omega)) ?_
      refine w_ld d_117_56 rfl rfl rfl ?_
      refine w_ld d_117_57 rfl rfl rfl ?_
      refine w_gI d_117_58 (by rfl) (by first | rfl | assumption) (by rfl) (by exact stI_at _ _ _ _) ?_
      refine w_cV1 (a := 46) (as := [_]) (rest := _) rfl d_117_61 (by rfl) (by rfl) (by first | rfl | assumption) (by rfl) (by rfl) (Nat.le_of_ble_eq_true rfl) (by omega) (by omega) (by have e := m_look (sc := sc) (fr := fr - 1) (lo := lo - (19 + 2)) (μ := skM μ) (ρ := ρ) hn (k := sk (μ.2.2 47) (μ.1 46 3) (μ.1 46 15)) (by omega) hsk.1; exact e) ?_
      refine w_st1 (L' := [_, _, _, _]) d_117_64 rfl (by decide) rfl (by decide) rfl ?_
      exact K
    · refine w_ld d_117_45 rfl rfl rfl ?_
      refine w_gI d_117_46 (by rfl) (by first | rfl | assumption) (by rfl) (by first | exact h16 | exact hd.1 | exact stI_at _ _ _ _ | rfl) ?_
      refine w_if_le (g := 185) d_117_49 (by decide) (by omega) (fun h49 => ?_) (fun h49 => ?_)
      · exact absurd h49 (by omega)
      · refine w_ld d_117_52 rfl rfl rfl ?_
        refine w_cV0 (a := 46) (as := []) (rest := _) rfl d_117_53 (by rfl) (by rfl) (by first | rfl | assumption) (by rfl) (by rfl) (Nat.le_of_ble_eq_true rfl) (by omega) (by omega) (m_spaces hn hch (by omega) (by omega) (by omega)) ?_
        refine w_ld d_117_56 rfl rfl rfl ?_
        refine w_ld d_117_57 rfl rfl rfl ?_
        refine w_gI d_117_58 (by rfl) (by first | rfl | assumption) (by rfl) (by exact stI_at _ _ _ _) ?_
        refine w_cV1 (a := 46) (as := [_]) (rest := _) rfl d_117_61 (by rfl) (by rfl) (by first | rfl | assumption) (by rfl) (by rfl) (Nat.le_of_ble_eq_true rfl) (by omega) (by omega) (by have e := m_look (sc := sc) (fr := fr - 1) (lo := lo - (19 + 2)) (μ := skM μ) (ρ := ρ) hn (k := sk (μ.2.2 47) (μ.1 46 3) (μ.1 46 15)) (by omega) hsk.1; exact e) ?_
        refine w_st1 (L' := [_, _, _, _]) d_117_64 rfl (by decide) rfl (by decide) rfl ?_
        exact K
theorem L_open {sc : Nat × (Nat → Int32)} {fr lo : Nat} {μ : Mem} {ρ : Nat × Nat × Nat} {Q : z_O → z_T → Prop} {w f c : Int} (hw : w = 1) (hc : c = 91) {P : Mem → Prop} (hf : 24 ≤ fr) (hl : 1000 ≤ lo) (hO : w_S sc (fr - 1) (lo - (19 + 1)) 120 [.ref 46] (hp μ, ρ) (fun o t' => ∃ μ' : Mem, o = .inl none ∧ P μ' ∧ t' = (hp μ', ρ))) (K : ∀ μ', P μ' → RLp sc fr lo ρ Q 1 1 μ') : R65 sc fr lo ρ Q w f c μ := by
  unfold R65
  subst hw hc
  refine w_ld d_117_65 rfl rfl rfl ?_
  refine w_if_eq (g := 84) d_117_66 (by decide) (by decide) (fun h66 => ?_) (fun h66 => ?_)
  · exact absurd h66 (by decide)
  · refine w_ld d_117_69 rfl rfl rfl ?_
    refine w_bip d_117_70 (by decide) ?_
    refine w_icmp_ne (g := 84) d_117_72 (by decide) (by decide) (fun h72 => ?_) (fun h72 => ?_)
    · exact absurd rfl h72
    · refine w_ld d_117_75 rfl rfl rfl ?_
      refine w_cVm (a := 46) (as := []) (rest := _) rfl d_117_76 (by rfl) (by rfl) (by first | rfl | assumption) (by rfl) (by rfl) (Nat.le_of_ble_eq_true rfl) (by omega) (by omega) hO (fun μ' hm => ?_)
      refine w_con d_117_79 ?_
      refine w_st1 (L' := [_, _, _, _]) d_117_80 rfl (by decide) rfl (by decide) rfl ?_
      refine w_goto (g := 182) d_117_81 (by decide) ?_
      refine w_goto (g := 34) d_117_182 (by decide) ?_
      exact w_P.le (K μ' hm) ⟨rfl, rfl, rfl, trivial⟩
theorem L_simple {sc : Nat × (Nat → Int32)} {fr lo : Nat} {μ : Mem} {ρ : Nat × Nat × Nat} {Q : z_O → z_T → Prop} {w f c : Int} (hw : w = 1) (hc : 0 ≤ c ∧ c < 65536 ∧ c ≠ 91) (hfr : f = 0 ∨ f = 1 ∧ c ≠ 93) {P : Int → Mem → Prop} (hf : 24 ≤ fr) (hl : 1000 ≤ lo) (hS : w_S sc (fr - 1) (lo - (19 + 5)) 123 [.ref 46] (hp μ, ρ) (fun o t' => ∃ (r : Int) (μ' : Mem), o = .inl (some (.int (ji r))) ∧ P r μ' ∧ t' = (hp μ', ρ))) (K : ∀ r μ', P r μ' → r = 0 ∧ RLp sc fr lo ρ Q 0 0 μ' ∨ r = 1 ∧ ∃ μ2, w_E sc (fr - 1) (lo - (19 + 1)) 146 [.ref 46] (hp μ', ρ) (.inl none) (hp μ2, ρ) ∧ RLp sc fr lo ρ Q 0 0 μ2) : R65 sc fr lo ρ Q w f c μ := by
  unfold R65
  subst hw
  refine w_ld d_117_65 rfl rfl rfl ?_
  refine w_if_eq (g := 84) d_117_66 (by decide) (by decide) (fun h66 => ?_) (fun h66 => ?_)
  · exact absurd h66 (by decide)
  · refine w_ld d_117_69 rfl rfl rfl ?_
    refine w_bip d_117_70 (by decide) ?_
    refine w_icmp_ne (g := 84) d_117_72 (by decide) (by omega) (fun h72 => ?_) (fun h72 => ?_)
    · refine w_ld d_117_84 rfl rfl rfl ?_
      refine w_if_eq (g := 116) d_117_85 (by decide) (by decide) (fun h85 => ?_) (fun h85 => ?_)
      · exact absurd h85 (by decide)
      · refine w_ld d_117_88 rfl rfl rfl ?_
        refine w_if_eq (g := 98) d_117_89 (by decide) (by omega) (fun h89 => ?_) (fun h89 => ?_)
        · refine w_ld d_117_98 rfl rfl rfl ?_
          refine w_cVq (a := 46) (as := []) (rest := _) rfl d_117_99 (by rfl) (by rfl) (by first | rfl | assumption) (by rfl) (by rfl) (Nat.le_of_ble_eq_true rfl) (by omega) (by omega) hS ?_ ?_
          rotate_left
          · rintro _ _ ⟨r, μ', hr, hP, rfl⟩
            cases hr
          rintro _ _ ⟨r, μ', hr, hP, rfl⟩
          cases hr
          refine w_if_eq (g := 109) d_117_102 (by decide) (by rcases K r μ' hP with ⟨z, _⟩ | ⟨z, _⟩ <;> omega) (fun h102 => ?_) (fun h102 => ?_)
          · refine w_con d_117_109 ?_
            refine w_st1 (L' := [_, _, _, _]) d_117_110 rfl (by decide) rfl (by decide) rfl ?_
            refine w_con d_117_111 ?_
            refine w_st1 (L' := [_, _, _, _]) d_117_112 rfl (by decide) rfl (by decide) rfl ?_
            refine w_goto (g := 182) d_117_113 (by decide) ?_
            refine w_goto (g := 34) d_117_182 (by decide) ?_
            rcases K r μ' hP with ⟨_, k⟩ | ⟨z, _⟩
            · exact w_P.le k ⟨rfl, rfl, rfl, trivial⟩
            · exact absurd (z.symm.trans h102) (by decide)
          · rcases K r μ' hP with ⟨z, _⟩ | ⟨_, μ2, hE, k⟩
            · exact absurd z h102
            refine w_ld d_117_105 rfl rfl rfl ?_
            refine w_cV0 (a := 46) (as := []) (rest := _) rfl d_117_106 (by rfl) (by rfl) (by first | rfl | assumption) (by rfl) (by rfl) (Nat.le_of_ble_eq_true rfl) (by omega) (by omega) hE ?_
            refine w_con d_117_109 ?_
            refine w_st1 (L' := [_, _, _, _]) d_117_110 rfl (by decide) rfl (by decide) rfl ?_
            refine w_con d_117_111 ?_
            refine w_st1 (L' := [_, _, _, _]) d_117_112 rfl (by decide) rfl (by decide) rfl ?_
            refine w_goto (g := 182) d_117_113 (by decide) ?_
            refine w_goto (g := 34) d_117_182 (by decide) ?_
            exact w_P.le k ⟨rfl, rfl, rfl, trivial⟩
        · refine w_ld d_117_92 rfl rfl rfl ?_
          refine w_bip d_117_93 (by decide) ?_
          refine w_icmp_eq (g := 116) d_117_95 (by decide) (by omega) (fun h95 => ?_) (fun h95 => ?_)
          · exact absurd h95 (by omega)
          · refine w_ld d_117_98 rfl rfl rfl ?_
            refine w_cVq (a := 46) (as := []) (rest := _) rfl d_117_99 (by rfl) (by rfl) (by first | rfl | assumption) (by rfl) (by rfl) (Nat.le_of_ble_eq_true rfl) (by omega) (by omega) hS ?_ ?_
            rotate_left
            · rintro _ _ ⟨r, μ', hr, hP, rfl⟩
              cases hr
            rintro _ _ ⟨r, μ', hr, hP, rfl⟩
            cases hr
            refine w_if_eq (g := 109) d_117_102 (by decide) (by rcases K r μ' hP with ⟨z, _⟩ | ⟨z, _⟩ <;> omega) (fun h102 => ?_) (fun h102 => ?_)
            · refine w_con d_117_109 ?_
              refine w_st1 (L' := [_, _, _, _]) d_117_110 rfl (by decide) rfl (by decide) rfl ?_
              refine w_con d_117_111 ?_
              refine w_st1 (L' := [_, _, _, _]) d_117_112 rfl (by decide) rfl (by decide) rfl ?_
              refine w_goto (g := 182) d_117_113 (by decide) ?_
              refine w_goto (g := 34) d_117_182 (by decide) ?_
              rcases K r μ' hP with ⟨_, k⟩ | ⟨z, _⟩
              · exact w_P.le k ⟨rfl, rfl, rfl, trivial⟩
              · exact absurd (z.symm.trans h102) (by decide)
            · rcases K r μ' hP with ⟨z, _⟩ | ⟨_, μ2, hE, k⟩
              · exact absurd z h102
              refine w_ld d_117_105 rfl rfl rfl ?_
              refine w_cV0 (a := 46) (as := []) (rest := _) rfl d_117_106 (by rfl) (by rfl) (by first | rfl | assumption) (by rfl) (by rfl) (Nat.le_of_ble_eq_true rfl) (by omega) (by omega) hE ?_
              refine w_con d_117_109 ?_
              refine w_st1 (L' := [_, _, _, _]) d_117_110 rfl (by decide) rfl (by decide) rfl ?_
              refine w_con d_117_111 ?_
              refine w_st1 (L' := [_, _, _, _]) d_117_112 rfl (by decide) rfl (by decide) rfl ?_
              refine w_goto (g := 182) d_117_113 (by decide) ?_
              refine w_goto (g := 34) d_117_182 (by decide) ?_
              exact w_P.le k ⟨rfl, rfl, rfl, trivial⟩
    · exact absurd h72 (by omega)
theorem L_comma {sc : Nat × (Nat → Int32)} {fr lo : Nat} {μ : Mem} {ρ : Nat × Nat × Nat} {Q : z_O → z_T → Prop} {w f c : Int} (hw : w = 0) (hc : c = 44) (hf : 24 ≤ fr) (hl : 1000 ≤ lo) (hg0 : w_E sc (fr - 1) (lo - (19 + 4)) 147 [.ref 46, .int (ji 0)] (hp μ, ρ) (.inl (some (.int (ji 1)))) (hp μ, ρ)) (K : RLp sc fr lo ρ Q 1 f (stI μ 46 15 (μ.1 46 15 + 1))) : R65 sc fr lo ρ Q w f c μ := by
  unfold R65
  subst hw hc
  refine w_ld d_117_65 rfl rfl rfl ?_
  refine w_if_eq (g := 84) d_117_66 (by decide) (by decide) (fun h66 => ?_) (fun h66 => ?_)
  · refine w_ld d_117_84 rfl rfl rfl ?_
    refine w_if_eq (g := 116) d_117_85 (by decide) (by decide) (fun h85 => ?_) (fun h85 => ?_)
    · refine w_ld d_117_116 rfl rfl rfl ?_
      refine w_if_ne (g := 149) d_117_117 (by decide) (by decide) (fun h117 => ?_) (fun h117 => ?_)
      · exact absurd h117 (by decide)
      · refine w_ld d_117_120 rfl rfl rfl ?_
        refine w_bip d_117_121 (by decide) ?_
        refine w_icmp_ne (g := 149) d_117_123 (by decide) (by decide) (fun h123 => ?_) (fun h123 => ?_)
        · exact absurd rfl h123
        · refine w_ld d_117_126 rfl rfl rfl ?_
          refine w_con d_117_127 ?_
          refine w_cV1 (a := 46) (as := [_]) (rest := _) rfl d_117_128 (by rfl) (by rfl) (by first | rfl | assumption) (by rfl) (by rfl) (Nat.le_of_ble_eq_true rfl) (by omega) (by omega) hg0 ?_
          refine w_if_eq (g := 149) d_117_131 (by decide) (by decide) (fun h131 => ?_) (fun h131 => ?_)
          · exact absurd h131 (by decide)
          · refine w_ld d_117_134 rfl rfl rfl ?_
            refine w_stk d_117_135 rfl ?_
            refine w_gI d_117_136 (by rfl) (by first | rfl | assumption) (by rfl) rfl ?_
            refine w_con d_117_139 ?_
            refine w_iadd d_117_140 ?_
            refine w_putI d_117_141 (by rfl) (by first | rfl | assumption) (by rfl) (fit_I (by rfl)) (by rfl) ?_
            refine w_con d_117_144 ?_
            refine w_st1 (L' := [_, _, _, _]) d_117_145 rfl (by decide) rfl (by decide) rfl ?_
            refine w_goto (g := 182) d_117_146 (by decide) ?_
            refine w_goto (g := 34) d_117_182 (by decide) ?_
            exact w_P.le K ⟨rfl, rfl, rfl, trivial⟩
    · exact absurd rfl h85
  · exact absurd rfl h66
theorem L_close {sc : Nat × (Nat → Int32)} {fr lo : Nat} {μ : Mem} {ρ : Nat × Nat × Nat} {Q : z_O → z_T → Prop} {w f c : Int} (hw : w = 0) (hc : c = 93) (hf : 24 ≤ fr) (hl : 1000 ≤ lo) (hg1 : w_E sc (fr - 1) (lo - (19 + 4)) 147 [.ref 46, .int (ji 1)] (hp μ, ρ) (.inl (some (.int (ji 1)))) (hp μ, ρ)) {P : Mem → Prop} (hC : w_S sc (fr - 1) (lo - (19 + 4)) 148 [.ref 46] (hp μ, ρ) (fun o t' => ∃ μ' : Mem, o = .inl none ∧ P μ' ∧ t' = (hp μ', ρ))) (K : ∀ μ', P μ' → RLp sc fr lo ρ Q 0 0 μ') : R65 sc fr lo ρ Q w f c μ := by
  unfold R65
  subst hw hc
  refine w_ld d_117_65 rfl rfl rfl ?_
  refine w_if_eq (g := 84) d_117_66 (by decide) (by decide) (fun h66 => ?_) (fun h66 => ?_)
  · refine w_ld d_117_84 rfl rfl rfl ?_
    refine w_if_eq (g := 116) d_117_85 (by decide) (by decide) (fun h85 => ?_) (fun h85 => ?_)
    · refine w_ld d_117_116 rfl rfl rfl ?_
      refine w_if_ne (g := 149) d_117_117 (by decide) (by decide) (fun h117 => ?_) (fun h117 => ?_)
      · exact absurd h117 (by decide)
      · refine w_ld d_117_120 rfl rfl rfl ?_
        refine w_bip d_117_121 (by decide) ?_
        refine w_icmp_ne (g := 149) d_117_123 (by decide) (by decide) (fun h123 => ?_) (fun h123 => ?_)
        · refine w_ld d_117_149 rfl rfl rfl ?_
          refine w_bip d_117_150 (by decide) ?_
          refine w_icmp_ne (g := 174) d_117_152 (by decide) (by decide) (fun h152 => ?_) (fun h152 => ?_)
          · exact absurd rfl h152
          · refine w_ld d_117_155 rfl rfl rfl ?_
            refine w_con d_117_156 ?_
            refine w_cV1 (a := 46) (as := [_]) (rest := _) rfl d_117_157 (by rfl) (by rfl) (by first | rfl | assumption) (by rfl) (by rfl) (Nat.le_of_ble_eq_true rfl) (by omega) (by omega) hg1 ?_
            refine w_if_eq (g := 174) d_117_160 (by decide) (by decide) (fun h160 => ?_) (fun h160 => ?_)
            · exact absurd h160 (by decide)
            · refine w_ld d_117_163 rfl rfl rfl ?_
              refine w_cVm (a := 46) (as := []) (rest := _) rfl d_117_164 (by rfl) (by rfl) (by first | rfl | assumption) (by rfl) (by rfl) (Nat.le_of_ble_eq_true rfl) (by omega) (by omega) hC (fun μ' hm => ?_)
              refine w_con d_117_167 ?_
              refine w_st1 (L' := [_, _, _, _]) d_117_168 rfl (by decide) rfl (by decide) rfl ?_
              refine w_con d_117_169 ?_
              refine w_st1 (L' := [_, _, _, _]) d_117_170 rfl (by decide) rfl (by decide) rfl ?_
              refine w_goto (g := 182) d_117_171 (by decide) ?_
              refine w_goto (g := 34) d_117_182 (by decide) ?_
              exact w_P.le (K μ' hm) ⟨rfl, rfl, rfl, trivial⟩
        · exact absurd h123 (by decide)
    · exact absurd rfl h85
  · exact absurd rfl h66
theorem L_close1 {sc : Nat × (Nat → Int32)} {fr lo : Nat} {μ : Mem} {ρ : Nat × Nat × Nat} {Q : z_O → z_T → Prop} {w f c : Int} (hw : w = 1) (hf1 : f = 1) (hc : c = 93) (hf : 24 ≤ fr) (hl : 1000 ≤ lo) (hg1 : w_E sc (fr - 1) (lo - (19 + 4)) 147 [.ref 46, .int (ji 1)] (hp μ, ρ) (.inl (some (.int (ji 1)))) (hp μ, ρ)) {P : Mem → Prop} (hC : w_S sc (fr - 1) (lo - (19 + 4)) 148 [.ref 46] (hp μ, ρ) (fun o t' => ∃ μ' : Mem, o = .inl none ∧ P μ' ∧ t' = (hp μ', ρ))) (K : ∀ μ', P μ' → RLp sc fr lo ρ Q 0 0 μ') : R65 sc fr lo ρ Q w f c μ := by
  unfold R65
  subst hw hf1 hc
  refine w_ld d_117_65 rfl rfl rfl ?_
  refine w_if_eq (g := 84) d_117_66 (by decide) (by decide) (fun h66 => ?_) (fun h66 => ?_)
  · exact absurd h66 (by decide)
  · refine w_ld d_117_69 rfl rfl rfl ?_
    refine w_bip d_117_70 (by decide) ?_
    refine w_icmp_ne (g := 84) d_117_72 (by decide) (by decide) (fun h72 => ?_) (fun h72 => ?_)
    · refine w_ld d_117_84 rfl rfl rfl ?_
      refine w_if_eq (g := 116) d_117_85 (by decide) (by decide) (fun h85 => ?_) (fun h85 => ?_)
      · exact absurd h85 (by decide)
      · refine w_ld d_117_88 rfl rfl rfl ?_
        refine w_if_eq (g := 98) d_117_89 (by decide) (by decide) (fun h89 => ?_) (fun h89 => ?_)
        · exact absurd h89 (by decide)
        · refine w_ld d_117_92 rfl rfl rfl ?_
          refine w_bip d_117_93 (by decide) ?_
          refine w_icmp_eq (g := 116) d_117_95 (by decide) (by decide) (fun h95 => ?_) (fun h95 => ?_)
          · refine w_ld d_117_116 rfl rfl rfl ?_
            refine w_if_ne (g := 149) d_117_117 (by decide) (by decide) (fun h117 => ?_) (fun h117 => ?_)
            · refine w_ld d_117_149 rfl rfl rfl ?_
              refine w_bip d_117_150 (by decide) ?_
              refine w_icmp_ne (g := 174) d_117_152 (by decide) (by decide) (fun h152 => ?_) (fun h152 => ?_)
              · exact absurd rfl h152
              · refine w_ld d_117_155 rfl rfl rfl ?_
                refine w_con d_117_156 ?_
                refine w_cV1 (a := 46) (as := [_]) (rest := _) rfl d_117_157 (by rfl) (by rfl) (by first | rfl | assumption) (by rfl) (by rfl) (Nat.le_of_ble_eq_true rfl) (by omega) (by omega) hg1 ?_
                refine w_if_eq (g := 174) d_117_160 (by decide) (by decide) (fun h160 => ?_) (fun h160 => ?_)
                · exact absurd h160 (by decide)
                · refine w_ld d_117_163 rfl rfl rfl ?_
                  refine w_cVm (a := 46) (as := []) (rest := _) rfl d_117_164 (by rfl) (by rfl) (by first | rfl | assumption) (by rfl) (by rfl) (Nat.le_of_ble_eq_true rfl) (by omega) (by omega) hC (fun μ' hm => ?_)
                  refine w_con d_117_167 ?_
                  refine w_st1 (L' := [_, _, _, _]) d_117_168 rfl (by decide) rfl (by decide) rfl ?_
                  refine w_con d_117_169 ?_
                  refine w_st1 (L' := [_, _, _, _]) d_117_170 rfl (by decide) rfl (by decide) rfl ?_
                  refine w_goto (g := 182) d_117_171 (by decide) ?_
                  refine w_goto (g := 34) d_117_182 (by decide) ?_
                  exact w_P.le (K μ' hm) ⟨rfl, rfl, rfl, trivial⟩
            · exact absurd h117 (by decide)
          · exact absurd rfl h95
    · exact absurd h72 (by decide)
theorem L_fail1 {sc : Nat × (Nat → Int32)} {fr lo : Nat} {μ : Mem} {ρ : Nat × Nat × Nat} {Q : z_O → z_T → Prop} {w f c : Int} (h16 : μ.1 46 16 = -1) (hw : w = 0) (hc : c = 44) (hf : 24 ≤ fr) (hl : 1000 ≤ lo) (hg0 : w_E sc (fr - 1) (lo - (19 + 4)) 147 [.ref 46, .int (ji 0)] (hp μ, ρ) (.inl (some (.int (ji 0)))) (hp μ, ρ)) (K : RLp sc fr lo ρ Q w f (stI μ 46 16 (μ.1 46 15))) : R65 sc fr lo ρ Q w f c μ := by
  unfold R65
  subst hw hc
  have ef := m_fail (sc := sc) (fr := fr - 1) (lo := lo - (19 + 2)) (μ := μ) (ρ := ρ) (by rw [h16]; decide) (k := μ.1 46 15)
  rw [h16, if_pos (by decide)] at ef
  refine w_ld d_117_65 rfl rfl rfl ?_
  refine w_if_eq (g := 84) d_117_66 (by decide) (by decide) (fun h66 => ?_) (fun h66 => ?_)
  · refine w_ld d_117_84 rfl rfl rfl ?_
    refine w_if_eq (g := 116) d_117_85 (by decide) (by decide) (fun h85 => ?_) (fun h85 => ?_)
    · refine w_ld d_117_116 rfl rfl rfl ?_
      refine w_if_ne (g := 149) d_117_117 (by decide) (by decide) (fun h117 => ?_) (fun h117 => ?_)
      · exact absurd h117 (by decide)
      · refine w_ld d_117_120 rfl rfl rfl ?_
        refine w_bip d_117_121 (by decide) ?_
        refine w_icmp_ne (g := 149) d_117_123 (by decide) (by decide) (fun h123 => ?_) (fun h123 => ?_)
        · exact absurd rfl h123
        · refine w_ld d_117_126 rfl rfl rfl ?_
          refine w_con d_117_127 ?_
          refine w_cV1 (a := 46) (as := [_]) (rest := _) rfl d_117_128 (by rfl) (by rfl) (by first | rfl | assumption) (by rfl) (by rfl) (Nat.le_of_ble_eq_true rfl) (by omega) (by omega) hg0 ?_
          refine w_if_eq (g := 149) d_117_131 (by decide) (by decide) (fun h131 => ?_) (fun h131 => ?_)
          · refine w_ld d_117_149 rfl rfl rfl ?_
            refine w_bip d_117_150 (by decide) ?_
            refine w_icmp_ne (g := 174) d_117_152 (by decide) (by decide) (fun h152 => ?_) (fun h152 => ?_)
            · refine w_ld d_117_174 rfl rfl rfl ?_
              refine w_ld d_117_175 rfl rfl rfl ?_
              refine w_gI d_117_176 (by rfl) (by first | rfl | assumption) (by rfl) rfl ?_
              refine w_cV0 (a := 46) (as := [_]) (rest := _) rfl d_117_179 (by rfl) (by rfl) (by first | rfl | assumption) (by rfl) (by rfl) (Nat.le_of_ble_eq_true rfl) (by omega) (by omega) ef ?_
              refine w_goto (g := 34) d_117_182 (by decide) ?_
              exact w_P.le K ⟨rfl, rfl, rfl, trivial⟩
            · exact absurd h152 (by decide)
          · exact absurd rfl h131
    · exact absurd rfl h85
  · exact absurd rfl h66
theorem L_fail2 {sc : Nat × (Nat → Int32)} {fr lo : Nat} {μ : Mem} {ρ : Nat × Nat × Nat} {Q : z_O → z_T → Prop} {w f c : Int} (h16 : μ.1 46 16 = -1) (hw : w = 0) (hc : c = 93) (hf : 24 ≤ fr) (hl : 1000 ≤ lo) (hg1 : w_E sc (fr - 1) (lo - (19 + 4)) 147 [.ref 46, .int (ji 1)] (hp μ, ρ) (.inl (some (.int (ji 0)))) (hp μ, ρ)) (K : RLp sc fr lo ρ Q w f (stI μ 46 16 (μ.1 46 15))) : R65 sc fr lo ρ Q w f c μ := by
  unfold R65
  subst hw hc
  have ef := m_fail (sc := sc) (fr := fr - 1) (lo := lo - (19 + 2)) (μ := μ) (ρ := ρ) (by rw [h16]; decide) (k := μ.1 46 15)
  rw [h16, if_pos (by decide)] at ef
  refine w_ld d_117_65 rfl rfl rfl ?_
  refine w_if_eq (g := 84) d_117_66 (by decide) (by decide) (fun h66 => ?_) (fun h66 => ?_)
  · refine w_ld d_117_84 rfl rfl rfl ?_
    refine w_if_eq (g := 116) d_117_85 (by decide) (by decide) (fun h85 => ?_) (fun h85 => ?_)
    · refine w_ld d_117_116 rfl rfl rfl ?_
      refine w_if_ne (g := 149) d_117_117 (by decide) (by decide) (fun h117 => ?_) (fun h117 => ?_)
      · exact absurd h117 (by decide)
      · refine w_ld d_117_120 rfl rfl rfl ?_
        refine w_bip d_117_121 (by decide) ?_
        refine w_icmp_ne (g := 149) d_117_123 (by decide) (by decide) (fun h123 => ?_) (fun h123 => ?_)
        · refine w_ld d_117_149 rfl rfl rfl ?_
          refine w_bip d_117_150 (by decide) ?_
          refine w_icmp_ne (g := 174) d_117_152 (by decide) (by decide) (fun h152 => ?_) (fun h152 => ?_)
          · exact absurd rfl h152
          · refine w_ld d_117_155 rfl rfl rfl ?_
            refine w_con d_117_156 ?_
            refine w_cV1 (a := 46) (as := [_]) (rest := _) rfl d_117_157 (by rfl) (by rfl) (by first | rfl | assumption) (by rfl) (by rfl) (Nat.le_of_ble_eq_true rfl) (by omega) (by omega) hg1 ?_
            refine w_if_eq (g := 174) d_117_160 (by decide) (by decide) (fun h160 => ?_) (fun h160 => ?_)
            · refine w_ld d_117_174 rfl rfl rfl ?_
              refine w_ld d_117_175 rfl rfl rfl ?_
              refine w_gI d_117_176 (by rfl) (by first | rfl | assumption) (by rfl) rfl ?_
              refine w_cV0 (a := 46) (as := [_]) (rest := _) rfl d_117_179 (by rfl) (by rfl) (by first | rfl | assumption) (by rfl) (by rfl) (Nat.le_of_ble_eq_true rfl) (by omega) (by omega) ef ?_
              refine w_goto (g := 34) d_117_182 (by decide) ?_
              exact w_P.le K ⟨rfl, rfl, rfl, trivial⟩
            · exact absurd rfl h160
        · exact absurd h123 (by decide)
    · exact absurd rfl h85
  · exact absurd rfl h66
theorem L_fail3 {sc : Nat × (Nat → Int32)} {fr lo : Nat} {μ : Mem} {ρ : Nat × Nat × Nat} {Q : z_O → z_T → Prop} {w f c : Int} (h16 : μ.1 46 16 = -1) (hw : w = 0) (hc : 0 ≤ c ∧ c < 65536 ∧ c ≠ 44 ∧ c ≠ 93) (hf : 24 ≤ fr) (hl : 1000 ≤ lo) (K : RLp sc fr lo ρ Q w f (stI μ 46 16 (μ.1 46 15))) : R65 sc fr lo ρ Q w f c μ := by
  unfold R65
  subst hw
  have ef := m_fail (sc := sc) (fr := fr - 1) (lo := lo - (19 + 2)) (μ := μ) (ρ := ρ) (by rw [h16]; decide) (k := μ.1 46 15)
  rw [h16, if_pos (by decide)] at ef
  refine w_ld d_117_65 rfl rfl rfl ?_
  refine w_if_eq (g := 84) d_117_66 (by decide) (by decide) (fun h66 => ?_) (fun h66 => ?_)
  · refine w_ld d_117_84 rfl rfl rfl ?_
    refine w_if_eq (g := 116) d_117_85 (by decide) (by decide) (fun h85 => ?_) (fun h85 => ?_)
    · refine w_ld d_117_116 rfl rfl rfl ?_
      refine w_if_ne (g := 149) d_117_117 (by decide) (by decide) (fun h117 => ?_) (fun h117 => ?_)
      · exact absurd h117 (by decide)
      · refine w_ld d_117_120 rfl rfl rfl ?_
        refine w_bip d_117_121 (by decide) ?_
        refine w_icmp_ne (g := 149) d_117_123 (by decide) (by omega) (fun h123 => ?_) (fun h123 => ?_)
        · refine w_ld d_117_149 rfl rfl rfl ?_
          refine w_bip d_117_150 (by decide) ?_
          refine w_icmp_ne (g := 174) d_117_152 (by decide) (by omega) (fun h152 => ?_) (fun h152 => ?_)
          · refine w_ld d_117_174 rfl rfl rfl ?_
            refine w_ld d_117_175 rfl rfl rfl ?_
            refine w_gI d_117_176 (by rfl) (by first | rfl | assumption) (by rfl) rfl ?_
            refine w_cV0 (a := 46) (as := [_]) (rest := _) rfl d_117_179 (by rfl) (by rfl) (by first | rfl | assumption) (by rfl) (by rfl) (Nat.le_of_ble_eq_true rfl) (by omega) (by omega) ef ?_
            refine w_goto (g := 34) d_117_182 (by decide) ?_
            exact w_P.le K ⟨rfl, rfl, rfl, trivial⟩
          · exact absurd h152 (by omega)
        · exact absurd h123 (by omega)
    · exact absurd rfl h85
  · exact absurd rfl h66
theorem L_exitX {sc : Nat × (Nat → Int32)} {fr lo : Nat} {μ : Mem} {ρ : Nat × Nat × Nat} {Q : z_O → z_T → Prop} {w f : Int} (hn : 0 ≤ μ.1 46 3 ∧ μ.1 46 3 ≤ 240) (hch : ∀ k, 0 ≤ μ.2.2 47 k ∧ μ.2.2 47 k < 65536) (hpl : 0 ≤ μ.1 46 15 ∧ μ.1 46 15 ≤ 950) (h16 : 0 ≤ μ.1 46 16 ∧ μ.1 46 16 ≤ 1000) (hf : 24 ≤ fr) (hl : 1000 ≤ lo) (K : Q (.inl none) (hp (skM μ), ρ)) : RLp sc fr lo ρ Q w f μ := by
  unfold RLp
  have hsk : 0 ≤ sk (μ.2.2 47) (μ.1 46 3) (μ.1 46 15) ∧ sk (μ.2.2 47) (μ.1 46 3) (μ.1 46 15) ≤ 1000 := by
    have e := sk_ge (μ.2.2 47) (μ.1 46 3) (μ.1 46 15)
    by_cases z : μ.1 46 15 ≤ μ.1 46 3
    · have := sk_le (μ.2.2 47) (μ.1 46 3) (μ.1 46 15) z; omega
    · have := sk_big (μ.2.2 47) (μ.1 46 3) (μ.1 46 15) (by omega); omega
  refine w_ld d_117_34 rfl rfl rfl ?_
  refine w_gI d_117_35 (by rfl) (by first | rfl | assumption) (by rfl) (by first | exact stI_at _ _ _ _ | rfl) ?_
  refine w_if_ge (g := 185) d_117_38 (by decide) (by omega) (fun h38 => ?_) (fun h38 => ?_)
  · refine w_ld d_117_185 rfl rfl rfl ?_
    refine w_cV0 (a := 46) (as := []) (rest := _) rfl d_117_186 (by rfl) (by rfl) (by first | rfl | assumption) (by rfl) (by rfl) (Nat.le_of_ble_eq_true rfl) (by omega) (by omega) (m_spaces hn hch (by omega) (by omega) (by omega)) ?_
    refine w_ld d_117_189 rfl rfl rfl ?_
    refine w_gI d_117_190 (by rfl) (by first | rfl | assumption) (by rfl) (by exact stI_at _ _ _ _) ?_
    refine w_ld d_117_193 rfl rfl rfl ?_
    refine w_gI d_117_194 (by rfl) (by first | rfl | assumption) (by rfl) (show _ = μ.1 46 3 from rfl) ?_
    refine w_icmp_ge (g := 208) d_117_197 (by decide) (by omega) (fun h197 => ?_) (fun h197 => ?_)
    · refine w_ret d_117_208 rfl ?_
      exact K
    · refine w_ld d_117_200 rfl rfl rfl ?_
      refine w_ld d_117_201 rfl rfl rfl ?_
      refine w_gI d_117_202 (by rfl) (by first | rfl | assumption) (by rfl) (by exact stI_at _ _ _ _) ?_
      refine w_cV0 (a := 46) (as := [_]) (rest := _) rfl d_117_205 (by rfl) (by rfl) (by first | rfl | assumption) (by rfl) (by rfl) (Nat.le_of_ble_eq_true rfl) (by omega) (by omega) (by have e := m_fail (sc := sc) (fr := fr - 1) (lo := lo - (19 + 2)) (μ := skM μ) (ρ := ρ) (by show _ ≤ μ.1 46 16 ∧ μ.1 46 16 < _; omega) (k := sk (μ.2.2 47) (μ.1 46 3) (μ.1 46 15)); rw [if_neg (show ¬ (skM μ).1 46 16 < 0 from (show ¬ μ.1 46 16 < 0 by omega)), stI_self] at e; exact e) ?_
      refine w_ret d_117_208 rfl ?_
      exact K
  · exact absurd h38 (by omega)
theorem L_exit {sc : Nat × (Nat → Int32)} {fr lo : Nat} {μ : Mem} {ρ : Nat × Nat × Nat} {Q : z_O → z_T → Prop} {w f : Int} (hn : 0 ≤ μ.1 46 3 ∧ μ.1 46 3 ≤ 240) (hch : ∀ k, 0 ≤ μ.2.2 47 k ∧ μ.2.2 47 k < 65536) (hpl : 0 ≤ μ.1 46 15 ∧ μ.1 46 15 ≤ 950) (h16 : μ.1 46 16 = -1) (hw : w = 0) (hd : μ.1 46 19 = 0) (hf : 24 ≤ fr) (hl : 1000 ≤ lo) (K : Q (.inl none) (hp (if sk (μ.2.2 47) (μ.1 46 3) (μ.1 46 15) < μ.1 46 3 then stI (skM μ) 46 16 (sk (μ.2.2 47) (μ.1 46 3) (μ.1 46 15)) else skM μ), ρ)) : RLp sc fr lo ρ Q w f μ := by
  unfold RLp
  subst hw
  have hsk : 0 ≤ sk (μ.2.2 47) (μ.1 46 3) (μ.1 46 15) ∧ sk (μ.2.2 47) (μ.1 46 3) (μ.1 46 15) ≤ 1000 := by
    have e := sk_ge (μ.2.2 47) (μ.1 46 3) (μ.1 46 15)
    by_cases z : μ.1 46 15 ≤ μ.1 46 3
    · have := sk_le (μ.2.2 47) (μ.1 46 3) (μ.1 46 15) z; omega
    · have := sk_big (μ.2.2 47) (μ.1 46 3) (μ.1 46 15) (by omega); omega
  refine w_ld d_117_34 rfl rfl rfl ?_
  refine w_gI d_117_35 (by rfl) (by first | rfl | assumption) (by rfl) (by first | exact h16 | exact hd | exact stI_at _ _ _ _ | rfl) ?_
  refine w_if_ge (g := 185) d_117_38 (by decide) (by decide) (fun h38 => ?_) (fun h38 => ?_)
  · exact absurd h38 (by decide)
  · refine w_ld d_117_41 rfl rfl rfl ?_
    refine w_if_ne (g := 52) d_117_42 (by decide) (by decide) (fun h42 => ?_) (fun h42 => ?_)
    · exact absurd rfl h42
    · refine w_ld d_117_45 rfl rfl rfl ?_
      refine w_gI d_117_46 (by rfl) (by first | rfl | assumption) (by rfl) (by first | exact h16 | exact hd | exact stI_at _ _ _ _ | rfl) ?_
      refine w_if_le (g := 185) d_117_49 (by decide) (by decide) (fun h49 => ?_) (fun h49 => ?_)
      · refine w_ld d_117_185 rfl rfl rfl ?_
        refine w_cV0 (a := 46) (as := []) (rest := _) rfl d_117_186 (by rfl) (by rfl) (by first | rfl | assumption) (by rfl) (by rfl) (Nat.le_of_ble_eq_true rfl) (by omega) (by omega) (m_spaces hn hch (by omega) (by omega) (by omega)) ?_
        refine w_ld d_117_189 rfl rfl rfl ?_
        refine w_gI d_117_190 (by rfl) (by first | rfl | assumption) (by rfl) (by exact stI_at _ _ _ _) ?_
        refine w_ld d_117_193 rfl rfl rfl ?_
        refine w_gI d_117_194 (by rfl) (by first | rfl | assumption) (by rfl) (show _ = μ.1 46 3 from rfl) ?_
        refine w_icmp_ge (g := 208) d_117_197 (by decide) (by omega) (fun h197 => ?_) (fun h197 => ?_)
        · refine w_ret d_117_208 rfl ?_
          rw [if_neg (by omega)] at K
          exact K
        · refine w_ld d_117_200 rfl rfl rfl ?_
          refine w_ld d_117_201 rfl rfl rfl ?_
          refine w_gI d_117_202 (by rfl) (by first | rfl | assumption) (by rfl) (by exact stI_at _ _ _ _) ?_
          refine w_cV0 (a := 46) (as := [_]) (rest := _) rfl d_117_205 (by rfl) (by rfl) (by first | rfl | assumption) (by rfl) (by rfl) (Nat.le_of_ble_eq_true rfl) (by omega) (by omega) (by have e := m_fail (sc := sc) (fr := fr - 1) (lo := lo - (19 + 2)) (μ := skM μ) (ρ := ρ) (by show _ ≤ μ.1 46 16 ∧ μ.1 46 16 < _; rw [h16]; decide) (k := sk (μ.2.2 47) (μ.1 46 3) (μ.1 46 15)); rw [show (skM μ).1 46 16 = -1 from h16, if_pos (by decide)] at e; exact e) ?_
          refine w_ret d_117_208 rfl ?_
          rw [if_pos h197] at K
          exact K
      · exact absurd h49 (by decide)
theorem m_readAll {sc : Nat × (Nat → Int32)} {fr lo : Nat} {μ : Mem} {ρ : Nat × Nat × Nat} {Q : z_O → z_T → Prop} (K : RLp sc fr lo ρ Q 1 0 (stI (stI (stI (stI (stI (stI μ 46 15 0) 46 16 (-1)) 46 17 0) 46 18 0) 46 19 0) 46 26 0)) : w_S sc fr lo 117 [.ref 46] (hp μ, ρ) Q := by
  refine w_S.of (L0 := [some (.ref 46), none, none, none]) rfl rfl (Nat.le_of_ble_eq_true rfl) (by rfl) ?_
  refine w_ld d_117_0 rfl rfl rfl ?_
  refine w_con d_117_1 ?_
  refine w_putI d_117_2 (by rfl) (by first | rfl | assumption) (by rfl) (fit_I (by rfl)) (by rfl) ?_
  refine w_ld d_117_5 rfl rfl rfl ?_
  refine w_con d_117_6 ?_
  refine w_putI d_117_7 (by rfl) (by first | rfl | assumption) (by rfl) (fit_I (by rfl)) (by rfl) ?_
  refine w_ld d_117_10 rfl rfl rfl ?_
  refine w_con d_117_11 ?_
  refine w_putI d_117_12 (by rfl) (by first | rfl | assumption) (by rfl) (fit_I (by rfl)) (by rfl) ?_
  refine w_ld d_117_15 rfl rfl rfl ?_
  refine w_con d_117_16 ?_
  refine w_putI d_117_17 (by rfl) (by first | rfl | assumption) (by rfl) (fit_I (by rfl)) (by rfl) ?_
  refine w_ld d_117_20 rfl rfl rfl ?_
  refine w_con d_117_21 ?_
  refine w_putI d_117_22 (by rfl) (by first | rfl | assumption) (by rfl) (fit_I (by rfl)) (by rfl) ?_
  refine w_ld d_117_25 rfl rfl rfl ?_
  refine w_con d_117_26 ?_
  refine w_putI d_117_27 (by rfl) (by first | rfl | assumption) (by rfl) (fit_I (by rfl)) (by rfl) ?_
  refine w_con d_117_30 ?_
  refine w_st1 (L' := [_, _, _, _]) d_117_31 rfl (by decide) rfl (by decide) rfl ?_
  refine w_con d_117_32 ?_
  refine w_st1 (L' := [_, _, _, _]) d_117_33 rfl (by decide) rfl (by decide) rfl ?_
  exact K
