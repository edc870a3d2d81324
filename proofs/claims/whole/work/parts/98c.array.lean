/-! THE PURE PART, 82: contracts: arrays and elements -/
/-- a name, or what is none -/
theorem t_nameU {sc : Nat × (Nat → Int32)} {fr lo : Nat} {μ : Mem} {ρ : Nat × Nat × Nat} {t x : Nat} {d key : Int} (hT : isT t) (hX : x = 42 ∨ x = 44) (hC : CI t x μ) (hd : 0 ≤ d ∧ d ≤ 8) (hn : 2 * μ.1 t 7 ≤ μ.1 20 5 + d) (hf : 18 ≤ fr) (hl : 900 ≤ lo) (hr : 1 ≤ ρ.2.1 ∧ 6 ≤ ρ.2.2) (e : Nat) {c : Int} (hc : c = cch x μ ∧ 32 ≤ c ∧ c ≤ 126 ∨ c = -1 ∧ cch x μ = 0) (h1 : cch x μ ≠ 91) (h2 : cch x μ ≠ 34) (h3 : cch x μ ≠ 45) (h4 : ¬ (48 ≤ cch x μ ∧ cch x μ ≤ 57)) : w_S sc fr lo 67 [.ref 20, .int (ji c)] (hp (stI μ 20 5 (cpl x μ)), ρ) (EP sc t x d key (e + 1) μ ρ) := by
  by_cases n1 : cch x μ = 110
  · exact t_nameNU hT hX hC hd hn hf hl hr e (by omega) n1
  · by_cases n2 : cch x μ = 116
    · exact t_nameTU hT hX hC hd hn hf hl hr e (by omega) n2
    · by_cases n3 : cch x μ = 102
      · exact t_nameFU hT hX hC hd hn hf hl hr e (by omega) n3
      · exact t_nameZU hT hX hC hd hn hf hl hr e (by omega) ⟨n3, h1, h2, n1, n2, h3, h4⟩
theorem xsh {x : Nat} (hX : x = 42 ∨ x = 44) : sh x = some (.inl (1, [4, 0])) ∧ sh (x + 1) = some (.inr (2, 240)) := by rcases hX with rfl | rfl <;> exact ⟨rfl, rfl⟩
theorem t_arrayX {sc : Nat × (Nat → Int32)} {fr lo : Nat} {μ : Mem} {ρ : Nat × Nat × Nat} {t x : Nat} (hT : isT t) (hX : x = 42 ∨ x = 44) {d key : Int} {e : Nat} {μa : Mem} (hμ : μ = stI μa 20 5 (cpl x μa)) (hCa : CI t x μa) (hn : 2 * μa.1 t 7 ≤ μa.1 20 5 + d) (hc : cch x μa = 91) (hr : 1 ≤ ρ.2.1 ∧ 6 ≤ ρ.2.2) (hd : d = 8) (hf : 20 ≤ fr) (hl : 400 ≤ lo) : w_S sc fr lo 31 [.ref 20, .int (ji d)] (hp μ, ρ) (EP sc t x d key e μa ρ) := by
  have hp5 : μ.1 20 5 = cpl x μa := by rw [hμ]; exact stI_at _ _ _ _
  refine w_S.of (L0 := [some (.ref 20), some (.int (ji d)), none, none, none]) rfl rfl (Nat.le_of_ble_eq_true rfl) (by rfl) ?_
  refine w_ld d_31_0 rfl rfl rfl ?_
  refine w_gI d_31_1 (by rfl) (by first | rfl | assumption) (by rfl) hp5 ?_
  refine w_st1 (L' := [_, _, _, _, _]) d_31_4 rfl (by decide) rfl (by decide) rfl ?_
  refine w_ld d_31_5 rfl rfl rfl ?_
  refine w_bip d_31_6 (by decide) ?_
  refine w_icmp_lt (g := 16) d_31_8 (by decide) (by omega) (fun h8 => ?_) (fun h8 => ?_)
  · exact absurd h8 (by omega)
  · refine w_ld d_31_11 rfl rfl rfl ?_
    refine w_ld d_31_12 rfl rfl rfl ?_
    refine w_cVx (as := [_]) (rest := _) rfl d_31_13 (by rfl) (by rfl) (by first | rfl | assumption) (by rfl) (by rfl) (Nat.le_of_ble_eq_true rfl) (by omega) (by omega) (t_fail hr (by omega) (by omega)) ?_
    subst hμ
    subst hd
    exact EP_bad (A0_X hT hX hCa hc)
theorem t_array {sc : Nat × (Nat → Int32)} {fr lo : Nat} {μ : Mem} {ρ : Nat × Nat × Nat} {t x : Nat} (hT : isT t) (hX : x = 42 ∨ x = 44) {d key : Int} {e : Nat} {μa : Mem} (hμ : μ = stI μa 20 5 (cpl x μa)) (hCa : CI t x μa) (hn : 2 * μa.1 t 7 ≤ μa.1 20 5 + d) (hc : cch x μa = 91) (hr : 1 ≤ ρ.2.1 ∧ 6 ≤ ρ.2.2) (hd : 0 ≤ d ∧ d ≤ 7) (he : e + 1 ≤ 9) (he1 : 1 ≤ e) (hG : GL μa) {fe le : Nat} (hE : ElC sc t x (d + 1) (e + 1) fe le) (hf : fe + 80 ≤ fr) (hl : le + 1600 ≤ lo) : w_S sc fr lo 31 [.ref 20, .int (ji d)] (hp μ, ρ) (EP sc t x d key (e + 2) μa ρ) := by
  obtain ⟨hT0, hT1, hT2, hT3, hT4, hT5, hT6, hT7, hT8⟩ := hT.sh
  have hT9 : t = 2 ∨ t = 11 ∨ t = 26 := hT
  obtain ⟨hX0, hX1⟩ := xsh hX
  have hp5 : μ.1 20 5 = cpl x μa := by rw [hμ]; exact stI_at _ _ _ _
  have hcp := cpl_in hCa
  have hsz := hCa.2.1
  have hpl := hCa.2.2.2.2.1
  have hc0 := hCa.2.2.2.2.2.2.2.2.2.2
  have hlt := cch_lt hc (by decide)
  have e1 : stI μ 20 5 (μ.1 20 5 + 1) = stI μa 20 5 (cpl x μa + 1) := by rw [hp5, hμ, stI_stI]
  have hC1 := CI_mv hT hX hCa (p := cpl x μa + 1) (by omega) (by omega)
  obtain ⟨p, hp⟩ : ∃ p, p = sk (μa.2.2 (x + 1)) (μa.1 x 1) (cpl x μa + 1) := ⟨_, rfl⟩
  have ep : cpl x (stI μa 20 5 (cpl x μa + 1)) = p := by
    rw [hp]
    show sk (μa.2.2 (x + 1)) ((stI μa 20 5 (cpl x μa + 1)).1 x 1) ((stI μa 20 5 (cpl x μa + 1)).1 20 5) = _
    rw [stI_at, stI_ne (by omega)]
  have hsk := t_skp (sc := sc) (fr := fr - 1) (lo := lo - (19 + 1)) (ρ := ρ) hX hC1 (by omega) (by omega)
  rw [ep, stI_stI] at hsk
  obtain ⟨top, h0⟩ : ∃ top, μa.1 t 7 = top := ⟨_, rfl⟩
  have hadd := t_radd (sc := sc) (fr := fr - 1) (lo := lo - (19 + 6)) (μ := stI μa 20 5 p) (ρ := ρ) hT hCa.1.2 (by rw [stI_ne (by omega)]; omega) (k := 8) (v := 0) (s := cpl x μa) (by omega) (by omega)
  rw [show (stI μa 20 5 p).1 t 7 = top from (stI_ne (by omega)).trans h0] at hadd
  have hA0 := A0_of (sc := sc) (key := key) hT hX hCa hd h0 hn hc hp (e + 1)
  refine w_S.of (L0 := [some (.ref 20), some (.int (ji d)), none, none, none]) rfl rfl (Nat.le_of_ble_eq_true rfl) (by rfl) ?_
  refine w_ld d_31_0 rfl rfl rfl ?_
  refine w_gI d_31_1 (by rfl) (by first | rfl | assumption) (by rfl) hp5 ?_
  refine w_st1 (L' := [_, _, _, _, _]) d_31_4 rfl (by decide) rfl (by decide) rfl ?_
  refine w_ld d_31_5 rfl rfl rfl ?_
  refine w_bip d_31_6 (by decide) ?_
  refine w_icmp_lt (g := 16) d_31_8 (by decide) (by omega) (fun h8 => ?_) (fun h8 => ?_)
  · refine w_ld d_31_16 rfl rfl rfl ?_
    refine w_stk d_31_17 rfl ?_
    refine w_gI d_31_18 (by rfl) (by first | rfl | assumption) (by rfl) rfl ?_
    refine w_con d_31_21 ?_
    refine w_iadd d_31_22 ?_
    refine w_putI d_31_23 (by rfl) (by first | rfl | assumption) (by rfl) (fit_I (by rfl)) (by rfl) ?_
    rw [e1]
    refine w_ld d_31_26 rfl rfl rfl ?_
    refine w_cV0 (as := []) (rest := _) rfl d_31_27 (by rfl) (by rfl) (by first | rfl | assumption) (by rfl) (by rfl) (Nat.le_of_ble_eq_true rfl) (by omega) (by omega) hsk ?_
    refine w_ld d_31_30 rfl rfl rfl ?_
    refine w_bip d_31_31 (by decide) ?_
    refine w_lcon0 d_31_33 ?_
    refine w_ld d_31_34 rfl rfl rfl ?_
    refine w_cV1 (as := [_, _, _]) (rest := _) rfl d_31_35 (by rfl) (by rfl) (by first | rfl | assumption) (by rfl) (by rfl) (Nat.le_of_ble_eq_true rfl) (by omega) (by omega) hadd ?_
    obtain ⟨M, hM⟩ : ∃ M, M = (adw (stI μa 20 5 p) t 8 0 0 0 (cpl x μa)) := ⟨_, rfl⟩
    rw [← hM]
    rw [← hM] at hA0
    have hCM := hA0.1
    have hcpM := cpl_in hCM
    have hszM := hCM.2.1
    have hplM := hCM.2.2.2.2.1
    have hx3 : M.2.1 20 3 = .ref x := hCM.1.1
    have hpM : M.1 20 5 = cpl x M := hA0.2.2.2.1.2.1
    have hnM2 := hA0.2.2.2.1
    have hpk := pk_cch hCM
    obtain ⟨c, hcq⟩ : ∃ c, c = (if 0 ≤ cpl x M ∧ cpl x M < M.1 x 1 then M.2.2 (x + 1) (cpl x M) else -1) := ⟨_, rfl⟩
    refine w_st1 (L' := [_, _, _, _, _]) d_31_38 rfl (by decide) rfl (by decide) rfl ?_
    refine w_ld d_31_39 rfl rfl rfl ?_
    refine w_getR d_31_40 (by rfl) (by first | rfl | assumption) (by rfl) hx3 ?_
    refine w_ld d_31_43 rfl rfl rfl ?_
    refine w_gI d_31_44 (by rfl) (by first | rfl | assumption) (by rfl) hpM ?_
    refine w_cV1 (as := [_]) (rest := _) rfl d_31_47 (by rfl) (by rfl) (by first | rfl | assumption) (by rfl) (by rfl) (Nat.le_of_ble_eq_true rfl) (by omega) (by omega) (by have e := t_peek (sc := sc) (fr := fr - 1) (lo := lo - (19 + 2)) (μ := M) (ρ := ρ) hX0 hX1 (by omega) (k := cpl x M) (by omega); exact e) ?_
    rw [← hcq]
    rw [← hcq] at hpk
    refine w_st1 (L' := [_, _, _, _, _]) d_31_50 rfl (by decide) rfl (by decide) rfl ?_
    refine w_ld d_31_52 rfl rfl rfl ?_
    refine w_bip d_31_54 (by decide) ?_
    refine w_icmp_ne (g := 72) d_31_56 (by decide) (by omega) (fun h56 => ?_) (fun h56 => ?_)
    · refine w_ld d_31_72 rfl rfl rfl ?_
      refine w_bip d_31_74 (by decide) ?_
      refine w_icmp_eq (g := 96) d_31_76 (by decide) (by omega) (fun h76 => ?_) (fun h76 => ?_)
      · have hc34 : cch x M = 34 := by omega
        have hltM := cch_lt hc34 (by decide)
        refine w_ld d_31_96 rfl rfl rfl ?_
        refine w_con d_31_97 ?_
        refine w_cVq (as := [_]) (rest := _) rfl d_31_98 (by rfl) (by rfl) (by first | rfl | assumption) (by rfl) (by rfl) (Nat.le_of_ble_eq_true rfl) (by omega) (by omega) (t_wordU hT hX hCM (by omega) (Or.inl rfl) (by omega) (by omega) hr) ?_ ?_
        rotate_left
        · rintro r τ (⟨hv, _⟩ | ⟨hv, μ9, w9, rfl, hb1, hb2⟩)
          · cases hv
          · obtain rfl := Sum.inr.inj hv
            exact EP_bad (A0_wX hT hX hA0 hd hc34 hb1 (hb2 (d + 1) (by omega)))
        rintro v τ (⟨hv, μ1, rfl, hW, hS⟩ | ⟨hv, _⟩)
        rotate_left
        · cases hv
        obtain rfl := Sum.inl.inj hv
        have hC1' := hW.1
        have ht1 : μ1.2.1 20 4 = .ref t := hC1'.1.2
        have hu1 := hC1'.2.2.2.2.2.1
        have hpl1 := hC1'.2.2.2.2.1
        have hsz1 := hC1'.2.1
        have hw8 := hW.2.2.2.2.2.2.2.1
        have hl0 := wl_in (w := fun i => μ1.2.2 (t + 7 + 1) (μ1.1 20 8 + i)) (fun i => hC1'.2.2.2.2.2.2.1 _) (μ1.1 20 9) 0
        have hl1 := wl_in (w := fun i => μ1.2.2 (t + 7 + 1) (μ1.1 20 8 + i)) (fun i => hC1'.2.2.2.2.2.2.1 _) (μ1.1 20 9) 1
        refine w_ld d_31_101 rfl rfl rfl ?_
        refine w_getR d_31_102 (by rfl) (by first | rfl | assumption) (by rfl) ht1 ?_
        refine w_getF d_31_105 (by rfl) (by first | rfl | assumption) (by rfl) (by rfl) ?_
        refine w_ld d_31_108 rfl rfl rfl ?_
        refine w_gI d_31_109 (by rfl) (by first | rfl | assumption) (by rfl) rfl ?_
        refine w_ld d_31_112 rfl rfl rfl ?_
        refine w_gI d_31_113 (by rfl) (by first | rfl | assumption) (by rfl) rfl ?_
        refine w_lds (k := 0) d_31_116 (by rfl) ?_
        refine w_cV1 (a := (t + 7)) (as := [_, _, _]) (rest := _) rfl d_31_118 (by rfl) (by rfl) (by first | rfl | assumption) (by rfl) (by rfl) (Nat.le_of_ble_eq_true rfl) (by omega) (by omega) (t_spells (k := 0) hT.toL (by omega) (by omega) (by decide) hC1'.2.2.2.2.2.2.1 (by omega) (by omega)) ?_
        refine w_if_eq (g := 133) d_31_121 (by decide) (b01_in _) (fun h121 => ?_) (fun h121 => ?_)
        · have hnM : ¬ isM t μ1 := fun z => b01_eq h121 ⟨z.1, fun j j0 j1 => by
            have h9 : μ1.1 20 9 = 2 := z.1
            have z0 := z.2.1
            have z1 := z.2.2
            unfold wl at z0 z1
            rw [if_pos (by omega)] at z0 z1
            rcases (show j = 0 ∨ j = 1 by omega) with rfl | rfl
            · exact z0
            · exact z1⟩
          refine w_ld d_31_133 rfl rfl rfl ?_
          refine w_con d_31_134 ?_
          refine w_cV1 (as := [_]) (rest := _) rfl d_31_135 (by rfl) (by rfl) (by first | rfl | assumption) (by rfl) (by rfl) (Nat.le_of_ble_eq_true rfl) (by omega) (by omega) (t_wl hT ht1 (by omega) hw8 hC1'.2.2.2.2.2.2.1 (by omega) (by omega) (by decide)) ?_
          refine w_bip d_31_138 (by decide) ?_
          refine w_icmp_ne (g := 179) d_31_140 (by decide) (by omega) (fun h140 => ?_) (fun h140 => ?_)
          · have hnG : ¬ (isG t μ1 ∧ 2 < μ1.1 20 9) := fun z => h140 z.1.1
            refine w_ld d_31_179 rfl rfl rfl ?_
            refine w_cVq (as := []) (rest := _) rfl d_31_180 (by rfl) (by rfl) (by first | rfl | assumption) (by rfl) (by rfl) (Nat.le_of_ble_eq_true rfl) (by omega) (by omega) (t_mean2 hT hX hW (n := top + 1) ⟨hA0.2.2.2.1.2.2, by omega, by omega⟩ (by omega) (by omega) (by omega) hr 0) ?_ ?_
            rotate_left
            · rintro r τ (⟨hv, _⟩ | ⟨hv, μ9, rfl, hb1, hb2⟩)
              · cases hv
              · obtain rfl := Sum.inr.inj hv
                exact EP_bad (A0_meanX hT hX hA0 hd (by omega) hc34 hW (hS (d + 1) (by omega)) hnM hnG hb1 hb2)
            rintro v τ (⟨hv, μ2, rfl, g1, g2, g3, g4, g5, g6, g7⟩ | ⟨hv, _⟩)
            rotate_left
            · cases hv
            obtain rfl := Sum.inl.inj hv
            have hAl : AL sc t x d key (e + 1) top 8 1 1 μa μ2 := A0_mean hT hX hA0 hd (by omega) hc34 hW (hS (d + 1) (by omega)) hnM hnG g1 g2 (GV_le g3 (by omega)) g4 g5 (g7 (d + 1))
            refine w_ld d_31_183 rfl rfl rfl ?_
            refine w_ld d_31_184 rfl rfl rfl ?_
            refine w_ld d_31_185 rfl rfl rfl ?_
            refine w_cVq (as := [_, _]) (rest := _) rfl d_31_186 (by rfl) (by rfl) (by first | rfl | assumption) (by rfl) (by rfl) (Nat.le_of_ble_eq_true rfl) (by omega) (by omega) (t_further hT hX h0 hd he hG hE (by omega) (by omega) hr hAl) ?_ ?_
            rotate_left
            · exact fun _ _ hq => hq
            intro v τ hq
            obtain rfl := EP_none hq
            refine w_ret d_31_189 rfl ?_
            exact hq
          · refine w_ld d_31_143 rfl rfl rfl ?_
            refine w_con d_31_144 ?_
            refine w_cV1 (as := [_]) (rest := _) rfl d_31_145 (by rfl) (by rfl) (by first | rfl | assumption) (by rfl) (by rfl) (Nat.le_of_ble_eq_true rfl) (by omega) (by omega) (t_wl hT ht1 (by omega) hw8 hC1'.2.2.2.2.2.2.1 (by omega) (by omega) (by decide)) ?_
            refine w_bip d_31_148 (by decide) ?_
            refine w_icmp_ne (g := 179) d_31_150 (by decide) (by omega) (fun h150 => ?_) (fun h150 => ?_)
            · have hnG : ¬ (isG t μ1 ∧ 2 < μ1.1 20 9) := fun z => h150 z.1.2
              refine w_ld d_31_179 rfl rfl rfl ?_
              refine w_cVq (as := []) (rest := _) rfl d_31_180 (by rfl) (by rfl) (by first | rfl | assumption) (by rfl) (by rfl) (Nat.le_of_ble_eq_true rfl) (by omega) (by omega) (t_mean2 hT hX hW (n := top + 1) ⟨hA0.2.2.2.1.2.2, by omega, by omega⟩ (by omega) (by omega) (by omega) hr 0) ?_ ?_
              rotate_left
              · rintro r τ (⟨hv, _⟩ | ⟨hv, μ9, rfl, hb1, hb2⟩)
                · cases hv
                · obtain rfl := Sum.inr.inj hv
                  exact EP_bad (A0_meanX hT hX hA0 hd (by omega) hc34 hW (hS (d + 1) (by omega)) hnM hnG hb1 hb2)
              rintro v τ (⟨hv, μ2, rfl, g1, g2, g3, g4, g5, g6, g7⟩ | ⟨hv, _⟩)
              rotate_left
              · cases hv
              obtain rfl := Sum.inl.inj hv
              have hAl : AL sc t x d key (e + 1) top 8 1 1 μa μ2 := A0_mean hT hX hA0 hd (by omega) hc34 hW (hS (d + 1) (by omega)) hnM hnG g1 g2 (GV_le g3 (by omega)) g4 g5 (g7 (d + 1))
              refine w_ld d_31_183 rfl rfl rfl ?_
              refine w_ld d_31_184 rfl rfl rfl ?_
              refine w_ld d_31_185 rfl rfl rfl ?_
              refine w_cVq (as := [_, _]) (rest := _) rfl d_31_186 (by rfl) (by rfl) (by first | rfl | assumption) (by rfl) (by rfl) (Nat.le_of_ble_eq_true rfl) (by omega) (by omega) (t_further hT hX h0 hd he hG hE (by omega) (by omega) hr hAl) ?_ ?_
              rotate_left
              · exact fun _ _ hq => hq
              intro v τ hq
              obtain rfl := EP_none hq
              refine w_ret d_31_189 rfl ?_
              exact hq
            · have hGt : isG t μ1 := ⟨h140, h150⟩
              refine w_ld d_31_153 rfl rfl rfl ?_
              refine w_ld d_31_154 rfl rfl rfl ?_
              refine w_gI d_31_155 (by rfl) (by first | rfl | assumption) (by rfl) rfl ?_
              refine w_con d_31_158 ?_
              refine w_icmp_le (g := 166) d_31_159 (by decide) (by omega) (fun h159 => ?_) (fun h159 => ?_)
              · refine w_con d_31_166 ?_
                refine w_cVx (as := [_]) (rest := _) rfl d_31_167 (by rfl) (by rfl) (by first | rfl | assumption) (by rfl) (by rfl) (Nat.le_of_ble_eq_true rfl) (by omega) (by omega) (t_reqx rfl (by omega) (by omega) hr) ?_
                have hw7 := hW.2.2.2.2.2.2.1
                rw [hw7]
                exact EP_bad (A0_meanX hT hX hA0 hd (by omega) hc34 hW (hS (d + 1) (by omega)) hnM (fun z => by omega) (Cbad_of hT hW.2.1 hC1' (Or.inl rfl) (by omega)) (mn_G hGt))
              · refine w_con d_31_162 ?_
                refine w_goto (g := 167) d_31_163 (by decide) ?_
                refine w_cV0 (as := [_]) (rest := _) rfl d_31_167 (by rfl) (by rfl) (by first | rfl | assumption) (by rfl) (by rfl) (Nat.le_of_ble_eq_true rfl) (by omega) (by omega) (t_req rfl) ?_
                refine w_ld d_31_170 rfl rfl rfl ?_
                refine w_ld d_31_171 rfl rfl rfl ?_
                refine w_ld d_31_172 rfl rfl rfl ?_
                refine w_cVq (as := [_, _]) (rest := _) rfl d_31_173 (by rfl) (by rfl) (by first | rfl | assumption) (by rfl) (by rfl) (Nat.le_of_ble_eq_true rfl) (by omega) (by omega) (t_content hT hX h0 hd he hG hE (by omega) (by omega) hr hA0 (by omega) hc34 hW (hS (d + 1) (by omega)) hGt (by omega)) ?_ ?_
                rotate_left
                · exact fun _ _ hq => hq
                intro v τ hq
                obtain rfl := EP_none hq
                refine w_goto (g := 189) d_31_176 (by decide) ?_
                refine w_ret d_31_189 rfl ?_
                exact hq
        · have hAl : AL sc t x d key (e + 1) top 11 2 0 μa μ1 := by
            have hb := b01_ne h121
            have h9 : μ1.1 20 9 = 2 := hb.1
            refine A0_map hT hX hA0 hd (by omega) hc34 hW (hS (d + 1) (by omega)) ⟨h9, ?_, ?_⟩
            · unfold wl
              rw [if_pos (by omega)]
              exact hb.2 0 (by omega) (by omega)
            · unfold wl
              rw [if_pos (by omega)]
              exact hb.2 1 (by omega) (by omega)
          refine w_ld d_31_124 rfl rfl rfl ?_
          refine w_ld d_31_125 rfl rfl rfl ?_
          refine w_ld d_31_126 rfl rfl rfl ?_
          refine w_cVq (as := [_, _]) (rest := _) rfl d_31_127 (by rfl) (by rfl) (by first | rfl | assumption) (by rfl) (by rfl) (Nat.le_of_ble_eq_true rfl) (by omega) (by omega) (t_mapE hT hX h0 hd he hG hE (by omega) (by omega) hr hAl) ?_ ?_
          rotate_left
          · exact fun _ _ hq => hq
          intro v τ hq
          obtain rfl := EP_none hq
          refine w_goto (g := 189) d_31_130 (by decide) ?_
          refine w_ret d_31_189 rfl ?_
          exact hq
      · have hcc : cch x M ≠ 93 ∧ cch x M ≠ 34 := by omega
        have hGM := GL_of hT hG hA0.2.1.1 hCM
        refine w_ld d_31_79 rfl rfl rfl ?_
        refine w_con d_31_80 ?_
        refine w_ld d_31_81 rfl rfl rfl ?_
        refine w_con d_31_82 ?_
        refine w_iadd d_31_83 ?_
        refine w_cVq (as := [_, _]) (rest := _) rfl d_31_84 (by rfl) (by rfl) (by first | rfl | assumption) (by rfl) (by rfl) (Nat.le_of_ble_eq_true rfl) (by omega) (by omega) (hE _ _ _ ρ 0 (by omega) (by omega) hCM hGM (by decide) (by omega) hr) ?_ ?_
        rotate_left
        · rintro r τ (⟨hv, _⟩ | ⟨hv, μ9, w9, rfl, hb9⟩)
          · cases hv
          · obtain rfl := Sum.inr.inj hv
            exact EP_bad (A0_elemX hT hX hA0 hd hcc hb9)
        rintro v τ (⟨hv, μ2, rfl, hg2⟩ | ⟨hv, _⟩)
        rotate_left
        · cases hv
        obtain rfl := Sum.inl.inj hv
        have hAl : AL sc t x d key (e + 1) top 8 1 1 μa μ2 := A0_elem hT hX hA0 hd hcc hg2
        refine w_ld d_31_87 rfl rfl rfl ?_
        refine w_ld d_31_88 rfl rfl rfl ?_
        refine w_ld d_31_89 rfl rfl rfl ?_
        refine w_cVq (as := [_, _]) (rest := _) rfl d_31_90 (by rfl) (by rfl) (by first | rfl | assumption) (by rfl) (by rfl) (Nat.le_of_ble_eq_true rfl) (by omega) (by omega) (t_further hT hX h0 hd he hG hE (by omega) (by omega) hr hAl) ?_ ?_
        rotate_left
        · exact fun _ _ hq => hq
        intro v τ hq
        obtain rfl := EP_none hq
        refine w_goto (g := 189) d_31_93 (by decide) ?_
        refine w_ret d_31_189 rfl ?_
        exact hq
    · refine w_ld d_31_59 rfl rfl rfl ?_
      refine w_stk d_31_60 rfl ?_
      refine w_gI d_31_61 (by rfl) (by first | rfl | assumption) (by rfl) rfl ?_
      refine w_con d_31_64 ?_
      refine w_iadd d_31_65 ?_
      refine w_putI d_31_66 (by rfl) (by first | rfl | assumption) (by rfl) (fit_I (by rfl)) (by rfl) ?_
      refine w_goto (g := 189) d_31_69 (by decide) ?_
      refine w_ret d_31_189 rfl ?_
      exact EP_ok (A0_close hT hX hA0 h0 hd he (by omega))
  · exact absurd h8 (by omega)
