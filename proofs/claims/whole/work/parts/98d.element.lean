/-! THE PURE PART, 83: contracts: elements -/
theorem t_elem_s {sc : Nat × (Nat → Int32)} {fr lo : Nat} {μ : Mem} {ρ : Nat × Nat × Nat} {t x : Nat} (hT : isT t) (hX : x = 42 ∨ x = 44) {d key : Int} {e : Nat} (hC : CI t x μ) (hd : 0 ≤ d ∧ d ≤ 8) (hk : key = 0 ∨ key = 1) (hn : 2 * μ.1 t 7 ≤ μ.1 20 5 + d) (hr : 1 ≤ ρ.2.1 ∧ 6 ≤ ρ.2.2) (hAr : cch x μ = 91 → w_S sc (fr - 1) (lo - (19 + 5)) 31 [.ref 20, .int (ji d)] (hp (stI μ 20 5 (cpl x μ)), ρ) (EP sc t x d key (e + 2) μ ρ)) (hf : 40 ≤ fr) (hl : 1500 ≤ lo) : w_S sc fr lo 29 [.ref 20, .int (ji key), .int (ji d)] (hp μ, ρ) (EP sc t x d key (e + 2) μ ρ) := by
  obtain ⟨hT0, hT1, hT2, hT3, hT4, hT5, hT6, hT7, hT8⟩ := hT.sh
  have hT9 : t = 2 ∨ t = 11 ∨ t = 26 := hT
  obtain ⟨hX0, hX1⟩ := xsh hX
  have hcp := cpl_in hC
  have hsz := hC.2.1
  have hpl := hC.2.2.2.2.1
  have hpk := pk_cch hC
  have hCs := CI_sk hT hX hC
  have ex : (stI μ 20 5 (cpl x μ)).1 x 1 = μ.1 x 1 := stI_ne (by omega)
  obtain ⟨c, hcq⟩ : ∃ c, c = (if 0 ≤ cpl x μ ∧ cpl x μ < μ.1 x 1 then μ.2.2 (x + 1) (cpl x μ) else -1) := ⟨_, rfl⟩
  rw [← hcq] at hpk
  have pk : w_E sc (fr - 1) (lo - (19 + 2)) 13 [.ref x, .int (ji (cpl x μ))] (hp (stI μ 20 5 (cpl x μ)), ρ) (.inl (some (.int (ji c)))) (hp (stI μ 20 5 (cpl x μ)), ρ) := by
    have e := t_peek (sc := sc) (fr := fr - 1) (lo := lo - (19 + 2)) (μ := stI μ 20 5 (cpl x μ)) (ρ := ρ) hX0 hX1 (by rw [ex]; omega) (k := cpl x μ) (by omega)
    rw [ex] at e
    rw [hcq]
    exact e
  refine w_S.of (L0 := [some (.ref 20), some (.int (ji key)), some (.int (ji d)), none]) rfl rfl (Nat.le_of_ble_eq_true rfl) (by rfl) ?_
  refine w_ld d_29_0 rfl rfl rfl ?_
  refine w_cV0 (as := []) (rest := _) rfl d_29_1 (by rfl) (by rfl) (by first | rfl | assumption) (by rfl) (by rfl) (Nat.le_of_ble_eq_true rfl) (by omega) (by omega) (t_skp hX hC (by omega) (by omega)) ?_
  refine w_ld d_29_4 rfl rfl rfl ?_
  refine w_getR d_29_5 (by rfl) (by first | rfl | assumption) (by rfl) (hC.1.1) ?_
  refine w_ld d_29_8 rfl rfl rfl ?_
  refine w_gI d_29_9 (by rfl) (by first | rfl | assumption) (by rfl) (stI_at _ _ _ _) ?_
  refine w_cV1 (as := [_]) (rest := _) rfl d_29_12 (by rfl) (by rfl) (by first | rfl | assumption) (by rfl) (by rfl) (Nat.le_of_ble_eq_true rfl) (by omega) (by omega) pk ?_
  refine w_st1 (L' := [_, _, _, _]) d_29_15 rfl (by decide) rfl (by decide) rfl ?_
  refine w_ld d_29_16 rfl rfl rfl ?_
  refine w_bip d_29_17 (by decide) ?_
  refine w_icmp_ne (g := 30) d_29_19 (by decide) (by omega) (fun h19 => ?_) (fun h19 => ?_)
  · refine w_ld d_29_30 rfl rfl rfl ?_
    refine w_bip d_29_31 (by decide) ?_
    refine w_icmp_ne (g := 48) d_29_33 (by decide) (by omega) (fun h33 => ?_) (fun h33 => ?_)
    · refine w_ld d_29_48 rfl rfl rfl ?_
      refine w_bip d_29_49 (by decide) ?_
      refine w_icmp_eq (g := 61) d_29_51 (by decide) (by omega) (fun h51 => ?_) (fun h51 => ?_)
      · refine w_ld d_29_61 rfl rfl rfl ?_
        refine w_cVq (as := []) (rest := _) rfl d_29_62 (by rfl) (by rfl) (by first | rfl | assumption) (by rfl) (by rfl) (Nat.le_of_ble_eq_true rfl) (by omega) (by omega) (t_bareU (key := key) hT hX hC hd hn (by omega) (by omega) hr (e + 1) (by omega)) ?_ ?_
        rotate_left
        · exact fun _ _ hq => hq
        intro v τ hq
        obtain rfl := EP_none hq
        refine w_goto (g := 73) d_29_65 (by decide) ?_
        refine w_ret d_29_73 rfl ?_
        exact hq
      · refine w_ld d_29_54 rfl rfl rfl ?_
        refine w_cS1 (as := [_]) (rest := _) rfl d_29_55 (by rfl) (by rfl) (by rfl) (by rfl) (Nat.le_of_ble_eq_true rfl) (by omega) (by omega) (t_isDigit (by omega)) ?_
        refine w_if_eq (g := 68) d_29_58 (by decide) (by split <;> decide) (fun h58 => ?_) (fun h58 => ?_)
        · have hdg : ¬ (48 ≤ c ∧ c ≤ 57) := fun z => by rw [if_pos z] at h58; omega
          refine w_ld d_29_68 rfl rfl rfl ?_
          refine w_ld d_29_69 rfl rfl rfl ?_
          refine w_cVq (as := [_]) (rest := _) rfl d_29_70 (by rfl) (by rfl) (by first | rfl | assumption) (by rfl) (by rfl) (Nat.le_of_ble_eq_true rfl) (by omega) (by omega) (t_nameU (key := key) hT hX hC hd hn (by omega) (by omega) hr (e + 1) (c := c) (by omega) (by omega) (by omega) (by omega) (by omega)) ?_ ?_
          rotate_left
          · exact fun _ _ hq => hq
          intro v τ hq
          obtain rfl := EP_none hq
          refine w_ret d_29_73 rfl ?_
          exact hq
        · have hdg : 48 ≤ c ∧ c ≤ 57 := Decidable.byContradiction (fun z => h58 (if_neg z))
          refine w_ld d_29_61 rfl rfl rfl ?_
          refine w_cVq (as := []) (rest := _) rfl d_29_62 (by rfl) (by rfl) (by first | rfl | assumption) (by rfl) (by rfl) (Nat.le_of_ble_eq_true rfl) (by omega) (by omega) (t_bareU (key := key) hT hX hC hd hn (by omega) (by omega) hr (e + 1) (by omega)) ?_ ?_
          rotate_left
          · exact fun _ _ hq => hq
          intro v τ hq
          obtain rfl := EP_none hq
          refine w_goto (g := 73) d_29_65 (by decide) ?_
          refine w_ret d_29_73 rfl ?_
          exact hq
    · have hc34 : cch x μ = 34 := by omega
      have hlt := cch_lt hc34 (by decide)
      refine w_ld d_29_36 rfl rfl rfl ?_
      refine w_ld d_29_37 rfl rfl rfl ?_
      refine w_cVq (as := [_]) (rest := _) rfl d_29_38 (by rfl) (by rfl) (by first | rfl | assumption) (by rfl) (by rfl) (Nat.le_of_ble_eq_true rfl) (by omega) (by omega) (t_wordU hT hX hCs (by rw [stI_at, ex]; exact hlt) hk (by omega) (by omega) hr) ?_ ?_
      rotate_left
      · rintro r τ (⟨hv, _⟩ | ⟨hv, μ9, w9, rfl, hb1, hb2⟩)
        · cases hv
        · obtain rfl := Sum.inr.inj hv
          exact EP_bad ⟨⟨cfr_trans (cfr_I (Or.inl rfl)) hb1.1, hb1.2⟩, sim_strX hT hX hC hd hc34 (Or.inl (hb2 d hd))⟩
      rintro v τ (⟨hv, μ1, rfl, hW, hS⟩ | ⟨hv, _⟩)
      rotate_left
      · cases hv
      obtain rfl := Sum.inl.inj hv
      refine w_ld d_29_41 rfl rfl rfl ?_
      refine w_cVq (as := []) (rest := _) rfl d_29_42 (by rfl) (by rfl) (by first | rfl | assumption) (by rfl) (by rfl) (Nat.le_of_ble_eq_true rfl) (by omega) (by omega) (t_meanU (key := key) hT hX hC hd hc34 hn hW (hS d hd) (by omega) (by omega) hr e) ?_ ?_
      rotate_left
      · exact fun _ _ hq => hq
      intro v τ hq
      obtain rfl := EP_none hq
      refine w_goto (g := 73) d_29_45 (by decide) ?_
      refine w_ret d_29_73 rfl ?_
      exact hq
  · refine w_ld d_29_22 rfl rfl rfl ?_
    refine w_ld d_29_23 rfl rfl rfl ?_
    refine w_cVq (as := [_]) (rest := _) rfl d_29_24 (by rfl) (by rfl) (by first | rfl | assumption) (by rfl) (by rfl) (Nat.le_of_ble_eq_true rfl) (by omega) (by omega) (hAr (by omega)) ?_ ?_
    rotate_left
    · exact fun _ _ hq => hq
    intro v τ hq
    obtain rfl := EP_none hq
    refine w_goto (g := 73) d_29_27 (by decide) ?_
    refine w_ret d_29_73 rfl ?_
    exact hq
/-- an element, at every depth -/
theorem elc {sc : Nat × (Nat → Int32)} {t x : Nat} (hT : isT t) (hX : x = 42 ∨ x = 44) : ∀ k : Nat, k ≤ 8 → ∃ f0 l0 : Nat, f0 ≤ 60 + 100 * k ∧ l0 ≤ 2000 + 1700 * k ∧ ElC sc t x (8 - (k : Int)) (k + 2) f0 l0
  | 0, _ => ⟨60, 2000, by omega, by omega, fun fr lo μ ρ key hf hl hC hG hk hn hr => by
    refine t_elem_s (e := 0) hT hX hC (by omega) hk hn hr (fun hc => ?_) (by omega) (by omega)
    exact t_arrayX hT hX rfl hC hn hc hr (by omega) (by omega) (by omega)⟩
  | k + 1, h8 => by
    obtain ⟨f0, l0, b1, b2, ih⟩ := elc (sc := sc) hT hX k (by omega)
    refine ⟨f0 + 100, l0 + 1700, by omega, by omega, fun fr lo μ ρ key hf hl hC hG hk hn hr => ?_⟩
    refine t_elem_s (e := k + 1) hT hX hC (by omega) hk hn hr (fun hc => ?_) (by omega) (by omega)
    refine t_array (fe := f0) (le := l0) (e := k + 1) hT hX rfl hC hn hc hr (by omega) (by omega) (by omega) hG ?_ (by omega) (by omega)
    rw [show (8 : Int) - ((k + 1 : Nat) : Int) + 1 = 8 - (k : Int) by omega]
    exact ih
