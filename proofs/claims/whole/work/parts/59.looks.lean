/-! THE PURE PART, 43: contracts: the reader looks at a word -/
theorem t_wl {sc : Nat × (Nat → Int32)} {fr lo : Nat} {μ : Mem} {ρ : Nat × Nat × Nat} {t : Nat} (hT : isT t) (ht : μ.2.1 20 4 = .ref t) (hc : 0 ≤ μ.1 (t + 7) 1 ∧ μ.1 (t + 7) 1 ≤ 240) (hw : 0 ≤ μ.1 20 8 ∧ 0 ≤ μ.1 20 9 ∧ μ.1 20 8 + μ.1 20 9 ≤ μ.1 (t + 7) 1) (hch : ∀ k, 0 ≤ μ.2.2 (t + 7 + 1) k ∧ μ.2.2 (t + 7 + 1) k < 65536) (hf : 1 ≤ fr) (hl : 60 ≤ lo) {k : Int} (hk : 0 ≤ k ∧ k < 1000) : w_E sc fr lo 43 [.ref 20, .int (ji k)] (hp μ, ρ) (.inl (some (.int (ji (wl (fun i => μ.2.2 (t + 7 + 1) (μ.1 20 8 + i)) (μ.1 20 9) k))))) (hp μ, ρ) := by
  have e := t_wordLetter (sc := sc) (ρ := ρ) hT ht hc (by omega) hf hl hk
  have e2 : (if k < μ.1 20 9 then (if 0 ≤ μ.1 20 8 + k ∧ μ.1 20 8 + k < μ.1 (t + 7) 1 then μ.2.2 (t + 7 + 1) (μ.1 20 8 + k) else -1) else -1) = (wl (fun i => μ.2.2 (t + 7 + 1) (μ.1 20 8 + i)) (μ.1 20 9) k) := by
    unfold wl
    by_cases h : k < μ.1 20 9
    · rw [if_pos h, if_pos h, if_pos (by omega)]
    · rw [if_neg h, if_neg h]
  rw [e2] at e
  exact e
theorem wl_in {w : Int → Int} (h : ∀ i, 0 ≤ w i ∧ w i < 65536) (s k : Int) : -1 ≤ wl w s k ∧ wl w s k < 65536 := by
  unfold wl
  split
  · have := h k
    omega
  · omega
theorem t_codeOfWord {sc : Nat × (Nat → Int32)} {fr lo : Nat} {μ : Mem} {ρ : Nat × Nat × Nat} {t : Nat} (hT : isT t) (ht : μ.2.1 20 4 = .ref t) (hc : 0 ≤ μ.1 (t + 7) 1 ∧ μ.1 (t + 7) 1 ≤ 240) (hw : 0 ≤ μ.1 20 8 ∧ 0 ≤ μ.1 20 9 ∧ μ.1 20 8 + μ.1 20 9 ≤ μ.1 (t + 7) 1) (hch : ∀ k, 0 ≤ μ.2.2 (t + 7 + 1) k ∧ μ.2.2 (t + 7 + 1) k < 65536) (hf : 8 ≤ fr) (hl : 200 ≤ lo) : w_E sc fr lo 42 [.ref 20] (hp μ, ρ) (.inl (some (.int (ji (cod (fun i => μ.2.2 (t + 7 + 1) (μ.1 20 8 + i)) (μ.1 20 9)))))) (hp μ, ρ) := by
  obtain ⟨hT0, hT1, hT2, hT3, hT4, hT5, hT6, hT7, hT8⟩ := hT.sh
  have hT9 : t = 2 ∨ t = 11 ∨ t = 26 := hT
  have l0 := wl_in (w := (fun i => μ.2.2 (t + 7 + 1) (μ.1 20 8 + i))) (fun i => hch _) (μ.1 20 9) 0
  have l1 := wl_in (w := (fun i => μ.2.2 (t + 7 + 1) (μ.1 20 8 + i))) (fun i => hch _) (μ.1 20 9) 1
  have l2 := wl_in (w := (fun i => μ.2.2 (t + 7 + 1) (μ.1 20 8 + i))) (fun i => hch _) (μ.1 20 9) 2
  refine w_S.of (L0 := [some (.ref 20), none, none, none]) rfl rfl (Nat.le_of_ble_eq_true rfl) (by rfl) ?_
  refine w_ld d_42_0 rfl rfl rfl ?_
  refine w_con d_42_1 ?_
  refine w_cV1 (as := [_]) (rest := _) rfl d_42_2 (by rfl) (by rfl) (by first | rfl | assumption) (by rfl) (by rfl) (Nat.le_of_ble_eq_true rfl) (by omega) (by omega) (t_wl hT ht hc hw hch (by omega) (by omega) (by decide)) ?_
  refine w_bip d_42_5 (by decide) ?_
  refine w_isub d_42_7 ?_
  refine w_st1 (L' := [_, _, _, _]) d_42_8 rfl (by decide) rfl (by decide) rfl ?_
  refine w_ld d_42_9 rfl rfl rfl ?_
  refine w_con d_42_10 ?_
  refine w_cV1 (as := [_]) (rest := _) rfl d_42_11 (by rfl) (by rfl) (by first | rfl | assumption) (by rfl) (by rfl) (Nat.le_of_ble_eq_true rfl) (by omega) (by omega) (t_wl hT ht hc hw hch (by omega) (by omega) (by decide)) ?_
  refine w_bip d_42_14 (by decide) ?_
  refine w_isub d_42_16 ?_
  refine w_st1 (L' := [_, _, _, _]) d_42_17 rfl (by decide) rfl (by decide) rfl ?_
  refine w_ld d_42_18 rfl rfl rfl ?_
  refine w_con d_42_19 ?_
  refine w_cV1 (as := [_]) (rest := _) rfl d_42_20 (by rfl) (by rfl) (by first | rfl | assumption) (by rfl) (by rfl) (Nat.le_of_ble_eq_true rfl) (by omega) (by omega) (t_wl hT ht hc hw hch (by omega) (by omega) (by decide)) ?_
  refine w_bip d_42_23 (by decide) ?_
  refine w_icmp_ne (g := 38) d_42_25 (by decide) (by omega) (fun h25 => ?_) (fun h25 => ?_)
  · refine w_con d_42_38 ?_
    refine w_iret d_42_39 rfl ?_
    have e : (cod (fun i => μ.2.2 (t + 7 + 1) (μ.1 20 8 + i)) (μ.1 20 9)) = -1 := by
      unfold cod
      rw [if_neg (by omega)]
    rw [e]
    exact ⟨rfl, rfl⟩
  · refine w_ld d_42_28 rfl rfl rfl ?_
    refine w_if_lt (g := 38) d_42_29 (by decide) (by omega) (fun h29 => ?_) (fun h29 => ?_)
    · refine w_con d_42_38 ?_
      refine w_iret d_42_39 rfl ?_
      have e : (cod (fun i => μ.2.2 (t + 7 + 1) (μ.1 20 8 + i)) (μ.1 20 9)) = -1 := by
        unfold cod
        rw [if_neg (by omega)]
      rw [e]
      exact ⟨rfl, rfl⟩
    · refine w_ld d_42_32 rfl rfl rfl ?_
      refine w_bip d_42_33 (by decide) ?_
      refine w_icmp_lt (g := 40) d_42_35 (by decide) (by omega) (fun h35 => ?_) (fun h35 => ?_)
      · refine w_ld d_42_40 rfl rfl rfl ?_
        refine w_gI d_42_41 (by rfl) (by first | rfl | assumption) (by rfl) (by (try simp [stI, stA, stR]) <;> rfl) ?_
        refine w_con d_42_44 ?_
        refine w_icmp_ne (g := 50) d_42_45 (by decide) (by omega) (fun h45 => ?_) (fun h45 => ?_)
        · refine w_ld d_42_50 rfl rfl rfl ?_
          refine w_gI d_42_51 (by rfl) (by first | rfl | assumption) (by rfl) (by (try simp [stI, stA, stR]) <;> rfl) ?_
          refine w_con d_42_54 ?_
          refine w_icmp_ne (g := 72) d_42_55 (by decide) (by omega) (fun h55 => ?_) (fun h55 => ?_)
          · refine w_con d_42_72 ?_
            refine w_st1 (L' := [_, _, _, _]) d_42_73 rfl (by decide) rfl (by decide) rfl ?_
            refine w_ld d_42_74 rfl rfl rfl ?_
            refine w_if_eq (g := 87) d_42_75 (by decide) (by decide) (fun h75 => ?_) (fun h75 => ?_)
            · refine w_con d_42_87 ?_
              refine w_iret d_42_88 rfl ?_
              have e : (cod (fun i => μ.2.2 (t + 7 + 1) (μ.1 20 8 + i)) (μ.1 20 9)) = -1 := by
                unfold cod
                rw [if_neg (by omega)]
              rw [e]
              exact ⟨rfl, rfl⟩
            · exact absurd rfl h75
          · refine w_ld d_42_58 rfl rfl rfl ?_
            refine w_if_lt (g := 72) d_42_59 (by decide) (by omega) (fun h59 => ?_) (fun h59 => ?_)
            · refine w_con d_42_72 ?_
              refine w_st1 (L' := [_, _, _, _]) d_42_73 rfl (by decide) rfl (by decide) rfl ?_
              refine w_ld d_42_74 rfl rfl rfl ?_
              refine w_if_eq (g := 87) d_42_75 (by decide) (by decide) (fun h75 => ?_) (fun h75 => ?_)
              · refine w_con d_42_87 ?_
                refine w_iret d_42_88 rfl ?_
                have e : (cod (fun i => μ.2.2 (t + 7 + 1) (μ.1 20 8 + i)) (μ.1 20 9)) = -1 := by
                  unfold cod
                  rw [if_neg (by omega)]
                rw [e]
                exact ⟨rfl, rfl⟩
              · exact absurd rfl h75
            · refine w_ld d_42_62 rfl rfl rfl ?_
              refine w_bip d_42_63 (by decide) ?_
              refine w_icmp_ge (g := 72) d_42_65 (by decide) (by omega) (fun h65 => ?_) (fun h65 => ?_)
              · refine w_con d_42_72 ?_
                refine w_st1 (L' := [_, _, _, _]) d_42_73 rfl (by decide) rfl (by decide) rfl ?_
                refine w_ld d_42_74 rfl rfl rfl ?_
                refine w_if_eq (g := 87) d_42_75 (by decide) (by decide) (fun h75 => ?_) (fun h75 => ?_)
                · refine w_con d_42_87 ?_
                  refine w_iret d_42_88 rfl ?_
                  have e : (cod (fun i => μ.2.2 (t + 7 + 1) (μ.1 20 8 + i)) (μ.1 20 9)) = -1 := by
                    unfold cod
                    rw [if_neg (by omega)]
                  rw [e]
                  exact ⟨rfl, rfl⟩
                · exact absurd rfl h75
              · refine w_con d_42_68 ?_
                refine w_goto (g := 73) d_42_69 (by decide) ?_
                refine w_st1 (L' := [_, _, _, _]) d_42_73 rfl (by decide) rfl (by decide) rfl ?_
                refine w_ld d_42_74 rfl rfl rfl ?_
                refine w_if_eq (g := 87) d_42_75 (by decide) (by decide) (fun h75 => ?_) (fun h75 => ?_)
                · exact absurd h75 (by decide)
                · refine w_bip d_42_78 (by decide) ?_
                  refine w_ld d_42_80 rfl rfl rfl ?_
                  refine w_imul d_42_81 ?_
                  refine w_ld d_42_82 rfl rfl rfl ?_
                  refine w_iadd d_42_83 ?_
                  refine w_goto (g := 88) d_42_84 (by decide) ?_
                  refine w_iret d_42_88 rfl ?_
                  have e : (cod (fun i => μ.2.2 (t + 7 + 1) (μ.1 20 8 + i)) (μ.1 20 9)) = 6 * ((wl (fun i => μ.2.2 (t + 7 + 1) (μ.1 20 8 + i)) (μ.1 20 9) 1) - 48) + ((wl (fun i => μ.2.2 (t + 7 + 1) (μ.1 20 8 + i)) (μ.1 20 9) 2) - 48) := by
                    unfold cod
                    rw [if_pos (by omega), if_neg (by omega)]
                  rw [e]
                  exact ⟨rfl, rfl⟩
        · refine w_ld d_42_48 rfl rfl rfl ?_
          refine w_iret d_42_49 rfl ?_
          have e : (cod (fun i => μ.2.2 (t + 7 + 1) (μ.1 20 8 + i)) (μ.1 20 9)) = (wl (fun i => μ.2.2 (t + 7 + 1) (μ.1 20 8 + i)) (μ.1 20 9) 1) - 48 := by
            unfold cod
            rw [if_pos (by omega), if_pos (by omega)]
          rw [e]
          exact ⟨rfl, rfl⟩
      · refine w_con d_42_38 ?_
        refine w_iret d_42_39 rfl ?_
        have e : (cod (fun i => μ.2.2 (t + 7 + 1) (μ.1 20 8 + i)) (μ.1 20 9)) = -1 := by
          unfold cod
          rw [if_neg (by omega)]
        rw [e]
        exact ⟨rfl, rfl⟩
theorem t_decode {sc : Nat × (Nat → Int32)} {fr lo : Nat} {μ : Mem} {ρ : Nat × Nat × Nat} {c : Int} (hc : 0 ≤ c ∧ c < μ.1 21 2 ∧ μ.1 21 2 ≤ 24) : w_E sc fr lo 44 [.ref 20, .int (ji c)] (hp μ, ρ) (.inl none) (hp (stI (stI μ 20 8 (μ.2.2 22 c)) 20 9 (μ.2.2 23 c)), ρ) := by
  refine w_S.of (L0 := [some (.ref 20), some (.int (ji c))]) rfl rfl (Nat.le_of_ble_eq_true rfl) (by rfl) ?_
  refine w_ld d_44_0 rfl rfl rfl ?_
  refine w_ld d_44_1 rfl rfl rfl ?_
  refine w_getF d_44_2 (by rfl) (by first | rfl | assumption) (by rfl) (by rfl) ?_
  refine w_gI d_44_5 (by rfl) (by first | rfl | assumption) (by rfl) (by (try simp [stI, stA, stR]) <;> rfl) ?_
  refine w_icmp_lt (g := 19) d_44_8 (by decide) (by omega) (fun h8 => ?_) (fun h8 => ?_)
  · refine w_ld d_44_19 rfl rfl rfl ?_
    refine w_ld d_44_20 rfl rfl rfl ?_
    refine w_getF d_44_21 (by rfl) (by first | rfl | assumption) (by rfl) (by rfl) ?_
    refine w_getF d_44_24 (by rfl) (by first | rfl | assumption) (by rfl) (by rfl) ?_
    refine w_ld d_44_27 rfl rfl rfl ?_
    refine w_aI d_44_28 (by first | rfl | assumption) (by omega) (by (try simp [stI, stA, stR]) <;> rfl) ?_
    refine w_putI d_44_29 (by rfl) (by first | rfl | assumption) (by rfl) (fit_I (by rfl)) (by rfl) ?_
    refine w_ld d_44_32 rfl rfl rfl ?_
    refine w_ld d_44_33 rfl rfl rfl ?_
    refine w_getF d_44_34 (by rfl) (by first | rfl | assumption) (by rfl) (by rfl) ?_
    refine w_getF d_44_37 (by rfl) (by first | rfl | assumption) (by rfl) (by rfl) ?_
    refine w_ld d_44_40 rfl rfl rfl ?_
    refine w_aI d_44_41 (by first | rfl | assumption) (by omega) (by (try simp [stI, stA, stR]) <;> rfl) ?_
    refine w_putI d_44_42 (by rfl) (by first | rfl | assumption) (by rfl) (fit_I (by rfl)) (by rfl) ?_
    refine w_ret d_44_45 rfl ?_
    exact ⟨rfl, rfl⟩
  · exact absurd h8 (by omega)
theorem t_decodex {sc : Nat × (Nat → Int32)} {fr lo : Nat} {μ : Mem} {ρ : Nat × Nat × Nat} {c : Int} (hc0 : 0 ≤ c ∧ c ≤ 100) (hc : μ.1 21 2 ≤ c ∧ 0 ≤ μ.1 21 2) (hf : 8 ≤ fr) (hl : 200 ≤ lo) (hr : 1 ≤ ρ.2.1 ∧ 6 ≤ ρ.2.2) : w_E sc fr lo 44 [.ref 20, .int (ji c)] (hp μ, ρ) (.inr (1, ρ.1)) (hp (stI μ 20 6 (μ.1 20 7)), ρ.1 + 1, ρ.2.1 - 1, ρ.2.2 - 6) := by
  refine w_S.of (L0 := [some (.ref 20), some (.int (ji c))]) rfl rfl (Nat.le_of_ble_eq_true rfl) (by rfl) ?_
  refine w_ld d_44_0 rfl rfl rfl ?_
  refine w_ld d_44_1 rfl rfl rfl ?_
  refine w_getF d_44_2 (by rfl) (by first | rfl | assumption) (by rfl) (by rfl) ?_
  refine w_gI d_44_5 (by rfl) (by first | rfl | assumption) (by rfl) (by (try simp [stI, stA, stR]) <;> rfl) ?_
  refine w_icmp_lt (g := 19) d_44_8 (by decide) (by omega) (fun h8 => ?_) (fun h8 => ?_)
  · exact absurd h8 (by omega)
  · refine w_ld d_44_11 rfl rfl rfl ?_
    refine w_ld d_44_12 rfl rfl rfl ?_
    refine w_gI d_44_13 (by rfl) (by first | rfl | assumption) (by rfl) (by (try simp [stI, stA, stR]) <;> rfl) ?_
    refine w_cVx (as := [_]) (rest := _) rfl d_44_16 (by rfl) (by rfl) (by first | rfl | assumption) (by rfl) (by rfl) (Nat.le_of_ble_eq_true rfl) (by omega) (by omega) (t_fail hr (by omega) (by omega)) ?_
    exact ⟨rfl, rfl⟩
theorem t_takes {sc : Nat × (Nat → Int32)} {fr lo : Nat} {μ : Mem} {ρ : Nat × Nat × Nat} {b n : Nat} (hL : isL b n) (hc : 0 ≤ μ.1 b 1 ∧ μ.1 b 1 ≤ n) {f s key : Int} (hfs : 0 ≤ f ∧ 0 ≤ s ∧ f + s ≤ μ.1 b 1) (hk : key = 0 ∨ key = 1) (hch : ∀ k, 0 ≤ μ.2.2 (b + 1) k ∧ μ.2.2 (b + 1) k < 65536) (hf : 8 ≤ fr) (hl : 200 ≤ lo) : w_E sc fr lo 45 [.ref b, .int (ji f), .int (ji s), .int (ji key)] (hp μ, ρ) (.inl (some (.int (ji (b01 (tks (fun i => μ.2.2 (b + 1) (f + i)) s key)))))) (hp μ, ρ) := by
  obtain ⟨hb0, hb1, hb2⟩ := hL.sh
  have l0 := wl_in (w := fun i => μ.2.2 (b + 1) (f + i)) (fun i => hch _) s 0
  have l1 := wl_in (w := fun i => μ.2.2 (b + 1) (f + i)) (fun i => hch _) s 1
  have hn480 : (n : Int) ≤ 480 := by rcases hL with ⟨_, z⟩ | ⟨_, z⟩ <;> omega
  have pk1 : 3 < s → w_E sc (fr - 1) (lo - (19 + 2)) 13 [.ref b, .int (ji (f + 1))] (hp μ, ρ) (.inl (some (.int (ji (wl (fun i => μ.2.2 (b + 1) (f + i)) s 1))))) (hp μ, ρ) := fun h3 => by
    have e := t_peek (sc := sc) (fr := fr - 1) (lo := lo - (19 + 2)) (μ := μ) (ρ := ρ) hb0 hb1 (by omega) (k := f + 1) (by omega)
    rw [if_pos (by omega)] at e
    rw [show (wl (fun i => μ.2.2 (b + 1) (f + i)) s 1) = μ.2.2 (b + 1) (f + 1) from if_pos (by omega)]
    exact e
  have pk0 : 3 < s → w_E sc (fr - 1) (lo - (19 + 2)) 13 [.ref b, .int (ji f)] (hp μ, ρ) (.inl (some (.int (ji (wl (fun i => μ.2.2 (b + 1) (f + i)) s 0))))) (hp μ, ρ) := fun h3 => by
    have e := t_peek (sc := sc) (fr := fr - 1) (lo := lo - (19 + 2)) (μ := μ) (ρ := ρ) hb0 hb1 (by omega) (k := f) (by omega)
    rw [if_pos (by omega)] at e
    rw [show (wl (fun i => μ.2.2 (b + 1) (f + i)) s 0) = μ.2.2 (b + 1) (f + 0) from if_pos (by omega), Int.add_zero]
    exact e
  refine w_S.of (L0 := [some (.ref b), some (.int (ji f)), some (.int (ji s)), some (.int (ji key)), none]) rfl rfl (Nat.le_of_ble_eq_true rfl) (by rfl) ?_
  refine w_ld d_45_0 rfl rfl rfl ?_
  refine w_con d_45_1 ?_
  refine w_icmp_gt (g := 7) d_45_2 (by decide) (by omega) (fun h2 => ?_) (fun h2 => ?_)
  · refine w_ld d_45_7 rfl rfl rfl ?_
    refine w_ld d_45_8 rfl rfl rfl ?_
    refine w_con d_45_9 ?_
    refine w_iadd d_45_10 ?_
    refine w_cV1 (a := b) (as := [_]) (rest := _) rfl d_45_11 (by rfl) (by rfl) (by first | rfl | assumption) (by rfl) (by rfl) (Nat.le_of_ble_eq_true rfl) (by omega) (by omega) (pk1 (by omega)) ?_
    refine w_st1 (L' := [_, _, _, _, _]) d_45_14 rfl (by decide) rfl (by decide) rfl ?_
    refine w_ld d_45_16 rfl rfl rfl ?_
    refine w_if_ne (g := 51) d_45_17 (by decide) (by omega) (fun h17 => ?_) (fun h17 => ?_)
    · refine w_con d_45_51 ?_
      refine w_goto (g := 56) d_45_52 (by decide) ?_
      refine w_zret d_45_56 rfl (by decide) ?_
      rw [b01_t (show (tks (fun i => μ.2.2 (b + 1) (f + i)) s key) from ?_)]
      · exact ⟨rfl, rfl⟩
      · exact ⟨by omega, Or.inl (by omega)⟩
    · refine w_ld d_45_20 rfl rfl rfl ?_
      refine w_ld d_45_21 rfl rfl rfl ?_
      refine w_cV1 (a := b) (as := [_]) (rest := _) rfl d_45_22 (by rfl) (by rfl) (by first | rfl | assumption) (by rfl) (by rfl) (Nat.le_of_ble_eq_true rfl) (by omega) (by omega) (pk0 (by omega)) ?_
      refine w_bip d_45_25 (by decide) ?_
      refine w_icmp_ne (g := 55) d_45_27 (by decide) (by omega) (fun h27 => ?_) (fun h27 => ?_)
      · refine w_con d_45_55 ?_
        refine w_zret d_45_56 rfl (by decide) ?_
        rw [b01_f (show ¬ (tks (fun i => μ.2.2 (b + 1) (f + i)) s key) from ?_)]
        · exact ⟨rfl, rfl⟩
        · rintro ⟨z1, z2 | z2⟩
          · omega
          · exact h27 z2.1
      · refine w_ld d_45_30 rfl rfl rfl ?_
        refine w_bip d_45_32 (by decide) ?_
        refine w_icmp_eq (g := 51) d_45_34 (by decide) (by omega) (fun h34 => ?_) (fun h34 => ?_)
        · refine w_con d_45_51 ?_
          refine w_goto (g := 56) d_45_52 (by decide) ?_
          refine w_zret d_45_56 rfl (by decide) ?_
          rw [b01_t (show (tks (fun i => μ.2.2 (b + 1) (f + i)) s key) from ?_)]
          · exact ⟨rfl, rfl⟩
          · exact ⟨by omega, Or.inr ⟨h27, Or.inl h34⟩⟩
        · refine w_ld d_45_37 rfl rfl rfl ?_
          refine w_bip d_45_39 (by decide) ?_
          refine w_icmp_eq (g := 51) d_45_41 (by decide) (by omega) (fun h41 => ?_) (fun h41 => ?_)
          · refine w_con d_45_51 ?_
            refine w_goto (g := 56) d_45_52 (by decide) ?_
            refine w_zret d_45_56 rfl (by decide) ?_
            rw [b01_t (show (tks (fun i => μ.2.2 (b + 1) (f + i)) s key) from ?_)]
            · exact ⟨rfl, rfl⟩
            · exact ⟨by omega, Or.inr ⟨h27, Or.inr (Or.inl h41)⟩⟩
          · refine w_ld d_45_44 rfl rfl rfl ?_
            refine w_bip d_45_46 (by decide) ?_
            refine w_icmp_ne (g := 55) d_45_48 (by decide) (by omega) (fun h48 => ?_) (fun h48 => ?_)
            · refine w_con d_45_55 ?_
              refine w_zret d_45_56 rfl (by decide) ?_
              rw [b01_f (show ¬ (tks (fun i => μ.2.2 (b + 1) (f + i)) s key) from ?_)]
              · exact ⟨rfl, rfl⟩
              · rintro ⟨z1, z2 | z2⟩
                · omega
                · rcases z2.2 with w | w | w
                  · exact h34 w
                  · exact h41 w
                  · exact h48 w
            · refine w_con d_45_51 ?_
              refine w_goto (g := 56) d_45_52 (by decide) ?_
              refine w_zret d_45_56 rfl (by decide) ?_
              rw [b01_t (show (tks (fun i => μ.2.2 (b + 1) (f + i)) s key) from ?_)]
              · exact ⟨rfl, rfl⟩
              · exact ⟨by omega, Or.inr ⟨h27, Or.inr (Or.inr h48)⟩⟩
  · refine w_con d_45_5 ?_
    refine w_zret d_45_6 rfl (by decide) ?_
    rw [b01_f (show ¬ (tks (fun i => μ.2.2 (b + 1) (f + i)) s key) from ?_)]
    · exact ⟨rfl, rfl⟩
    · intro z; have := z.1; omega
theorem t_spells_l {sc : Nat × (Nat → Int32)} {fr lo : Nat} {μ : Mem} {ρ : Nat × Nat × Nat} {b n : Nat} (hL : isL b n) (hc : 0 ≤ μ.1 b 1 ∧ μ.1 b 1 ≤ n) {f s : Int} (hfs : 0 ≤ f ∧ 0 ≤ s ∧ f + s ≤ μ.1 b 1) {k : Nat} (hk : k < 22) (hch : ∀ k, 0 ≤ μ.2.2 (b + 1) k ∧ μ.2.2 (b + 1) k < 65536) (hf : 10 ≤ fr) (hl : 500 ≤ lo) (hs : s = slen k) : ∀ (m : Nat) (i : Int), (s - i).toNat = m → (0 ≤ i ∧ i ≤ s) → (∀ j, 0 ≤ j → j < i → μ.2.2 (b + 1) (f + j) = sch k j) → w_P sc fr lo 47 1 5 false ((some FieldType.boolean)) prog_2_method_7_code 13 [some (.ref b), some (.int (ji f)), some (.int (ji s)), some (.float (UInt32.ofNat k)), some (.int (ji i))] [] (hp (μ), ρ) (fun o t' => o = .inl (some (.int (ji (b01 (s = slen k ∧ ∀ j, 0 ≤ j → j < s → μ.2.2 (b + 1) (f + j) = sch k j))))) ∧ t' = (hp μ, ρ)) := by
  intro m
  induction m using Nat.strongRecOn with
  | ind m ih =>
    intro i hm hi hj
    obtain ⟨hb0, hb1, hb2⟩ := hL.sh
    have s7 := slen_le hk
    have hn480 : (n : Int) ≤ 480 := by rcases hL with ⟨_, z⟩ | ⟨_, z⟩ <;> omega
    refine w_ld d_47_13 rfl rfl rfl ?_
    refine w_ld d_47_15 rfl rfl rfl ?_
    refine w_icmp_ge (g := 44) d_47_16 (by decide) (by omega) (fun h16 => ?_) (fun h16 => ?_)
    · refine w_con d_47_44 ?_
      refine w_zret d_47_45 rfl (by decide) ?_
      rw [b01_t (show (s = slen k ∧ ∀ j, 0 ≤ j → j < s → μ.2.2 (b + 1) (f + j) = sch k j) from ⟨hs, fun j j0 j1 => hj j j0 (by omega)⟩)]
      exact ⟨rfl, rfl⟩
    · refine w_ld d_47_19 rfl rfl rfl ?_
      refine w_ld d_47_20 rfl rfl rfl ?_
      refine w_ld d_47_21 rfl rfl rfl ?_
      refine w_iadd d_47_23 ?_
      refine w_cV1 (a := b) (as := [_]) (rest := _) rfl d_47_24 (by rfl) (by rfl) (by first | rfl | assumption) (by rfl) (by rfl) (Nat.le_of_ble_eq_true rfl) (by omega) (by omega) (t_peek hb0 hb1 (by omega) (by omega)) ?_
      rw [if_pos ⟨by omega, by omega⟩]
      have e1 := hch (f + i)
      have e2 := sch_in hk (i := i) (by omega)
      refine w_ld d_47_27 rfl rfl rfl ?_
      refine w_ld d_47_28 rfl rfl rfl ?_
      refine w_schr (k := k) rfl d_47_30 (by rfl) (by rfl) hk (by omega) (Nat.le_of_ble_eq_true rfl) (by omega) (by omega) ?_
      refine w_icmp_eq (g := 38) d_47_33 (by decide) (by omega) (fun h33 => ?_) (fun h33 => ?_)
      · refine w_inc (L' := [_, _, _, _, _]) d_47_38 rfl (by decide) rfl ?_
        refine w_goto (g := 13) d_47_41 (by decide) ?_
        exact ih _ (by omega) (i + 1) rfl (by omega) (fun j j0 j1 => by
          by_cases hji : j = i
          · rw [hji]; exact h33
          · exact hj j j0 (by omega))
      · refine w_con d_47_36 ?_
        refine w_zret d_47_37 rfl (by decide) ?_
        rw [b01_f (show ¬ (s = slen k ∧ ∀ j, 0 ≤ j → j < s → μ.2.2 (b + 1) (f + j) = sch k j) from fun z => h33 (z.2 i (by omega) (by omega)))]
        exact ⟨rfl, rfl⟩
theorem t_spells {sc : Nat × (Nat → Int32)} {fr lo : Nat} {μ : Mem} {ρ : Nat × Nat × Nat} {b n : Nat} (hL : isL b n) (hc : 0 ≤ μ.1 b 1 ∧ μ.1 b 1 ≤ n) {f s : Int} (hfs : 0 ≤ f ∧ 0 ≤ s ∧ f + s ≤ μ.1 b 1) {k : Nat} (hk : k < 22) (hch : ∀ k, 0 ≤ μ.2.2 (b + 1) k ∧ μ.2.2 (b + 1) k < 65536) (hf : 10 ≤ fr) (hl : 500 ≤ lo) : w_E sc fr lo 47 [.ref b, .int (ji f), .int (ji s), .float (UInt32.ofNat k)] (hp μ, ρ) (.inl (some (.int (ji (b01 (s = slen k ∧ ∀ j, 0 ≤ j → j < s → μ.2.2 (b + 1) (f + j) = sch k j)))))) (hp μ, ρ) := by
  obtain ⟨hb0, hb1, hb2⟩ := hL.sh
  have s7 := slen_le hk
  have hn480 : (n : Int) ≤ 480 := by rcases hL with ⟨_, z⟩ | ⟨_, z⟩ <;> omega
  refine w_S.of (L0 := [some (.ref b), some (.int (ji f)), some (.int (ji s)), some (.float (UInt32.ofNat k)), none]) rfl rfl (Nat.le_of_ble_eq_true rfl) (by rfl) ?_
  refine w_ld d_47_0 rfl rfl rfl ?_
  refine w_ld d_47_1 rfl rfl rfl ?_
  refine w_slen (k := k) rfl d_47_2 (by rfl) (by rfl) hk (Nat.le_of_ble_eq_true rfl) (by omega) (by omega) ?_
  refine w_icmp_eq (g := 10) d_47_5 (by decide) (by omega) (fun h5 => ?_) (fun h5 => ?_)
  · refine w_con d_47_10 ?_
    refine w_st1 (L' := [_, _, _, _, _]) d_47_11 rfl (by decide) rfl (by decide) rfl ?_
    exact t_spells_l hL hc hfs hk hch hf hl h5 _ 0 rfl (by omega) (fun j j0 j1 => by omega)
  · refine w_con d_47_8 ?_
    refine w_zret d_47_9 rfl (by decide) ?_
    rw [b01_f (show ¬ (s = slen k ∧ ∀ j, 0 ≤ j → j < s → μ.2.2 (b + 1) (f + j) = sch k j) from fun z => h5 z.1)]
    exact ⟨rfl, rfl⟩
