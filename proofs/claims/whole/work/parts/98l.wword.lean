/-! THE PURE PART, 91: contracts: the class writes words -/
theorem digs_in : ∀ (f n : Nat) (c : Int), c ∈ digs f n → 48 ≤ c ∧ c ≤ 57
  | 0, n, c, h => by
    have h : c = 48 + ((n % 10 : Nat) : Int) := by simpa [digs] using h
    omega
  | f + 1, n, c, h => by
    unfold digs at h
    by_cases z : n < 10
    · rw [if_pos z] at h
      have h : c = 48 + (n : Int) := by simpa using h
      omega
    · rw [if_neg z] at h
      rcases List.mem_append.mp h with h | h
      · exact digs_in f _ c h
      · have h : c = 48 + ((n % 10 : Nat) : Int) := by simpa using h
        omega
theorem dec_in {v c : Int} (h : c ∈ dec v) : 45 ≤ c ∧ c ≤ 57 := by
  unfold dec at h
  by_cases z : v < 0
  · rw [if_pos z] at h
    rcases List.mem_cons.mp h with h | h
    · omega
    · have := digs_in _ _ _ h; omega
  · rw [if_neg z] at h
    have := digs_in _ _ _ h; omega
theorem DG_DW {v f : Int} {l : List Int} {μ μ' : Mem} (h : DG l f μ μ') : DW [] μ μ' := ⟨fun a q _ => by rw [h.1], h.2.1, by rw [h.1]; simp, fun a _ z => h.2.2.1 a z, fun i _ => by rw [h.2.2.1 40 (by omega)], fun i hi => absurd hi (Nat.not_lt_zero i), fun k hk => by rw [h.2.2.1 40 (by omega)]; exact hk⟩
theorem t_dnm_l {sc : Nat × (Nat → Int32)} {fr lo : Nat} {ρ : Nat × Nat × Nat} {μ μd : Mem} {v f : Int} (hD : DG (dec v) f μ μd) (hf0 : 0 ≤ f ∧ f ≤ 19) (hn : 0 ≤ μ.1 39 1 ∧ μ.1 39 1 + (dec v).length ≤ 480) (hf : 20 ≤ fr) (hl : 900 ≤ lo) (hr : 1 ≤ ρ.2.1 ∧ 6 ≤ ρ.2.2) : ∀ (m : Nat) (j : Nat) (μ1 : Mem), (((dec v).length : Int) - j).toNat = m → j ≤ (dec v).length → DW ((dec v).take j) μ μ1 → μ1.2.2 41 = μd.2.2 41 → w_P sc fr lo 80 6 5 false (none) prog_7_method_16_code 9 [some (.ref 35), some (.long (jl v)), none, some (.int (ji f)), some (.int (ji (f + j)))] [] (hp (μ1), ρ) (fun o τ => o = .inl none ∧ ∃ μ', τ = (hp μ', ρ) ∧ DW (dec v) μ μ') := by
  intro m
  induction m using Nat.strongRecOn with
  | ind m ih =>
    intro j μ1 hm hj ho h41
    have h20 := hD.2.2.2.1
    have h39 := ho.2.2.1
    have hlt : ((dec v).take j).length = j := by rw [List.length_take]; omega
    refine w_ld d_80_9 rfl rfl rfl ?_
    refine w_bip d_80_11 (by decide) ?_
    refine w_icmp_ge (g := 37) d_80_13 (by decide) (by omega) (fun h13 => ?_) (fun h13 => ?_)
    · refine w_ret d_80_37 rfl ?_
      have e : (dec v).take j = dec v := List.take_of_length_le (by omega)
      rw [e] at ho
      exact ⟨rfl, μ1, rfl, ho⟩
    · refine w_ld d_80_16 rfl rfl rfl ?_
      refine w_getF d_80_17 (by rfl) (by first | rfl | assumption) (by rfl) (by rfl) ?_
      refine w_ld d_80_20 rfl rfl rfl ?_
      refine w_getF d_80_21 (by rfl) (by first | rfl | assumption) (by rfl) (by rfl) ?_
      refine w_ld d_80_24 rfl rfl rfl ?_
      refine w_aC d_80_26 (by first | rfl | assumption) (by omega) (show μ1.2.2 41 (f + (j : Int)) = (dec v).getD j 0 by rw [h41]; exact hD.2.2.2.2 j (by omega)) ?_
      refine w_cV1 (a := 39) (as := [_]) (rest := _) rfl d_80_27 (by rfl) (by rfl) (by first | rfl | assumption) (by rfl) (by rfl) (Nat.le_of_ble_eq_true rfl) (by omega) (by omega) (t_radd1 (by have := dec_in (getD_mem (l := dec v) (i := j) (by omega)); omega) (by omega)) ?_
      refine w_stk d_80_30 rfl ?_
      refine w_inc (L' := [_, _, _, _, _]) d_80_31 rfl (by decide) rfl ?_
      refine w_goto (g := 9) d_80_34 (by decide) ?_
      rw [show f + (j : Int) + 1 = f + ((j + 1 : Nat) : Int) by omega]
      exact ih _ (by omega) (j + 1) _ rfl (by omega) (by rw [take_getD (by omega)]; exact DW_trans ho (DW_1 (by have := dec_in (getD_mem (l := dec v) (i := j) (by omega)); omega))) ((stA_o2 (by omega)).trans h41)
theorem t_dnm {sc : Nat × (Nat → Int32)} {fr lo : Nat} {μ : Mem} {ρ : Nat × Nat × Nat} {v : Int} (hv0 : -9223372036854775808 ≤ v ∧ v < 9223372036854775808) (hn : 0 ≤ μ.1 39 1 ∧ μ.1 39 1 + (dec v).length ≤ 480) (hf : 20 ≤ fr) (hl : 900 ≤ lo) (hr : 1 ≤ ρ.2.1 ∧ 6 ≤ ρ.2.2) : w_S sc fr lo 80 [.ref 35, .long (jl v)] (hp μ, ρ) (fun o τ => o = .inl none ∧ ∃ μ', τ = (hp μ', ρ) ∧ DW (dec v) μ μ') := by
  refine w_S.of (L0 := [some (.ref 35), some (.long (jl v)), none, none, none]) rfl rfl (Nat.le_of_ble_eq_true rfl) (by rfl) ?_
  refine w_ld d_80_0 rfl rfl rfl ?_
  refine w_ld d_80_1 rfl rfl rfl ?_
  refine w_cVq (as := [_]) (rest := _) rfl d_80_2 (by rfl) (by rfl) (by first | rfl | assumption) (by rfl) (by rfl) (Nat.le_of_ble_eq_true rfl) (by omega) (by omega) (t_spn hv0) ?_ ?_
  rotate_left
  · rintro r τ ⟨f, μd, hv, _⟩
    cases hv
  rintro vv τ ⟨f, μd, hv, hf0, hD, rfl⟩
  obtain rfl := Sum.inl.inj hv
  refine w_st1 (L' := [_, _, _, _, _]) d_80_5 rfl (by decide) rfl (by decide) rfl ?_
  refine w_ld d_80_6 rfl rfl rfl ?_
  refine w_st1 (L' := [_, _, _, _, _]) d_80_7 rfl (by decide) rfl (by decide) rfl ?_
  have e := t_dnm_l (sc := sc) (fr := fr) (lo := lo) (ρ := ρ) hD hf0 hn hf hl hr _ 0 μd rfl (Nat.zero_le _) (DG_DW (v := v) hD) rfl
  rw [show f + ((0 : Nat) : Int) = f by omega] at e
  exact e
theorem t_putP {sc : Nat × (Nat → Int32)} {fr lo : Nat} {μ : Mem} {ρ : Nat × Nat × Nat} {t y : Nat} (hT : isT t) (hY : y = 42 ∨ y = 44) {N : List (List Int)} {w : List Int} (hW : WC t y N w μ) {c : Int} (hc : 0 ≤ c ∧ c < 65536) (hf : 10 ≤ fr) (hl : 200 ≤ lo) (hr : 1 ≤ ρ.2.1 ∧ 6 ≤ ρ.2.2) : w_S sc fr lo 74 [.ref 35, .int (ji c)] (hp μ, ρ) (fun o τ => (μ.1 y 1 + ([c] : List Int).length ≤ 240 ∧ o = .inl none ∧ ∃ μ', τ = (hp μ', ρ) ∧ WOK t y [c] N w μ μ' ∧ μ'.2.2 41 = μ.2.2 41) ∨ (240 < μ.1 y 1 + ([c] : List Int).length ∧ o = .inr (3, ρ.1) ∧ ∃ μ', τ = (hp μ', ρ.1 + 1, ρ.2.1 - 1, ρ.2.2 - 6) ∧ WBD y μ μ')) := by
  by_cases hn : μ.1 y 1 < 240
  · refine (t_putO hT hY hW hc hn hf hl hr).mono ?_
    rintro o τ ⟨rfl, rfl⟩
    exact Or.inl ⟨by show μ.1 y 1 + 1 ≤ 240; omega, rfl, _, rfl, WOK_1 hT hY hW hc hn, stA_o2 (by omega)⟩
  · refine (t_putF hT hY hW hc hn hf hl hr).mono ?_
    rintro o τ ⟨rfl, rfl⟩
    exact Or.inr ⟨by show 240 < μ.1 y 1 + 1; omega, rfl, _, rfl, WC_bd hW⟩
theorem t_pnr_l {sc : Nat × (Nat → Int32)} {fr lo : Nat} {ρ : Nat × Nat × Nat} {μ : Mem} {t y : Nat} (hT : isT t) (hY : y = 42 ∨ y = 44) {N : List (List Int)} {w : List Int} (hW : WC t y N w μ) {μd : Mem} {v f : Int} (hD : DG (dec v) f μ μd) (hf0 : 0 ≤ f ∧ f ≤ 19) (hf : 20 ≤ fr) (hl : 900 ≤ lo) (hr : 1 ≤ ρ.2.1 ∧ 6 ≤ ρ.2.2) : ∀ (m : Nat) (j : Nat) (μ1 : Mem), (((dec v).length : Int) - j).toNat = m → j ≤ (dec v).length → WOK t y ((dec v).take j) N w μ μ1 → μ1.2.2 41 = μd.2.2 41 → w_P sc fr lo 76 6 5 false (none) prog_7_method_17_code 9 [some (.ref 35), some (.long (jl v)), none, some (.int (ji f)), some (.int (ji (f + j)))] [] (hp (μ1), ρ) (PW t y μ ρ (dec v) N w) := by
  intro m
  induction m using Nat.strongRecOn with
  | ind m ih =>
    intro j μ1 hm hj ho h41
    have h20 := hD.2.2.2.1
    have hlt : ((dec v).take j).length = j := by rw [List.length_take]; omega
    refine w_ld d_76_9 rfl rfl rfl ?_
    refine w_bip d_76_11 (by decide) ?_
    refine w_icmp_ge (g := 33) d_76_13 (by decide) (by omega) (fun h13 => ?_) (fun h13 => ?_)
    · refine w_ret d_76_33 rfl ?_
      have e : (dec v).take j = dec v := List.take_of_length_le (by omega)
      rw [e] at ho
      have q := ho.2.1.2.1
      have q2 := ho.2.2.1
      exact Or.inl ⟨by omega, rfl, μ1, rfl, ho⟩
    · refine w_ld d_76_16 rfl rfl rfl ?_
      refine w_ld d_76_17 rfl rfl rfl ?_
      refine w_getF d_76_18 (by rfl) (by first | rfl | assumption) (by rfl) (by rfl) ?_
      refine w_ld d_76_21 rfl rfl rfl ?_
      refine w_aC d_76_23 (by first | rfl | assumption) (by omega) (show μ1.2.2 41 (f + (j : Int)) = (dec v).getD j 0 by rw [h41]; exact hD.2.2.2.2 j (by omega)) ?_
      refine w_cVq (as := [_]) (rest := _) rfl d_76_24 (by rfl) (by rfl) (by first | rfl | assumption) (by rfl) (by rfl) (Nat.le_of_ble_eq_true rfl) (by omega) (by omega) (t_putP hT hY ho.2.1 (by have := dec_in (getD_mem (l := dec v) (i := j) (by omega)); omega) (by omega) (by omega) hr) ?_ ?_
      rotate_left
      · rintro r τ (⟨_, hv, _⟩ | ⟨hb9, hv, μ9, rfl, hd9⟩)
        · cases hv
        · obtain rfl := Sum.inr.inj hv
          exact Or.inr ⟨by have q1 := ho.2.2.1; have q3 : 240 < μ1.1 y 1 + 1 := hb9; omega, rfl, μ9, rfl, WBD_of ho hd9⟩
      rintro vv τ (⟨hb2, hv, μ2, rfl, ho2, h412⟩ | ⟨_, hv, _⟩)
      rotate_left
      · cases hv
      obtain rfl := Sum.inl.inj hv
      refine w_inc (L' := [_, _, _, _, _]) d_76_27 rfl (by decide) rfl ?_
      refine w_goto (g := 9) d_76_30 (by decide) ?_
      rw [show f + (j : Int) + 1 = f + ((j + 1 : Nat) : Int) by omega]
      exact ih _ (by omega) (j + 1) _ rfl (by omega) (by rw [take_getD (by omega)]; exact WOK_trans ho ho2) (h412.trans h41)
theorem t_pnr {sc : Nat × (Nat → Int32)} {fr lo : Nat} {μ : Mem} {ρ : Nat × Nat × Nat} {t y : Nat} (hT : isT t) (hY : y = 42 ∨ y = 44) {N : List (List Int)} {w : List Int} (hW : WC t y N w μ) {v : Int} (hv0 : -9223372036854775808 ≤ v ∧ v < 9223372036854775808) (hf : 20 ≤ fr) (hl : 900 ≤ lo) (hr : 1 ≤ ρ.2.1 ∧ 6 ≤ ρ.2.2) : w_S sc fr lo 76 [.ref 35, .long (jl v)] (hp μ, ρ) (PW t y μ ρ (dec v) N w) := by
  refine w_S.of (L0 := [some (.ref 35), some (.long (jl v)), none, none, none]) rfl rfl (Nat.le_of_ble_eq_true rfl) (by rfl) ?_
  refine w_ld d_76_0 rfl rfl rfl ?_
  refine w_ld d_76_1 rfl rfl rfl ?_
  refine w_cVq (as := [_]) (rest := _) rfl d_76_2 (by rfl) (by rfl) (by first | rfl | assumption) (by rfl) (by rfl) (Nat.le_of_ble_eq_true rfl) (by omega) (by omega) (t_spn hv0) ?_ ?_
  rotate_left
  · rintro r τ ⟨f, μd, hv, _⟩
    cases hv
  rintro vv τ ⟨f, μd, hv, hf0, hD, rfl⟩
  obtain rfl := Sum.inl.inj hv
  refine w_st1 (L' := [_, _, _, _, _]) d_76_5 rfl (by decide) rfl (by decide) rfl ?_
  refine w_ld d_76_6 rfl rfl rfl ?_
  refine w_st1 (L' := [_, _, _, _, _]) d_76_7 rfl (by decide) rfl (by decide) rfl ?_
  have hw0 : WOK t y [] N w μ μd := by
    have e := DW_WOK hT hY hW (DG_DW (v := v) hD) (by have := hW.2.2.1; simp; omega)
    rw [List.append_nil] at e
    exact e
  have e := t_pnr_l (sc := sc) (fr := fr) (lo := lo) (ρ := ρ) hT hY hW hD hf0 hf hl hr _ 0 μd rfl (Nat.zero_le _) hw0 rfl
  rw [show f + ((0 : Nat) : Int) = f by omega] at e
  exact e
theorem t_des {sc : Nat × (Nat → Int32)} {fr lo : Nat} {μ : Mem} {ρ : Nat × Nat × Nat} {t : Nat} (hT : isT t) (ht : μ.2.1 35 4 = .ref t) (hG : GL μ) {k : Int} (hk : 0 ≤ k ∧ k < 240) (hwd : 0 ≤ μ.2.2 (t + 3) k ∧ 0 ≤ μ.2.2 (t + 4) k ∧ μ.2.2 (t + 3) k + μ.2.2 (t + 4) k ≤ μ.1 (t + 7) 1 ∧ μ.1 (t + 7) 1 ≤ 240) (hn : 0 ≤ μ.1 39 1 ∧ μ.1 39 1 + 1 ≤ 480) (hf : 20 ≤ fr) (hl : 900 ≤ lo) (hr : 1 ≤ ρ.2.1 ∧ 6 ≤ ρ.2.2) : w_S sc fr lo 82 [.ref 35, .int (ji k)] (hp μ, ρ) (fun o τ => o = .inl none ∧ ∃ μ', τ = (hp μ', ρ) ∧ DW (if 0 < μ.2.2 (t + 4) k ∧ (μ.2.2 (t + 7 + 1) (μ.2.2 (t + 3) k) = 126 ∨ μ.2.2 (t + 7 + 1) (μ.2.2 (t + 3) k) = 94 ∨ μ.2.2 (t + 7 + 1) (μ.2.2 (t + 3) k) = 96) then [126] else []) μ μ') := by
  obtain ⟨hT0, hT1, hT2, hT3, hT4, hT5, hT6, hT7, hT8⟩ := hT.sh
  have hT9 : t = 2 ∨ t = 11 ∨ t = 26 := hT
  refine w_S.of (L0 := [some (.ref 35), some (.int (ji k)), none]) rfl rfl (Nat.le_of_ble_eq_true rfl) (by rfl) ?_
  refine w_ld d_82_0 rfl rfl rfl ?_
  refine w_getR d_82_1 (by rfl) (by first | rfl | assumption) (by rfl) ht ?_
  refine w_getF d_82_4 (by rfl) (by first | rfl | assumption) (by rfl) (by rfl) ?_
  refine w_ld d_82_7 rfl rfl rfl ?_
  refine w_aI d_82_8 (by first | rfl | assumption) (by omega) rfl ?_
  refine w_if_ne (g := 13) d_82_9 (by decide) (by omega) (fun h9 => ?_) (fun h9 => ?_)
  · have pk : w_E sc (fr - 1) (lo - (19 + 2)) 13 [.ref (t + 7), .int (ji (μ.2.2 (t + 3) k))] (hp μ, ρ) (.inl (some (.int (ji (μ.2.2 (t + 7 + 1) (μ.2.2 (t + 3) k)))))) (hp μ, ρ) := by
      have e := t_peek (sc := sc) (fr := fr - 1) (lo := lo - (19 + 2)) (μ := μ) (ρ := ρ) hT7 hT8 (by omega) (k := μ.2.2 (t + 3) k) (by omega)
      rw [if_pos (by omega)] at e
      exact e
    have hc0 := hG _ _ hT.toL (μ.2.2 (t + 3) k)
    refine w_ld d_82_13 rfl rfl rfl ?_
    refine w_getR d_82_14 (by rfl) (by first | rfl | assumption) (by rfl) ht ?_
    refine w_getF d_82_17 (by rfl) (by first | rfl | assumption) (by rfl) (by rfl) ?_
    refine w_ld d_82_20 rfl rfl rfl ?_
    refine w_getR d_82_21 (by rfl) (by first | rfl | assumption) (by rfl) ht ?_
    refine w_getF d_82_24 (by rfl) (by first | rfl | assumption) (by rfl) (by rfl) ?_
    refine w_ld d_82_27 rfl rfl rfl ?_
    refine w_aI d_82_28 (by first | rfl | assumption) (by omega) rfl ?_
    refine w_cV1 (a := (t + 7)) (as := [_]) (rest := _) rfl d_82_29 (by rfl) (by rfl) (by first | rfl | assumption) (by rfl) (by rfl) (Nat.le_of_ble_eq_true rfl) (by omega) (by omega) pk ?_
    refine w_st1 (L' := [_, _, _]) d_82_32 rfl (by decide) rfl (by decide) rfl ?_
    refine w_ld d_82_33 rfl rfl rfl ?_
    refine w_bip d_82_34 (by decide) ?_
    refine w_icmp_eq (g := 51) d_82_36 (by decide) (by omega) (fun h36 => ?_) (fun h36 => ?_)
    · refine w_ld d_82_51 rfl rfl rfl ?_
      refine w_getF d_82_52 (by rfl) (by first | rfl | assumption) (by rfl) (by rfl) ?_
      refine w_bip d_82_55 (by decide) ?_
      refine w_cV1 (a := 39) (as := [_]) (rest := _) rfl d_82_57 (by rfl) (by rfl) (by first | rfl | assumption) (by rfl) (by rfl) (Nat.le_of_ble_eq_true rfl) (by omega) (by omega) (t_radd1 (c := 126) (by decide) (by omega)) ?_
      refine w_stk d_82_60 rfl ?_
      refine w_ret d_82_61 rfl ?_
      rw [if_pos ⟨by omega, by omega⟩]
      exact ⟨rfl, _, rfl, DW_1 (by decide)⟩
    · refine w_ld d_82_39 rfl rfl rfl ?_
      refine w_bip d_82_40 (by decide) ?_
      refine w_icmp_eq (g := 51) d_82_42 (by decide) (by omega) (fun h42 => ?_) (fun h42 => ?_)
      · refine w_ld d_82_51 rfl rfl rfl ?_
        refine w_getF d_82_52 (by rfl) (by first | rfl | assumption) (by rfl) (by rfl) ?_
        refine w_bip d_82_55 (by decide) ?_
        refine w_cV1 (a := 39) (as := [_]) (rest := _) rfl d_82_57 (by rfl) (by rfl) (by first | rfl | assumption) (by rfl) (by rfl) (Nat.le_of_ble_eq_true rfl) (by omega) (by omega) (t_radd1 (c := 126) (by decide) (by omega)) ?_
        refine w_stk d_82_60 rfl ?_
        refine w_ret d_82_61 rfl ?_
        rw [if_pos ⟨by omega, by omega⟩]
        exact ⟨rfl, _, rfl, DW_1 (by decide)⟩
      · refine w_ld d_82_45 rfl rfl rfl ?_
        refine w_bip d_82_46 (by decide) ?_
        refine w_icmp_ne (g := 61) d_82_48 (by decide) (by omega) (fun h48 => ?_) (fun h48 => ?_)
        · refine w_ret d_82_61 rfl ?_
          rw [if_neg (by omega)]
          exact ⟨rfl, μ, rfl, DW_nil μ⟩
        · refine w_ld d_82_51 rfl rfl rfl ?_
          refine w_getF d_82_52 (by rfl) (by first | rfl | assumption) (by rfl) (by rfl) ?_
          refine w_bip d_82_55 (by decide) ?_
          refine w_cV1 (a := 39) (as := [_]) (rest := _) rfl d_82_57 (by rfl) (by rfl) (by first | rfl | assumption) (by rfl) (by rfl) (Nat.le_of_ble_eq_true rfl) (by omega) (by omega) (t_radd1 (c := 126) (by decide) (by omega)) ?_
          refine w_stk d_82_60 rfl ?_
          refine w_ret d_82_61 rfl ?_
          rw [if_pos ⟨by omega, by omega⟩]
          exact ⟨rfl, _, rfl, DW_1 (by decide)⟩
  · refine w_ret d_82_12 rfl ?_
    rw [if_neg (by omega)]
    exact ⟨rfl, μ, rfl, DW_nil μ⟩
