/-! THE PURE PART, 89: contracts: the class writes letters -/
theorem WOK_1 {t y : Nat} (hT : isT t) (hY : y = 42 ∨ y = 44) {N : List (List Int)} {w : List Int} {μ : Mem} {c : Int} (h : WC t y N w μ) (hc : 0 ≤ c ∧ c < 65536) (hn : μ.1 y 1 < 240) : WOK t y [c] N w μ (stI (stA μ (y + 1) (μ.1 y 1) c) y 1 (μ.1 y 1 + 1)) := by
  obtain ⟨h1, h2, h3, h4, h5, h6⟩ := h
  unfold isT at hT
  have y1 : (stI (stA μ (y + 1) (μ.1 y 1) c) y 1 (μ.1 y 1 + 1)).1 y 1 = μ.1 y 1 + 1 := stI_at _ _ _ _
  have yI : ∀ a q, a ≠ y → (stI (stA μ (y + 1) (μ.1 y 1) c) y 1 (μ.1 y 1 + 1)).1 a q = μ.1 a q := fun a q ha => stI_ne (by omega)
  have yA : ∀ a, a ≠ y + 1 → (stI (stA μ (y + 1) (μ.1 y 1) c) y 1 (μ.1 y 1 + 1)).2.2 a = μ.2.2 a := fun a ha => stA_o2 ha
  refine ⟨⟨fun a q _ _ z => yI a q z, rfl, fun a _ _ _ _ z => yA a z⟩, ⟨h1, by rw [y1]; omega, by rw [yI 39 1 (by omega), y1]; omega, fun a n ha k => ?_, ?_, by rw [yI 39 1 (by omega), yA 40 (by omega)]; exact h6⟩, y1, fun i hi => stA_ne (by omega), fun i hi => ?_⟩
  · by_cases z : a = y
    · subst z
      show 0 ≤ (stA μ (a + 1) (μ.1 a 1) c).2.2 (a + 1) k ∧ (stA μ (a + 1) (μ.1 a 1) c).2.2 (a + 1) k < 65536
      by_cases w : k = μ.1 a 1
      · rw [w, stA_at]; exact hc
      · rw [stA_ne (by omega)]; exact h4 a n ha k
    · rw [yA (a + 1) (by omega)]; exact h4 a n ha k
  · unfold NC at h5 ⊢
    rw [yI 36 2 (by omega), yI 39 1 (by omega), yA 37 (by omega), yA 38 (by omega), yA 40 (by omega)]
    exact h5
  · have hi : i < 1 := hi
    obtain rfl : i = 0 := by omega
    show (stA μ (y + 1) (μ.1 y 1) c).2.2 (y + 1) (μ.1 y 1 + ((0 : Nat) : Int)) = c
    rw [show μ.1 y 1 + ((0 : Nat) : Int) = μ.1 y 1 by omega, stA_at]
theorem take_map {g : Nat → Int} {m i : Nat} (h : i < m) : ((List.range m).map g).take (i + 1) = ((List.range m).map g).take i ++ [g i] := by
  rw [List.take_add_one]
  simp [h]
theorem take_all {g : Nat → Int} {m i : Nat} (h : m ≤ i) : ((List.range m).map g).take i = (List.range m).map g := List.take_of_length_le (by simp; exact h)
theorem litL_len {k : Nat} (h : k < 22) : ((litL k).length : Int) = slen k := by
  have := slen_le h
  unfold litL
  simp
  omega

theorem t_putO {sc : Nat × (Nat → Int32)} {fr lo : Nat} {μ : Mem} {ρ : Nat × Nat × Nat} {t y : Nat} (hT : isT t) (hY : y = 42 ∨ y = 44) {N : List (List Int)} {w : List Int} (hW : WC t y N w μ) {c : Int} (hc : 0 ≤ c ∧ c < 65536) (hn : μ.1 y 1 < 240) (hf : 10 ≤ fr) (hl : 200 ≤ lo) (hr : 1 ≤ ρ.2.1 ∧ 6 ≤ ρ.2.2) : w_E sc fr lo 74 [.ref 35, .int (ji c)] (hp μ, ρ) (.inl none) (hp (stI (stA μ (y + 1) (μ.1 y 1) c) y 1 (μ.1 y 1 + 1)), ρ) := by
  obtain ⟨hY0, hY1⟩ := xsh hY
  have hw1 := hW.1.1
  have hw2 := hW.2.1
  have ea := t_add (sc := sc) (fr := fr - 1) (lo := lo - (19 + 2)) (μ := μ) (ρ := ρ) hY0 hY1 (by omega) hc
  rw [if_pos (show μ.1 y 1 < ((240 : Nat) : Int) by omega), if_pos (show μ.1 y 1 < ((240 : Nat) : Int) by omega)] at ea
  refine w_S.of (L0 := [some (.ref 35), some (.int (ji c))]) rfl rfl (Nat.le_of_ble_eq_true rfl) (by rfl) ?_
  refine w_ld d_74_0 rfl rfl rfl ?_
  refine w_getR d_74_1 (by rfl) (by first | rfl | assumption) (by rfl) hw1 ?_
  refine w_ld d_74_4 rfl rfl rfl ?_
  refine w_cV1 (as := [_]) (rest := _) rfl d_74_5 (by rfl) (by rfl) (by first | rfl | assumption) (by rfl) (by rfl) (Nat.le_of_ble_eq_true rfl) (by omega) (by omega) ea ?_
  refine w_if_ne (g := 19) d_74_8 (by decide) (by decide) (fun h8 => ?_) (fun h8 => ?_)
  · refine w_ret d_74_19 rfl ?_
    exact ⟨rfl, rfl⟩
  · exact absurd h8 (by decide)
theorem t_putF {sc : Nat × (Nat → Int32)} {fr lo : Nat} {μ : Mem} {ρ : Nat × Nat × Nat} {t y : Nat} (hT : isT t) (hY : y = 42 ∨ y = 44) {N : List (List Int)} {w : List Int} (hW : WC t y N w μ) {c : Int} (hc : 0 ≤ c ∧ c < 65536) (hn : ¬ μ.1 y 1 < 240) (hf : 10 ≤ fr) (hl : 200 ≤ lo) (hr : 1 ≤ ρ.2.1 ∧ 6 ≤ ρ.2.2) : w_E sc fr lo 74 [.ref 35, .int (ji c)] (hp μ, ρ) (.inr (3, ρ.1)) (hp μ, ρ.1 + 1, ρ.2.1 - 1, ρ.2.2 - 6) := by
  obtain ⟨hY0, hY1⟩ := xsh hY
  have hw1 := hW.1.1
  have hw2 := hW.2.1
  have ea := t_add (sc := sc) (fr := fr - 1) (lo := lo - (19 + 2)) (μ := μ) (ρ := ρ) hY0 hY1 (by omega) hc
  rw [if_neg (show ¬ μ.1 y 1 < ((240 : Nat) : Int) by omega), if_neg (show ¬ μ.1 y 1 < ((240 : Nat) : Int) by omega)] at ea
  refine w_S.of (L0 := [some (.ref 35), some (.int (ji c))]) rfl rfl (Nat.le_of_ble_eq_true rfl) (by rfl) ?_
  refine w_ld d_74_0 rfl rfl rfl ?_
  refine w_getR d_74_1 (by rfl) (by first | rfl | assumption) (by rfl) hw1 ?_
  refine w_ld d_74_4 rfl rfl rfl ?_
  refine w_cV1 (as := [_]) (rest := _) rfl d_74_5 (by rfl) (by rfl) (by first | rfl | assumption) (by rfl) (by rfl) (Nat.le_of_ble_eq_true rfl) (by omega) (by omega) ea ?_
  refine w_if_ne (g := 19) d_74_8 (by decide) (by decide) (fun h8 => ?_) (fun h8 => ?_)
  · exact absurd rfl h8
  · refine w_thr rfl d_74_11 (by rfl) (by rfl) d_74_14 d_74_15 d_74_18 (show 1 ≤ ρ.2.1 ∧ 6 ≤ ρ.2.2 ∧ 5 < fr ∧ 0 + 81 ≤ lo by omega) ?_
    exact ⟨rfl, rfl⟩
theorem t_put {sc : Nat × (Nat → Int32)} {fr lo : Nat} {μ : Mem} {ρ : Nat × Nat × Nat} {t y : Nat} (hT : isT t) (hY : y = 42 ∨ y = 44) {N : List (List Int)} {w : List Int} (hW : WC t y N w μ) {c : Int} (hc : 0 ≤ c ∧ c < 65536) (hf : 10 ≤ fr) (hl : 200 ≤ lo) (hr : 1 ≤ ρ.2.1 ∧ 6 ≤ ρ.2.2) : w_S sc fr lo 74 [.ref 35, .int (ji c)] (hp μ, ρ) (PW t y μ ρ [c] N w) := by
  by_cases hn : μ.1 y 1 < 240
  · refine (t_putO hT hY hW hc hn hf hl hr).mono ?_
    rintro o τ ⟨rfl, rfl⟩
    exact Or.inl ⟨by show μ.1 y 1 + 1 ≤ 240; omega, rfl, _, rfl, WOK_1 hT hY hW hc hn⟩
  · refine (t_putF hT hY hW hc hn hf hl hr).mono ?_
    rintro o τ ⟨rfl, rfl⟩
    exact Or.inr ⟨by show 240 < μ.1 y 1 + 1; omega, rfl, _, rfl, WC_bd hW⟩
theorem t_pnm_l {sc : Nat × (Nat → Int32)} {fr lo : Nat} {ρ : Nat × Nat × Nat} {μ : Mem} {t y : Nat} (hT : isT t) (hY : y = 42 ∨ y = 44) {N : List (List Int)} {w : List Int} (hW : WC t y N w μ) {k : Nat} (hk : k < 22) (hf : 20 ≤ fr) (hl : 900 ≤ lo) (hr : 1 ≤ ρ.2.1 ∧ 6 ≤ ρ.2.2) : ∀ (m : Nat) (i : Nat) (μ1 : Mem), (slen k - i).toNat = m → (i : Int) ≤ slen k → WOK t y ((litL k).take i) N w μ μ1 → w_P sc fr lo 73 6 3 false (none) prog_7_method_19_code 2 [some (.ref 35), some (.float (UInt32.ofNat k)), some (.int (ji (i : Int)))] [] (hp (μ1), ρ) (PW t y μ ρ (litL k) N w) := by
  intro m
  induction m using Nat.strongRecOn with
  | ind m ih =>
    intro i μ1 hm hi ho
    have hll := litL_len hk
    have hsl := slen_le hk
    have hlt : ((litL k).take i).length = i := by rw [List.length_take]; omega
    refine w_ld d_73_2 rfl rfl rfl ?_
    refine w_ld d_73_3 rfl rfl rfl ?_
    refine w_slen (k := k) rfl d_73_4 (by rfl) (by rfl) hk (Nat.le_of_ble_eq_true rfl) (by omega) (by omega) ?_
    refine w_icmp_ge (g := 25) d_73_7 (by decide) (by omega) (fun h7 => ?_) (fun h7 => ?_)
    · refine w_ret d_73_25 rfl ?_
      have e : (litL k).take i = litL k := List.take_of_length_le (by omega)
      rw [e] at ho
      have q := ho.2.1.2.1
      have q2 := ho.2.2.1
      exact Or.inl ⟨by omega, rfl, μ1, rfl, ho⟩
    · refine w_ld d_73_10 rfl rfl rfl ?_
      refine w_ld d_73_11 rfl rfl rfl ?_
      refine w_ld d_73_12 rfl rfl rfl ?_
      refine w_schr (k := k) rfl d_73_13 (by rfl) (by rfl) hk (by omega) (Nat.le_of_ble_eq_true rfl) (by omega) (by omega) ?_
      refine w_cVq (as := [_]) (rest := _) rfl d_73_16 (by rfl) (by rfl) (by first | rfl | assumption) (by rfl) (by rfl) (Nat.le_of_ble_eq_true rfl) (by omega) (by omega) (t_put hT hY ho.2.1 (by have := sch_in hk (i := (i : Int)) (by omega); omega) (by omega) (by omega) hr) ?_ ?_
      rotate_left
      · rintro r τ (⟨_, hv, _⟩ | ⟨hb9, hv, μ9, rfl, hd9⟩)
        · cases hv
        · obtain rfl := Sum.inr.inj hv
          exact Or.inr ⟨by have q1 := ho.2.2.1; have q3 : 240 < μ1.1 y 1 + 1 := hb9; omega, rfl, μ9, rfl, WBD_of ho hd9⟩
      rintro v τ (⟨hb2, hv, μ2, rfl, ho2⟩ | ⟨_, hv, _⟩)
      rotate_left
      · cases hv
      obtain rfl := Sum.inl.inj hv
      refine w_inc (L' := [_, _, _]) d_73_19 rfl (by decide) rfl ?_
      refine w_goto (g := 2) d_73_22 (by decide) ?_
      have e : (litL k).take (i + 1) = (litL k).take i ++ [sch k i] := take_map (g := fun i : Nat => sch k (i : Int)) (by omega)
      exact ih _ (by omega) (i + 1) μ2 rfl (by omega) (by rw [e]; exact WOK_trans ho ho2)
theorem t_pnm {sc : Nat × (Nat → Int32)} {fr lo : Nat} {μ : Mem} {ρ : Nat × Nat × Nat} {t y : Nat} (hT : isT t) (hY : y = 42 ∨ y = 44) {N : List (List Int)} {w : List Int} (hW : WC t y N w μ) {k : Nat} (hk : k < 22) (hf : 20 ≤ fr) (hl : 900 ≤ lo) (hr : 1 ≤ ρ.2.1 ∧ 6 ≤ ρ.2.2) : w_S sc fr lo 73 [.ref 35, .float (UInt32.ofNat k)] (hp μ, ρ) (PW t y μ ρ (litL k) N w) := by
  refine w_S.of (L0 := [some (.ref 35), some (.float (UInt32.ofNat k)), none]) rfl rfl (Nat.le_of_ble_eq_true rfl) (by rfl) ?_
  refine w_con d_73_0 ?_
  refine w_st1 (L' := [_, _, _]) d_73_1 rfl (by decide) rfl (by decide) rfl ?_
  exact t_pnm_l hT hY hW hk hf hl hr _ 0 μ rfl (by have := slen_le hk; show (0 : Int) ≤ _; omega) (WOK_refl hW)
theorem t_opO {sc : Nat × (Nat → Int32)} {fr lo : Nat} {μ : Mem} {ρ : Nat × Nat × Nat} {t y : Nat} (hT : isT t) (hY : y = 42 ∨ y = 44) {N : List (List Int)} {w : List Int} (hW : WC t y N w μ) {d : Int} (hd : 0 ≤ d ∧ d < 8) (hf : 20 ≤ fr) (hl : 900 ≤ lo) (hr : 1 ≤ ρ.2.1 ∧ 6 ≤ ρ.2.2) : w_S sc fr lo 89 [.ref 35, .int (ji d)] (hp μ, ρ) (PW t y μ ρ [91] N w) := by
  refine w_S.of (L0 := [some (.ref 35), some (.int (ji d))]) rfl rfl (Nat.le_of_ble_eq_true rfl) (by rfl) ?_
  refine w_ld d_89_0 rfl rfl rfl ?_
  refine w_bip d_89_1 (by decide) ?_
  refine w_icmp_lt (g := 14) d_89_3 (by decide) (by omega) (fun h3 => ?_) (fun h3 => ?_)
  · refine w_ld d_89_14 rfl rfl rfl ?_
    refine w_bip d_89_15 (by decide) ?_
    refine w_cVq (as := [_]) (rest := _) rfl d_89_17 (by rfl) (by rfl) (by first | rfl | assumption) (by rfl) (by rfl) (Nat.le_of_ble_eq_true rfl) (by omega) (by omega) (t_put hT hY hW (c := 91) (by decide) (by omega) (by omega) hr) ?_ ?_
    rotate_left
    · exact fun _ _ hq => hq
    rintro v τ hq
    obtain rfl : v = none := by
      rcases hq with ⟨_, h, _⟩ | ⟨_, h, _⟩
      · exact Sum.inl.inj h
      · cases h
    refine w_ret d_89_20 rfl ?_
    exact hq
  · exact absurd h3 (by omega)
theorem t_opX {sc : Nat × (Nat → Int32)} {fr lo : Nat} {μ : Mem} {ρ : Nat × Nat × Nat} {d : Int} (hd : 8 ≤ d ∧ d ≤ 100) (hf : 20 ≤ fr) (hl : 900 ≤ lo) (hr : 1 ≤ ρ.2.1 ∧ 6 ≤ ρ.2.2) : w_E sc fr lo 89 [.ref 35, .int (ji d)] (hp μ, ρ) (.inr (3, ρ.1)) (hp μ, ρ.1 + 1, ρ.2.1 - 1, ρ.2.2 - 6) := by
  refine w_S.of (L0 := [some (.ref 35), some (.int (ji d))]) rfl rfl (Nat.le_of_ble_eq_true rfl) (by rfl) ?_
  refine w_ld d_89_0 rfl rfl rfl ?_
  refine w_bip d_89_1 (by decide) ?_
  refine w_icmp_lt (g := 14) d_89_3 (by decide) (by omega) (fun h3 => ?_) (fun h3 => ?_)
  · exact absurd h3 (by omega)
  · refine w_thr rfl d_89_6 (by rfl) (by rfl) d_89_9 d_89_10 d_89_13 (show 1 ≤ ρ.2.1 ∧ 6 ≤ ρ.2.2 ∧ 5 < fr ∧ 0 + 81 ≤ lo by omega) ?_
    exact ⟨rfl, rfl⟩
theorem t_radd1 {sc : Nat × (Nat → Int32)} {fr lo : Nat} {μ : Mem} {ρ : Nat × Nat × Nat} {c : Int} (hc : 0 ≤ c ∧ c < 65536) (hn : 0 ≤ μ.1 39 1 ∧ μ.1 39 1 < 480) : w_E sc fr lo 8 [.ref 39, .int (ji c)] (hp μ, ρ) (.inl (some (.int (ji 1)))) (hp (stI (stA μ 40 (μ.1 39 1) c) 39 1 (μ.1 39 1 + 1)), ρ) := by
  have ea := t_add (sc := sc) (fr := fr) (lo := lo) (μ := μ) (ρ := ρ) (a := 39) (n := 480) rfl rfl (by omega) hc
  rw [if_pos (show μ.1 39 1 < ((480 : Nat) : Int) by omega), if_pos (show μ.1 39 1 < ((480 : Nat) : Int) by omega)] at ea
  exact ea
theorem t_dwd_l {sc : Nat × (Nat → Int32)} {fr lo : Nat} {ρ : Nat × Nat × Nat} {μ : Mem} {k : Nat} (hk : k < 22) (hn : 0 ≤ μ.1 39 1 ∧ μ.1 39 1 + slen k ≤ 480) (hf : 20 ≤ fr) (hl : 900 ≤ lo) (hr : 1 ≤ ρ.2.1 ∧ 6 ≤ ρ.2.2) : ∀ (m : Nat) (i : Nat) (μ1 : Mem), (slen k - i).toNat = m → (i : Int) ≤ slen k → DW ((litL k).take i) μ μ1 → w_P sc fr lo 79 6 3 false (none) prog_7_method_14_code 2 [some (.ref 35), some (.float (UInt32.ofNat k)), some (.int (ji (i : Int)))] [] (hp (μ1), ρ) (fun o τ => o = .inl none ∧ ∃ μ', τ = (hp μ', ρ) ∧ DW (litL k) μ μ') := by
  intro m
  induction m using Nat.strongRecOn with
  | ind m ih =>
    intro i μ1 hm hi ho
    have hll := litL_len hk
    have hsl := slen_le hk
    have hlt : ((litL k).take i).length = i := by rw [List.length_take]; omega
    have h39 := ho.2.2.1
    refine w_ld d_79_2 rfl rfl rfl ?_
    refine w_ld d_79_3 rfl rfl rfl ?_
    refine w_slen (k := k) rfl d_79_4 (by rfl) (by rfl) hk (Nat.le_of_ble_eq_true rfl) (by omega) (by omega) ?_
    refine w_icmp_ge (g := 29) d_79_7 (by decide) (by omega) (fun h7 => ?_) (fun h7 => ?_)
    · refine w_ret d_79_29 rfl ?_
      have e : (litL k).take i = litL k := List.take_of_length_le (by omega)
      rw [e] at ho
      exact ⟨rfl, μ1, rfl, ho⟩
    · refine w_ld d_79_10 rfl rfl rfl ?_
      refine w_getF d_79_11 (by rfl) (by first | rfl | assumption) (by rfl) (by rfl) ?_
      refine w_ld d_79_14 rfl rfl rfl ?_
      refine w_ld d_79_15 rfl rfl rfl ?_
      refine w_schr (k := k) rfl d_79_16 (by rfl) (by rfl) hk (by omega) (Nat.le_of_ble_eq_true rfl) (by omega) (by omega) ?_
      refine w_cV1 (a := 39) (as := [_]) (rest := _) rfl d_79_19 (by rfl) (by rfl) (by first | rfl | assumption) (by rfl) (by rfl) (Nat.le_of_ble_eq_true rfl) (by omega) (by omega) (t_radd1 (by have := sch_in hk (i := (i : Int)) (by omega); omega) (by omega)) ?_
      refine w_stk d_79_22 rfl ?_
      refine w_inc (L' := [_, _, _]) d_79_23 rfl (by decide) rfl ?_
      refine w_goto (g := 2) d_79_26 (by decide) ?_
      have e : (litL k).take (i + 1) = (litL k).take i ++ [sch k i] := take_map (g := fun i : Nat => sch k (i : Int)) (by omega)
      exact ih _ (by omega) (i + 1) _ rfl (by omega) (by rw [e]; exact DW_trans ho (DW_1 (by have := sch_in hk (i := (i : Int)) (by omega); omega)))
theorem t_dwd {sc : Nat × (Nat → Int32)} {fr lo : Nat} {μ : Mem} {ρ : Nat × Nat × Nat} {k : Nat} (hk : k < 22) (hn : 0 ≤ μ.1 39 1 ∧ μ.1 39 1 + slen k ≤ 480) (hf : 20 ≤ fr) (hl : 900 ≤ lo) (hr : 1 ≤ ρ.2.1 ∧ 6 ≤ ρ.2.2) : w_S sc fr lo 79 [.ref 35, .float (UInt32.ofNat k)] (hp μ, ρ) (fun o τ => o = .inl none ∧ ∃ μ', τ = (hp μ', ρ) ∧ DW (litL k) μ μ') := by
  refine w_S.of (L0 := [some (.ref 35), some (.float (UInt32.ofNat k)), none]) rfl rfl (Nat.le_of_ble_eq_true rfl) (by rfl) ?_
  refine w_con d_79_0 ?_
  refine w_st1 (L' := [_, _, _]) d_79_1 rfl (by decide) rfl (by decide) rfl ?_
  exact t_dwd_l hk hn hf hl hr _ 0 μ rfl (by have := slen_le hk; show (0 : Int) ≤ _; omega) (DW_nil μ)
theorem wrd_len {A : View} {k : Int} (h : 0 ≤ A.2.2.2.2.1 k) : ((wrd A k).length : Int) = A.2.2.2.2.1 k := by
  unfold wrd
  simp
  omega
theorem t_dwo_l {sc : Nat × (Nat → Int32)} {fr lo : Nat} {ρ : Nat × Nat × Nat} {μ : Mem} {t : Nat} (hT : isT t) (ht : μ.2.1 35 4 = .ref t) (hG : GL μ) {k : Int} (hk : 0 ≤ k ∧ k < 240) (hwd : 0 ≤ μ.2.2 (t + 3) k ∧ 0 ≤ μ.2.2 (t + 4) k ∧ μ.2.2 (t + 3) k + μ.2.2 (t + 4) k ≤ μ.1 (t + 7) 1 ∧ μ.1 (t + 7) 1 ≤ 240) (hn : 0 ≤ μ.1 39 1 ∧ μ.1 39 1 + μ.2.2 (t + 4) k ≤ 480) (hf : 20 ≤ fr) (hl : 900 ≤ lo) (hr : 1 ≤ ρ.2.1 ∧ 6 ≤ ρ.2.2) : ∀ (m : Nat) (i : Nat) (μ1 : Mem), (μ.2.2 (t + 4) k - i).toNat = m → (i : Int) ≤ μ.2.2 (t + 4) k → DW ((wrd (vT μ t) k).take i) μ μ1 → w_P sc fr lo 81 6 3 false (none) prog_7_method_15_code 2 [some (.ref 35), some (.int (ji k)), some (.int (ji (i : Int)))] [] (hp (μ1), ρ) (fun o τ => o = .inl none ∧ ∃ μ', τ = (hp μ', ρ) ∧ DW (wrd (vT μ t) k) μ μ') := by
  intro m
  induction m using Nat.strongRecOn with
  | ind m ih =>
    intro i μ1 hm hi ho
    obtain ⟨hT0, hT1, hT2, hT3, hT4, hT5, hT6, hT7, hT8⟩ := hT.sh
    have hT9 : t = 2 ∨ t = 11 ∨ t = 26 := hT
    have hll : ((wrd (vT μ t) k).length : Int) = μ.2.2 (t + 4) k := wrd_len (show 0 ≤ μ.2.2 (t + 4) k by omega)
    have hlt : ((wrd (vT μ t) k).take i).length = i := by rw [List.length_take]; omega
    have h39 := ho.2.2.1
    have e3 : μ1.2.2 (t + 3) = μ.2.2 (t + 3) := ho.2.2.2.1 _ (by omega) (by omega)
    have e4 : μ1.2.2 (t + 4) = μ.2.2 (t + 4) := ho.2.2.2.1 _ (by omega) (by omega)
    have e8 : μ1.2.2 (t + 7 + 1) = μ.2.2 (t + 7 + 1) := ho.2.2.2.1 _ (by omega) (by omega)
    have e7 : μ1.1 (t + 7) 1 = μ.1 (t + 7) 1 := ho.1 _ _ (by omega)
    have ht1 : μ1.2.1 35 4 = .ref t := by rw [ho.2.1]; exact ht
    refine w_ld d_81_2 rfl rfl rfl ?_
    refine w_ld d_81_3 rfl rfl rfl ?_
    refine w_getR d_81_4 (by rfl) (by first | rfl | assumption) (by rfl) ht1 ?_
    refine w_getF d_81_7 (by rfl) (by first | rfl | assumption) (by rfl) (by rfl) ?_
    refine w_ld d_81_10 rfl rfl rfl ?_
    refine w_aI d_81_11 (by first | rfl | assumption) (by omega) (by rw [e4]) ?_
    refine w_icmp_ge (g := 50) d_81_12 (by decide) (by omega) (fun h12 => ?_) (fun h12 => ?_)
    · refine w_ret d_81_50 rfl ?_
      have e : (wrd (vT μ t) k).take i = wrd (vT μ t) k := List.take_of_length_le (by omega)
      rw [e] at ho
      exact ⟨rfl, μ1, rfl, ho⟩
    · have pk : w_E sc (fr - 1) (lo - (19 + 2)) 13 [.ref (t + 7), .int (ji (μ.2.2 (t + 3) k + (i : Int)))] (hp μ1, ρ) (.inl (some (.int (ji (μ.2.2 (t + 7 + 1) (μ.2.2 (t + 3) k + (i : Int))))))) (hp μ1, ρ) := by
        have e := t_peek (sc := sc) (fr := fr - 1) (lo := lo - (19 + 2)) (μ := μ1) (ρ := ρ) hT7 hT8 (by rw [e7]; omega) (k := μ.2.2 (t + 3) k + (i : Int)) (by omega)
        rw [e7, if_pos (by omega), e8] at e
        exact e
      refine w_ld d_81_15 rfl rfl rfl ?_
      refine w_getF d_81_16 (by rfl) (by first | rfl | assumption) (by rfl) (by rfl) ?_
      refine w_ld d_81_19 rfl rfl rfl ?_
      refine w_getR d_81_20 (by rfl) (by first | rfl | assumption) (by rfl) ht1 ?_
      refine w_getF d_81_23 (by rfl) (by first | rfl | assumption) (by rfl) (by rfl) ?_
      refine w_ld d_81_26 rfl rfl rfl ?_
      refine w_getR d_81_27 (by rfl) (by first | rfl | assumption) (by rfl) ht1 ?_
      refine w_getF d_81_30 (by rfl) (by first | rfl | assumption) (by rfl) (by rfl) ?_
      refine w_ld d_81_33 rfl rfl rfl ?_
      refine w_aI d_81_34 (by first | rfl | assumption) (by omega) (by rw [e3]) ?_
      refine w_ld d_81_35 rfl rfl rfl ?_
      refine w_iadd d_81_36 ?_
      refine w_cV1 (a := (t + 7)) (as := [_]) (rest := _) rfl d_81_37 (by rfl) (by rfl) (by first | rfl | assumption) (by rfl) (by rfl) (Nat.le_of_ble_eq_true rfl) (by omega) (by omega) pk ?_
      refine w_cV1 (a := 39) (as := [_]) (rest := _) rfl d_81_40 (by rfl) (by rfl) (by first | rfl | assumption) (by rfl) (by rfl) (Nat.le_of_ble_eq_true rfl) (by omega) (by omega) (t_radd1 (hG _ _ hT.toL _) (by omega)) ?_
      refine w_stk d_81_43 rfl ?_
      refine w_inc (L' := [_, _, _]) d_81_44 rfl (by decide) rfl ?_
      refine w_goto (g := 2) d_81_47 (by decide) ?_
      have e : (wrd (vT μ t) k).take (i + 1) = (wrd (vT μ t) k).take i ++ [μ.2.2 (t + 7 + 1) (μ.2.2 (t + 3) k + (i : Int))] := take_map (g := fun i : Nat => μ.2.2 (t + 7 + 1) (μ.2.2 (t + 3) k + (i : Int))) (by show i < (μ.2.2 (t + 4) k).toNat; omega)
      exact ih _ (by omega) (i + 1) _ rfl (by omega) (by rw [e]; exact DW_trans ho (DW_1 (hG _ _ hT.toL _)))
theorem t_dwo {sc : Nat × (Nat → Int32)} {fr lo : Nat} {μ : Mem} {ρ : Nat × Nat × Nat} {t : Nat} (hT : isT t) (ht : μ.2.1 35 4 = .ref t) (hG : GL μ) {k : Int} (hk : 0 ≤ k ∧ k < 240) (hwd : 0 ≤ μ.2.2 (t + 3) k ∧ 0 ≤ μ.2.2 (t + 4) k ∧ μ.2.2 (t + 3) k + μ.2.2 (t + 4) k ≤ μ.1 (t + 7) 1 ∧ μ.1 (t + 7) 1 ≤ 240) (hn : 0 ≤ μ.1 39 1 ∧ μ.1 39 1 + μ.2.2 (t + 4) k ≤ 480) (hf : 20 ≤ fr) (hl : 900 ≤ lo) (hr : 1 ≤ ρ.2.1 ∧ 6 ≤ ρ.2.2) : w_S sc fr lo 81 [.ref 35, .int (ji k)] (hp μ, ρ) (fun o τ => o = .inl none ∧ ∃ μ', τ = (hp μ', ρ) ∧ DW (wrd (vT μ t) k) μ μ') := by
  refine w_S.of (L0 := [some (.ref 35), some (.int (ji k)), none]) rfl rfl (Nat.le_of_ble_eq_true rfl) (by rfl) ?_
  refine w_con d_81_0 ?_
  refine w_st1 (L' := [_, _, _]) d_81_1 rfl (by decide) rfl (by decide) rfl ?_
  exact t_dwo_l hT ht hG hk hwd hn hf hl hr _ 0 μ rfl (by show (0 : Int) ≤ _; omega) (DW_nil μ)
