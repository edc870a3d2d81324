/-! THE PURE PART, 30: contracts: the reader's small methods -/
/-- a value is added: kind, number, word, where it starts -/
def adw (μ : Mem) (t : Nat) (k v f z s : Int) : Mem := (fun a q => if a = t ∧ q = 7 then μ.1 t 7 + 1 else μ.1 a q, μ.2.1, fun a i => if i = μ.1 t 7 then (if a = t + 1 then k else if a = t + 2 then v else if a = t + 3 then f else if a = t + 4 then z else if a = t + 5 then 0 else if a = t + 6 then μ.1 t 7 + 1 else if a = 25 then s else μ.2.2 a i) else μ.2.2 a i)
/-- a value is closed -/
def cls (μ : Mem) (t : Nat) (k kd p : Int) : Mem := stA (stA (stA μ (t + 1) k kd) (t + 5) k p) (t + 6) k (μ.1 t 7)
theorem adw_add {μ : Mem} {t : Nat} (ht : isT t) {k v s : Int} : stA (stI (stA (stA (stA (stA (stA (stA μ (t + 1) (μ.1 t 7) k) (t + 2) (μ.1 t 7) v) (t + 3) (μ.1 t 7) 0) (t + 4) (μ.1 t 7) 0) (t + 5) (μ.1 t 7) 0) (t + 6) (μ.1 t 7) (μ.1 t 7 + 1)) t 7 (μ.1 t 7 + 1)) 25 (μ.1 t 7) s = adw μ t k v 0 0 s := by
  have ht : t = 2 ∨ t = 11 ∨ t = 26 := ht
  refine Prod.ext rfl (Prod.ext rfl ?_)
  funext a i
  simp only [stA, stI, adw]
  by_cases hi : i = μ.1 t 7
  · rw [if_pos hi]
    by_cases h0 : a = t + 1
    · rw [if_pos h0]; repeat first | rw [if_neg (by omega)] | rw [if_pos (by omega)]
    · rw [if_neg h0]
      by_cases h1 : a = t + 2
      · rw [if_pos h1]; repeat first | rw [if_neg (by omega)] | rw [if_pos (by omega)]
      · rw [if_neg h1]
        by_cases h2 : a = t + 3
        · rw [if_pos h2]; repeat first | rw [if_neg (by omega)] | rw [if_pos (by omega)]
        · rw [if_neg h2]
          by_cases h3 : a = t + 4
          · rw [if_pos h3]; repeat first | rw [if_neg (by omega)] | rw [if_pos (by omega)]
          · rw [if_neg h3]
            by_cases h4 : a = t + 5
            · rw [if_pos h4]; repeat first | rw [if_neg (by omega)] | rw [if_pos (by omega)]
            · rw [if_neg h4]
              by_cases h5 : a = t + 6
              · rw [if_pos h5]; repeat first | rw [if_neg (by omega)] | rw [if_pos (by omega)]
              · rw [if_neg h5]
                by_cases h6 : a = 25
                · rw [if_pos h6]; repeat first | rw [if_neg (by omega)] | rw [if_pos (by omega)]
                · rw [if_neg h6]; repeat first | rw [if_neg (by omega)] | rw [if_pos (by omega)]
  · rw [if_neg hi]; repeat first | rw [if_neg (by omega)] | rw [if_pos (by omega)]
theorem adw_word {μ : Mem} {t : Nat} {k v s f z : Int} : stA (stA (adw μ t k v 0 0 s) (t + 3) (μ.1 t 7) f) (t + 4) (μ.1 t 7) z = adw μ t k v f z s := by
  refine Prod.ext rfl (Prod.ext rfl ?_)
  funext a i
  simp only [stA, adw]
  by_cases hi : i = μ.1 t 7
  · subst hi
    by_cases h3 : a = t + 4
    · subst h3
      simp
    · by_cases h2 : a = t + 3
      · subst h2
        simp
      · rw [if_neg (fun z => h3 z.1), if_neg (fun z => h2 z.1), if_pos rfl, if_pos rfl, if_neg h2, if_neg h3, if_neg h2, if_neg h3]
  · rw [if_neg (fun z => hi z.2), if_neg (fun z => hi z.2), if_neg hi, if_neg hi]
theorem t_fail {sc : Nat × (Nat → Int32)} {fr lo : Nat} {μ : Mem} {ρ : Nat × Nat × Nat} {w : Int} (hr : 1 ≤ ρ.2.1 ∧ 6 ≤ ρ.2.2) (hf : 6 ≤ fr) (hl : 90 ≤ lo) : w_E sc fr lo 32 [.ref 20, .int (ji w)] (hp μ, ρ) (.inr (1, ρ.1)) (hp (stI μ 20 6 (w)), ρ.1 + 1, ρ.2.1 - 1, ρ.2.2 - 6) := by
  refine w_S.of (L0 := [some (.ref 20), some (.int (ji w))]) rfl rfl (Nat.le_of_ble_eq_true rfl) (by rfl) ?_
  refine w_ld d_32_0 rfl rfl rfl ?_
  refine w_ld d_32_1 rfl rfl rfl ?_
  refine w_putI d_32_2 (by rfl) (by first | rfl | assumption) (by rfl) (fit_I (by rfl)) (by rfl) ?_
  refine w_thr rfl d_32_5 (by rfl) (by rfl) d_32_8 d_32_9 d_32_12 (show 1 ≤ ρ.2.1 ∧ 6 ≤ ρ.2.2 ∧ 5 < fr ∧ 0 + 81 ≤ lo by omega) ?_
  exact ⟨rfl, rfl⟩
theorem t_skip_l {sc : Nat × (Nat → Int32)} {fr lo : Nat} {ρ : Nat × Nat × Nat} {x : Nat} (hX : x = 42 ∨ x = 44) (hf : 8 ≤ fr) (hl : 200 ≤ lo) : ∀ (m : Nat) (μ : Mem), (μ.1 x 1 - μ.1 20 5).toNat = m → μ.2.1 20 3 = .ref x → (0 ≤ μ.1 x 1 ∧ μ.1 x 1 ≤ 240) → (∀ k, 0 ≤ μ.2.2 (x + 1) k ∧ μ.2.2 (x + 1) k < 65536) → (0 ≤ μ.1 20 5 ∧ μ.1 20 5 ≤ 1000) → w_P sc fr lo 30 5 1 false (none) prog_5_method_5_code 0 [some (.ref 20)] [] (hp (μ), ρ) (fun o t' => o = .inl none ∧ t' = (hp (stI μ 20 5 (sk (μ.2.2 (x + 1)) (μ.1 x 1) (μ.1 20 5))), ρ)) := by
  intro m
  induction m using Nat.strongRecOn with
  | ind m ih =>
    intro μ hm hx hn hch hpl
    have hXs : sh x = some (.inl (1, [4, 0])) ∧ sh (x + 1) = some (.inr (2, 240)) := by rcases hX with rfl | rfl <;> exact ⟨rfl, rfl⟩
    obtain ⟨hX0, hX1⟩ := hXs
    refine w_ld d_30_0 rfl rfl rfl ?_
    refine w_gI d_30_1 (by rfl) (by first | rfl | assumption) (by rfl) (by (try simp only [stI, stA, stR, adw]) <;> (repeat first | rw [if_neg (by omega)] | rw [if_pos (by omega)]) <;> rfl) ?_
    refine w_ld d_30_4 rfl rfl rfl ?_
    refine w_getR d_30_5 (by rfl) (by first | rfl | assumption) (by rfl) (by assumption) ?_
    refine w_gI d_30_8 (by rfl) (by first | rfl | assumption) (by rfl) (by (try simp only [stI, stA, stR, adw]) <;> (repeat first | rw [if_neg (by omega)] | rw [if_pos (by omega)]) <;> rfl) ?_
    refine w_icmp_ge (g := 43) d_30_11 (by decide) (by omega) (fun h11 => ?_) (fun h11 => ?_)
    · have e2 : sk (μ.2.2 (x + 1)) (μ.1 x 1) (μ.1 20 5) = μ.1 20 5 := by
        rw [sk_eq, if_neg]
        rintro ⟨z1, z2⟩
        first | omega | (rw [if_pos ⟨by omega, by omega⟩] at h27; exact h27 z2)
      rw [e2, stI_self]
      refine w_ret d_30_43 rfl ?_
      exact ⟨rfl, rfl⟩
    · refine w_ld d_30_14 rfl rfl rfl ?_
      refine w_getR d_30_15 (by rfl) (by first | rfl | assumption) (by rfl) (by assumption) ?_
      refine w_ld d_30_18 rfl rfl rfl ?_
      refine w_gI d_30_19 (by rfl) (by first | rfl | assumption) (by rfl) (by (try simp only [stI, stA, stR, adw]) <;> (repeat first | rw [if_neg (by omega)] | rw [if_pos (by omega)]) <;> rfl) ?_
      refine w_cV1 (as := [_]) (rest := _) rfl d_30_22 (by rfl) (by rfl) (by first | rfl | assumption) (by rfl) (by rfl) (Nat.le_of_ble_eq_true rfl) (by omega) (by omega) (t_peek hX0 hX1 (by omega) (by omega)) ?_
      refine w_bip d_30_25 (by decide) ?_
      refine w_icmp_ne (g := 43) d_30_27 (by decide) (by have e1 := hch (μ.1 20 5); split <;> omega) (fun h27 => ?_) (fun h27 => ?_)
      · have e2 : sk (μ.2.2 (x + 1)) (μ.1 x 1) (μ.1 20 5) = μ.1 20 5 := by
          rw [sk_eq, if_neg]
          rintro ⟨z1, z2⟩
          first | omega | (rw [if_pos ⟨by omega, by omega⟩] at h27; exact h27 z2)
        rw [e2, stI_self]
        refine w_ret d_30_43 rfl ?_
        exact ⟨rfl, rfl⟩
      · refine w_ld d_30_30 rfl rfl rfl ?_
        refine w_stk d_30_31 rfl ?_
        refine w_gI d_30_32 (by rfl) (by first | rfl | assumption) (by rfl) (by (try simp only [stI, stA, stR, adw]) <;> (repeat first | rw [if_neg (by omega)] | rw [if_pos (by omega)]) <;> rfl) ?_
        refine w_con d_30_35 ?_
        refine w_iadd d_30_36 ?_
        refine w_putI d_30_37 (by rfl) (by first | rfl | assumption) (by rfl) (fit_I (by rfl)) (by rfl) ?_
        refine w_goto (g := 0) d_30_40 (by decide) ?_
        rw [if_pos ⟨by omega, by omega⟩] at h27
        have e3 := ih _ ?_ (stI μ 20 5 (μ.1 20 5 + 1)) rfl ?_ ?_ ?_ ?_
        · have e4 : (stI μ 20 5 (μ.1 20 5 + 1)).1 x 1 = μ.1 x 1 := stI_ne (by omega)
          have e5 : (stI μ 20 5 (μ.1 20 5 + 1)).1 20 5 = μ.1 20 5 + 1 := stI_at _ _ _ _
          rw [e4, e5, stI_stI] at e3
          have e6 : sk (μ.2.2 (x + 1)) (μ.1 x 1) (μ.1 20 5) = sk (μ.2.2 (x + 1)) (μ.1 x 1) (μ.1 20 5 + 1) := by rw [sk_eq, if_pos ⟨by omega, h27⟩]
          rw [e6]
          exact e3
        all_goals have e4 : (stI μ 20 5 (μ.1 20 5 + 1)).1 x 1 = μ.1 x 1 := stI_ne (by omega)
        all_goals have e5 : (stI μ 20 5 (μ.1 20 5 + 1)).1 20 5 = μ.1 20 5 + 1 := stI_at _ _ _ _
        · rw [e4, e5]; omega
        · exact hx
        · rw [e4]; exact hn
        · exact hch
        · rw [e5]; omega
theorem t_skip {sc : Nat × (Nat → Int32)} {fr lo : Nat} {μ : Mem} {ρ : Nat × Nat × Nat} {x : Nat} (hX : x = 42 ∨ x = 44) (hx : μ.2.1 20 3 = .ref x) (hn : 0 ≤ μ.1 x 1 ∧ μ.1 x 1 ≤ 240) (hch : ∀ k, 0 ≤ μ.2.2 (x + 1) k ∧ μ.2.2 (x + 1) k < 65536) (hpl : 0 ≤ μ.1 20 5 ∧ μ.1 20 5 ≤ 1000) (hf : 8 ≤ fr) (hl : 200 ≤ lo) : w_E sc fr lo 30 [.ref 20] (hp μ, ρ) (.inl none) (hp (stI μ 20 5 (sk (μ.2.2 (x + 1)) (μ.1 x 1) (μ.1 20 5))), ρ) := by
  refine w_S.of (L0 := [some (.ref 20)]) rfl rfl (Nat.le_of_ble_eq_true rfl) (by rfl) ?_
  exact t_skip_l hX hf hl _ μ rfl hx hn hch hpl
theorem t_expect {sc : Nat × (Nat → Int32)} {fr lo : Nat} {μ : Mem} {ρ : Nat × Nat × Nat} {x : Nat} (hX : x = 42 ∨ x = 44) (hx : μ.2.1 20 3 = .ref x) (hn : 0 ≤ μ.1 x 1 ∧ μ.1 x 1 ≤ 240) (hch : ∀ k, 0 ≤ μ.2.2 (x + 1) k ∧ μ.2.2 (x + 1) k < 65536) (hpl : 0 ≤ μ.1 20 5 ∧ μ.1 20 5 ≤ 1000) {c : Int} (hc : 0 ≤ c ∧ c < 65536) (hc2 : (if 0 ≤ μ.1 20 5 ∧ μ.1 20 5 < μ.1 x 1 then μ.2.2 (x + 1) (μ.1 20 5) else -1) = c) (hf : 8 ≤ fr) (hl : 200 ≤ lo) : w_E sc fr lo 38 [.ref 20, .int (ji c)] (hp μ, ρ) (.inl none) (hp (stI μ 20 5 (μ.1 20 5 + 1)), ρ) := by
  have hXs : sh x = some (.inl (1, [4, 0])) ∧ sh (x + 1) = some (.inr (2, 240)) := by rcases hX with rfl | rfl <;> exact ⟨rfl, rfl⟩
  obtain ⟨hX0, hX1⟩ := hXs
  refine w_S.of (L0 := [some (.ref 20), some (.int (ji c))]) rfl rfl (Nat.le_of_ble_eq_true rfl) (by rfl) ?_
  refine w_ld d_38_0 rfl rfl rfl ?_
  refine w_getR d_38_1 (by rfl) (by first | rfl | assumption) (by rfl) (by assumption) ?_
  refine w_ld d_38_4 rfl rfl rfl ?_
  refine w_gI d_38_5 (by rfl) (by first | rfl | assumption) (by rfl) (by (try simp [stI, stA, stR]) <;> rfl) ?_
  refine w_cV1 (as := [_]) (rest := _) rfl d_38_8 (by rfl) (by rfl) (by first | rfl | assumption) (by rfl) (by rfl) (Nat.le_of_ble_eq_true rfl) (by omega) (by omega) (t_peek hX0 hX1 (by omega) (by omega)) ?_
  refine w_ld d_38_11 rfl rfl rfl ?_
  refine w_icmp_eq (g := 23) d_38_12 (by decide) (by have e1 := hch (μ.1 20 5); split <;> omega) (fun h12 => ?_) (fun h12 => ?_)
  · refine w_ld d_38_23 rfl rfl rfl ?_
    refine w_stk d_38_24 rfl ?_
    refine w_gI d_38_25 (by rfl) (by first | rfl | assumption) (by rfl) (by (try simp [stI, stA, stR]) <;> rfl) ?_
    refine w_con d_38_28 ?_
    refine w_iadd d_38_29 ?_
    refine w_putI d_38_30 (by rfl) (by first | rfl | assumption) (by rfl) (fit_I (by rfl)) (by rfl) ?_
    refine w_ret d_38_33 rfl ?_
    exact ⟨rfl, rfl⟩
  · exact absurd hc2 h12
theorem t_expectx {sc : Nat × (Nat → Int32)} {fr lo : Nat} {μ : Mem} {ρ : Nat × Nat × Nat} {x : Nat} (hX : x = 42 ∨ x = 44) (hx : μ.2.1 20 3 = .ref x) (hn : 0 ≤ μ.1 x 1 ∧ μ.1 x 1 ≤ 240) (hch : ∀ k, 0 ≤ μ.2.2 (x + 1) k ∧ μ.2.2 (x + 1) k < 65536) (hpl : 0 ≤ μ.1 20 5 ∧ μ.1 20 5 ≤ 1000) {c : Int} (hc : 0 ≤ c ∧ c < 65536) (hc2 : (if 0 ≤ μ.1 20 5 ∧ μ.1 20 5 < μ.1 x 1 then μ.2.2 (x + 1) (μ.1 20 5) else -1) ≠ c) (hf : 8 ≤ fr) (hl : 200 ≤ lo) (hr : 1 ≤ ρ.2.1 ∧ 6 ≤ ρ.2.2) : w_E sc fr lo 38 [.ref 20, .int (ji c)] (hp μ, ρ) (.inr (1, ρ.1)) (hp (stI μ 20 6 (μ.1 20 5)), ρ.1 + 1, ρ.2.1 - 1, ρ.2.2 - 6) := by
  have hXs : sh x = some (.inl (1, [4, 0])) ∧ sh (x + 1) = some (.inr (2, 240)) := by rcases hX with rfl | rfl <;> exact ⟨rfl, rfl⟩
  obtain ⟨hX0, hX1⟩ := hXs
  refine w_S.of (L0 := [some (.ref 20), some (.int (ji c))]) rfl rfl (Nat.le_of_ble_eq_true rfl) (by rfl) ?_
  refine w_ld d_38_0 rfl rfl rfl ?_
  refine w_getR d_38_1 (by rfl) (by first | rfl | assumption) (by rfl) (by assumption) ?_
  refine w_ld d_38_4 rfl rfl rfl ?_
  refine w_gI d_38_5 (by rfl) (by first | rfl | assumption) (by rfl) (by (try simp [stI, stA, stR]) <;> rfl) ?_
  refine w_cV1 (as := [_]) (rest := _) rfl d_38_8 (by rfl) (by rfl) (by first | rfl | assumption) (by rfl) (by rfl) (Nat.le_of_ble_eq_true rfl) (by omega) (by omega) (t_peek hX0 hX1 (by omega) (by omega)) ?_
  refine w_ld d_38_11 rfl rfl rfl ?_
  refine w_icmp_eq (g := 23) d_38_12 (by decide) (by have e1 := hch (μ.1 20 5); split <;> omega) (fun h12 => ?_) (fun h12 => ?_)
  · exact absurd h12 hc2
  · refine w_ld d_38_15 rfl rfl rfl ?_
    refine w_ld d_38_16 rfl rfl rfl ?_
    refine w_gI d_38_17 (by rfl) (by first | rfl | assumption) (by rfl) (by (try simp [stI, stA, stR]) <;> rfl) ?_
    refine w_cVx (as := [_]) (rest := _) rfl d_38_20 (by rfl) (by rfl) (by first | rfl | assumption) (by rfl) (by rfl) (Nat.le_of_ble_eq_true rfl) (by omega) (by omega) (t_fail hr (by omega) (by omega)) ?_
    exact ⟨rfl, rfl⟩
theorem t_passE {sc : Nat × (Nat → Int32)} {fr lo : Nat} {μ : Mem} {ρ : Nat × Nat × Nat} {x : Nat} (hX : x = 42 ∨ x = 44) (hx : μ.2.1 20 3 = .ref x) (hn : 0 ≤ μ.1 x 1 ∧ μ.1 x 1 ≤ 240) (hch : ∀ k, 0 ≤ μ.2.2 (x + 1) k ∧ μ.2.2 (x + 1) k < 65536) (hpl : 0 ≤ μ.1 20 5 ∧ μ.1 20 5 ≤ 1000) (hc2 : (if 0 ≤ (sk (μ.2.2 (x + 1)) (μ.1 x 1) (μ.1 20 5)) ∧ (sk (μ.2.2 (x + 1)) (μ.1 x 1) (μ.1 20 5)) < μ.1 x 1 then μ.2.2 (x + 1) (sk (μ.2.2 (x + 1)) (μ.1 x 1) (μ.1 20 5)) else -1) = 93) (hf : 10 ≤ fr) (hl : 300 ≤ lo) : w_E sc fr lo 37 [.ref 20] (hp μ, ρ) (.inl (some (.int (ji 0)))) (hp (stI μ 20 5 ((sk (μ.2.2 (x + 1)) (μ.1 x 1) (μ.1 20 5)) + 1)), ρ) := by
  have hXs : sh x = some (.inl (1, [4, 0])) ∧ sh (x + 1) = some (.inr (2, 240)) := by rcases hX with rfl | rfl <;> exact ⟨rfl, rfl⟩
  obtain ⟨hX0, hX1⟩ := hXs
  have s1 := sk_ge (μ.2.2 (x + 1)) (μ.1 x 1) (μ.1 20 5)
  have s2 : sk (μ.2.2 (x + 1)) (μ.1 x 1) (μ.1 20 5) ≤ 1000 := by
    by_cases z : μ.1 20 5 ≤ μ.1 x 1
    · have := sk_le (μ.2.2 (x + 1)) (μ.1 x 1) _ z
      omega
    · rw [sk_big _ _ _ (by omega)]
      omega
  have m1 : (stI μ 20 5 (sk (μ.2.2 (x + 1)) (μ.1 x 1) (μ.1 20 5))).1 20 5 = (sk (μ.2.2 (x + 1)) (μ.1 x 1) (μ.1 20 5)) := stI_at _ _ _ _
  have m2 : (stI μ 20 5 (sk (μ.2.2 (x + 1)) (μ.1 x 1) (μ.1 20 5))).1 x 1 = μ.1 x 1 := stI_ne (by omega)
  refine w_S.of (L0 := [some (.ref 20)]) rfl rfl (Nat.le_of_ble_eq_true rfl) (by rfl) ?_
  refine w_ld d_37_0 rfl rfl rfl ?_
  refine w_cV0 (as := []) (rest := _) rfl d_37_1 (by rfl) (by rfl) (by first | rfl | assumption) (by rfl) (by rfl) (Nat.le_of_ble_eq_true rfl) (by omega) (by omega) (t_skip hX hx hn hch hpl (by omega) (by omega)) ?_
  refine w_ld d_37_4 rfl rfl rfl ?_
  refine w_getR d_37_5 (by rfl) (by first | rfl | assumption) (by rfl) (by first | assumption | (simp only [stI, stA, stR, adw]; assumption)) ?_
  refine w_ld d_37_8 rfl rfl rfl ?_
  refine w_gI d_37_9 (by rfl) (by first | rfl | assumption) (by rfl) (by (try simp only [stI, stA, stR, adw]) <;> (repeat first | rw [if_neg (by omega)] | rw [if_pos (by omega)]) <;> rfl) ?_
  refine w_cV1 (as := [_]) (rest := _) rfl d_37_12 (by rfl) (by rfl) (by first | rfl | assumption) (by rfl) (by rfl) (Nat.le_of_ble_eq_true rfl) (by omega) (by omega) (by have e := t_peek (sc := sc) (fr := fr - 1) (lo := lo - (19 + 2)) (μ := (stI μ 20 5 (sk (μ.2.2 (x + 1)) (μ.1 x 1) (μ.1 20 5)))) (ρ := ρ) hX0 hX1 (by rw [m2]; omega) (k := (sk (μ.2.2 (x + 1)) (μ.1 x 1) (μ.1 20 5))) (by omega); rw [m2] at e; exact e) ?_
  refine w_bip d_37_15 (by decide) ?_
  refine w_icmp_ne (g := 32) d_37_17 (by decide) (by have e1 := hch (sk (μ.2.2 (x + 1)) (μ.1 x 1) (μ.1 20 5)); have e2 : -2147483648 ≤ (if 0 ≤ (sk (μ.2.2 (x + 1)) (μ.1 x 1) (μ.1 20 5)) ∧ (sk (μ.2.2 (x + 1)) (μ.1 x 1) (μ.1 20 5)) < μ.1 x 1 then μ.2.2 (x + 1) (sk (μ.2.2 (x + 1)) (μ.1 x 1) (μ.1 20 5)) else -1) ∧ (if 0 ≤ (sk (μ.2.2 (x + 1)) (μ.1 x 1) (μ.1 20 5)) ∧ (sk (μ.2.2 (x + 1)) (μ.1 x 1) (μ.1 20 5)) < μ.1 x 1 then μ.2.2 (x + 1) (sk (μ.2.2 (x + 1)) (μ.1 x 1) (μ.1 20 5)) else -1) < 2147483648 := (by split <;> omega); exact ⟨e2.1, e2.2, by decide, by decide⟩) (fun h17 => ?_) (fun h17 => ?_)
  · exact absurd hc2 h17
  · refine w_ld d_37_20 rfl rfl rfl ?_
    refine w_stk d_37_21 rfl ?_
    refine w_gI d_37_22 (by rfl) (by first | rfl | assumption) (by rfl) (by (try simp only [stI, stA, stR, adw]) <;> (repeat first | rw [if_neg (by omega)] | rw [if_pos (by omega)]) <;> rfl) ?_
    refine w_con d_37_25 ?_
    refine w_iadd d_37_26 ?_
    refine w_putI d_37_27 (by rfl) (by first | rfl | assumption) (by rfl) (fit_I (by rfl)) (by rfl) ?_
    refine w_con d_37_30 ?_
    refine w_zret d_37_31 rfl (by omega) ?_
    rw [stI_stI]
    exact ⟨rfl, rfl⟩
theorem t_passC {sc : Nat × (Nat → Int32)} {fr lo : Nat} {μ : Mem} {ρ : Nat × Nat × Nat} {x : Nat} (hX : x = 42 ∨ x = 44) (hx : μ.2.1 20 3 = .ref x) (hn : 0 ≤ μ.1 x 1 ∧ μ.1 x 1 ≤ 240) (hch : ∀ k, 0 ≤ μ.2.2 (x + 1) k ∧ μ.2.2 (x + 1) k < 65536) (hpl : 0 ≤ μ.1 20 5 ∧ μ.1 20 5 ≤ 1000) (hc2 : (if 0 ≤ (sk (μ.2.2 (x + 1)) (μ.1 x 1) (μ.1 20 5)) ∧ (sk (μ.2.2 (x + 1)) (μ.1 x 1) (μ.1 20 5)) < μ.1 x 1 then μ.2.2 (x + 1) (sk (μ.2.2 (x + 1)) (μ.1 x 1) (μ.1 20 5)) else -1) = 44) (hf : 10 ≤ fr) (hl : 300 ≤ lo) : w_E sc fr lo 37 [.ref 20] (hp μ, ρ) (.inl (some (.int (ji 1)))) (hp (stI μ 20 5 ((sk (μ.2.2 (x + 1)) (μ.1 x 1) (μ.1 20 5)) + 1)), ρ) := by
  have hXs : sh x = some (.inl (1, [4, 0])) ∧ sh (x + 1) = some (.inr (2, 240)) := by rcases hX with rfl | rfl <;> exact ⟨rfl, rfl⟩
  obtain ⟨hX0, hX1⟩ := hXs
  have s1 := sk_ge (μ.2.2 (x + 1)) (μ.1 x 1) (μ.1 20 5)
  have s2 : sk (μ.2.2 (x + 1)) (μ.1 x 1) (μ.1 20 5) ≤ 1000 := by
    by_cases z : μ.1 20 5 ≤ μ.1 x 1
    · have := sk_le (μ.2.2 (x + 1)) (μ.1 x 1) _ z
      omega
    · rw [sk_big _ _ _ (by omega)]
      omega
  have m1 : (stI μ 20 5 (sk (μ.2.2 (x + 1)) (μ.1 x 1) (μ.1 20 5))).1 20 5 = (sk (μ.2.2 (x + 1)) (μ.1 x 1) (μ.1 20 5)) := stI_at _ _ _ _
  have m2 : (stI μ 20 5 (sk (μ.2.2 (x + 1)) (μ.1 x 1) (μ.1 20 5))).1 x 1 = μ.1 x 1 := stI_ne (by omega)
  refine w_S.of (L0 := [some (.ref 20)]) rfl rfl (Nat.le_of_ble_eq_true rfl) (by rfl) ?_
  refine w_ld d_37_0 rfl rfl rfl ?_
  refine w_cV0 (as := []) (rest := _) rfl d_37_1 (by rfl) (by rfl) (by first | rfl | assumption) (by rfl) (by rfl) (Nat.le_of_ble_eq_true rfl) (by omega) (by omega) (t_skip hX hx hn hch hpl (by omega) (by omega)) ?_
  refine w_ld d_37_4 rfl rfl rfl ?_
  refine w_getR d_37_5 (by rfl) (by first | rfl | assumption) (by rfl) (by first | assumption | (simp only [stI, stA, stR, adw]; assumption)) ?_
  refine w_ld d_37_8 rfl rfl rfl ?_
  refine w_gI d_37_9 (by rfl) (by first | rfl | assumption) (by rfl) (by (try simp only [stI, stA, stR, adw]) <;> (repeat first | rw [if_neg (by omega)] | rw [if_pos (by omega)]) <;> rfl) ?_
  refine w_cV1 (as := [_]) (rest := _) rfl d_37_12 (by rfl) (by rfl) (by first | rfl | assumption) (by rfl) (by rfl) (Nat.le_of_ble_eq_true rfl) (by omega) (by omega) (by have e := t_peek (sc := sc) (fr := fr - 1) (lo := lo - (19 + 2)) (μ := (stI μ 20 5 (sk (μ.2.2 (x + 1)) (μ.1 x 1) (μ.1 20 5)))) (ρ := ρ) hX0 hX1 (by rw [m2]; omega) (k := (sk (μ.2.2 (x + 1)) (μ.1 x 1) (μ.1 20 5))) (by omega); rw [m2] at e; exact e) ?_
  refine w_bip d_37_15 (by decide) ?_
  refine w_icmp_ne (g := 32) d_37_17 (by decide) (by have e1 := hch (sk (μ.2.2 (x + 1)) (μ.1 x 1) (μ.1 20 5)); have e2 : -2147483648 ≤ (if 0 ≤ (sk (μ.2.2 (x + 1)) (μ.1 x 1) (μ.1 20 5)) ∧ (sk (μ.2.2 (x + 1)) (μ.1 x 1) (μ.1 20 5)) < μ.1 x 1 then μ.2.2 (x + 1) (sk (μ.2.2 (x + 1)) (μ.1 x 1) (μ.1 20 5)) else -1) ∧ (if 0 ≤ (sk (μ.2.2 (x + 1)) (μ.1 x 1) (μ.1 20 5)) ∧ (sk (μ.2.2 (x + 1)) (μ.1 x 1) (μ.1 20 5)) < μ.1 x 1 then μ.2.2 (x + 1) (sk (μ.2.2 (x + 1)) (μ.1 x 1) (μ.1 20 5)) else -1) < 2147483648 := (by split <;> omega); exact ⟨e2.1, e2.2, by decide, by decide⟩) (fun h17 => ?_) (fun h17 => ?_)
  · refine w_ld d_37_32 rfl rfl rfl ?_
    refine w_bip d_37_33 (by decide) ?_
    refine w_cV0 (as := [_]) (rest := _) rfl d_37_35 (by rfl) (by rfl) (by first | rfl | assumption) (by rfl) (by rfl) (Nat.le_of_ble_eq_true rfl) (by omega) (by omega) (t_expect (μ := (stI μ 20 5 (sk (μ.2.2 (x + 1)) (μ.1 x 1) (μ.1 20 5)))) hX hx (by rw [m2]; exact hn) hch (by rw [m1]; omega) (by decide) (by rw [m1, m2]; exact hc2) (by omega) (by omega)) ?_
    refine w_con d_37_38 ?_
    refine w_zret d_37_39 rfl (by omega) ?_
    rw [m1, stI_stI]
    exact ⟨rfl, rfl⟩
  · exact absurd (hc2.symm.trans h17) (by decide)
theorem t_passX {sc : Nat × (Nat → Int32)} {fr lo : Nat} {μ : Mem} {ρ : Nat × Nat × Nat} {x : Nat} (hX : x = 42 ∨ x = 44) (hx : μ.2.1 20 3 = .ref x) (hn : 0 ≤ μ.1 x 1 ∧ μ.1 x 1 ≤ 240) (hch : ∀ k, 0 ≤ μ.2.2 (x + 1) k ∧ μ.2.2 (x + 1) k < 65536) (hpl : 0 ≤ μ.1 20 5 ∧ μ.1 20 5 ≤ 1000) (hc2 : (if 0 ≤ (sk (μ.2.2 (x + 1)) (μ.1 x 1) (μ.1 20 5)) ∧ (sk (μ.2.2 (x + 1)) (μ.1 x 1) (μ.1 20 5)) < μ.1 x 1 then μ.2.2 (x + 1) (sk (μ.2.2 (x + 1)) (μ.1 x 1) (μ.1 20 5)) else -1) ≠ 44) (hc3 : (if 0 ≤ (sk (μ.2.2 (x + 1)) (μ.1 x 1) (μ.1 20 5)) ∧ (sk (μ.2.2 (x + 1)) (μ.1 x 1) (μ.1 20 5)) < μ.1 x 1 then μ.2.2 (x + 1) (sk (μ.2.2 (x + 1)) (μ.1 x 1) (μ.1 20 5)) else -1) ≠ 93) (hf : 10 ≤ fr) (hl : 300 ≤ lo) (hr : 1 ≤ ρ.2.1 ∧ 6 ≤ ρ.2.2) : w_E sc fr lo 37 [.ref 20] (hp μ, ρ) (.inr (1, ρ.1)) (hp (stI (stI μ 20 5 (sk (μ.2.2 (x + 1)) (μ.1 x 1) (μ.1 20 5))) 20 6 ((sk (μ.2.2 (x + 1)) (μ.1 x 1) (μ.1 20 5)))), ρ.1 + 1, ρ.2.1 - 1, ρ.2.2 - 6) := by
  have hXs : sh x = some (.inl (1, [4, 0])) ∧ sh (x + 1) = some (.inr (2, 240)) := by rcases hX with rfl | rfl <;> exact ⟨rfl, rfl⟩
  obtain ⟨hX0, hX1⟩ := hXs
  have s1 := sk_ge (μ.2.2 (x + 1)) (μ.1 x 1) (μ.1 20 5)
  have s2 : sk (μ.2.2 (x + 1)) (μ.1 x 1) (μ.1 20 5) ≤ 1000 := by
    by_cases z : μ.1 20 5 ≤ μ.1 x 1
    · have := sk_le (μ.2.2 (x + 1)) (μ.1 x 1) _ z
      omega
    · rw [sk_big _ _ _ (by omega)]
      omega
  have m1 : (stI μ 20 5 (sk (μ.2.2 (x + 1)) (μ.1 x 1) (μ.1 20 5))).1 20 5 = (sk (μ.2.2 (x + 1)) (μ.1 x 1) (μ.1 20 5)) := stI_at _ _ _ _
  have m2 : (stI μ 20 5 (sk (μ.2.2 (x + 1)) (μ.1 x 1) (μ.1 20 5))).1 x 1 = μ.1 x 1 := stI_ne (by omega)
  refine w_S.of (L0 := [some (.ref 20)]) rfl rfl (Nat.le_of_ble_eq_true rfl) (by rfl) ?_
  refine w_ld d_37_0 rfl rfl rfl ?_
  refine w_cV0 (as := []) (rest := _) rfl d_37_1 (by rfl) (by rfl) (by first | rfl | assumption) (by rfl) (by rfl) (Nat.le_of_ble_eq_true rfl) (by omega) (by omega) (t_skip hX hx hn hch hpl (by omega) (by omega)) ?_
  refine w_ld d_37_4 rfl rfl rfl ?_
  refine w_getR d_37_5 (by rfl) (by first | rfl | assumption) (by rfl) (by first | assumption | (simp only [stI, stA, stR, adw]; assumption)) ?_
  refine w_ld d_37_8 rfl rfl rfl ?_
  refine w_gI d_37_9 (by rfl) (by first | rfl | assumption) (by rfl) (by (try simp only [stI, stA, stR, adw]) <;> (repeat first | rw [if_neg (by omega)] | rw [if_pos (by omega)]) <;> rfl) ?_
  refine w_cV1 (as := [_]) (rest := _) rfl d_37_12 (by rfl) (by rfl) (by first | rfl | assumption) (by rfl) (by rfl) (Nat.le_of_ble_eq_true rfl) (by omega) (by omega) (by have e := t_peek (sc := sc) (fr := fr - 1) (lo := lo - (19 + 2)) (μ := (stI μ 20 5 (sk (μ.2.2 (x + 1)) (μ.1 x 1) (μ.1 20 5)))) (ρ := ρ) hX0 hX1 (by rw [m2]; omega) (k := (sk (μ.2.2 (x + 1)) (μ.1 x 1) (μ.1 20 5))) (by omega); rw [m2] at e; exact e) ?_
  refine w_bip d_37_15 (by decide) ?_
  refine w_icmp_ne (g := 32) d_37_17 (by decide) (by have e1 := hch (sk (μ.2.2 (x + 1)) (μ.1 x 1) (μ.1 20 5)); have e2 : -2147483648 ≤ (if 0 ≤ (sk (μ.2.2 (x + 1)) (μ.1 x 1) (μ.1 20 5)) ∧ (sk (μ.2.2 (x + 1)) (μ.1 x 1) (μ.1 20 5)) < μ.1 x 1 then μ.2.2 (x + 1) (sk (μ.2.2 (x + 1)) (μ.1 x 1) (μ.1 20 5)) else -1) ∧ (if 0 ≤ (sk (μ.2.2 (x + 1)) (μ.1 x 1) (μ.1 20 5)) ∧ (sk (μ.2.2 (x + 1)) (μ.1 x 1) (μ.1 20 5)) < μ.1 x 1 then μ.2.2 (x + 1) (sk (μ.2.2 (x + 1)) (μ.1 x 1) (μ.1 20 5)) else -1) < 2147483648 := (by split <;> omega); exact ⟨e2.1, e2.2, by decide, by decide⟩) (fun h17 => ?_) (fun h17 => ?_)
  · refine w_ld d_37_32 rfl rfl rfl ?_
    refine w_bip d_37_33 (by decide) ?_
    refine w_cVx (as := [_]) (rest := _) rfl d_37_35 (by rfl) (by rfl) (by first | rfl | assumption) (by rfl) (by rfl) (Nat.le_of_ble_eq_true rfl) (by omega) (by omega) (t_expectx (μ := (stI μ 20 5 (sk (μ.2.2 (x + 1)) (μ.1 x 1) (μ.1 20 5)))) hX hx (by rw [m2]; exact hn) hch (by rw [m1]; omega) (by decide) (by rw [m1, m2]; exact hc2) (by omega) (by omega) hr) ?_
    rw [m1]
    exact ⟨rfl, rfl⟩
  · exact absurd h17 hc3
theorem t_radd {sc : Nat × (Nat → Int32)} {fr lo : Nat} {μ : Mem} {ρ : Nat × Nat × Nat} {t : Nat} (hT : isT t) (ht : μ.2.1 20 4 = .ref t) (hc : 0 ≤ μ.1 t 7 ∧ μ.1 t 7 < 240) {k v s : Int} (hf : 8 ≤ fr) (hl : 200 ≤ lo) : w_E sc fr lo 33 [.ref 20, .int (ji k), .long (jl v), .int (ji s)] (hp μ, ρ) (.inl (some (.int (ji (μ.1 t 7))))) (hp (adw μ t k v 0 0 s), ρ) := by
  obtain ⟨hT0, hT1, hT2, hT3, hT4, hT5, hT6, hT7, hT8⟩ := hT.sh
  refine w_S.of (L0 := [some (.ref 20), some (.int (ji k)), some (.long (jl v)), none, some (.int (ji s)), none]) rfl rfl (Nat.le_of_ble_eq_true rfl) (by rfl) ?_
  refine w_ld d_33_0 rfl rfl rfl ?_
  refine w_getR d_33_1 (by rfl) (by first | rfl | assumption) (by rfl) (by assumption) ?_
  refine w_cV1 (as := []) (rest := _) rfl d_33_4 (by rfl) (by rfl) (by first | rfl | assumption) (by rfl) (by rfl) (Nat.le_of_ble_eq_true rfl) (by omega) (by omega) (t_isFull hT (by omega)) ?_
  refine w_if_eq (g := 16) d_33_7 (by decide) (by rw [if_pos hc.2]; decide) (fun h7 => ?_) (fun h7 => ?_)
  · refine w_ld d_33_16 rfl rfl rfl ?_
    refine w_getR d_33_17 (by rfl) (by first | rfl | assumption) (by rfl) (by first | assumption | (simp only [stI, stA, stR, adw]; assumption)) ?_
    refine w_ld d_33_20 rfl rfl rfl ?_
    refine w_ld d_33_21 rfl rfl rfl ?_
    refine w_cV1 (as := [_, _]) (rest := _) rfl d_33_22 (by rfl) (by rfl) (by first | rfl | assumption) (by rfl) (by rfl) (Nat.le_of_ble_eq_true rfl) (by omega) (by omega) (t_append hT hc) ?_
    refine w_st1 (L' := [_, _, _, _, _, _]) d_33_25 rfl (by decide) rfl (by decide) rfl ?_
    refine w_ld d_33_27 rfl rfl rfl ?_
    refine w_getF d_33_28 (by rfl) (by first | rfl | assumption) (by rfl) (by rfl) ?_
    refine w_ld d_33_31 rfl rfl rfl ?_
    refine w_ld d_33_33 rfl rfl rfl ?_
    refine w_iast d_33_35 (by first | rfl | assumption) (by omega) ?_
    refine w_ld d_33_36 rfl rfl rfl ?_
    refine w_iret d_33_38 rfl ?_
    rw [adw_add hT]
    exact ⟨rfl, rfl⟩
  · exact absurd (if_pos hc.2) h7
theorem t_req {sc : Nat × (Nat → Int32)} {fr lo : Nat} {μ : Mem} {ρ : Nat × Nat × Nat} {c : Int} (hc : c = 1) : w_E sc fr lo 52 [.ref 20, .int (ji c)] (hp μ, ρ) (.inl none) (hp μ, ρ) := by
  refine w_S.of (L0 := [some (.ref 20), some (.int (ji c))]) rfl rfl (Nat.le_of_ble_eq_true rfl) (by rfl) ?_
  refine w_ld d_52_0 rfl rfl rfl ?_
  refine w_if_ne (g := 12) d_52_1 (by decide) (by omega) (fun h1 => ?_) (fun h1 => ?_)
  · refine w_ret d_52_12 rfl ?_
    exact ⟨rfl, rfl⟩
  · exact absurd h1 (by omega)
theorem t_reqx {sc : Nat × (Nat → Int32)} {fr lo : Nat} {μ : Mem} {ρ : Nat × Nat × Nat} {c : Int} (hc : c = 0) (hf : 8 ≤ fr) (hl : 200 ≤ lo) (hr : 1 ≤ ρ.2.1 ∧ 6 ≤ ρ.2.2) : w_E sc fr lo 52 [.ref 20, .int (ji c)] (hp μ, ρ) (.inr (1, ρ.1)) (hp (stI μ 20 6 (μ.1 20 7)), ρ.1 + 1, ρ.2.1 - 1, ρ.2.2 - 6) := by
  refine w_S.of (L0 := [some (.ref 20), some (.int (ji c))]) rfl rfl (Nat.le_of_ble_eq_true rfl) (by rfl) ?_
  refine w_ld d_52_0 rfl rfl rfl ?_
  refine w_if_ne (g := 12) d_52_1 (by decide) (by omega) (fun h1 => ?_) (fun h1 => ?_)
  · exact absurd h1 (by omega)
  · refine w_ld d_52_4 rfl rfl rfl ?_
    refine w_ld d_52_5 rfl rfl rfl ?_
    refine w_gI d_52_6 (by rfl) (by first | rfl | assumption) (by rfl) (by (try simp [stI, stA, stR]) <;> rfl) ?_
    refine w_cVx (as := [_]) (rest := _) rfl d_52_9 (by rfl) (by rfl) (by first | rfl | assumption) (by rfl) (by rfl) (Nat.le_of_ble_eq_true rfl) (by omega) (by omega) (t_fail hr (by omega) (by omega)) ?_
    exact ⟨rfl, rfl⟩
theorem t_addWord {sc : Nat × (Nat → Int32)} {fr lo : Nat} {μ : Mem} {ρ : Nat × Nat × Nat} {t : Nat} (hT : isT t) (ht : μ.2.1 20 4 = .ref t) (hc : 0 ≤ μ.1 t 7 ∧ μ.1 t 7 < 240) {k p : Int} (hf : 10 ≤ fr) (hl : 300 ≤ lo) : w_E sc fr lo 59 [.ref 20, .int (ji k), .int (ji p)] (hp μ, ρ) (.inl none) (hp (adw μ t k 0 (μ.1 20 8 + p) (μ.1 20 9 - p) (μ.1 20 7)), ρ) := by
  obtain ⟨hT0, hT1, hT2, hT3, hT4, hT5, hT6, hT7, hT8⟩ := hT.sh
  have hT9 : t = 2 ∨ t = 11 ∨ t = 26 := hT
  refine w_S.of (L0 := [some (.ref 20), some (.int (ji k)), some (.int (ji p)), none]) rfl rfl (Nat.le_of_ble_eq_true rfl) (by rfl) ?_
  refine w_ld d_59_0 rfl rfl rfl ?_
  refine w_ld d_59_1 rfl rfl rfl ?_
  refine w_lcon0 d_59_2 ?_
  refine w_ld d_59_3 rfl rfl rfl ?_
  refine w_gI d_59_4 (by rfl) (by first | rfl | assumption) (by rfl) (by (try simp only [stI, stA, stR, adw]) <;> (repeat first | rw [if_neg (by omega)] | rw [if_pos (by omega)]) <;> rfl) ?_
  refine w_cV1 (as := [_, _, _]) (rest := _) rfl d_59_7 (by rfl) (by rfl) (by first | rfl | assumption) (by rfl) (by rfl) (Nat.le_of_ble_eq_true rfl) (by omega) (by omega) (t_radd hT ht hc (by omega) (by omega)) ?_
  refine w_st1 (L' := [_, _, _, _]) d_59_10 rfl (by decide) rfl (by decide) rfl ?_
  refine w_ld d_59_11 rfl rfl rfl ?_
  refine w_getR d_59_12 (by rfl) (by first | rfl | assumption) (by rfl) (by first | assumption | (simp only [stI, stA, stR, adw]; assumption)) ?_
  refine w_ld d_59_15 rfl rfl rfl ?_
  refine w_ld d_59_16 rfl rfl rfl ?_
  refine w_gI d_59_17 (by rfl) (by first | rfl | assumption) (by rfl) (by (try simp only [stI, stA, stR, adw]) <;> (repeat first | rw [if_neg (by omega)] | rw [if_pos (by omega)]) <;> rfl) ?_
  refine w_ld d_59_20 rfl rfl rfl ?_
  refine w_iadd d_59_21 ?_
  refine w_ld d_59_22 rfl rfl rfl ?_
  refine w_gI d_59_23 (by rfl) (by first | rfl | assumption) (by rfl) (by (try simp only [stI, stA, stR, adw]) <;> (repeat first | rw [if_neg (by omega)] | rw [if_pos (by omega)]) <;> rfl) ?_
  refine w_ld d_59_26 rfl rfl rfl ?_
  refine w_isub d_59_27 ?_
  refine w_cV0 (as := [_, _, _]) (rest := _) rfl d_59_28 (by rfl) (by rfl) (by first | rfl | assumption) (by rfl) (by rfl) (Nat.le_of_ble_eq_true rfl) (by omega) (by omega) (t_giveWord hT hc) ?_
  refine w_ret d_59_31 rfl ?_
  rw [adw_word]
  exact ⟨rfl, rfl⟩
theorem t_rexch {sc : Nat × (Nat → Int32)} {fr lo : Nat} {μ : Mem} {ρ : Nat × Nat × Nat} {t : Nat} (hT : isT t) (ht : μ.2.1 20 4 = .ref t) {b : Nat} : w_E sc fr lo 69 [.ref 20, .ref b] (hp μ, ρ) (.inl (some (.ref t))) (hp (stR μ 20 4 (.ref b)), ρ) := by
  refine w_S.of (L0 := [some (.ref 20), some (.ref b), none]) rfl rfl (Nat.le_of_ble_eq_true rfl) (by rfl) ?_
  refine w_ld d_69_0 rfl rfl rfl ?_
  refine w_getR d_69_1 (by rfl) (by first | rfl | assumption) (by rfl) (by assumption) ?_
  refine w_st1 (L' := [_, _, _]) d_69_4 rfl (by decide) rfl (by decide) rfl ?_
  refine w_ld d_69_5 rfl rfl rfl ?_
  refine w_ld d_69_6 rfl rfl rfl ?_
  refine w_putR d_69_7 (by rfl) (by first | rfl | assumption) (by rfl) (fit_R (by rfl)) (by rfl) ?_
  refine w_ld d_69_10 rfl rfl rfl ?_
  refine w_ret d_69_11 rfl ?_
  exact ⟨rfl, rfl⟩
