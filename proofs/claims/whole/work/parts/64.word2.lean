/-! THE PURE PART, 46: contracts: names, bare numbers, whole words of the reader -/
/-- how many letters of a name stand at p -/
def fmm (T : Int → Int) (n p : Int) (k : Nat) : Nat → Int → Int
  | 0, j => j
  | f + 1, j => if j < slen k ∧ p + j < n ∧ T (p + j) = sch k j then fmm T n p k f (j + 1) else j
def fm (T : Int → Int) (n p : Int) (k : Nat) : Int := fmm T n p k 8 0
theorem fmm_sp {T : Int → Int} {n p : Int} {k : Nat} (hk : k < 22) : ∀ (f : Nat) (j : Int), 0 ≤ j → j ≤ slen k → slen k ≤ j + f → (∀ i, 0 ≤ i → i < j → p + i < n ∧ T (p + i) = sch k i) → (j ≤ fmm T n p k f j ∧ fmm T n p k f j ≤ slen k) ∧ (∀ i, 0 ≤ i → i < fmm T n p k f j → p + i < n ∧ T (p + i) = sch k i) ∧ (fmm T n p k f j < slen k → ¬ (p + fmm T n p k f j < n ∧ T (p + fmm T n p k f j) = sch k (fmm T n p k f j)))
  | 0, j, h0, h1, h2, h3 => ⟨⟨Int.le_refl j, h1⟩, h3, fun z => by have z : j < slen k := z; omega⟩
  | f + 1, j, h0, h1, h2, h3 => by
    simp only [fmm]
    by_cases h : j < slen k ∧ p + j < n ∧ T (p + j) = sch k j
    · rw [if_pos h]
      have e := fmm_sp hk f (j + 1) (by omega) (by omega) (by omega) (fun i i0 i1 => by
        by_cases hij : i = j
        · rw [hij]; exact h.2
        · exact h3 i i0 (by omega))
      exact ⟨⟨by omega, e.1.2⟩, e.2⟩
    · rw [if_neg h]
      exact ⟨⟨Int.le_refl j, h1⟩, h3, fun z w => h ⟨z, w⟩⟩
theorem fm_sp {T : Int → Int} {n p : Int} {k : Nat} (hk : k < 22) : (0 ≤ fm T n p k ∧ fm T n p k ≤ slen k) ∧ (∀ i, 0 ≤ i → i < fm T n p k → p + i < n ∧ T (p + i) = sch k i) ∧ (fm T n p k < slen k → ¬ (p + fm T n p k < n ∧ T (p + fm T n p k) = sch k (fm T n p k))) := by
  have := slen_le hk
  exact fmm_sp hk 8 0 (Int.le_refl 0) this.1 (by omega) (fun i i0 i1 => by omega)
theorem t_nameN {sc : Nat × (Nat → Int32)} {fr lo : Nat} {μ : Mem} {ρ : Nat × Nat × Nat} {x : Nat} (hX : x = 42 ∨ x = 44) (hx : μ.2.1 20 3 = .ref x) (hn : 0 ≤ μ.1 x 1 ∧ μ.1 x 1 ≤ 240) (hch : ∀ k, 0 ≤ μ.2.2 (x + 1) k ∧ μ.2.2 (x + 1) k < 65536) {t : Nat} (hT : isT t) (ht : μ.2.1 20 4 = .ref t) (hpl : 0 ≤ μ.1 20 5 ∧ μ.1 20 5 ≤ 900) (hcn : 0 ≤ μ.1 t 7 ∧ μ.1 t 7 < 239) {c : Int} (hc : c = 110) (hm : (fm (μ.2.2 (x + 1)) (μ.1 x 1) (μ.1 20 5) 5) = slen 5) (hf : 16 ≤ fr) (hl : 800 ≤ lo) : w_E sc fr lo 67 [.ref 20, .int (ji c)] (hp μ, ρ) (.inl none) (hp (adw (stI μ 20 5 (μ.1 20 5 + slen 5)) t 0 0 0 0 (μ.1 20 5)), ρ) := by
  obtain ⟨hT0, hT1, hT2, hT3, hT4, hT5, hT6, hT7, hT8⟩ := hT.sh
  have hT9 : t = 2 ∨ t = 11 ∨ t = 26 := hT
  have fp := fm_sp (T := μ.2.2 (x + 1)) (n := μ.1 x 1) (p := μ.1 20 5) (k := 5) (by decide)
  refine w_S.of (L0 := [some (.ref 20), some (.int (ji c)), none]) rfl rfl (Nat.le_of_ble_eq_true rfl) (by rfl) ?_
  refine w_ld d_67_0 rfl rfl rfl ?_
  refine w_gI d_67_1 (by rfl) (by first | rfl | assumption) (by rfl) (by (try simp [stI, stA, stR]) <;> rfl) ?_
  refine w_st1 (L' := [_, _, _]) d_67_4 rfl (by decide) rfl (by decide) rfl ?_
  refine w_ld d_67_5 rfl rfl rfl ?_
  refine w_bip d_67_6 (by decide) ?_
  refine w_icmp_ne (g := 28) d_67_8 (by decide) (by omega) (fun h8 => ?_) (fun h8 => ?_)
  · exact absurd h8 (by omega)
  · refine w_ld d_67_11 rfl rfl rfl ?_
    refine w_lds (k := 5) d_67_12 (by rfl) ?_
    refine w_cV0 (a := 20) (as := [_]) (rest := _) rfl d_67_14 (by rfl) (by rfl) (by first | rfl | assumption) (by rfl) (by rfl) (Nat.le_of_ble_eq_true rfl) (by omega) (by omega) (t_spell hX hx hn hch hpl (k := 5) (by decide) (fun j j0 j1 => ⟨by omega, fp.2.1 j j0 (by rw [hm]; exact j1)⟩) (by omega) (by omega)) ?_
    refine w_ld d_67_17 rfl rfl rfl ?_
    refine w_con d_67_18 ?_
    refine w_lcon0 d_67_19 ?_
    refine w_ld d_67_20 rfl rfl rfl ?_
    refine w_cV1 (a := 20) (as := [_, _, _]) (rest := _) rfl d_67_21 (by rfl) (by rfl) (by first | rfl | assumption) (by rfl) (by rfl) (Nat.le_of_ble_eq_true rfl) (by omega) (by omega) (t_radd (fr := fr - 1) (lo := lo - (19 + 6)) (μ := (stI μ 20 5 (μ.1 20 5 + slen 5))) hT ht (by rw [stI_ne (by omega)]; omega) (by omega) (by omega)) ?_
    refine w_stk d_67_24 rfl ?_
    refine w_goto (g := 65) d_67_25 (by decide) ?_
    refine w_ret d_67_65 rfl ?_
    exact ⟨rfl, rfl⟩
theorem t_nameNx {sc : Nat × (Nat → Int32)} {fr lo : Nat} {μ : Mem} {ρ : Nat × Nat × Nat} {x : Nat} (hX : x = 42 ∨ x = 44) (hx : μ.2.1 20 3 = .ref x) (hn : 0 ≤ μ.1 x 1 ∧ μ.1 x 1 ≤ 240) (hch : ∀ k, 0 ≤ μ.2.2 (x + 1) k ∧ μ.2.2 (x + 1) k < 65536) {t : Nat} (hT : isT t) (ht : μ.2.1 20 4 = .ref t) (hpl : 0 ≤ μ.1 20 5 ∧ μ.1 20 5 ≤ 900) {c : Int} (hc : c = 110) (hm : (fm (μ.2.2 (x + 1)) (μ.1 x 1) (μ.1 20 5) 5) ≠ slen 5) (hf : 16 ≤ fr) (hl : 800 ≤ lo) (hr : 1 ≤ ρ.2.1 ∧ 6 ≤ ρ.2.2) : w_E sc fr lo 67 [.ref 20, .int (ji c)] (hp μ, ρ) (.inr (1, ρ.1)) (hp (stI (stI μ 20 5 (μ.1 20 5 + (fm (μ.2.2 (x + 1)) (μ.1 x 1) (μ.1 20 5) 5))) 20 6 (μ.1 20 5 + (fm (μ.2.2 (x + 1)) (μ.1 x 1) (μ.1 20 5) 5))), ρ.1 + 1, ρ.2.1 - 1, ρ.2.2 - 6) := by
  obtain ⟨hT0, hT1, hT2, hT3, hT4, hT5, hT6, hT7, hT8⟩ := hT.sh
  have hT9 : t = 2 ∨ t = 11 ∨ t = 26 := hT
  have fp := fm_sp (T := μ.2.2 (x + 1)) (n := μ.1 x 1) (p := μ.1 20 5) (k := 5) (by decide)
  refine w_S.of (L0 := [some (.ref 20), some (.int (ji c)), none]) rfl rfl (Nat.le_of_ble_eq_true rfl) (by rfl) ?_
  refine w_ld d_67_0 rfl rfl rfl ?_
  refine w_gI d_67_1 (by rfl) (by first | rfl | assumption) (by rfl) (by (try simp [stI, stA, stR]) <;> rfl) ?_
  refine w_st1 (L' := [_, _, _]) d_67_4 rfl (by decide) rfl (by decide) rfl ?_
  refine w_ld d_67_5 rfl rfl rfl ?_
  refine w_bip d_67_6 (by decide) ?_
  refine w_icmp_ne (g := 28) d_67_8 (by decide) (by omega) (fun h8 => ?_) (fun h8 => ?_)
  · exact absurd h8 (by omega)
  · refine w_ld d_67_11 rfl rfl rfl ?_
    refine w_lds (k := 5) d_67_12 (by rfl) ?_
    refine w_cVx (a := 20) (as := [_]) (rest := _) rfl d_67_14 (by rfl) (by rfl) (by first | rfl | assumption) (by rfl) (by rfl) (Nat.le_of_ble_eq_true rfl) (by omega) (by omega) (t_spellx hX hx hn hch hpl (k := 5) (by decide) (w := (fm (μ.2.2 (x + 1)) (μ.1 x 1) (μ.1 20 5) 5)) (by omega) (fun j j0 j1 => ⟨by omega, fp.2.1 j j0 j1⟩) (fun z => fp.2.2 (by omega) z.2) (by omega) (by omega) hr) ?_
    exact ⟨rfl, rfl⟩
theorem t_nameT {sc : Nat × (Nat → Int32)} {fr lo : Nat} {μ : Mem} {ρ : Nat × Nat × Nat} {x : Nat} (hX : x = 42 ∨ x = 44) (hx : μ.2.1 20 3 = .ref x) (hn : 0 ≤ μ.1 x 1 ∧ μ.1 x 1 ≤ 240) (hch : ∀ k, 0 ≤ μ.2.2 (x + 1) k ∧ μ.2.2 (x + 1) k < 65536) {t : Nat} (hT : isT t) (ht : μ.2.1 20 4 = .ref t) (hpl : 0 ≤ μ.1 20 5 ∧ μ.1 20 5 ≤ 900) (hcn : 0 ≤ μ.1 t 7 ∧ μ.1 t 7 < 239) {c : Int} (hc : c = 116) (hm : (fm (μ.2.2 (x + 1)) (μ.1 x 1) (μ.1 20 5) 6) = slen 6) (hf : 16 ≤ fr) (hl : 800 ≤ lo) : w_E sc fr lo 67 [.ref 20, .int (ji c)] (hp μ, ρ) (.inl none) (hp (adw (stI μ 20 5 (μ.1 20 5 + slen 6)) t 1 1 0 0 (μ.1 20 5)), ρ) := by
  obtain ⟨hT0, hT1, hT2, hT3, hT4, hT5, hT6, hT7, hT8⟩ := hT.sh
  have hT9 : t = 2 ∨ t = 11 ∨ t = 26 := hT
  have fp := fm_sp (T := μ.2.2 (x + 1)) (n := μ.1 x 1) (p := μ.1 20 5) (k := 6) (by decide)
  refine w_S.of (L0 := [some (.ref 20), some (.int (ji c)), none]) rfl rfl (Nat.le_of_ble_eq_true rfl) (by rfl) ?_
  refine w_ld d_67_0 rfl rfl rfl ?_
  refine w_gI d_67_1 (by rfl) (by first | rfl | assumption) (by rfl) (by (try simp [stI, stA, stR]) <;> rfl) ?_
  refine w_st1 (L' := [_, _, _]) d_67_4 rfl (by decide) rfl (by decide) rfl ?_
  refine w_ld d_67_5 rfl rfl rfl ?_
  refine w_bip d_67_6 (by decide) ?_
  refine w_icmp_ne (g := 28) d_67_8 (by decide) (by omega) (fun h8 => ?_) (fun h8 => ?_)
  · refine w_ld d_67_28 rfl rfl rfl ?_
    refine w_bip d_67_29 (by decide) ?_
    refine w_icmp_ne (g := 51) d_67_31 (by decide) (by omega) (fun h31 => ?_) (fun h31 => ?_)
    · exact absurd h31 (by omega)
    · refine w_ld d_67_34 rfl rfl rfl ?_
      refine w_lds (k := 6) d_67_35 (by rfl) ?_
      refine w_cV0 (a := 20) (as := [_]) (rest := _) rfl d_67_37 (by rfl) (by rfl) (by first | rfl | assumption) (by rfl) (by rfl) (Nat.le_of_ble_eq_true rfl) (by omega) (by omega) (t_spell hX hx hn hch hpl (k := 6) (by decide) (fun j j0 j1 => ⟨by omega, fp.2.1 j j0 (by rw [hm]; exact j1)⟩) (by omega) (by omega)) ?_
      refine w_ld d_67_40 rfl rfl rfl ?_
      refine w_con d_67_41 ?_
      refine w_lcon1 d_67_42 ?_
      refine w_ld d_67_43 rfl rfl rfl ?_
      refine w_cV1 (a := 20) (as := [_, _, _]) (rest := _) rfl d_67_44 (by rfl) (by rfl) (by first | rfl | assumption) (by rfl) (by rfl) (Nat.le_of_ble_eq_true rfl) (by omega) (by omega) (t_radd (fr := fr - 1) (lo := lo - (19 + 6)) (μ := (stI μ 20 5 (μ.1 20 5 + slen 6))) hT ht (by rw [stI_ne (by omega)]; omega) (by omega) (by omega)) ?_
      refine w_stk d_67_47 rfl ?_
      refine w_goto (g := 65) d_67_48 (by decide) ?_
      refine w_ret d_67_65 rfl ?_
      exact ⟨rfl, rfl⟩
  · exact absurd h8 (by omega)
theorem t_nameTx {sc : Nat × (Nat → Int32)} {fr lo : Nat} {μ : Mem} {ρ : Nat × Nat × Nat} {x : Nat} (hX : x = 42 ∨ x = 44) (hx : μ.2.1 20 3 = .ref x) (hn : 0 ≤ μ.1 x 1 ∧ μ.1 x 1 ≤ 240) (hch : ∀ k, 0 ≤ μ.2.2 (x + 1) k ∧ μ.2.2 (x + 1) k < 65536) {t : Nat} (hT : isT t) (ht : μ.2.1 20 4 = .ref t) (hpl : 0 ≤ μ.1 20 5 ∧ μ.1 20 5 ≤ 900) {c : Int} (hc : c = 116) (hm : (fm (μ.2.2 (x + 1)) (μ.1 x 1) (μ.1 20 5) 6) ≠ slen 6) (hf : 16 ≤ fr) (hl : 800 ≤ lo) (hr : 1 ≤ ρ.2.1 ∧ 6 ≤ ρ.2.2) : w_E sc fr lo 67 [.ref 20, .int (ji c)] (hp μ, ρ) (.inr (1, ρ.1)) (hp (stI (stI μ 20 5 (μ.1 20 5 + (fm (μ.2.2 (x + 1)) (μ.1 x 1) (μ.1 20 5) 6))) 20 6 (μ.1 20 5 + (fm (μ.2.2 (x + 1)) (μ.1 x 1) (μ.1 20 5) 6))), ρ.1 + 1, ρ.2.1 - 1, ρ.2.2 - 6) := by
  obtain ⟨hT0, hT1, hT2, hT3, hT4, hT5, hT6, hT7, hT8⟩ := hT.sh
  have hT9 : t = 2 ∨ t = 11 ∨ t = 26 := hT
  have fp := fm_sp (T := μ.2.2 (x + 1)) (n := μ.1 x 1) (p := μ.1 20 5) (k := 6) (by decide)
  refine w_S.of (L0 := [some (.ref 20), some (.int (ji c)), none]) rfl rfl (Nat.le_of_ble_eq_true rfl) (by rfl) ?_
  refine w_ld d_67_0 rfl rfl rfl ?_
  refine w_gI d_67_1 (by rfl) (by first | rfl | assumption) (by rfl) (by (try simp [stI, stA, stR]) <;> rfl) ?_
  refine w_st1 (L' := [_, _, _]) d_67_4 rfl (by decide) rfl (by decide) rfl ?_
  refine w_ld d_67_5 rfl rfl rfl ?_
  refine w_bip d_67_6 (by decide) ?_
  refine w_icmp_ne (g := 28) d_67_8 (by decide) (by omega) (fun h8 => ?_) (fun h8 => ?_)
  · refine w_ld d_67_28 rfl rfl rfl ?_
    refine w_bip d_67_29 (by decide) ?_
    refine w_icmp_ne (g := 51) d_67_31 (by decide) (by omega) (fun h31 => ?_) (fun h31 => ?_)
    · exact absurd h31 (by omega)
    · refine w_ld d_67_34 rfl rfl rfl ?_
      refine w_lds (k := 6) d_67_35 (by rfl) ?_
      refine w_cVx (a := 20) (as := [_]) (rest := _) rfl d_67_37 (by rfl) (by rfl) (by first | rfl | assumption) (by rfl) (by rfl) (Nat.le_of_ble_eq_true rfl) (by omega) (by omega) (t_spellx hX hx hn hch hpl (k := 6) (by decide) (w := (fm (μ.2.2 (x + 1)) (μ.1 x 1) (μ.1 20 5) 6)) (by omega) (fun j j0 j1 => ⟨by omega, fp.2.1 j j0 j1⟩) (fun z => fp.2.2 (by omega) z.2) (by omega) (by omega) hr) ?_
      exact ⟨rfl, rfl⟩
  · exact absurd h8 (by omega)
theorem t_nameF {sc : Nat × (Nat → Int32)} {fr lo : Nat} {μ : Mem} {ρ : Nat × Nat × Nat} {x : Nat} (hX : x = 42 ∨ x = 44) (hx : μ.2.1 20 3 = .ref x) (hn : 0 ≤ μ.1 x 1 ∧ μ.1 x 1 ≤ 240) (hch : ∀ k, 0 ≤ μ.2.2 (x + 1) k ∧ μ.2.2 (x + 1) k < 65536) {t : Nat} (hT : isT t) (ht : μ.2.1 20 4 = .ref t) (hpl : 0 ≤ μ.1 20 5 ∧ μ.1 20 5 ≤ 900) (hcn : 0 ≤ μ.1 t 7 ∧ μ.1 t 7 < 239) {c : Int} (hc : -1 ≤ c ∧ c < 65536 ∧ c ≠ 110 ∧ c ≠ 116) (hm : (fm (μ.2.2 (x + 1)) (μ.1 x 1) (μ.1 20 5) 7) = slen 7) (hf : 16 ≤ fr) (hl : 800 ≤ lo) : w_E sc fr lo 67 [.ref 20, .int (ji c)] (hp μ, ρ) (.inl none) (hp (adw (stI μ 20 5 (μ.1 20 5 + slen 7)) t 1 0 0 0 (μ.1 20 5)), ρ) := by
  obtain ⟨hT0, hT1, hT2, hT3, hT4, hT5, hT6, hT7, hT8⟩ := hT.sh
  have hT9 : t = 2 ∨ t = 11 ∨ t = 26 := hT
  have fp := fm_sp (T := μ.2.2 (x + 1)) (n := μ.1 x 1) (p := μ.1 20 5) (k := 7) (by decide)
  refine w_S.of (L0 := [some (.ref 20), some (.int (ji c)), none]) rfl rfl (Nat.le_of_ble_eq_true rfl) (by rfl) ?_
  refine w_ld d_67_0 rfl rfl rfl ?_
  refine w_gI d_67_1 (by rfl) (by first | rfl | assumption) (by rfl) (by (try simp [stI, stA, stR]) <;> rfl) ?_
  refine w_st1 (L' := [_, _, _]) d_67_4 rfl (by decide) rfl (by decide) rfl ?_
  refine w_ld d_67_5 rfl rfl rfl ?_
  refine w_bip d_67_6 (by decide) ?_
  refine w_icmp_ne (g := 28) d_67_8 (by decide) (by omega) (fun h8 => ?_) (fun h8 => ?_)
  · refine w_ld d_67_28 rfl rfl rfl ?_
    refine w_bip d_67_29 (by decide) ?_
    refine w_icmp_ne (g := 51) d_67_31 (by decide) (by omega) (fun h31 => ?_) (fun h31 => ?_)
    · refine w_ld d_67_51 rfl rfl rfl ?_
      refine w_lds (k := 7) d_67_52 (by rfl) ?_
      refine w_cV0 (a := 20) (as := [_]) (rest := _) rfl d_67_54 (by rfl) (by rfl) (by first | rfl | assumption) (by rfl) (by rfl) (Nat.le_of_ble_eq_true rfl) (by omega) (by omega) (t_spell hX hx hn hch hpl (k := 7) (by decide) (fun j j0 j1 => ⟨by omega, fp.2.1 j j0 (by rw [hm]; exact j1)⟩) (by omega) (by omega)) ?_
      refine w_ld d_67_57 rfl rfl rfl ?_
      refine w_con d_67_58 ?_
      refine w_lcon0 d_67_59 ?_
      refine w_ld d_67_60 rfl rfl rfl ?_
      refine w_cV1 (a := 20) (as := [_, _, _]) (rest := _) rfl d_67_61 (by rfl) (by rfl) (by first | rfl | assumption) (by rfl) (by rfl) (Nat.le_of_ble_eq_true rfl) (by omega) (by omega) (t_radd (fr := fr - 1) (lo := lo - (19 + 6)) (μ := (stI μ 20 5 (μ.1 20 5 + slen 7))) hT ht (by rw [stI_ne (by omega)]; omega) (by omega) (by omega)) ?_
      refine w_stk d_67_64 rfl ?_
      refine w_ret d_67_65 rfl ?_
      exact ⟨rfl, rfl⟩
    · exact absurd h31 (by omega)
  · exact absurd h8 (by omega)
theorem t_nameFx {sc : Nat × (Nat → Int32)} {fr lo : Nat} {μ : Mem} {ρ : Nat × Nat × Nat} {x : Nat} (hX : x = 42 ∨ x = 44) (hx : μ.2.1 20 3 = .ref x) (hn : 0 ≤ μ.1 x 1 ∧ μ.1 x 1 ≤ 240) (hch : ∀ k, 0 ≤ μ.2.2 (x + 1) k ∧ μ.2.2 (x + 1) k < 65536) {t : Nat} (hT : isT t) (ht : μ.2.1 20 4 = .ref t) (hpl : 0 ≤ μ.1 20 5 ∧ μ.1 20 5 ≤ 900) {c : Int} (hc : -1 ≤ c ∧ c < 65536 ∧ c ≠ 110 ∧ c ≠ 116) (hm : (fm (μ.2.2 (x + 1)) (μ.1 x 1) (μ.1 20 5) 7) ≠ slen 7) (hf : 16 ≤ fr) (hl : 800 ≤ lo) (hr : 1 ≤ ρ.2.1 ∧ 6 ≤ ρ.2.2) : w_E sc fr lo 67 [.ref 20, .int (ji c)] (hp μ, ρ) (.inr (1, ρ.1)) (hp (stI (stI μ 20 5 (μ.1 20 5 + (fm (μ.2.2 (x + 1)) (μ.1 x 1) (μ.1 20 5) 7))) 20 6 (μ.1 20 5 + (fm (μ.2.2 (x + 1)) (μ.1 x 1) (μ.1 20 5) 7))), ρ.1 + 1, ρ.2.1 - 1, ρ.2.2 - 6) := by
  obtain ⟨hT0, hT1, hT2, hT3, hT4, hT5, hT6, hT7, hT8⟩ := hT.sh
  have hT9 : t = 2 ∨ t = 11 ∨ t = 26 := hT
  have fp := fm_sp (T := μ.2.2 (x + 1)) (n := μ.1 x 1) (p := μ.1 20 5) (k := 7) (by decide)
  refine w_S.of (L0 := [some (.ref 20), some (.int (ji c)), none]) rfl rfl (Nat.le_of_ble_eq_true rfl) (by rfl) ?_
  refine w_ld d_67_0 rfl rfl rfl ?_
  refine w_gI d_67_1 (by rfl) (by first | rfl | assumption) (by rfl) (by (try simp [stI, stA, stR]) <;> rfl) ?_
  refine w_st1 (L' := [_, _, _]) d_67_4 rfl (by decide) rfl (by decide) rfl ?_
  refine w_ld d_67_5 rfl rfl rfl ?_
  refine w_bip d_67_6 (by decide) ?_
  refine w_icmp_ne (g := 28) d_67_8 (by decide) (by omega) (fun h8 => ?_) (fun h8 => ?_)
  · refine w_ld d_67_28 rfl rfl rfl ?_
    refine w_bip d_67_29 (by decide) ?_
    refine w_icmp_ne (g := 51) d_67_31 (by decide) (by omega) (fun h31 => ?_) (fun h31 => ?_)
    · refine w_ld d_67_51 rfl rfl rfl ?_
      refine w_lds (k := 7) d_67_52 (by rfl) ?_
      refine w_cVx (a := 20) (as := [_]) (rest := _) rfl d_67_54 (by rfl) (by rfl) (by first | rfl | assumption) (by rfl) (by rfl) (Nat.le_of_ble_eq_true rfl) (by omega) (by omega) (t_spellx hX hx hn hch hpl (k := 7) (by decide) (w := (fm (μ.2.2 (x + 1)) (μ.1 x 1) (μ.1 20 5) 7)) (by omega) (fun j j0 j1 => ⟨by omega, fp.2.1 j j0 j1⟩) (fun z => fp.2.2 (by omega) z.2) (by omega) (by omega) hr) ?_
      exact ⟨rfl, rfl⟩
    · exact absurd h31 (by omega)
  · exact absurd h8 (by omega)
theorem t_bareX1 {sc : Nat × (Nat → Int32)} {fr lo : Nat} {μ : Mem} {ρ : Nat × Nat × Nat} {x : Nat} (hX : x = 42 ∨ x = 44) (hx : μ.2.1 20 3 = .ref x) (hn : 0 ≤ μ.1 x 1 ∧ μ.1 x 1 ≤ 240) (hch : ∀ k, 0 ≤ μ.2.2 (x + 1) k ∧ μ.2.2 (x + 1) k < 65536) {t : Nat} (hT : isT t) (ht : μ.2.1 20 4 = .ref t) (hpn : 0 ≤ μ.1 20 5 ∧ μ.1 20 5 ≤ μ.1 x 1) (hok : (scn (μ.2.2 (x + 1)) (μ.1 20 5) (μ.1 x 1)).1 = false) (hf : 16 ≤ fr) (hl : 800 ≤ lo) (hr : 1 ≤ ρ.2.1 ∧ 6 ≤ ρ.2.2) : w_E sc fr lo 66 [.ref 20] (hp μ, ρ) (.inr (1, ρ.1)) (hp (stI (nu μ (scn (μ.2.2 (x + 1)) (μ.1 20 5) (μ.1 x 1)).2.1 ((scn (μ.2.2 (x + 1)) (μ.1 20 5) (μ.1 x 1)).2.2.1, (scn (μ.2.2 (x + 1)) (μ.1 20 5) (μ.1 x 1)).2.2.2)) 20 6 ((scn (μ.2.2 (x + 1)) (μ.1 20 5) (μ.1 x 1)).2.1)), ρ.1 + 1, ρ.2.1 - 1, ρ.2.2 - 6) := by
  obtain ⟨hT0, hT1, hT2, hT3, hT4, hT5, hT6, hT7, hT8⟩ := hT.sh
  have hT9 : t = 2 ∨ t = 11 ∨ t = 26 := hT
  obtain ⟨S, hS⟩ : ∃ S, S = (scn (μ.2.2 (x + 1)) (μ.1 20 5) (μ.1 x 1)) := ⟨_, rfl⟩
  have hLx : isL x 240 := Or.inl ⟨by omega, rfl⟩
  have sc0 : w_E sc (fr - 1) (lo - (19 + 5)) 61 [.ref 24, .ref x, .int (ji (μ.1 20 5)), .int (ji (μ.1 x 1))] (hp μ, ρ) (.inl (some (.int (ji (bi S.1))))) (hp (nu μ S.2.1 (S.2.2.1, S.2.2.2)), ρ) := by
    rw [hS]
    exact t_scan (sc := sc) (fr := fr - 1) (lo := lo - (19 + 5)) (μ := μ) (ρ := ρ) hLx hn (f := μ.1 20 5) (to := μ.1 x 1) (by omega) hch (by omega) (by omega)
  have b1 := bi_01 S.1
  have b2 := bi_01 S.2.2.1
  have st := scn_stop (R := μ.2.2 (x + 1)) (a := μ.1 20 5) (b := μ.1 x 1) hpn.2
  rw [← hS] at st hok ⊢
  have hXs : sh x = some (.inl (1, [4, 0])) ∧ sh (x + 1) = some (.inr (2, 240)) := by rcases hX with rfl | rfl <;> exact ⟨rfl, rfl⟩
  obtain ⟨hX0, hX1⟩ := hXs
  refine w_S.of (L0 := [some (.ref 20), none]) rfl rfl (Nat.le_of_ble_eq_true rfl) (by rfl) ?_
  refine w_ld d_66_0 rfl rfl rfl ?_
  refine w_gI d_66_1 (by rfl) (by first | rfl | assumption) (by rfl) (by first | exact nu_g1 | exact nu_g2 | exact nu_g0 | exact nu_o (by omega) | rfl) ?_
  refine w_st1 (L' := [_, _]) d_66_4 rfl (by decide) rfl (by decide) rfl ?_
  refine w_ld d_66_5 rfl rfl rfl ?_
  refine w_getF d_66_6 (by rfl) (by first | rfl | assumption) (by rfl) (by rfl) ?_
  refine w_ld d_66_9 rfl rfl rfl ?_
  refine w_getR d_66_10 (by rfl) (by first | rfl | assumption) (by rfl) (by assumption) ?_
  refine w_ld d_66_13 rfl rfl rfl ?_
  refine w_ld d_66_14 rfl rfl rfl ?_
  refine w_getR d_66_15 (by rfl) (by first | rfl | assumption) (by rfl) (by assumption) ?_
  refine w_gI d_66_18 (by rfl) (by first | rfl | assumption) (by rfl) (by first | exact nu_g1 | exact nu_g2 | exact nu_g0 | exact nu_o (by omega) | rfl) ?_
  refine w_cV1 (a := 24) (as := [_, _, _]) (rest := _) rfl d_66_21 (by rfl) (by rfl) (by first | rfl | assumption) (by rfl) (by rfl) (Nat.le_of_ble_eq_true rfl) (by omega) (by omega) sc0 ?_
  refine w_if_ne (g := 38) d_66_24 (by decide) (by omega) (fun h24 => ?_) (fun h24 => ?_)
  · exact absurd (bi_f.mpr hok) h24
  · refine w_ld d_66_27 rfl rfl rfl ?_
    refine w_ld d_66_28 rfl rfl rfl ?_
    refine w_getF d_66_29 (by rfl) (by first | rfl | assumption) (by rfl) (by rfl) ?_
    refine w_gI d_66_32 (by rfl) (by first | rfl | assumption) (by rfl) (by first | exact nu_g1 | exact nu_g2 | exact nu_g0 | exact nu_o (by omega) | rfl) ?_
    refine w_cVx (a := 20) (as := [_]) (rest := _) rfl d_66_35 (by rfl) (by rfl) (by first | rfl | assumption) (by rfl) (by rfl) (Nat.le_of_ble_eq_true rfl) (by omega) (by omega) (t_fail (μ := (nu μ S.2.1 (S.2.2.1, S.2.2.2))) hr (by omega) (by omega)) ?_
    exact ⟨rfl, rfl⟩
theorem t_bareX2 {sc : Nat × (Nat → Int32)} {fr lo : Nat} {μ : Mem} {ρ : Nat × Nat × Nat} {x : Nat} (hX : x = 42 ∨ x = 44) (hx : μ.2.1 20 3 = .ref x) (hn : 0 ≤ μ.1 x 1 ∧ μ.1 x 1 ≤ 240) (hch : ∀ k, 0 ≤ μ.2.2 (x + 1) k ∧ μ.2.2 (x + 1) k < 65536) {t : Nat} (hT : isT t) (ht : μ.2.1 20 4 = .ref t) (hpn : 0 ≤ μ.1 20 5 ∧ μ.1 20 5 ≤ μ.1 x 1) (hok : (scn (μ.2.2 (x + 1)) (μ.1 20 5) (μ.1 x 1)).1 = true ∧ (scn (μ.2.2 (x + 1)) (μ.1 20 5) (μ.1 x 1)).2.2.1 = false) (hf : 16 ≤ fr) (hl : 800 ≤ lo) (hr : 1 ≤ ρ.2.1 ∧ 6 ≤ ρ.2.2) : w_E sc fr lo 66 [.ref 20] (hp μ, ρ) (.inr (1, ρ.1)) (hp (stI (nu μ (scn (μ.2.2 (x + 1)) (μ.1 20 5) (μ.1 x 1)).2.1 ((scn (μ.2.2 (x + 1)) (μ.1 20 5) (μ.1 x 1)).2.2.1, (scn (μ.2.2 (x + 1)) (μ.1 20 5) (μ.1 x 1)).2.2.2)) 20 6 (μ.1 20 5)), ρ.1 + 1, ρ.2.1 - 1, ρ.2.2 - 6) := by
  obtain ⟨hT0, hT1, hT2, hT3, hT4, hT5, hT6, hT7, hT8⟩ := hT.sh
  have hT9 : t = 2 ∨ t = 11 ∨ t = 26 := hT
  obtain ⟨S, hS⟩ : ∃ S, S = (scn (μ.2.2 (x + 1)) (μ.1 20 5) (μ.1 x 1)) := ⟨_, rfl⟩
  have hLx : isL x 240 := Or.inl ⟨by omega, rfl⟩
  have sc0 : w_E sc (fr - 1) (lo - (19 + 5)) 61 [.ref 24, .ref x, .int (ji (μ.1 20 5)), .int (ji (μ.1 x 1))] (hp μ, ρ) (.inl (some (.int (ji (bi S.1))))) (hp (nu μ S.2.1 (S.2.2.1, S.2.2.2)), ρ) := by
    rw [hS]
    exact t_scan (sc := sc) (fr := fr - 1) (lo := lo - (19 + 5)) (μ := μ) (ρ := ρ) hLx hn (f := μ.1 20 5) (to := μ.1 x 1) (by omega) hch (by omega) (by omega)
  have b1 := bi_01 S.1
  have b2 := bi_01 S.2.2.1
  have st := scn_stop (R := μ.2.2 (x + 1)) (a := μ.1 20 5) (b := μ.1 x 1) hpn.2
  rw [← hS] at st hok ⊢
  have hXs : sh x = some (.inl (1, [4, 0])) ∧ sh (x + 1) = some (.inr (2, 240)) := by rcases hX with rfl | rfl <;> exact ⟨rfl, rfl⟩
  obtain ⟨hX0, hX1⟩ := hXs
  refine w_S.of (L0 := [some (.ref 20), none]) rfl rfl (Nat.le_of_ble_eq_true rfl) (by rfl) ?_
  refine w_ld d_66_0 rfl rfl rfl ?_
  refine w_gI d_66_1 (by rfl) (by first | rfl | assumption) (by rfl) (by first | exact nu_g1 | exact nu_g2 | exact nu_g0 | exact nu_o (by omega) | rfl) ?_
  refine w_st1 (L' := [_, _]) d_66_4 rfl (by decide) rfl (by decide) rfl ?_
  refine w_ld d_66_5 rfl rfl rfl ?_
  refine w_getF d_66_6 (by rfl) (by first | rfl | assumption) (by rfl) (by rfl) ?_
  refine w_ld d_66_9 rfl rfl rfl ?_
  refine w_getR d_66_10 (by rfl) (by first | rfl | assumption) (by rfl) (by assumption) ?_
  refine w_ld d_66_13 rfl rfl rfl ?_
  refine w_ld d_66_14 rfl rfl rfl ?_
  refine w_getR d_66_15 (by rfl) (by first | rfl | assumption) (by rfl) (by assumption) ?_
  refine w_gI d_66_18 (by rfl) (by first | rfl | assumption) (by rfl) (by first | exact nu_g1 | exact nu_g2 | exact nu_g0 | exact nu_o (by omega) | rfl) ?_
  refine w_cV1 (a := 24) (as := [_, _, _]) (rest := _) rfl d_66_21 (by rfl) (by rfl) (by first | rfl | assumption) (by rfl) (by rfl) (Nat.le_of_ble_eq_true rfl) (by omega) (by omega) sc0 ?_
  refine w_if_ne (g := 38) d_66_24 (by decide) (by omega) (fun h24 => ?_) (fun h24 => ?_)
  · refine w_ld d_66_38 rfl rfl rfl ?_
    refine w_getF d_66_39 (by rfl) (by first | rfl | assumption) (by rfl) (by rfl) ?_
    refine w_gI d_66_42 (by rfl) (by first | rfl | assumption) (by rfl) (show _ = bi S.2.2.1 from nu_g2) ?_
    refine w_if_ne (g := 53) d_66_45 (by decide) (by omega) (fun h45 => ?_) (fun h45 => ?_)
    · exact absurd (bi_f.mpr hok.2) h45
    · refine w_ld d_66_48 rfl rfl rfl ?_
      refine w_ld d_66_49 rfl rfl rfl ?_
      refine w_cVx (a := 20) (as := [_]) (rest := _) rfl d_66_50 (by rfl) (by rfl) (by first | rfl | assumption) (by rfl) (by rfl) (Nat.le_of_ble_eq_true rfl) (by omega) (by omega) (t_fail (μ := (nu μ S.2.1 (S.2.2.1, S.2.2.2))) hr (by omega) (by omega)) ?_
      exact ⟨rfl, rfl⟩
  · exact absurd (h24.symm.trans (bi_t.mpr hok.1)) (by decide)
theorem t_bare {sc : Nat × (Nat → Int32)} {fr lo : Nat} {μ : Mem} {ρ : Nat × Nat × Nat} {x : Nat} (hX : x = 42 ∨ x = 44) (hx : μ.2.1 20 3 = .ref x) (hn : 0 ≤ μ.1 x 1 ∧ μ.1 x 1 ≤ 240) (hch : ∀ k, 0 ≤ μ.2.2 (x + 1) k ∧ μ.2.2 (x + 1) k < 65536) {t : Nat} (hT : isT t) (ht : μ.2.1 20 4 = .ref t) (hpn : 0 ≤ μ.1 20 5 ∧ μ.1 20 5 ≤ μ.1 x 1) (hcn : 0 ≤ μ.1 t 7 ∧ μ.1 t 7 < 239) (hok : (scn (μ.2.2 (x + 1)) (μ.1 20 5) (μ.1 x 1)).1 = true ∧ (scn (μ.2.2 (x + 1)) (μ.1 20 5) (μ.1 x 1)).2.2.1 = true) (hf : 16 ≤ fr) (hl : 800 ≤ lo) : w_E sc fr lo 66 [.ref 20] (hp μ, ρ) (.inl none) (hp (adw (stI (nu μ (scn (μ.2.2 (x + 1)) (μ.1 20 5) (μ.1 x 1)).2.1 ((scn (μ.2.2 (x + 1)) (μ.1 20 5) (μ.1 x 1)).2.2.1, (scn (μ.2.2 (x + 1)) (μ.1 20 5) (μ.1 x 1)).2.2.2)) 20 5 (scn (μ.2.2 (x + 1)) (μ.1 20 5) (μ.1 x 1)).2.1) t 2 (scn (μ.2.2 (x + 1)) (μ.1 20 5) (μ.1 x 1)).2.2.2 0 0 (μ.1 20 5)), ρ) := by
  obtain ⟨hT0, hT1, hT2, hT3, hT4, hT5, hT6, hT7, hT8⟩ := hT.sh
  have hT9 : t = 2 ∨ t = 11 ∨ t = 26 := hT
  obtain ⟨S, hS⟩ : ∃ S, S = (scn (μ.2.2 (x + 1)) (μ.1 20 5) (μ.1 x 1)) := ⟨_, rfl⟩
  have hLx : isL x 240 := Or.inl ⟨by omega, rfl⟩
  have sc0 : w_E sc (fr - 1) (lo - (19 + 5)) 61 [.ref 24, .ref x, .int (ji (μ.1 20 5)), .int (ji (μ.1 x 1))] (hp μ, ρ) (.inl (some (.int (ji (bi S.1))))) (hp (nu μ S.2.1 (S.2.2.1, S.2.2.2)), ρ) := by
    rw [hS]
    exact t_scan (sc := sc) (fr := fr - 1) (lo := lo - (19 + 5)) (μ := μ) (ρ := ρ) hLx hn (f := μ.1 20 5) (to := μ.1 x 1) (by omega) hch (by omega) (by omega)
  have b1 := bi_01 S.1
  have b2 := bi_01 S.2.2.1
  have st := scn_stop (R := μ.2.2 (x + 1)) (a := μ.1 20 5) (b := μ.1 x 1) hpn.2
  rw [← hS] at st hok ⊢
  have hXs : sh x = some (.inl (1, [4, 0])) ∧ sh (x + 1) = some (.inr (2, 240)) := by rcases hX with rfl | rfl <;> exact ⟨rfl, rfl⟩
  obtain ⟨hX0, hX1⟩ := hXs
  refine w_S.of (L0 := [some (.ref 20), none]) rfl rfl (Nat.le_of_ble_eq_true rfl) (by rfl) ?_
  refine w_ld d_66_0 rfl rfl rfl ?_
  refine w_gI d_66_1 (by rfl) (by first | rfl | assumption) (by rfl) (by first | exact nu_g1 | exact nu_g2 | exact nu_g0 | exact nu_o (by omega) | rfl) ?_
  refine w_st1 (L' := [_, _]) d_66_4 rfl (by decide) rfl (by decide) rfl ?_
  refine w_ld d_66_5 rfl rfl rfl ?_
  refine w_getF d_66_6 (by rfl) (by first | rfl | assumption) (by rfl) (by rfl) ?_
  refine w_ld d_66_9 rfl rfl rfl ?_
  refine w_getR d_66_10 (by rfl) (by first | rfl | assumption) (by rfl) (by assumption) ?_
  refine w_ld d_66_13 rfl rfl rfl ?_
  refine w_ld d_66_14 rfl rfl rfl ?_
  refine w_getR d_66_15 (by rfl) (by first | rfl | assumption) (by rfl) (by assumption) ?_
  refine w_gI d_66_18 (by rfl) (by first | rfl | assumption) (by rfl) (by first | exact nu_g1 | exact nu_g2 | exact nu_g0 | exact nu_o (by omega) | rfl) ?_
  refine w_cV1 (a := 24) (as := [_, _, _]) (rest := _) rfl d_66_21 (by rfl) (by rfl) (by first | rfl | assumption) (by rfl) (by rfl) (Nat.le_of_ble_eq_true rfl) (by omega) (by omega) sc0 ?_
  refine w_if_ne (g := 38) d_66_24 (by decide) (by omega) (fun h24 => ?_) (fun h24 => ?_)
  · refine w_ld d_66_38 rfl rfl rfl ?_
    refine w_getF d_66_39 (by rfl) (by first | rfl | assumption) (by rfl) (by rfl) ?_
    refine w_gI d_66_42 (by rfl) (by first | rfl | assumption) (by rfl) (show _ = bi S.2.2.1 from nu_g2) ?_
    refine w_if_ne (g := 53) d_66_45 (by decide) (by omega) (fun h45 => ?_) (fun h45 => ?_)
    · refine w_ld d_66_53 rfl rfl rfl ?_
      refine w_ld d_66_54 rfl rfl rfl ?_
      refine w_getF d_66_55 (by rfl) (by first | rfl | assumption) (by rfl) (by rfl) ?_
      refine w_gI d_66_58 (by rfl) (by first | rfl | assumption) (by rfl) (by first | exact nu_g1 | exact nu_g2 | exact nu_g0 | exact nu_o (by omega) | rfl) ?_
      refine w_putI d_66_61 (by rfl) (by first | rfl | assumption) (by rfl) (fit_I (by rfl)) (by rfl) ?_
      refine w_ld d_66_64 rfl rfl rfl ?_
      refine w_con d_66_65 ?_
      refine w_ld d_66_66 rfl rfl rfl ?_
      refine w_getF d_66_67 (by rfl) (by first | rfl | assumption) (by rfl) (by rfl) ?_
      refine w_gJ d_66_70 (by rfl) (by first | rfl | assumption) (by rfl) (show _ = S.2.2.2 from rfl) ?_
      refine w_ld d_66_73 rfl rfl rfl ?_
      refine w_cV1 (a := 20) (as := [_, _, _]) (rest := _) rfl d_66_74 (by rfl) (by rfl) (by first | rfl | assumption) (by rfl) (by rfl) (Nat.le_of_ble_eq_true rfl) (by omega) (by omega) (t_radd (fr := fr - 1) (lo := lo - (19 + 6)) (μ := (stI (nu μ S.2.1 (S.2.2.1, S.2.2.2)) 20 5 S.2.1)) hT ht (by rw [stI_ne (by omega), nu_o (by omega)]; omega) (by omega) (by omega)) ?_
      refine w_stk d_66_77 rfl ?_
      refine w_ret d_66_78 rfl ?_
      exact ⟨rfl, rfl⟩
    · exact absurd (h45.symm.trans (bi_t.mpr hok.2)) (by decide)
  · exact absurd (h24.symm.trans (bi_t.mpr hok.1)) (by decide)
theorem apL_at {μ : Mem} {a : Nat} {l : List Int} : (apL μ a l).1 a 1 = μ.1 a 1 + l.length := by
  unfold apL
  exact if_pos ⟨rfl, rfl⟩
theorem apL_ne {μ : Mem} {a b q : Nat} {l : List Int} (h : ¬ (b = a ∧ q = 1)) : (apL μ a l).1 b q = μ.1 b q := by
  unfold apL
  exact if_neg h
/-- the memory when a word has been read, before it is looked at -/
def wM (μ : Mem) (t : Nat) (l : List Int) (q : Int) : Mem := stI (stI (stI (apL (stI (stI (stI μ 20 7 (μ.1 20 5)) 20 8 (μ.1 (t + 7) 1)) 20 5 (μ.1 20 5 + 1)) (t + 7) l) 20 5 q) 20 5 (q + 1)) 20 9 (μ.1 (t + 7) 1 + l.length - μ.1 (t + 7) 1)
def wM0 (μ : Mem) (t : Nat) : Mem := stI (stI (stI μ 20 7 (μ.1 20 5)) 20 8 (μ.1 (t + 7) 1)) 20 5 (μ.1 20 5 + 1)
theorem wM_8 {μ : Mem} {t : Nat} {l : List Int} {q : Int} (hT : isT t) : (wM μ t l q).1 20 8 = μ.1 (t + 7) 1 ∧ (wM μ t l q).1 20 9 = l.length ∧ (wM μ t l q).1 20 5 = q + 1 ∧ (wM μ t l q).1 20 7 = μ.1 20 5 ∧ (wM μ t l q).1 (t + 7) 1 = μ.1 (t + 7) 1 + l.length ∧ (∀ a b, a ≠ 20 → a ≠ t + 7 → (wM μ t l q).1 a b = μ.1 a b) ∧ (wM μ t l q).2.1 = μ.2.1 ∧ (∀ a, a ≠ t + 7 + 1 → (wM μ t l q).2.2 a = μ.2.2 a) := by
  have hT9 : t = 2 ∨ t = 11 ∨ t = 26 := hT
  unfold wM
  refine ⟨?_, ?_, ?_, ?_, ?_, fun a b h1 h2 => ?_, rfl, fun a h => ?_⟩
  · rw [stI_ne (by decide), stI_ne (by decide), stI_ne (by decide)]
    rw [apL_ne (by omega), stI_ne (by decide), stI_at]
  · rw [stI_at]
    omega
  · rw [stI_ne (by decide), stI_at]
  · rw [stI_ne (by decide), stI_ne (by decide), stI_ne (by decide)]
    rw [apL_ne (by omega), stI_ne (by decide), stI_ne (by decide), stI_at]
  · rw [stI_ne (by omega), stI_ne (by omega), stI_ne (by omega)]
    rw [apL_at, stI_ne (by omega), stI_ne (by omega), stI_ne (by omega)]
  · rw [stI_ne (by omega), stI_ne (by omega), stI_ne (by omega)]
    rw [apL_ne (by omega), stI_ne (by omega), stI_ne (by omega), stI_ne (by omega)]
  · funext i
    show (if a = t + 7 + 1 ∧ _ then _ else μ.2.2 a i) = μ.2.2 a i
    rw [if_neg (fun z => h z.1)]
theorem t_wordx1 {sc : Nat × (Nat → Int32)} {fr lo : Nat} {μ : Mem} {ρ : Nat × Nat × Nat} {x : Nat} (hX : x = 42 ∨ x = 44) (hx : μ.2.1 20 3 = .ref x) (hn : 0 ≤ μ.1 x 1 ∧ μ.1 x 1 ≤ 240) (hch : ∀ k, 0 ≤ μ.2.2 (x + 1) k ∧ μ.2.2 (x + 1) k < 65536) {t : Nat} (hT : isT t) (ht : μ.2.1 20 4 = .ref t) (hpn : 0 ≤ μ.1 20 5 ∧ μ.1 20 5 < μ.1 x 1) (hu : 0 ≤ μ.1 (t + 7) 1 ∧ μ.1 (t + 7) 1 ≤ μ.1 20 5) (hcw : ∀ k, 0 ≤ μ.2.2 (t + 7 + 1) k ∧ μ.2.2 (t + 7 + 1) k < 65536) (hnc : 0 ≤ μ.1 21 2 ∧ μ.1 21 2 ≤ 24) {key : Int} (hkey : key = 0 ∨ key = 1) (hf : 18 ≤ fr) (hl : 800 ≤ lo) (hr : 1 ≤ ρ.2.1 ∧ 6 ≤ ρ.2.2) {w : Int} (hrw : rw' (μ.2.2 (x + 1)) (μ.1 x 1) (μ.1 20 5 + 1) = .inl w) : w_S sc fr lo 40 [.ref 20, .int (ji key)] (hp μ, ρ) (fun o t' => o = .inr (1, ρ.1) ∧ ∃ μ', rwx t (wM0 μ t) μ' w ∧ t' = (hp μ', ρ.1 + 1, ρ.2.1 - 1, ρ.2.2 - 6)) := by
  have hXs : sh x = some (.inl (1, [4, 0])) ∧ sh (x + 1) = some (.inr (2, 240)) := by rcases hX with rfl | rfl <;> exact ⟨rfl, rfl⟩
  obtain ⟨hX0, hX1⟩ := hXs
  obtain ⟨hT0, hT1, hT2, hT3, hT4, hT5, hT6, hT7, hT8⟩ := hT.sh
  have hT9 : t = 2 ∨ t = 11 ∨ t = 26 := hT
  have m5 : (wM0 μ t).1 20 5 = μ.1 20 5 + 1 := stI_at _ _ _ _
  have mx : (wM0 μ t).1 x 1 = μ.1 x 1 := by unfold wM0; rw [stI_ne (by omega), stI_ne (by omega), stI_ne (by omega)]
  have mt : (wM0 μ t).1 (t + 7) 1 = μ.1 (t + 7) 1 := by unfold wM0; rw [stI_ne (by omega), stI_ne (by omega), stI_ne (by omega)]
  refine w_S.of (L0 := [some (.ref 20), some (.int (ji key)), none]) rfl rfl (Nat.le_of_ble_eq_true rfl) (by rfl) ?_
  refine w_ld d_40_0 rfl rfl rfl ?_
  refine w_ld d_40_1 rfl rfl rfl ?_
  refine w_gI d_40_2 (by rfl) (by first | rfl | assumption) (by rfl) (by first | exact stI_at _ _ _ _ | ((try simp only [stI, stA, stR, adw, and_self, if_true]) <;> (repeat first | rw [if_neg (by omega)] | rw [if_pos (by omega)]) <;> rfl)) ?_
  refine w_putI d_40_5 (by rfl) (by first | rfl | assumption) (by rfl) (fit_I (by rfl)) (by rfl) ?_
  refine w_ld d_40_8 rfl rfl rfl ?_
  refine w_ld d_40_9 rfl rfl rfl ?_
  refine w_getR d_40_10 (by rfl) (by first | rfl | assumption) (by rfl) (by first | assumption | (simp only [stI, stA, stR, adw]; assumption)) ?_
  refine w_getF d_40_13 (by rfl) (by first | rfl | assumption) (by rfl) (by rfl) ?_
  refine w_gI d_40_16 (by rfl) (by first | rfl | assumption) (by rfl) (by first | exact stI_at _ _ _ _ | ((try simp only [stI, stA, stR, adw, and_self, if_true]) <;> (repeat first | rw [if_neg (by omega)] | rw [if_pos (by omega)]) <;> rfl)) ?_
  refine w_putI d_40_19 (by rfl) (by first | rfl | assumption) (by rfl) (fit_I (by rfl)) (by rfl) ?_
  refine w_ld d_40_22 rfl rfl rfl ?_
  refine w_stk d_40_23 rfl ?_
  refine w_gI d_40_24 (by rfl) (by first | rfl | assumption) (by rfl) (by first | exact stI_at _ _ _ _ | ((try simp only [stI, stA, stR, adw, and_self, if_true]) <;> (repeat first | rw [if_neg (by omega)] | rw [if_pos (by omega)]) <;> rfl)) ?_
  refine w_con d_40_27 ?_
  refine w_iadd d_40_28 ?_
  refine w_putI d_40_29 (by rfl) (by first | rfl | assumption) (by rfl) (fit_I (by rfl)) (by rfl) ?_
  have HL := t_word_l (sc := sc) (fr := fr) (lo := lo) (ρ := ρ) hX hT (key := key) (Q := (fun o t' => o = .inr (1, ρ.1) ∧ ∃ μ', rwx t (wM0 μ t) μ' w ∧ t' = (hp μ', ρ.1 + 1, ρ.2.1 - 1, ρ.2.2 - 6))) (by omega) (by omega) hr _ (wM0 μ t) rfl hx ht (by rw [mx]; exact hn) hch (by rw [m5, mx]; omega) (by rw [mt, m5, mx]; omega)
  rw [m5, mx] at HL
  exact HL (fun q l h => absurd (hrw.symm.trans h) (by intro z; cases z)) (fun w' μ' h hw => by
    cases hrw.symm.trans h
    exact ⟨rfl, μ', hw, rfl⟩)
theorem t_wordC {sc : Nat × (Nat → Int32)} {fr lo : Nat} {μ : Mem} {ρ : Nat × Nat × Nat} {x : Nat} (hX : x = 42 ∨ x = 44) (hx : μ.2.1 20 3 = .ref x) (hn : 0 ≤ μ.1 x 1 ∧ μ.1 x 1 ≤ 240) (hch : ∀ k, 0 ≤ μ.2.2 (x + 1) k ∧ μ.2.2 (x + 1) k < 65536) {t : Nat} (hT : isT t) (ht : μ.2.1 20 4 = .ref t) (hpn : 0 ≤ μ.1 20 5 ∧ μ.1 20 5 < μ.1 x 1) (hu : 0 ≤ μ.1 (t + 7) 1 ∧ μ.1 (t + 7) 1 ≤ μ.1 20 5) (hcw : ∀ k, 0 ≤ μ.2.2 (t + 7 + 1) k ∧ μ.2.2 (t + 7 + 1) k < 65536) (hnc : 0 ≤ μ.1 21 2 ∧ μ.1 21 2 ≤ 24) {key : Int} (hkey : key = 0 ∨ key = 1) (hf : 18 ≤ fr) (hl : 800 ≤ lo) (hr : 1 ≤ ρ.2.1 ∧ 6 ≤ ρ.2.2) {q : Int} {l : List Int} (hrw : rw' (μ.2.2 (x + 1)) (μ.1 x 1) (μ.1 20 5 + 1) = .inr (q, l)) (hC : 0 ≤ (cod (fun i => (wM μ t l q).2.2 (t + 7 + 1) ((wM μ t l q).1 20 8 + i)) ((wM μ t l q).1 20 9)) ∧ (cod (fun i => (wM μ t l q).2.2 (t + 7 + 1) ((wM μ t l q).1 20 8 + i)) ((wM μ t l q).1 20 9)) < μ.1 21 2) : w_E sc fr lo 40 [.ref 20, .int (ji key)] (hp μ, ρ) (.inl none) (hp (stI (stI (wM μ t l q) 20 8 (μ.2.2 22 (cod (fun i => (wM μ t l q).2.2 (t + 7 + 1) ((wM μ t l q).1 20 8 + i)) ((wM μ t l q).1 20 9)))) 20 9 (μ.2.2 23 (cod (fun i => (wM μ t l q).2.2 (t + 7 + 1) ((wM μ t l q).1 20 8 + i)) ((wM μ t l q).1 20 9)))), ρ) := by
  have hXs : sh x = some (.inl (1, [4, 0])) ∧ sh (x + 1) = some (.inr (2, 240)) := by rcases hX with rfl | rfl <;> exact ⟨rfl, rfl⟩
  obtain ⟨hX0, hX1⟩ := hXs
  obtain ⟨hT0, hT1, hT2, hT3, hT4, hT5, hT6, hT7, hT8⟩ := hT.sh
  have hT9 : t = 2 ∨ t = 11 ∨ t = 26 := hT
  have m5 : (wM0 μ t).1 20 5 = μ.1 20 5 + 1 := stI_at _ _ _ _
  have mx : (wM0 μ t).1 x 1 = μ.1 x 1 := by unfold wM0; rw [stI_ne (by omega), stI_ne (by omega), stI_ne (by omega)]
  have mt : (wM0 μ t).1 (t + 7) 1 = μ.1 (t + 7) 1 := by unfold wM0; rw [stI_ne (by omega), stI_ne (by omega), stI_ne (by omega)]
  refine w_S.of (L0 := [some (.ref 20), some (.int (ji key)), none]) rfl rfl (Nat.le_of_ble_eq_true rfl) (by rfl) ?_
  refine w_ld d_40_0 rfl rfl rfl ?_
  refine w_ld d_40_1 rfl rfl rfl ?_
  refine w_gI d_40_2 (by rfl) (by first | rfl | assumption) (by rfl) (by first | exact stI_at _ _ _ _ | ((try simp only [stI, stA, stR, adw, and_self, if_true]) <;> (repeat first | rw [if_neg (by omega)] | rw [if_pos (by omega)]) <;> rfl)) ?_
  refine w_putI d_40_5 (by rfl) (by first | rfl | assumption) (by rfl) (fit_I (by rfl)) (by rfl) ?_
  refine w_ld d_40_8 rfl rfl rfl ?_
  refine w_ld d_40_9 rfl rfl rfl ?_
  refine w_getR d_40_10 (by rfl) (by first | rfl | assumption) (by rfl) (by first | assumption | (simp only [stI, stA, stR, adw]; assumption)) ?_
  refine w_getF d_40_13 (by rfl) (by first | rfl | assumption) (by rfl) (by rfl) ?_
  refine w_gI d_40_16 (by rfl) (by first | rfl | assumption) (by rfl) (by first | exact stI_at _ _ _ _ | ((try simp only [stI, stA, stR, adw, and_self, if_true]) <;> (repeat first | rw [if_neg (by omega)] | rw [if_pos (by omega)]) <;> rfl)) ?_
  refine w_putI d_40_19 (by rfl) (by first | rfl | assumption) (by rfl) (fit_I (by rfl)) (by rfl) ?_
  refine w_ld d_40_22 rfl rfl rfl ?_
  refine w_stk d_40_23 rfl ?_
  refine w_gI d_40_24 (by rfl) (by first | rfl | assumption) (by rfl) (by first | exact stI_at _ _ _ _ | ((try simp only [stI, stA, stR, adw, and_self, if_true]) <;> (repeat first | rw [if_neg (by omega)] | rw [if_pos (by omega)]) <;> rfl)) ?_
  refine w_con d_40_27 ?_
  refine w_iadd d_40_28 ?_
  refine w_putI d_40_29 (by rfl) (by first | rfl | assumption) (by rfl) (fit_I (by rfl)) (by rfl) ?_
  have HL := t_word_l (sc := sc) (fr := fr) (lo := lo) (ρ := ρ) hX hT (key := key) (Q := (fun o t' => o = .inl none ∧ t' = (hp (stI (stI (wM μ t l q) 20 8 (μ.2.2 22 (cod (fun i => (wM μ t l q).2.2 (t + 7 + 1) ((wM μ t l q).1 20 8 + i)) ((wM μ t l q).1 20 9)))) 20 9 (μ.2.2 23 (cod (fun i => (wM μ t l q).2.2 (t + 7 + 1) ((wM μ t l q).1 20 8 + i)) ((wM μ t l q).1 20 9)))), ρ))) (by omega) (by omega) hr _ (wM0 μ t) rfl hx ht (by rw [mx]; exact hn) hch (by rw [m5, mx]; omega) (by rw [mt, m5, mx]; omega)
  rw [m5, mx] at HL
  refine HL (fun q' l' h => ?_) (fun w' μ' h hw => absurd (hrw.symm.trans h) (by intro z; cases z))
  cases hrw.symm.trans h
  obtain ⟨k1, k2, k3, k4, k5, k6, k7, k8⟩ := wM_8 (μ := μ) (l := l) (q := q) hT
  have hlen := rw_len _ _ _ _ rfl hrw
  have d1 : (stI (apL (wM0 μ t) (t + 7) l) 20 5 q).1 20 5 = q := stI_at _ _ _ _
  have d2 : (stI (apL (wM0 μ t) (t + 7) l) 20 5 q).1 x 1 = μ.1 x 1 := by
    rw [stI_ne (by omega)]
    rw [apL_ne (by omega)]
    exact mx
  have d3 : (stI (apL (wM0 μ t) (t + 7) l) 20 5 q).2.2 (x + 1) = μ.2.2 (x + 1) := by
    funext i
    show (if x + 1 = t + 7 + 1 ∧ _ then _ else μ.2.2 (x + 1) i) = _
    rw [if_neg (by omega)]
  have d4 : (stI (stI (apL (wM0 μ t) (t + 7) l) 20 5 q) 20 5 (q + 1)).1 (t + 7) 1 = μ.1 (t + 7) 1 + l.length := by
    rw [stI_ne (by omega), stI_ne (by omega)]
    rw [apL_at, mt]
  have d5 : (stI (stI (apL (wM0 μ t) (t + 7) l) 20 5 q) 20 5 (q + 1)).1 20 8 = μ.1 (t + 7) 1 := by
    rw [stI_ne (by decide), stI_ne (by decide)]
    rw [apL_ne (by omega)]
    unfold wM0
    rw [stI_ne (by decide), stI_at]
  have hcw4 : ∀ k, 0 ≤ (wM μ t l q).2.2 (t + 7 + 1) k ∧ (wM μ t l q).2.2 (t + 7 + 1) k < 65536 := fun k => by
    show 0 ≤ (if t + 7 + 1 = t + 7 + 1 ∧ _ then _ else μ.2.2 (t + 7 + 1) k) ∧ (if t + 7 + 1 = t + 7 + 1 ∧ _ then _ else μ.2.2 (t + 7 + 1) k) < 65536
    split
    · rename_i hz
      rw [List.getD_eq_getElem?_getD]
      cases hg : l[(k - (stI (stI (stI μ 20 7 (μ.1 20 5)) 20 8 (μ.1 (t + 7) 1)) 20 5 (μ.1 20 5 + 1)).1 (t + 7) 1).toNat]? with
      | none => exact ⟨by decide, by decide⟩
      | some c =>
        obtain ⟨j, _, _, hj⟩ := hlen.2.2.2 c (List.mem_of_getElem? hg)
        show 0 ≤ c ∧ c < 65536
        rw [hj]
        exact hch j
    · exact hcw k
  have cod0 : w_E sc (fr - 1) (lo - (19 + 4)) 42 [.ref 20] (hp (wM μ t l q), ρ) (.inl (some (.int (ji (cod (fun i => (wM μ t l q).2.2 (t + 7 + 1) ((wM μ t l q).1 20 8 + i)) ((wM μ t l q).1 20 9)))))) (hp (wM μ t l q), ρ) := t_codeOfWord hT (by rw [k7]; exact ht) (by rw [k5]; omega) (by rw [k1, k2, k5]; omega) hcw4 (by omega) (by omega)
  have ci := cod_in (fun i => (wM μ t l q).2.2 (t + 7 + 1) ((wM μ t l q).1 20 8 + i)) ((wM μ t l q).1 20 9)
  refine w_ld d_40_138 rfl rfl rfl ?_
  refine w_bip d_40_139 (by decide) ?_
  refine w_cV0 (a := 20) (as := [_]) (rest := _) rfl d_40_141 (by rfl) (by rfl) (by first | rfl | assumption) (by rfl) (by rfl) (Nat.le_of_ble_eq_true rfl) (by omega) (by omega) (by have e := t_expect (sc := sc) (fr := fr - 1) (lo := lo - (19 + 2)) (μ := stI (apL (wM0 μ t) (t + 7) l) 20 5 q) (ρ := ρ) hX hx (by rw [d2]; exact hn) (by rw [d3]; exact hch) (by rw [d1]; omega) (c := 34) (by decide) (by rw [d1, d2, d3, if_pos ⟨by omega, hlen.2.1⟩]; exact hlen.2.2.1) (by omega) (by omega); rw [d1] at e; exact e) ?_
  refine w_ld d_40_144 rfl rfl rfl ?_
  refine w_ld d_40_145 rfl rfl rfl ?_
  refine w_getR d_40_146 (by rfl) (by first | rfl | assumption) (by rfl) (show _ = Value.ref t from ht) ?_
  refine w_getF d_40_149 (by rfl) (by first | rfl | assumption) (by rfl) (by rfl) ?_
  refine w_gI d_40_152 (by rfl) (by first | rfl | assumption) (by rfl) d4 ?_
  refine w_ld d_40_155 rfl rfl rfl ?_
  refine w_gI d_40_156 (by rfl) (by first | rfl | assumption) (by rfl) d5 ?_
  refine w_isub d_40_159 ?_
  refine w_putI d_40_160 (by rfl) (by first | rfl | assumption) (by rfl) (fit_I (by rfl)) (by rfl) ?_
  show w_P _ _ _ _ _ _ _ _ _ _ _ _ (hp (wM μ t l q), ρ) _
  refine w_ld d_40_163 rfl rfl rfl ?_
  refine w_cV1 (a := 20) (as := []) (rest := _) rfl d_40_164 (by rfl) (by rfl) (by first | rfl | assumption) (by rfl) (by rfl) (Nat.le_of_ble_eq_true rfl) (by omega) (by omega) cod0 ?_
  refine w_st1 (L' := [_, _, _]) d_40_167 rfl (by decide) rfl (by decide) rfl ?_
  refine w_ld d_40_168 rfl rfl rfl ?_
  refine w_con d_40_169 ?_
  refine w_icmp_eq (g := 181) d_40_170 (by decide) (by omega) (fun h170 => ?_) (fun h170 => ?_)
  · exact absurd h170 (by omega)
  · refine w_ld d_40_173 rfl rfl rfl ?_
    refine w_ld d_40_174 rfl rfl rfl ?_
    refine w_cV0 (a := 20) (as := [_]) (rest := _) rfl d_40_175 (by rfl) (by rfl) (by first | rfl | assumption) (by rfl) (by rfl) (Nat.le_of_ble_eq_true rfl) (by omega) (by omega) (t_decode (μ := (wM μ t l q)) (by rw [k6 21 2 (by decide) (by omega)]; omega)) ?_
    refine w_goto (g := 218) d_40_178 (by decide) ?_
    refine w_ret d_40_218 rfl ?_
    rw [k8 22 (by omega), k8 23 (by omega)]
    exact ⟨rfl, rfl⟩
theorem t_wordCx {sc : Nat × (Nat → Int32)} {fr lo : Nat} {μ : Mem} {ρ : Nat × Nat × Nat} {x : Nat} (hX : x = 42 ∨ x = 44) (hx : μ.2.1 20 3 = .ref x) (hn : 0 ≤ μ.1 x 1 ∧ μ.1 x 1 ≤ 240) (hch : ∀ k, 0 ≤ μ.2.2 (x + 1) k ∧ μ.2.2 (x + 1) k < 65536) {t : Nat} (hT : isT t) (ht : μ.2.1 20 4 = .ref t) (hpn : 0 ≤ μ.1 20 5 ∧ μ.1 20 5 < μ.1 x 1) (hu : 0 ≤ μ.1 (t + 7) 1 ∧ μ.1 (t + 7) 1 ≤ μ.1 20 5) (hcw : ∀ k, 0 ≤ μ.2.2 (t + 7 + 1) k ∧ μ.2.2 (t + 7 + 1) k < 65536) (hnc : 0 ≤ μ.1 21 2 ∧ μ.1 21 2 ≤ 24) {key : Int} (hkey : key = 0 ∨ key = 1) (hf : 18 ≤ fr) (hl : 800 ≤ lo) (hr : 1 ≤ ρ.2.1 ∧ 6 ≤ ρ.2.2) {q : Int} {l : List Int} (hrw : rw' (μ.2.2 (x + 1)) (μ.1 x 1) (μ.1 20 5 + 1) = .inr (q, l)) (hC : 0 ≤ (cod (fun i => (wM μ t l q).2.2 (t + 7 + 1) ((wM μ t l q).1 20 8 + i)) ((wM μ t l q).1 20 9)) ∧ μ.1 21 2 ≤ (cod (fun i => (wM μ t l q).2.2 (t + 7 + 1) ((wM μ t l q).1 20 8 + i)) ((wM μ t l q).1 20 9))) : w_E sc fr lo 40 [.ref 20, .int (ji key)] (hp μ, ρ) (.inr (1, ρ.1)) (hp (stI (wM μ t l q) 20 6 (μ.1 20 5)), ρ.1 + 1, ρ.2.1 - 1, ρ.2.2 - 6) := by
  have hXs : sh x = some (.inl (1, [4, 0])) ∧ sh (x + 1) = some (.inr (2, 240)) := by rcases hX with rfl | rfl <;> exact ⟨rfl, rfl⟩
  obtain ⟨hX0, hX1⟩ := hXs
  obtain ⟨hT0, hT1, hT2, hT3, hT4, hT5, hT6, hT7, hT8⟩ := hT.sh
  have hT9 : t = 2 ∨ t = 11 ∨ t = 26 := hT
  have m5 : (wM0 μ t).1 20 5 = μ.1 20 5 + 1 := stI_at _ _ _ _
  have mx : (wM0 μ t).1 x 1 = μ.1 x 1 := by unfold wM0; rw [stI_ne (by omega), stI_ne (by omega), stI_ne (by omega)]
  have mt : (wM0 μ t).1 (t + 7) 1 = μ.1 (t + 7) 1 := by unfold wM0; rw [stI_ne (by omega), stI_ne (by omega), stI_ne (by omega)]
  refine w_S.of (L0 := [some (.ref 20), some (.int (ji key)), none]) rfl rfl (Nat.le_of_ble_eq_true rfl) (by rfl) ?_
  refine w_ld d_40_0 rfl rfl rfl ?_
  refine w_ld d_40_1 rfl rfl rfl ?_
  refine w_gI d_40_2 (by rfl) (by first | rfl | assumption) (by rfl) (by first | exact stI_at _ _ _ _ | ((try simp only [stI, stA, stR, adw, and_self, if_true]) <;> (repeat first | rw [if_neg (by omega)] | rw [if_pos (by omega)]) <;> rfl)) ?_
  refine w_putI d_40_5 (by rfl) (by first | rfl | assumption) (by rfl) (fit_I (by rfl)) (by rfl) ?_
  refine w_ld d_40_8 rfl rfl rfl ?_
  refine w_ld d_40_9 rfl rfl rfl ?_
  refine w_getR d_40_10 (by rfl) (by first | rfl | assumption) (by rfl) (by first | assumption | (simp only [stI, stA, stR, adw]; assumption)) ?_
  refine w_getF d_40_13 (by rfl) (by first | rfl | assumption) (by rfl) (by rfl) ?_
  refine w_gI d_40_16 (by rfl) (by first | rfl | assumption) (by rfl) (by first | exact stI_at _ _ _ _ | ((try simp only [stI, stA, stR, adw, and_self, if_true]) <;> (repeat first | rw [if_neg (by omega)] | rw [if_pos (by omega)]) <;> rfl)) ?_
  refine w_putI d_40_19 (by rfl) (by first | rfl | assumption) (by rfl) (fit_I (by rfl)) (by rfl) ?_
  refine w_ld d_40_22 rfl rfl rfl ?_
  refine w_stk d_40_23 rfl ?_
  refine w_gI d_40_24 (by rfl) (by first | rfl | assumption) (by rfl) (by first | exact stI_at _ _ _ _ | ((try simp only [stI, stA, stR, adw, and_self, if_true]) <;> (repeat first | rw [if_neg (by omega)] | rw [if_pos (by omega)]) <;> rfl)) ?_
  refine w_con d_40_27 ?_
  refine w_iadd d_40_28 ?_
  refine w_putI d_40_29 (by rfl) (by first | rfl | assumption) (by rfl) (fit_I (by rfl)) (by rfl) ?_
  have HL := t_word_l (sc := sc) (fr := fr) (lo := lo) (ρ := ρ) hX hT (key := key) (Q := (fun o t' => o = .inr (1, ρ.1) ∧ t' = (hp (stI (wM μ t l q) 20 6 (μ.1 20 5)), ρ.1 + 1, ρ.2.1 - 1, ρ.2.2 - 6))) (by omega) (by omega) hr _ (wM0 μ t) rfl hx ht (by rw [mx]; exact hn) hch (by rw [m5, mx]; omega) (by rw [mt, m5, mx]; omega)
  rw [m5, mx] at HL
  refine HL (fun q' l' h => ?_) (fun w' μ' h hw => absurd (hrw.symm.trans h) (by intro z; cases z))
  cases hrw.symm.trans h
  obtain ⟨k1, k2, k3, k4, k5, k6, k7, k8⟩ := wM_8 (μ := μ) (l := l) (q := q) hT
  have hlen := rw_len _ _ _ _ rfl hrw
  have d1 : (stI (apL (wM0 μ t) (t + 7) l) 20 5 q).1 20 5 = q := stI_at _ _ _ _
  have d2 : (stI (apL (wM0 μ t) (t + 7) l) 20 5 q).1 x 1 = μ.1 x 1 := by
    rw [stI_ne (by omega)]
    rw [apL_ne (by omega)]
    exact mx
  have d3 : (stI (apL (wM0 μ t) (t + 7) l) 20 5 q).2.2 (x + 1) = μ.2.2 (x + 1) := by
    funext i
    show (if x + 1 = t + 7 + 1 ∧ _ then _ else μ.2.2 (x + 1) i) = _
    rw [if_neg (by omega)]
  have d4 : (stI (stI (apL (wM0 μ t) (t + 7) l) 20 5 q) 20 5 (q + 1)).1 (t + 7) 1 = μ.1 (t + 7) 1 + l.length := by
    rw [stI_ne (by omega), stI_ne (by omega)]
    rw [apL_at, mt]
  have d5 : (stI (stI (apL (wM0 μ t) (t + 7) l) 20 5 q) 20 5 (q + 1)).1 20 8 = μ.1 (t + 7) 1 := by
    rw [stI_ne (by decide), stI_ne (by decide)]
    rw [apL_ne (by omega)]
    unfold wM0
    rw [stI_ne (by decide), stI_at]
  have hcw4 : ∀ k, 0 ≤ (wM μ t l q).2.2 (t + 7 + 1) k ∧ (wM μ t l q).2.2 (t + 7 + 1) k < 65536 := fun k => by
    show 0 ≤ (if t + 7 + 1 = t + 7 + 1 ∧ _ then _ else μ.2.2 (t + 7 + 1) k) ∧ (if t + 7 + 1 = t + 7 + 1 ∧ _ then _ else μ.2.2 (t + 7 + 1) k) < 65536
    split
    · rename_i hz
      rw [List.getD_eq_getElem?_getD]
      cases hg : l[(k - (stI (stI (stI μ 20 7 (μ.1 20 5)) 20 8 (μ.1 (t + 7) 1)) 20 5 (μ.1 20 5 + 1)).1 (t + 7) 1).toNat]? with
      | none => exact ⟨by decide, by decide⟩
      | some c =>
        obtain ⟨j, _, _, hj⟩ := hlen.2.2.2 c (List.mem_of_getElem? hg)
        show 0 ≤ c ∧ c < 65536
        rw [hj]
        exact hch j
    · exact hcw k
  have cod0 : w_E sc (fr - 1) (lo - (19 + 4)) 42 [.ref 20] (hp (wM μ t l q), ρ) (.inl (some (.int (ji (cod (fun i => (wM μ t l q).2.2 (t + 7 + 1) ((wM μ t l q).1 20 8 + i)) ((wM μ t l q).1 20 9)))))) (hp (wM μ t l q), ρ) := t_codeOfWord hT (by rw [k7]; exact ht) (by rw [k5]; omega) (by rw [k1, k2, k5]; omega) hcw4 (by omega) (by omega)
  have ci := cod_in (fun i => (wM μ t l q).2.2 (t + 7 + 1) ((wM μ t l q).1 20 8 + i)) ((wM μ t l q).1 20 9)
  refine w_ld d_40_138 rfl rfl rfl ?_
  refine w_bip d_40_139 (by decide) ?_
  refine w_cV0 (a := 20) (as := [_]) (rest := _) rfl d_40_141 (by rfl) (by rfl) (by first | rfl | assumption) (by rfl) (by rfl) (Nat.le_of_ble_eq_true rfl) (by omega) (by omega) (by have e := t_expect (sc := sc) (fr := fr - 1) (lo := lo - (19 + 2)) (μ := stI (apL (wM0 μ t) (t + 7) l) 20 5 q) (ρ := ρ) hX hx (by rw [d2]; exact hn) (by rw [d3]; exact hch) (by rw [d1]; omega) (c := 34) (by decide) (by rw [d1, d2, d3, if_pos ⟨by omega, hlen.2.1⟩]; exact hlen.2.2.1) (by omega) (by omega); rw [d1] at e; exact e) ?_
  refine w_ld d_40_144 rfl rfl rfl ?_
  refine w_ld d_40_145 rfl rfl rfl ?_
  refine w_getR d_40_146 (by rfl) (by first | rfl | assumption) (by rfl) (show _ = Value.ref t from ht) ?_
  refine w_getF d_40_149 (by rfl) (by first | rfl | assumption) (by rfl) (by rfl) ?_
  refine w_gI d_40_152 (by rfl) (by first | rfl | assumption) (by rfl) d4 ?_
  refine w_ld d_40_155 rfl rfl rfl ?_
  refine w_gI d_40_156 (by rfl) (by first | rfl | assumption) (by rfl) d5 ?_
  refine w_isub d_40_159 ?_
  refine w_putI d_40_160 (by rfl) (by first | rfl | assumption) (by rfl) (fit_I (by rfl)) (by rfl) ?_
  show w_P _ _ _ _ _ _ _ _ _ _ _ _ (hp (wM μ t l q), ρ) _
  refine w_ld d_40_163 rfl rfl rfl ?_
  refine w_cV1 (a := 20) (as := []) (rest := _) rfl d_40_164 (by rfl) (by rfl) (by first | rfl | assumption) (by rfl) (by rfl) (Nat.le_of_ble_eq_true rfl) (by omega) (by omega) cod0 ?_
  refine w_st1 (L' := [_, _, _]) d_40_167 rfl (by decide) rfl (by decide) rfl ?_
  refine w_ld d_40_168 rfl rfl rfl ?_
  refine w_con d_40_169 ?_
  refine w_icmp_eq (g := 181) d_40_170 (by decide) (by omega) (fun h170 => ?_) (fun h170 => ?_)
  · exact absurd h170 (by omega)
  · refine w_ld d_40_173 rfl rfl rfl ?_
    refine w_ld d_40_174 rfl rfl rfl ?_
    refine w_cVx (a := 20) (as := [_]) (rest := _) rfl d_40_175 (by rfl) (by rfl) (by first | rfl | assumption) (by rfl) (by rfl) (Nat.le_of_ble_eq_true rfl) (by omega) (by omega) (t_decodex (μ := (wM μ t l q)) (by omega) (by rw [k6 21 2 (by decide) (by omega)]; omega) (by omega) (by omega) hr) ?_
    rw [k4]
    exact ⟨rfl, rfl⟩
theorem t_word0 {sc : Nat × (Nat → Int32)} {fr lo : Nat} {μ : Mem} {ρ : Nat × Nat × Nat} {x : Nat} (hX : x = 42 ∨ x = 44) (hx : μ.2.1 20 3 = .ref x) (hn : 0 ≤ μ.1 x 1 ∧ μ.1 x 1 ≤ 240) (hch : ∀ k, 0 ≤ μ.2.2 (x + 1) k ∧ μ.2.2 (x + 1) k < 65536) {t : Nat} (hT : isT t) (ht : μ.2.1 20 4 = .ref t) (hpn : 0 ≤ μ.1 20 5 ∧ μ.1 20 5 < μ.1 x 1) (hu : 0 ≤ μ.1 (t + 7) 1 ∧ μ.1 (t + 7) 1 ≤ μ.1 20 5) (hcw : ∀ k, 0 ≤ μ.2.2 (t + 7 + 1) k ∧ μ.2.2 (t + 7 + 1) k < 65536) (hnc : 0 ≤ μ.1 21 2 ∧ μ.1 21 2 ≤ 24) {key : Int} (hkey : key = 0 ∨ key = 1) (hf : 18 ≤ fr) (hl : 800 ≤ lo) (hr : 1 ≤ ρ.2.1 ∧ 6 ≤ ρ.2.2) {q : Int} {l : List Int} (hrw : rw' (μ.2.2 (x + 1)) (μ.1 x 1) (μ.1 20 5 + 1) = .inr (q, l)) (hC : (cod (fun i => (wM μ t l q).2.2 (t + 7 + 1) ((wM μ t l q).1 20 8 + i)) ((wM μ t l q).1 20 9)) = -1) (hK : ¬ (tks (fun i => (wM μ t l q).2.2 (t + 7 + 1) ((wM μ t l q).1 20 8 + i)) ((wM μ t l q).1 20 9) key)) : w_E sc fr lo 40 [.ref 20, .int (ji key)] (hp μ, ρ) (.inl none) (hp (wM μ t l q), ρ) := by
  have hXs : sh x = some (.inl (1, [4, 0])) ∧ sh (x + 1) = some (.inr (2, 240)) := by rcases hX with rfl | rfl <;> exact ⟨rfl, rfl⟩
  obtain ⟨hX0, hX1⟩ := hXs
  obtain ⟨hT0, hT1, hT2, hT3, hT4, hT5, hT6, hT7, hT8⟩ := hT.sh
  have hT9 : t = 2 ∨ t = 11 ∨ t = 26 := hT
  have m5 : (wM0 μ t).1 20 5 = μ.1 20 5 + 1 := stI_at _ _ _ _
  have mx : (wM0 μ t).1 x 1 = μ.1 x 1 := by unfold wM0; rw [stI_ne (by omega), stI_ne (by omega), stI_ne (by omega)]
  have mt : (wM0 μ t).1 (t + 7) 1 = μ.1 (t + 7) 1 := by unfold wM0; rw [stI_ne (by omega), stI_ne (by omega), stI_ne (by omega)]
  refine w_S.of (L0 := [some (.ref 20), some (.int (ji key)), none]) rfl rfl (Nat.le_of_ble_eq_true rfl) (by rfl) ?_
  refine w_ld d_40_0 rfl rfl rfl ?_
  refine w_ld d_40_1 rfl rfl rfl ?_
  refine w_gI d_40_2 (by rfl) (by first | rfl | assumption) (by rfl) (by first | exact stI_at _ _ _ _ | ((try simp only [stI, stA, stR, adw, and_self, if_true]) <;> (repeat first | rw [if_neg (by omega)] | rw [if_pos (by omega)]) <;> rfl)) ?_
  refine w_putI d_40_5 (by rfl) (by first | rfl | assumption) (by rfl) (fit_I (by rfl)) (by rfl) ?_
  refine w_ld d_40_8 rfl rfl rfl ?_
  refine w_ld d_40_9 rfl rfl rfl ?_
  refine w_getR d_40_10 (by rfl) (by first | rfl | assumption) (by rfl) (by first | assumption | (simp only [stI, stA, stR, adw]; assumption)) ?_
  refine w_getF d_40_13 (by rfl) (by first | rfl | assumption) (by rfl) (by rfl) ?_
  refine w_gI d_40_16 (by rfl) (by first | rfl | assumption) (by rfl) (by first | exact stI_at _ _ _ _ | ((try simp only [stI, stA, stR, adw, and_self, if_true]) <;> (repeat first | rw [if_neg (by omega)] | rw [if_pos (by omega)]) <;> rfl)) ?_
  refine w_putI d_40_19 (by rfl) (by first | rfl | assumption) (by rfl) (fit_I (by rfl)) (by rfl) ?_
  refine w_ld d_40_22 rfl rfl rfl ?_
  refine w_stk d_40_23 rfl ?_
  refine w_gI d_40_24 (by rfl) (by first | rfl | assumption) (by rfl) (by first | exact stI_at _ _ _ _ | ((try simp only [stI, stA, stR, adw, and_self, if_true]) <;> (repeat first | rw [if_neg (by omega)] | rw [if_pos (by omega)]) <;> rfl)) ?_
  refine w_con d_40_27 ?_
  refine w_iadd d_40_28 ?_
  refine w_putI d_40_29 (by rfl) (by first | rfl | assumption) (by rfl) (fit_I (by rfl)) (by rfl) ?_
  have HL := t_word_l (sc := sc) (fr := fr) (lo := lo) (ρ := ρ) hX hT (key := key) (Q := (fun o t' => o = .inl none ∧ t' = (hp (wM μ t l q), ρ))) (by omega) (by omega) hr _ (wM0 μ t) rfl hx ht (by rw [mx]; exact hn) hch (by rw [m5, mx]; omega) (by rw [mt, m5, mx]; omega)
  rw [m5, mx] at HL
  refine HL (fun q' l' h => ?_) (fun w' μ' h hw => absurd (hrw.symm.trans h) (by intro z; cases z))
  cases hrw.symm.trans h
  obtain ⟨k1, k2, k3, k4, k5, k6, k7, k8⟩ := wM_8 (μ := μ) (l := l) (q := q) hT
  have hlen := rw_len _ _ _ _ rfl hrw
  have d1 : (stI (apL (wM0 μ t) (t + 7) l) 20 5 q).1 20 5 = q := stI_at _ _ _ _
  have d2 : (stI (apL (wM0 μ t) (t + 7) l) 20 5 q).1 x 1 = μ.1 x 1 := by
    rw [stI_ne (by omega)]
    rw [apL_ne (by omega)]
    exact mx
  have d3 : (stI (apL (wM0 μ t) (t + 7) l) 20 5 q).2.2 (x + 1) = μ.2.2 (x + 1) := by
    funext i
    show (if x + 1 = t + 7 + 1 ∧ _ then _ else μ.2.2 (x + 1) i) = _
    rw [if_neg (by omega)]
  have d4 : (stI (stI (apL (wM0 μ t) (t + 7) l) 20 5 q) 20 5 (q + 1)).1 (t + 7) 1 = μ.1 (t + 7) 1 + l.length := by
    rw [stI_ne (by omega), stI_ne (by omega)]
    rw [apL_at, mt]
  have d5 : (stI (stI (apL (wM0 μ t) (t + 7) l) 20 5 q) 20 5 (q + 1)).1 20 8 = μ.1 (t + 7) 1 := by
    rw [stI_ne (by decide), stI_ne (by decide)]
    rw [apL_ne (by omega)]
    unfold wM0
    rw [stI_ne (by decide), stI_at]
  have hcw4 : ∀ k, 0 ≤ (wM μ t l q).2.2 (t + 7 + 1) k ∧ (wM μ t l q).2.2 (t + 7 + 1) k < 65536 := fun k => by
    show 0 ≤ (if t + 7 + 1 = t + 7 + 1 ∧ _ then _ else μ.2.2 (t + 7 + 1) k) ∧ (if t + 7 + 1 = t + 7 + 1 ∧ _ then _ else μ.2.2 (t + 7 + 1) k) < 65536
    split
    · rename_i hz
      rw [List.getD_eq_getElem?_getD]
      cases hg : l[(k - (stI (stI (stI μ 20 7 (μ.1 20 5)) 20 8 (μ.1 (t + 7) 1)) 20 5 (μ.1 20 5 + 1)).1 (t + 7) 1).toNat]? with
      | none => exact ⟨by decide, by decide⟩
      | some c =>
        obtain ⟨j, _, _, hj⟩ := hlen.2.2.2 c (List.mem_of_getElem? hg)
        show 0 ≤ c ∧ c < 65536
        rw [hj]
        exact hch j
    · exact hcw k
  have cod0 : w_E sc (fr - 1) (lo - (19 + 4)) 42 [.ref 20] (hp (wM μ t l q), ρ) (.inl (some (.int (ji (cod (fun i => (wM μ t l q).2.2 (t + 7 + 1) ((wM μ t l q).1 20 8 + i)) ((wM μ t l q).1 20 9)))))) (hp (wM μ t l q), ρ) := t_codeOfWord hT (by rw [k7]; exact ht) (by rw [k5]; omega) (by rw [k1, k2, k5]; omega) hcw4 (by omega) (by omega)
  have ci := cod_in (fun i => (wM μ t l q).2.2 (t + 7 + 1) ((wM μ t l q).1 20 8 + i)) ((wM μ t l q).1 20 9)
  refine w_ld d_40_138 rfl rfl rfl ?_
  refine w_bip d_40_139 (by decide) ?_
  refine w_cV0 (a := 20) (as := [_]) (rest := _) rfl d_40_141 (by rfl) (by rfl) (by first | rfl | assumption) (by rfl) (by rfl) (Nat.le_of_ble_eq_true rfl) (by omega) (by omega) (by have e := t_expect (sc := sc) (fr := fr - 1) (lo := lo - (19 + 2)) (μ := stI (apL (wM0 μ t) (t + 7) l) 20 5 q) (ρ := ρ) hX hx (by rw [d2]; exact hn) (by rw [d3]; exact hch) (by rw [d1]; omega) (c := 34) (by decide) (by rw [d1, d2, d3, if_pos ⟨by omega, hlen.2.1⟩]; exact hlen.2.2.1) (by omega) (by omega); rw [d1] at e; exact e) ?_
  refine w_ld d_40_144 rfl rfl rfl ?_
  refine w_ld d_40_145 rfl rfl rfl ?_
  refine w_getR d_40_146 (by rfl) (by first | rfl | assumption) (by rfl) (show _ = Value.ref t from ht) ?_
  refine w_getF d_40_149 (by rfl) (by first | rfl | assumption) (by rfl) (by rfl) ?_
  refine w_gI d_40_152 (by rfl) (by first | rfl | assumption) (by rfl) d4 ?_
  refine w_ld d_40_155 rfl rfl rfl ?_
  refine w_gI d_40_156 (by rfl) (by first | rfl | assumption) (by rfl) d5 ?_
  refine w_isub d_40_159 ?_
  refine w_putI d_40_160 (by rfl) (by first | rfl | assumption) (by rfl) (fit_I (by rfl)) (by rfl) ?_
  show w_P _ _ _ _ _ _ _ _ _ _ _ _ (hp (wM μ t l q), ρ) _
  refine w_ld d_40_163 rfl rfl rfl ?_
  refine w_cV1 (a := 20) (as := []) (rest := _) rfl d_40_164 (by rfl) (by rfl) (by first | rfl | assumption) (by rfl) (by rfl) (Nat.le_of_ble_eq_true rfl) (by omega) (by omega) cod0 ?_
  refine w_st1 (L' := [_, _, _]) d_40_167 rfl (by decide) rfl (by decide) rfl ?_
  refine w_ld d_40_168 rfl rfl rfl ?_
  refine w_con d_40_169 ?_
  refine w_icmp_eq (g := 181) d_40_170 (by decide) (by omega) (fun h170 => ?_) (fun h170 => ?_)
  · refine w_ld d_40_181 rfl rfl rfl ?_
    refine w_getR d_40_182 (by rfl) (by first | rfl | assumption) (by rfl) (show _ = Value.ref t from ht) ?_
    refine w_getF d_40_185 (by rfl) (by first | rfl | assumption) (by rfl) (by rfl) ?_
    refine w_ld d_40_188 rfl rfl rfl ?_
    refine w_gI d_40_189 (by rfl) (by first | rfl | assumption) (by rfl) rfl ?_
    refine w_ld d_40_192 rfl rfl rfl ?_
    refine w_gI d_40_193 (by rfl) (by first | rfl | assumption) (by rfl) rfl ?_
    refine w_ld d_40_196 rfl rfl rfl ?_
    refine w_cS1 (as := [_, _, _, _]) (rest := _) rfl d_40_197 (by rfl) (by rfl) (by rfl) (by rfl) (Nat.le_of_ble_eq_true rfl) (by omega) (by omega) (t_takes (μ := (wM μ t l q)) hT.toL (by rw [k5]; omega) (by rw [k1, k2, k5]; omega) hkey hcw4 (by omega) (by omega)) ?_
    refine w_if_eq (g := 218) d_40_200 (by decide) (b01_in _) (fun h200 => ?_) (fun h200 => ?_)
    · refine w_ret d_40_218 rfl ?_
      exact ⟨rfl, rfl⟩
    · exact absurd (b01_f hK) h200
  · exact absurd hC h170
theorem t_wordN {sc : Nat × (Nat → Int32)} {fr lo : Nat} {μ : Mem} {ρ : Nat × Nat × Nat} {x : Nat} (hX : x = 42 ∨ x = 44) (hx : μ.2.1 20 3 = .ref x) (hn : 0 ≤ μ.1 x 1 ∧ μ.1 x 1 ≤ 240) (hch : ∀ k, 0 ≤ μ.2.2 (x + 1) k ∧ μ.2.2 (x + 1) k < 65536) {t : Nat} (hT : isT t) (ht : μ.2.1 20 4 = .ref t) (hpn : 0 ≤ μ.1 20 5 ∧ μ.1 20 5 < μ.1 x 1) (hu : 0 ≤ μ.1 (t + 7) 1 ∧ μ.1 (t + 7) 1 ≤ μ.1 20 5) (hcw : ∀ k, 0 ≤ μ.2.2 (t + 7 + 1) k ∧ μ.2.2 (t + 7 + 1) k < 65536) (hnc : 0 ≤ μ.1 21 2 ∧ μ.1 21 2 ≤ 24) {key : Int} (hkey : key = 0 ∨ key = 1) (hf : 18 ≤ fr) (hl : 800 ≤ lo) (hr : 1 ≤ ρ.2.1 ∧ 6 ≤ ρ.2.2) {q : Int} {l : List Int} (hrw : rw' (μ.2.2 (x + 1)) (μ.1 x 1) (μ.1 20 5 + 1) = .inr (q, l)) (hC : (cod (fun i => (wM μ t l q).2.2 (t + 7 + 1) ((wM μ t l q).1 20 8 + i)) ((wM μ t l q).1 20 9)) = -1) (hK : (tks (fun i => (wM μ t l q).2.2 (t + 7 + 1) ((wM μ t l q).1 20 8 + i)) ((wM μ t l q).1 20 9) key)) (h24 : μ.1 21 2 < 24) : w_E sc fr lo 40 [.ref 20, .int (ji key)] (hp μ, ρ) (.inl none) (hp (stI (stA (stA (wM μ t l q) 22 (μ.1 21 2) (μ.1 (t + 7) 1)) 23 (μ.1 21 2) l.length) 21 2 (μ.1 21 2 + 1)), ρ) := by
  have hXs : sh x = some (.inl (1, [4, 0])) ∧ sh (x + 1) = some (.inr (2, 240)) := by rcases hX with rfl | rfl <;> exact ⟨rfl, rfl⟩
  obtain ⟨hX0, hX1⟩ := hXs
  obtain ⟨hT0, hT1, hT2, hT3, hT4, hT5, hT6, hT7, hT8⟩ := hT.sh
  have hT9 : t = 2 ∨ t = 11 ∨ t = 26 := hT
  have m5 : (wM0 μ t).1 20 5 = μ.1 20 5 + 1 := stI_at _ _ _ _
  have mx : (wM0 μ t).1 x 1 = μ.1 x 1 := by unfold wM0; rw [stI_ne (by omega), stI_ne (by omega), stI_ne (by omega)]
  have mt : (wM0 μ t).1 (t + 7) 1 = μ.1 (t + 7) 1 := by unfold wM0; rw [stI_ne (by omega), stI_ne (by omega), stI_ne (by omega)]
  refine w_S.of (L0 := [some (.ref 20), some (.int (ji key)), none]) rfl rfl (Nat.le_of_ble_eq_true rfl) (by rfl) ?_
  refine w_ld d_40_0 rfl rfl rfl ?_
  refine w_ld d_40_1 rfl rfl rfl ?_
  refine w_gI d_40_2 (by rfl) (by first | rfl | assumption) (by rfl) (by first | exact stI_at _ _ _ _ | ((try simp only [stI, stA, stR, adw, and_self, if_true]) <;> (repeat first | rw [if_neg (by omega)] | rw [if_pos (by omega)]) <;> rfl)) ?_
  refine w_putI d_40_5 (by rfl) (by first | rfl | assumption) (by rfl) (fit_I (by rfl)) (by rfl) ?_
  refine w_ld d_40_8 rfl rfl rfl ?_
  refine w_ld d_40_9 rfl rfl rfl ?_
  refine w_getR d_40_10 (by rfl) (by first | rfl | assumption) (by rfl) (by first | assumption | (simp only [stI, stA, stR, adw]; assumption)) ?_
  refine w_getF d_40_13 (by rfl) (by first | rfl | assumption) (by rfl) (by rfl) ?_
  refine w_gI d_40_16 (by rfl) (by first | rfl | assumption) (by rfl) (by first | exact stI_at _ _ _ _ | ((try simp only [stI, stA, stR, adw, and_self, if_true]) <;> (repeat first | rw [if_neg (by omega)] | rw [if_pos (by omega)]) <;> rfl)) ?_
  refine w_putI d_40_19 (by rfl) (by first | rfl | assumption) (by rfl) (fit_I (by rfl)) (by rfl) ?_
  refine w_ld d_40_22 rfl rfl rfl ?_
  refine w_stk d_40_23 rfl ?_
  refine w_gI d_40_24 (by rfl) (by first | rfl | assumption) (by rfl) (by first | exact stI_at _ _ _ _ | ((try simp only [stI, stA, stR, adw, and_self, if_true]) <;> (repeat first | rw [if_neg (by omega)] | rw [if_pos (by omega)]) <;> rfl)) ?_
  refine w_con d_40_27 ?_
  refine w_iadd d_40_28 ?_
  refine w_putI d_40_29 (by rfl) (by first | rfl | assumption) (by rfl) (fit_I (by rfl)) (by rfl) ?_
  have HL := t_word_l (sc := sc) (fr := fr) (lo := lo) (ρ := ρ) hX hT (key := key) (Q := (fun o t' => o = .inl none ∧ t' = (hp (stI (stA (stA (wM μ t l q) 22 (μ.1 21 2) (μ.1 (t + 7) 1)) 23 (μ.1 21 2) l.length) 21 2 (μ.1 21 2 + 1)), ρ))) (by omega) (by omega) hr _ (wM0 μ t) rfl hx ht (by rw [mx]; exact hn) hch (by rw [m5, mx]; omega) (by rw [mt, m5, mx]; omega)
  rw [m5, mx] at HL
  refine HL (fun q' l' h => ?_) (fun w' μ' h hw => absurd (hrw.symm.trans h) (by intro z; cases z))
  cases hrw.symm.trans h
  obtain ⟨k1, k2, k3, k4, k5, k6, k7, k8⟩ := wM_8 (μ := μ) (l := l) (q := q) hT
  have hlen := rw_len _ _ _ _ rfl hrw
  have d1 : (stI (apL (wM0 μ t) (t + 7) l) 20 5 q).1 20 5 = q := stI_at _ _ _ _
  have d2 : (stI (apL (wM0 μ t) (t + 7) l) 20 5 q).1 x 1 = μ.1 x 1 := by
    rw [stI_ne (by omega)]
    rw [apL_ne (by omega)]
    exact mx
  have d3 : (stI (apL (wM0 μ t) (t + 7) l) 20 5 q).2.2 (x + 1) = μ.2.2 (x + 1) := by
    funext i
    show (if x + 1 = t + 7 + 1 ∧ _ then _ else μ.2.2 (x + 1) i) = _
    rw [if_neg (by omega)]
  have d4 : (stI (stI (apL (wM0 μ t) (t + 7) l) 20 5 q) 20 5 (q + 1)).1 (t + 7) 1 = μ.1 (t + 7) 1 + l.length := by
    rw [stI_ne (by omega), stI_ne (by omega)]
    rw [apL_at, mt]
  have d5 : (stI (stI (apL (wM0 μ t) (t + 7) l) 20 5 q) 20 5 (q + 1)).1 20 8 = μ.1 (t + 7) 1 := by
    rw [stI_ne (by decide), stI_ne (by decide)]
    rw [apL_ne (by omega)]
    unfold wM0
    rw [stI_ne (by decide), stI_at]
  have hcw4 : ∀ k, 0 ≤ (wM μ t l q).2.2 (t + 7 + 1) k ∧ (wM μ t l q).2.2 (t + 7 + 1) k < 65536 := fun k => by
    show 0 ≤ (if t + 7 + 1 = t + 7 + 1 ∧ _ then _ else μ.2.2 (t + 7 + 1) k) ∧ (if t + 7 + 1 = t + 7 + 1 ∧ _ then _ else μ.2.2 (t + 7 + 1) k) < 65536
    split
    · rename_i hz
      rw [List.getD_eq_getElem?_getD]
      cases hg : l[(k - (stI (stI (stI μ 20 7 (μ.1 20 5)) 20 8 (μ.1 (t + 7) 1)) 20 5 (μ.1 20 5 + 1)).1 (t + 7) 1).toNat]? with
      | none => exact ⟨by decide, by decide⟩
      | some c =>
        obtain ⟨j, _, _, hj⟩ := hlen.2.2.2 c (List.mem_of_getElem? hg)
        show 0 ≤ c ∧ c < 65536
        rw [hj]
        exact hch j
    · exact hcw k
  have cod0 : w_E sc (fr - 1) (lo - (19 + 4)) 42 [.ref 20] (hp (wM μ t l q), ρ) (.inl (some (.int (ji (cod (fun i => (wM μ t l q).2.2 (t + 7 + 1) ((wM μ t l q).1 20 8 + i)) ((wM μ t l q).1 20 9)))))) (hp (wM μ t l q), ρ) := t_codeOfWord hT (by rw [k7]; exact ht) (by rw [k5]; omega) (by rw [k1, k2, k5]; omega) hcw4 (by omega) (by omega)
  have ci := cod_in (fun i => (wM μ t l q).2.2 (t + 7 + 1) ((wM μ t l q).1 20 8 + i)) ((wM μ t l q).1 20 9)
  refine w_ld d_40_138 rfl rfl rfl ?_
  refine w_bip d_40_139 (by decide) ?_
  refine w_cV0 (a := 20) (as := [_]) (rest := _) rfl d_40_141 (by rfl) (by rfl) (by first | rfl | assumption) (by rfl) (by rfl) (Nat.le_of_ble_eq_true rfl) (by omega) (by omega) (by have e := t_expect (sc := sc) (fr := fr - 1) (lo := lo - (19 + 2)) (μ := stI (apL (wM0 μ t) (t + 7) l) 20 5 q) (ρ := ρ) hX hx (by rw [d2]; exact hn) (by rw [d3]; exact hch) (by rw [d1]; omega) (c := 34) (by decide) (by rw [d1, d2, d3, if_pos ⟨by omega, hlen.2.1⟩]; exact hlen.2.2.1) (by omega) (by omega); rw [d1] at e; exact e) ?_
  refine w_ld d_40_144 rfl rfl rfl ?_
  refine w_ld d_40_145 rfl rfl rfl ?_
  refine w_getR d_40_146 (by rfl) (by first | rfl | assumption) (by rfl) (show _ = Value.ref t from ht) ?_
  refine w_getF d_40_149 (by rfl) (by first | rfl | assumption) (by rfl) (by rfl) ?_
  refine w_gI d_40_152 (by rfl) (by first | rfl | assumption) (by rfl) d4 ?_
  refine w_ld d_40_155 rfl rfl rfl ?_
  refine w_gI d_40_156 (by rfl) (by first | rfl | assumption) (by rfl) d5 ?_
  refine w_isub d_40_159 ?_
  refine w_putI d_40_160 (by rfl) (by first | rfl | assumption) (by rfl) (fit_I (by rfl)) (by rfl) ?_
  show w_P _ _ _ _ _ _ _ _ _ _ _ _ (hp (wM μ t l q), ρ) _
  refine w_ld d_40_163 rfl rfl rfl ?_
  refine w_cV1 (a := 20) (as := []) (rest := _) rfl d_40_164 (by rfl) (by rfl) (by first | rfl | assumption) (by rfl) (by rfl) (Nat.le_of_ble_eq_true rfl) (by omega) (by omega) cod0 ?_
  refine w_st1 (L' := [_, _, _]) d_40_167 rfl (by decide) rfl (by decide) rfl ?_
  refine w_ld d_40_168 rfl rfl rfl ?_
  refine w_con d_40_169 ?_
  refine w_icmp_eq (g := 181) d_40_170 (by decide) (by omega) (fun h170 => ?_) (fun h170 => ?_)
  · refine w_ld d_40_181 rfl rfl rfl ?_
    refine w_getR d_40_182 (by rfl) (by first | rfl | assumption) (by rfl) (show _ = Value.ref t from ht) ?_
    refine w_getF d_40_185 (by rfl) (by first | rfl | assumption) (by rfl) (by rfl) ?_
    refine w_ld d_40_188 rfl rfl rfl ?_
    refine w_gI d_40_189 (by rfl) (by first | rfl | assumption) (by rfl) rfl ?_
    refine w_ld d_40_192 rfl rfl rfl ?_
    refine w_gI d_40_193 (by rfl) (by first | rfl | assumption) (by rfl) rfl ?_
    refine w_ld d_40_196 rfl rfl rfl ?_
    refine w_cS1 (as := [_, _, _, _]) (rest := _) rfl d_40_197 (by rfl) (by rfl) (by rfl) (by rfl) (Nat.le_of_ble_eq_true rfl) (by omega) (by omega) (t_takes (μ := (wM μ t l q)) hT.toL (by rw [k5]; omega) (by rw [k1, k2, k5]; omega) hkey hcw4 (by omega) (by omega)) ?_
    refine w_if_eq (g := 218) d_40_200 (by decide) (b01_in _) (fun h200 => ?_) (fun h200 => ?_)
    · exact absurd hK (b01_eq h200)
    · refine w_ld d_40_203 rfl rfl rfl ?_
      refine w_getF d_40_204 (by rfl) (by first | rfl | assumption) (by rfl) (by rfl) ?_
      refine w_ld d_40_207 rfl rfl rfl ?_
      refine w_gI d_40_208 (by rfl) (by first | rfl | assumption) (by rfl) k1 ?_
      refine w_ld d_40_211 rfl rfl rfl ?_
      refine w_gI d_40_212 (by rfl) (by first | rfl | assumption) (by rfl) k2 ?_
      refine w_cV0 (a := 21) (as := [_, _]) (rest := _) rfl d_40_215 (by rfl) (by rfl) (by first | rfl | assumption) (by rfl) (by rfl) (Nat.le_of_ble_eq_true rfl) (by omega) (by omega) (by have e := t_note (sc := sc) (fr := fr - 1) (lo := lo - (19 + 3)) (μ := (wM μ t l q)) (ρ := ρ) (a := 21) (Or.inl rfl) (p := μ.1 (t + 7) 1) (q := (l.length : Int)) (by omega) (by omega) (by rw [k6 21 2 (by decide) (by omega)]; exact hnc); rw [k6 21 2 (by decide) (by omega), if_pos h24] at e; exact e) ?_
      refine w_ret d_40_218 rfl ?_
      exact ⟨rfl, rfl⟩
  · exact absurd hC h170
theorem t_wordN24 {sc : Nat × (Nat → Int32)} {fr lo : Nat} {μ : Mem} {ρ : Nat × Nat × Nat} {x : Nat} (hX : x = 42 ∨ x = 44) (hx : μ.2.1 20 3 = .ref x) (hn : 0 ≤ μ.1 x 1 ∧ μ.1 x 1 ≤ 240) (hch : ∀ k, 0 ≤ μ.2.2 (x + 1) k ∧ μ.2.2 (x + 1) k < 65536) {t : Nat} (hT : isT t) (ht : μ.2.1 20 4 = .ref t) (hpn : 0 ≤ μ.1 20 5 ∧ μ.1 20 5 < μ.1 x 1) (hu : 0 ≤ μ.1 (t + 7) 1 ∧ μ.1 (t + 7) 1 ≤ μ.1 20 5) (hcw : ∀ k, 0 ≤ μ.2.2 (t + 7 + 1) k ∧ μ.2.2 (t + 7 + 1) k < 65536) (hnc : 0 ≤ μ.1 21 2 ∧ μ.1 21 2 ≤ 24) {key : Int} (hkey : key = 0 ∨ key = 1) (hf : 18 ≤ fr) (hl : 800 ≤ lo) (hr : 1 ≤ ρ.2.1 ∧ 6 ≤ ρ.2.2) {q : Int} {l : List Int} (hrw : rw' (μ.2.2 (x + 1)) (μ.1 x 1) (μ.1 20 5 + 1) = .inr (q, l)) (hC : (cod (fun i => (wM μ t l q).2.2 (t + 7 + 1) ((wM μ t l q).1 20 8 + i)) ((wM μ t l q).1 20 9)) = -1) (hK : (tks (fun i => (wM μ t l q).2.2 (t + 7 + 1) ((wM μ t l q).1 20 8 + i)) ((wM μ t l q).1 20 9) key)) (h24 : μ.1 21 2 = 24) : w_E sc fr lo 40 [.ref 20, .int (ji key)] (hp μ, ρ) (.inl none) (hp (stI (stA (stA (stI (wM μ t l q) 21 2 0) 22 0 (μ.1 (t + 7) 1)) 23 0 l.length) 21 2 (0 + 1)), ρ) := by
  have hXs : sh x = some (.inl (1, [4, 0])) ∧ sh (x + 1) = some (.inr (2, 240)) := by rcases hX with rfl | rfl <;> exact ⟨rfl, rfl⟩
  obtain ⟨hX0, hX1⟩ := hXs
  obtain ⟨hT0, hT1, hT2, hT3, hT4, hT5, hT6, hT7, hT8⟩ := hT.sh
  have hT9 : t = 2 ∨ t = 11 ∨ t = 26 := hT
  have m5 : (wM0 μ t).1 20 5 = μ.1 20 5 + 1 := stI_at _ _ _ _
  have mx : (wM0 μ t).1 x 1 = μ.1 x 1 := by unfold wM0; rw [stI_ne (by omega), stI_ne (by omega), stI_ne (by omega)]
  have mt : (wM0 μ t).1 (t + 7) 1 = μ.1 (t + 7) 1 := by unfold wM0; rw [stI_ne (by omega), stI_ne (by omega), stI_ne (by omega)]
  refine w_S.of (L0 := [some (.ref 20), some (.int (ji key)), none]) rfl rfl (Nat.le_of_ble_eq_true rfl) (by rfl) ?_
  refine w_ld d_40_0 rfl rfl rfl ?_
  refine w_ld d_40_1 rfl rfl rfl ?_
  refine w_gI d_40_2 (by rfl) (by first | rfl | assumption) (by rfl) (by first | exact stI_at _ _ _ _ | ((try simp only [stI, stA, stR, adw, and_self, if_true]) <;> (repeat first | rw [if_neg (by omega)] | rw [if_pos (by omega)]) <;> rfl)) ?_
  refine w_putI d_40_5 (by rfl) (by first | rfl | assumption) (by rfl) (fit_I (by rfl)) (by rfl) ?_
  refine w_ld d_40_8 rfl rfl rfl ?_
  refine w_ld d_40_9 rfl rfl rfl ?_
  refine w_getR d_40_10 (by rfl) (by first | rfl | assumption) (by rfl) (by first | assumption | (simp only [stI, stA, stR, adw]; assumption)) ?_
  refine w_getF d_40_13 (by rfl) (by first | rfl | assumption) (by rfl) (by rfl) ?_
  refine w_gI d_40_16 (by rfl) (by first | rfl | assumption) (by rfl) (by first | exact stI_at _ _ _ _ | ((try simp only [stI, stA, stR, adw, and_self, if_true]) <;> (repeat first | rw [if_neg (by omega)] | rw [if_pos (by omega)]) <;> rfl)) ?_
  refine w_putI d_40_19 (by rfl) (by first | rfl | assumption) (by rfl) (fit_I (by rfl)) (by rfl) ?_
  refine w_ld d_40_22 rfl rfl rfl ?_
  refine w_stk d_40_23 rfl ?_
  refine w_gI d_40_24 (by rfl) (by first | rfl | assumption) (by rfl) (by first | exact stI_at _ _ _ _ | ((try simp only [stI, stA, stR, adw, and_self, if_true]) <;> (repeat first | rw [if_neg (by omega)] | rw [if_pos (by omega)]) <;> rfl)) ?_
  refine w_con d_40_27 ?_
  refine w_iadd d_40_28 ?_
  refine w_putI d_40_29 (by rfl) (by first | rfl | assumption) (by rfl) (fit_I (by rfl)) (by rfl) ?_
  have HL := t_word_l (sc := sc) (fr := fr) (lo := lo) (ρ := ρ) hX hT (key := key) (Q := (fun o t' => o = .inl none ∧ t' = (hp (stI (stA (stA (stI (wM μ t l q) 21 2 0) 22 0 (μ.1 (t + 7) 1)) 23 0 l.length) 21 2 (0 + 1)), ρ))) (by omega) (by omega) hr _ (wM0 μ t) rfl hx ht (by rw [mx]; exact hn) hch (by rw [m5, mx]; omega) (by rw [mt, m5, mx]; omega)
  rw [m5, mx] at HL
  refine HL (fun q' l' h => ?_) (fun w' μ' h hw => absurd (hrw.symm.trans h) (by intro z; cases z))
  cases hrw.symm.trans h
  obtain ⟨k1, k2, k3, k4, k5, k6, k7, k8⟩ := wM_8 (μ := μ) (l := l) (q := q) hT
  have hlen := rw_len _ _ _ _ rfl hrw
  have d1 : (stI (apL (wM0 μ t) (t + 7) l) 20 5 q).1 20 5 = q := stI_at _ _ _ _
  have d2 : (stI (apL (wM0 μ t) (t + 7) l) 20 5 q).1 x 1 = μ.1 x 1 := by
    rw [stI_ne (by omega)]
    rw [apL_ne (by omega)]
    exact mx
  have d3 : (stI (apL (wM0 μ t) (t + 7) l) 20 5 q).2.2 (x + 1) = μ.2.2 (x + 1) := by
    funext i
    show (if x + 1 = t + 7 + 1 ∧ _ then _ else μ.2.2 (x + 1) i) = _
    rw [if_neg (by omega)]
  have d4 : (stI (stI (apL (wM0 μ t) (t + 7) l) 20 5 q) 20 5 (q + 1)).1 (t + 7) 1 = μ.1 (t + 7) 1 + l.length := by
    rw [stI_ne (by omega), stI_ne (by omega)]
    rw [apL_at, mt]
  have d5 : (stI (stI (apL (wM0 μ t) (t + 7) l) 20 5 q) 20 5 (q + 1)).1 20 8 = μ.1 (t + 7) 1 := by
    rw [stI_ne (by decide), stI_ne (by decide)]
    rw [apL_ne (by omega)]
    unfold wM0
    rw [stI_ne (by decide), stI_at]
  have hcw4 : ∀ k, 0 ≤ (wM μ t l q).2.2 (t + 7 + 1) k ∧ (wM μ t l q).2.2 (t + 7 + 1) k < 65536 := fun k => by
    show 0 ≤ (if t + 7 + 1 = t + 7 + 1 ∧ _ then _ else μ.2.2 (t + 7 + 1) k) ∧ (if t + 7 + 1 = t + 7 + 1 ∧ _ then _ else μ.2.2 (t + 7 + 1) k) < 65536
    split
    · rename_i hz
      rw [List.getD_eq_getElem?_getD]
      cases hg : l[(k - (stI (stI (stI μ 20 7 (μ.1 20 5)) 20 8 (μ.1 (t + 7) 1)) 20 5 (μ.1 20 5 + 1)).1 (t + 7) 1).toNat]? with
      | none => exact ⟨by decide, by decide⟩
      | some c =>
        obtain ⟨j, _, _, hj⟩ := hlen.2.2.2 c (List.mem_of_getElem? hg)
        show 0 ≤ c ∧ c < 65536
        rw [hj]
        exact hch j
    · exact hcw k
  have cod0 : w_E sc (fr - 1) (lo - (19 + 4)) 42 [.ref 20] (hp (wM μ t l q), ρ) (.inl (some (.int (ji (cod (fun i => (wM μ t l q).2.2 (t + 7 + 1) ((wM μ t l q).1 20 8 + i)) ((wM μ t l q).1 20 9)))))) (hp (wM μ t l q), ρ) := t_codeOfWord hT (by rw [k7]; exact ht) (by rw [k5]; omega) (by rw [k1, k2, k5]; omega) hcw4 (by omega) (by omega)
  have ci := cod_in (fun i => (wM μ t l q).2.2 (t + 7 + 1) ((wM μ t l q).1 20 8 + i)) ((wM μ t l q).1 20 9)
  refine w_ld d_40_138 rfl rfl rfl ?_
  refine w_bip d_40_139 (by decide) ?_
  refine w_cV0 (a := 20) (as := [_]) (rest := _) rfl d_40_141 (by rfl) (by rfl) (by first | rfl | assumption) (by rfl) (by rfl) (Nat.le_of_ble_eq_true rfl) (by omega) (by omega) (by have e := t_expect (sc := sc) (fr := fr - 1) (lo := lo - (19 + 2)) (μ := stI (apL (wM0 μ t) (t + 7) l) 20 5 q) (ρ := ρ) hX hx (by rw [d2]; exact hn) (by rw [d3]; exact hch) (by rw [d1]; omega) (c := 34) (by decide) (by rw [d1, d2, d3, if_pos ⟨by omega, hlen.2.1⟩]; exact hlen.2.2.1) (by omega) (by omega); rw [d1] at e; exact e) ?_
  refine w_ld d_40_144 rfl rfl rfl ?_
  refine w_ld d_40_145 rfl rfl rfl ?_
  refine w_getR d_40_146 (by rfl) (by first | rfl | assumption) (by rfl) (show _ = Value.ref t from ht) ?_
  refine w_getF d_40_149 (by rfl) (by first | rfl | assumption) (by rfl) (by rfl) ?_
  refine w_gI d_40_152 (by rfl) (by first | rfl | assumption) (by rfl) d4 ?_
  refine w_ld d_40_155 rfl rfl rfl ?_
  refine w_gI d_40_156 (by rfl) (by first | rfl | assumption) (by rfl) d5 ?_
  refine w_isub d_40_159 ?_
  refine w_putI d_40_160 (by rfl) (by first | rfl | assumption) (by rfl) (fit_I (by rfl)) (by rfl) ?_
  show w_P _ _ _ _ _ _ _ _ _ _ _ _ (hp (wM μ t l q), ρ) _
  refine w_ld d_40_163 rfl rfl rfl ?_
  refine w_cV1 (a := 20) (as := []) (rest := _) rfl d_40_164 (by rfl) (by rfl) (by first | rfl | assumption) (by rfl) (by rfl) (Nat.le_of_ble_eq_true rfl) (by omega) (by omega) cod0 ?_
  refine w_st1 (L' := [_, _, _]) d_40_167 rfl (by decide) rfl (by decide) rfl ?_
  refine w_ld d_40_168 rfl rfl rfl ?_
  refine w_con d_40_169 ?_
  refine w_icmp_eq (g := 181) d_40_170 (by decide) (by omega) (fun h170 => ?_) (fun h170 => ?_)
  · refine w_ld d_40_181 rfl rfl rfl ?_
    refine w_getR d_40_182 (by rfl) (by first | rfl | assumption) (by rfl) (show _ = Value.ref t from ht) ?_
    refine w_getF d_40_185 (by rfl) (by first | rfl | assumption) (by rfl) (by rfl) ?_
    refine w_ld d_40_188 rfl rfl rfl ?_
    refine w_gI d_40_189 (by rfl) (by first | rfl | assumption) (by rfl) rfl ?_
    refine w_ld d_40_192 rfl rfl rfl ?_
    refine w_gI d_40_193 (by rfl) (by first | rfl | assumption) (by rfl) rfl ?_
    refine w_ld d_40_196 rfl rfl rfl ?_
    refine w_cS1 (as := [_, _, _, _]) (rest := _) rfl d_40_197 (by rfl) (by rfl) (by rfl) (by rfl) (Nat.le_of_ble_eq_true rfl) (by omega) (by omega) (t_takes (μ := (wM μ t l q)) hT.toL (by rw [k5]; omega) (by rw [k1, k2, k5]; omega) hkey hcw4 (by omega) (by omega)) ?_
    refine w_if_eq (g := 218) d_40_200 (by decide) (b01_in _) (fun h200 => ?_) (fun h200 => ?_)
    · exact absurd hK (b01_eq h200)
    · refine w_ld d_40_203 rfl rfl rfl ?_
      refine w_getF d_40_204 (by rfl) (by first | rfl | assumption) (by rfl) (by rfl) ?_
      refine w_ld d_40_207 rfl rfl rfl ?_
      refine w_gI d_40_208 (by rfl) (by first | rfl | assumption) (by rfl) k1 ?_
      refine w_ld d_40_211 rfl rfl rfl ?_
      refine w_gI d_40_212 (by rfl) (by first | rfl | assumption) (by rfl) k2 ?_
      refine w_cV0 (a := 21) (as := [_, _]) (rest := _) rfl d_40_215 (by rfl) (by rfl) (by first | rfl | assumption) (by rfl) (by rfl) (Nat.le_of_ble_eq_true rfl) (by omega) (by omega) (by have e := t_note (sc := sc) (fr := fr - 1) (lo := lo - (19 + 3)) (μ := (wM μ t l q)) (ρ := ρ) (a := 21) (Or.inl rfl) (p := μ.1 (t + 7) 1) (q := (l.length : Int)) (by omega) (by omega) (by rw [k6 21 2 (by decide) (by omega)]; exact hnc); rw [k6 21 2 (by decide) (by omega), if_neg (by omega)] at e; exact e) ?_
      refine w_ret d_40_218 rfl ?_
      exact ⟨rfl, rfl⟩
  · exact absurd hC h170
