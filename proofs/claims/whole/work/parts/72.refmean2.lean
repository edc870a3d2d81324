/-! THE PURE PART, 54: contracts: the reference gives a word its meaning, 2 -/
/-- the end of a value with a tag: its string is done -/
theorem m_tagend {sc : Nat × (Nat → Int32)} {fr lo : Nat} {ν : Mem} {ρ : Nat × Nat × Nat} {n : Int} {L0 L1 L2 L3 L4 L5 L6 : Option Value} {Q : z_O → z_T → Prop} (hM : MI ν) (ht : ν.1 46 17 = n + 2) (hn : 0 ≤ n ∧ n ≤ 125) (p49 : ν.2.2 49 (256 + n) = 12) (p50 : ν.2.2 50 (256 + n) = 0) (p52 : (0 ≤ ν.2.2 51 (256 + n) ∧ ν.2.2 51 (256 + n) + 1 ≤ 720) ∧ ν.2.2 52 (256 + n) = 1) (p53 : ν.2.2 53 (256 + n) = 1) (p56 : ν.2.2 56 (256 + n) = -1) (c53 : ν.2.2 53 (256 + (n + 1)) = 0) (c56 : 0 ≤ ν.2.2 56 (256 + (n + 1))) (hf : 9 ≤ fr) (hl : 400 ≤ lo) (K : ∀ μ' : Mem, MI μ' → (∀ a i, i ≠ (256 + n) → μ'.2.2 a i = ν.2.2 a i) → (∀ a, a ≠ 54 → a ≠ 56 → μ'.2.2 a (256 + n) = ν.2.2 a (256 + n)) → (μ'.1 = ν.1 ∧ μ'.2.1 = ν.2.1) → (μ'.2.2 54 (256 + n) = 2 ∧ 0 ≤ μ'.2.2 56 (256 + n)) → Q (.inl none) (hp μ', ρ)) : w_P sc fr lo 134 7 9 false (none) prog_9_method_30_code 535 [some (.ref 46), L0, L1, L2, L3, L4, some (.int (ji (256 + n))), L5, L6] [] (hp ν, ρ) Q := by
  have hsp : 256 + ν.1 46 17 - (256 + n) = 2 := by omega
  have hM1 : MI (stA ν 54 (256 + n) 2) := MI_row (a := (256 + n)) hM ⟨Int.le_refl _, by show ν.1 46 17 ≤ 127; omega⟩ (stA_o2 (by decide)) (fun _ => by rw [p56]; decide) (by rw [stA_o2 (by decide), p56]; decide) (fun b v _ _ hv => if_neg (fun z => hv z.2)) (fun v v1 v2 => by have v2 : v < 256 + ν.1 46 17 := v2; omega)
  have hpt : pt (vM (stA ν 54 (256 + n) 2)) (256 + n) 0 = 256 + (n + 1) := by show (256 + n) + 1 = _; omega
  refine w_ld d_134_535 rfl rfl rfl ?_
  refine w_ld d_134_536 rfl rfl rfl ?_
  refine w_cVm (a := 46) (as := [_]) (rest := _) rfl d_134_538 (by rfl) (by rfl) rfl (by rfl) (by rfl) (Nat.le_of_ble_eq_true rfl) (by omega) (by omega) (m_ready (μ := ν) (a := (256 + n)) (by omega) (by rw [hsp]; exact hM1) (by omega) p56 ?_ ?_ ?_ (by omega) (by omega)) (fun μ' hm => ?_)
  · rw [hsp]
    refine ⟨?_, ?_, ?_, ?_, ?_, ?_, ?_⟩
    · show 0 ≤ ν.2.2 49 (256 + n) ∧ ν.2.2 49 (256 + n) ≤ 12
      omega
    · show _ ≤ ν.2.2 50 (256 + n) ∧ ν.2.2 50 (256 + n) < _
      rw [p50]; decide
    · show 0 ≤ ν.2.2 53 (256 + n) ∧ ν.2.2 53 (256 + n) ≤ 240
      omega
    · show 1 ≤ (if 54 = 54 ∧ (256 + n) = (256 + n) then 2 else ν.2.2 54 (256 + n)) ∧ (if 54 = 54 ∧ (256 + n) = (256 + n) then 2 else ν.2.2 54 (256 + n)) ≤ 240
      rw [if_pos ⟨rfl, rfl⟩]; decide
    · show 0 ≤ ν.2.2 52 (256 + n) ∧ ν.2.2 52 (256 + n) ≤ 240
      omega
    · show ν.2.2 52 (256 + n) = 0 ∨ 0 ≤ ν.2.2 51 (256 + n) ∧ ν.2.2 51 (256 + n) + ν.2.2 52 (256 + n) ≤ 720
      omega
    · show -1 ≤ (if 56 = 56 ∧ (256 + n) = (256 + n) then (256 + n) else ν.2.2 56 (256 + n)) ∧ (if 56 = 56 ∧ (256 + n) = (256 + n) then (256 + n) else ν.2.2 56 (256 + n)) < 384
      rw [if_pos ⟨rfl, rfl⟩]; omega
  · rw [hsp]
    refine ⟨?_, fun z => ?_, fun m hm => ?_, fun z => ?_, fun z => ?_⟩
    · show 0 ≤ ν.2.2 53 (256 + n)
      omega
    · have z : ν.2.2 49 (256 + n) = 11 := z
      omega
    · have hm : (m : Int) < ν.2.2 53 (256 + n) := hm
      have hm0 : m = 0 := by omega
      rw [hm0, hpt]
      exact okv_0 c53
    · have z : ν.2.2 49 (256 + n) = 10 := z
      omega
    · have z : ν.2.2 49 (256 + n) = 11 := z
      omega
  · rw [hsp]
    intro m hm
    have hm0 : m = 0 := by omega
    rw [hm0, hpt]
    exact ⟨by omega, by omega, c56⟩
  · obtain ⟨r, hr, r1, hMI⟩ := hm
    rw [hsp] at hr
    refine w_ret d_134_541 rfl (K μ' hMI (fun a i hi => ?_) (fun a a1 a2 => ?_) ?_ ⟨?_, ?_⟩)
    · rw [hr]
      show (if a = 56 ∧ i = (256 + n) then r else if a = 54 ∧ i = (256 + n) then 2 else ν.2.2 a i) = _
      rw [if_neg (fun z => hi z.2), if_neg (fun z => hi z.2)]
    · rw [hr, stA_o2 a2, stA_o2 a1]
    · rw [hr]; exact ⟨rfl, rfl⟩
    · rw [hr, stA_o2 (by decide)]; exact stA_at _ _ _ _
    · rw [hr, stA_at]; omega
theorem m_tagchild {sc : Nat × (Nat → Int32)} {fr lo : Nat} {μ ν ν3 : Mem} {ρ : Nat × Nat × Nat} (hM : MI μ) {n : Int} (hn : μ.1 46 17 = n ∧ 0 ≤ n ∧ n ≤ 125) (hr : 480 ≤ μ.1 46 24 ∧ 0 ≤ μ.1 46 25 ∧ μ.1 46 24 + μ.1 46 25 ≤ 718 ∧ μ.1 46 25 ≤ 238) (hw : ∀ i, 0 ≤ i → i < μ.1 46 25 → 32 ≤ μ.2.2 57 (μ.1 46 24 + i) ∧ μ.2.2 57 (μ.1 46 24 + i) ≤ 126) (h16 : μ.1 46 16 = -1) (hpl : 0 ≤ μ.1 46 15 ∧ μ.1 46 15 ≤ 900) {q : Int} (hq : 0 ≤ q ∧ q ≤ 900) (hf : 12 ≤ fr) (hl : 500 ≤ lo) {z : Int} (hz : 2 ≤ μ.1 46 25 → z = μ.1 46 25 - 2) (hz0 : 0 ≤ z ∧ z ≤ 236 ∧ μ.1 46 24 + 2 + z ≤ 719) {L1 L2 L3 L4 : Option Value} (hc : (wl0 (fun i => μ.2.2 57 (μ.1 46 24 + i)) (μ.1 46 25) 0) = 126) (hd : (wl0 (fun i => μ.2.2 57 (μ.1 46 24 + i)) (μ.1 46 25) 1) ≠ 95 ∧ (wl0 (fun i => μ.2.2 57 (μ.1 46 24 + i)) (μ.1 46 25) 1) ≠ 63 ∧ (wl0 (fun i => μ.2.2 57 (μ.1 46 24 + i)) (μ.1 46 25) 1) ≠ 105 ∧ (wl0 (fun i => μ.2.2 57 (μ.1 46 24 + i)) (μ.1 46 25) 1) ≠ 109 ∧ (wl0 (fun i => μ.2.2 57 (μ.1 46 24 + i)) (μ.1 46 25) 1) ≠ 58 ∧ (wl0 (fun i => μ.2.2 57 (μ.1 46 24 + i)) (μ.1 46 25) 1) ≠ 36 ∧ (wl0 (fun i => μ.2.2 57 (μ.1 46 24 + i)) (μ.1 46 25) 1) ≠ 99 ∧ (wl0 (fun i => μ.2.2 57 (μ.1 46 24 + i)) (μ.1 46 25) 1) ≠ 126 ∧ (wl0 (fun i => μ.2.2 57 (μ.1 46 24 + i)) (μ.1 46 25) 1) ≠ 94 ∧ (wl0 (fun i => μ.2.2 57 (μ.1 46 24 + i)) (μ.1 46 25) 1) ≠ 96) (hk1 : mk1 μ ν n) (hM2 : MI (stA (stA (stA ν 51 (256 + n) (μ.1 46 24 + 1)) 52 (256 + n) 1) 53 (256 + n) 1)) (hk3 : mk1 (stA (stA (stA ν 51 (256 + n) (μ.1 46 24 + 1)) 52 (256 + n) 1) 53 (256 + n) 1) ν3 (n + 1)) (r49 : ν.2.2 49 (256 + n) = 12) (r50 : ν.2.2 50 (256 + n) = 0) (r55 : ν.2.2 55 (256 + n) = q) (r56 : ν.2.2 56 (256 + n) = -1) (c49 : ν3.2.2 49 (256 + (n + 1)) = 4) (c50 : ν3.2.2 50 (256 + (n + 1)) = 0) (c53 : ν3.2.2 53 (256 + (n + 1)) = 0) (c55 : ν3.2.2 55 (256 + (n + 1)) = q) (c56 : ν3.2.2 56 (256 + (n + 1)) = -1) : w_P sc fr lo 134 7 9 false (none) prog_9_method_30_code 519 [some (.ref 46), some (.int (ji q)), L1, L2, L3, L4, some (.int (ji (256 + n))), some (.int (ji (if (97 ≤ (wl0 (fun i => μ.2.2 57 (μ.1 46 24 + i)) (μ.1 46 25) 1) ∧ (wl0 (fun i => μ.2.2 57 (μ.1 46 24 + i)) (μ.1 46 25) 1) ≤ 122 ∨ 65 ≤ (wl0 (fun i => μ.2.2 57 (μ.1 46 24 + i)) (μ.1 46 25) 1) ∧ (wl0 (fun i => μ.2.2 57 (μ.1 46 24 + i)) (μ.1 46 25) 1) ≤ 90) then 1 else 0))), some (.int (ji (256 + (n + 1))))] [] (hp (stA (stA ν3 51 (256 + (n + 1)) (μ.1 46 24 + 2)) 52 (256 + (n + 1)) (z)), ρ) (fun o t' => ∃ μ' : Mem, o = .inl none ∧ mmP μ μ' (fun i => μ.2.2 57 (μ.1 46 24 + i)) (μ.1 46 25) (μ.1 46 24) q n ∧ t' = (hp μ', ρ)) := by
  have l0 := wl_wl0 (w := (fun i => μ.2.2 57 (μ.1 46 24 + i))) (s := (μ.1 46 25)) hw (k := 0) (by decide)
  have l1 := wl_wl0 (w := (fun i => μ.2.2 57 (μ.1 46 24 + i))) (s := (μ.1 46 25)) hw (k := 1) (by decide)
  have l2 := wl_wl0 (w := (fun i => μ.2.2 57 (μ.1 46 24 + i))) (s := (μ.1 46 25)) hw (k := 2) (by decide)
  have n16 : ν.1 46 16 = -1 := (hk1.1 46 16 (by decide)).trans h16
  have g49 : (stA (stA ν3 51 (256 + (n + 1)) (μ.1 46 24 + 2)) 52 (256 + (n + 1)) (z)).2.2 49 (256 + (n + 1)) = 4 := by rw [sw_row.1 49 (by decide) (by decide)]; exact c49
  have g50 : (stA (stA ν3 51 (256 + (n + 1)) (μ.1 46 24 + 2)) 52 (256 + (n + 1)) (z)).2.2 50 (256 + (n + 1)) = 0 := by rw [sw_row.1 50 (by decide) (by decide)]; exact c50
  have g51 : (stA (stA ν3 51 (256 + (n + 1)) (μ.1 46 24 + 2)) 52 (256 + (n + 1)) (z)).2.2 51 (256 + (n + 1)) = μ.1 46 24 + 2 := sw_row.2.1
  have g52 : (stA (stA ν3 51 (256 + (n + 1)) (μ.1 46 24 + 2)) 52 (256 + (n + 1)) (z)).2.2 52 (256 + (n + 1)) = z := sw_row.2.2
  have g53 : (stA (stA ν3 51 (256 + (n + 1)) (μ.1 46 24 + 2)) 52 (256 + (n + 1)) (z)).2.2 53 (256 + (n + 1)) = 0 := by rw [sw_row.1 53 (by decide) (by decide)]; exact c53
  have g55 : (stA (stA ν3 51 (256 + (n + 1)) (μ.1 46 24 + 2)) 52 (256 + (n + 1)) (z)).2.2 55 (256 + (n + 1)) = q := by rw [sw_row.1 55 (by decide) (by decide)]; exact c55
  have g56 : (stA (stA ν3 51 (256 + (n + 1)) (μ.1 46 24 + 2)) 52 (256 + (n + 1)) (z)).2.2 56 (256 + (n + 1)) = -1 := by rw [sw_row.1 56 (by decide) (by decide)]; exact c56
  have gk : mk1 (stA (stA (stA ν 51 (256 + n) (μ.1 46 24 + 1)) 52 (256 + n) 1) 53 (256 + n) 1) (stA (stA ν3 51 (256 + (n + 1)) (μ.1 46 24 + 2)) 52 (256 + (n + 1)) (z)) (n + 1) := mk1_A (mk1_A hk3 (by decide) rfl) (by decide) rfl
  refine w_ld d_134_519 rfl rfl rfl ?_
  refine w_ld d_134_520 rfl rfl rfl ?_
  refine w_cVm (a := 46) (as := [_]) (rest := _) rfl d_134_522 (by rfl) (by rfl) rfl (by rfl) (by rfl) (Nat.le_of_ble_eq_true rfl) (by omega) (by omega) (m_finish gk hM2 ⟨hk1.2.1, by omega⟩ g56 g53 (by rw [g49]; decide) (by rw [g50]; decide) (by rw [g51, g52]; omega) (by omega) (by omega)) (fun μ5 hm => ?_)
  obtain ⟨m1, m2, m3, m4, m5, m6⟩ := hm
  have e4 : ∀ a, 49 ≤ a → a ≤ 55 → a ≠ 54 → μ5.2.2 a (256 + (n + 1)) = (stA (stA ν3 51 (256 + (n + 1)) (μ.1 46 24 + 2)) 52 (256 + (n + 1)) (z)).2.2 a (256 + (n + 1)) := m4
  have ev : ∀ a, μ5.2.2 a (256 + n) = (stA (stA (stA ν 51 (256 + n) (μ.1 46 24 + 1)) 52 (256 + n) 1) 53 (256 + n) 1).2.2 a (256 + n) := fun a => m2.2.2 a (256 + n) (by omega)
  have p16 : μ5.1 46 16 = -1 := (m2.1 46 16 (by decide)).trans n16
  have p49 : μ5.2.2 49 (256 + n) = 12 := by rw [ev, stA_o2 (by decide), sw_row.1 49 (by decide) (by decide)]; exact r49
  have p50 : μ5.2.2 50 (256 + n) = 0 := by rw [ev, stA_o2 (by decide), sw_row.1 50 (by decide) (by decide)]; exact r50
  have p51 : μ5.2.2 51 (256 + n) = μ.1 46 24 + 1 := by rw [ev, stA_o2 (by decide)]; exact sw_row.2.1
  have p52 : μ5.2.2 52 (256 + n) = 1 := by rw [ev, stA_o2 (by decide)]; exact sw_row.2.2
  have p53 : μ5.2.2 53 (256 + n) = 1 := by rw [ev]; exact stA_at _ _ _ _
  have p55 : μ5.2.2 55 (256 + n) = q := by rw [ev, stA_o2 (by decide), sw_row.1 55 (by decide) (by decide)]; exact r55
  have p56 : μ5.2.2 56 (256 + n) = -1 := by rw [ev, stA_o2 (by decide), sw_row.1 56 (by decide) (by decide)]; exact r56
  refine w_ld d_134_525 rfl rfl rfl ?_
  by_cases hA : (97 ≤ (wl0 (fun i => μ.2.2 57 (μ.1 46 24 + i)) (μ.1 46 25) 1) ∧ (wl0 (fun i => μ.2.2 57 (μ.1 46 24 + i)) (μ.1 46 25) 1) ≤ 122 ∨ 65 ≤ (wl0 (fun i => μ.2.2 57 (μ.1 46 24 + i)) (μ.1 46 25) 1) ∧ (wl0 (fun i => μ.2.2 57 (μ.1 46 24 + i)) (μ.1 46 25) 1) ≤ 90)
  · rw [if_pos hA]
    refine w_if_ne (g := 535) d_134_527 (by decide) (by decide) (fun _ => ?_) (fun h => absurd h (by decide))
    refine m_tagend m1 (by omega) ⟨by omega, by omega⟩ p49 p50 (by omega) p53 p56 (by rw [e4 53 (by omega) (by omega) (by omega), g53]) m6 (by omega) (by omega) (fun μ' h1 h2 h3 h4 h5 => ?_)
    have hmn : (mn (fun i => μ.2.2 57 (μ.1 46 24 + i)) (μ.1 46 25)) = some (12, 0, 1, 1) := by
      unfold mn
      rw [if_neg (by omega), if_neg (by omega), if_neg (by omega), if_neg (by omega), if_neg (by omega), if_neg (by omega), if_neg (by omega), if_neg (by omega), if_neg (by omega), if_neg (by omega), if_pos (by omega)]
    have q1 : ∀ a i, i ≠ (256 + n) → μ'.2.2 a i = μ5.2.2 a i := h2
    have q2 : ∀ a, a ≠ 54 → a ≠ 56 → μ'.2.2 a (256 + n) = μ5.2.2 a (256 + n) := h3
    have q3 : ∀ a i, ¬ (49 ≤ a ∧ a ≤ 56 ∧ 256 + n ≤ i) → μ'.2.2 a i = μ5.2.2 a i := fun a i z => by
      by_cases hi : i = (256 + n)
      · rw [hi]
        exact q2 a (by omega) (by omega)
      · exact q1 a i hi
    have hs2 : 2 ≤ μ.1 46 25 := by omega
    refine ⟨μ', rfl, mmP_tag hmn ⟨h1, ⟨fun a p z => ?_, ?_, fun a i z => ?_⟩, ?_, ⟨by rw [q2 49 (by decide) (by decide)]; exact p49, by rw [q2 50 (by decide) (by decide)]; exact p50, Or.inr (by rw [q2 51 (by decide) (by decide)]; exact p51), by rw [q2 52 (by decide) (by decide)]; exact p52, by rw [q2 53 (by decide) (by decide)]; exact p53, h5.1, by rw [q2 55 (by decide) (by decide)]; exact p55, h5.2⟩, ⟨by rw [q1 49 _ (by omega), e4 49 (by omega) (by omega) (by omega)]; exact g49, by rw [q1 50 _ (by omega), e4 50 (by omega) (by omega) (by omega)]; exact g50, Or.inr (by rw [q1 51 _ (by omega), e4 51 (by omega) (by omega) (by omega)]; exact g51), by rw [q1 52 _ (by omega), e4 52 (by omega) (by omega) (by omega), g52]; exact hz hs2, by rw [q1 53 _ (by omega), e4 53 (by omega) (by omega) (by omega)]; exact g53, by rw [q1 54 _ (by omega)]; exact m5, by rw [q1 55 _ (by omega), e4 55 (by omega) (by omega) (by omega)]; exact g55, by rw [q1 56 _ (by omega)]; exact m6⟩, fun z => by
      rw [q1 56 _ (by omega)] at z
      have g := (m1.2.1 (256 + (n + 1)) (by omega) (by omega) m6).1.2.2
      rw [z, p56] at g
      exact absurd g (by decide)⟩, rfl⟩
    · rw [h4.1, m2.1 a p z]
      exact hk1.1 a p z
    · rw [h4.2, m2.2.1]
      exact hk1.2.2.1
    · rw [q3 a i z, m2.2.2 a i (by omega)]
      show (if a = 53 ∧ i = (256 + n) then _ else if a = 52 ∧ i = (256 + n) then _ else if a = 51 ∧ i = (256 + n) then _ else ν.2.2 a i) = _
      rw [if_neg (by omega), if_neg (by omega), if_neg (by omega)]
      exact hk1.2.2.2 a i (by omega)
    · rw [h4.1, m3]; omega
  · rw [if_neg hA]
    refine w_if_ne (g := 535) d_134_527 (by decide) (by decide) (fun h => absurd rfl h) (fun _ => ?_)
    refine w_ld d_134_530 rfl rfl rfl ?_
    refine w_ld d_134_531 rfl rfl rfl ?_
    have ef := m_fail (sc := sc) (fr := fr - 1) (lo := lo - (19 + 2)) (μ := μ5) (ρ := ρ) (by rw [p16]; decide) (k := q)
    rw [p16, if_pos (by decide)] at ef
    refine w_cV0 (a := 46) (as := [_]) (rest := _) rfl d_134_532 (by rfl) (by rfl) rfl (by rfl) (by rfl) (Nat.le_of_ble_eq_true rfl) (by omega) (by omega) ef ?_
    refine m_tagend (ν := stI μ5 46 16 q) m1 (show μ5.1 46 17 = n + 2 by omega) ⟨by omega, by omega⟩ p49 p50 (show (0 ≤ μ5.2.2 51 (256 + n) ∧ μ5.2.2 51 (256 + n) + 1 ≤ 720) ∧ μ5.2.2 52 (256 + n) = 1 by omega) p53 p56 (show μ5.2.2 53 (256 + (n + 1)) = 0 by rw [e4 53 (by omega) (by omega) (by omega), g53]) m6 (by omega) (by omega) (fun μ' h1 h2 h3 h4 h5 => ?_)
    have hmn : (mn (fun i => μ.2.2 57 (μ.1 46 24 + i)) (μ.1 46 25)) = none := by
      unfold mn
      rw [if_neg (by omega), if_neg (by omega), if_neg (by omega), if_neg (by omega), if_neg (by omega), if_neg (by omega), if_neg (by omega), if_neg (by omega), if_neg (by omega), if_neg (by omega), if_neg (by omega)]
    refine ⟨μ', rfl, mmP_none hmn ⟨⟨?_, ?_, ?_⟩, h1.2.2.2.2⟩, rfl⟩
    · refine mfr_trans (mk1_fr (mk1_A (mk1_A (mk1_A hk1 (a := 51) (by decide) rfl) (a := 52) (by decide) rfl) (a := 53) (by decide) rfl) hn.2.1) (mfr_trans (kp_fr m2 (by omega)) (mfr_trans (mfr_I (q := 16) (v := q) (by decide)) ?_))
      refine ⟨fun a p _ => by rw [h4.1], fun p _ _ _ _ _ _ _ => by rw [h4.1], h4.2, fun a _ => ?_, fun a i _ _ _ => h2 a i (by omega), fun i _ => ?_⟩
      · funext i
        by_cases hi : i = (256 + n)
        · rw [hi]
          exact h3 a (by omega) (by omega)
        · exact h2 a i hi
      · by_cases hi : i = (256 + n)
        · rw [hi]
          exact h3 57 (by omega) (by omega)
        · exact h2 57 i hi
    · rw [h4.1]
      exact stI_at _ _ _ _
    · rw [h4.1, stI_ne (by decide), m2.1 46 15 (by decide)]
      have : (stA (stA (stA ν 51 (256 + n) (μ.1 46 24 + 1)) 52 (256 + n) 1) 53 (256 + n) 1).1 46 15 = μ.1 46 15 := hk1.1 46 15 (by decide)
      rw [this]
      exact hpl
theorem m_mean_t {sc : Nat × (Nat → Int32)} {fr lo : Nat} {μ : Mem} {ρ : Nat × Nat × Nat} (hM : MI μ) {n : Int} (hn : μ.1 46 17 = n ∧ 0 ≤ n ∧ n ≤ 125) (hr : 480 ≤ μ.1 46 24 ∧ 0 ≤ μ.1 46 25 ∧ μ.1 46 24 + μ.1 46 25 ≤ 718 ∧ μ.1 46 25 ≤ 238) (hw : ∀ i, 0 ≤ i → i < μ.1 46 25 → 32 ≤ μ.2.2 57 (μ.1 46 24 + i) ∧ μ.2.2 57 (μ.1 46 24 + i) ≤ 126) (h16 : μ.1 46 16 = -1) (hpl : 0 ≤ μ.1 46 15 ∧ μ.1 46 15 ≤ 900) {q : Int} (hq : 0 ≤ q ∧ q ≤ 900) (hf : 12 ≤ fr) (hl : 500 ≤ lo) {al : Int} (hal : al = 1 ∧ μ.1 46 25 = 2 ∨ al = 0 ∧ μ.1 46 25 ≠ 2) (hc : (wl0 (fun i => μ.2.2 57 (μ.1 46 24 + i)) (μ.1 46 25) 0) = 126) (hd : (wl0 (fun i => μ.2.2 57 (μ.1 46 24 + i)) (μ.1 46 25) 1) ≠ 95 ∧ (wl0 (fun i => μ.2.2 57 (μ.1 46 24 + i)) (μ.1 46 25) 1) ≠ 63 ∧ (wl0 (fun i => μ.2.2 57 (μ.1 46 24 + i)) (μ.1 46 25) 1) ≠ 105 ∧ (wl0 (fun i => μ.2.2 57 (μ.1 46 24 + i)) (μ.1 46 25) 1) ≠ 109 ∧ (wl0 (fun i => μ.2.2 57 (μ.1 46 24 + i)) (μ.1 46 25) 1) ≠ 58 ∧ (wl0 (fun i => μ.2.2 57 (μ.1 46 24 + i)) (μ.1 46 25) 1) ≠ 36 ∧ (wl0 (fun i => μ.2.2 57 (μ.1 46 24 + i)) (μ.1 46 25) 1) ≠ 99 ∧ (wl0 (fun i => μ.2.2 57 (μ.1 46 24 + i)) (μ.1 46 25) 1) ≠ 126 ∧ (wl0 (fun i => μ.2.2 57 (μ.1 46 24 + i)) (μ.1 46 25) 1) ≠ 94 ∧ (wl0 (fun i => μ.2.2 57 (μ.1 46 24 + i)) (μ.1 46 25) 1) ≠ 96) : w_P sc fr lo 134 7 9 false (none) prog_9_method_30_code 27 [some (.ref 46), some (.int (ji q)), some (.int (ji (wl0 (fun i => μ.2.2 57 (μ.1 46 24 + i)) (μ.1 46 25) 0))), some (.int (ji (wl0 (fun i => μ.2.2 57 (μ.1 46 24 + i)) (μ.1 46 25) 1))), some (.int (ji al)), none, none, none, none] [] (hp μ, ρ) (fun o t' => ∃ μ' : Mem, o = .inl none ∧ mmP μ μ' (fun i => μ.2.2 57 (μ.1 46 24 + i)) (μ.1 46 25) (μ.1 46 24) q n ∧ t' = (hp μ', ρ)) := by
  have l0 := wl_wl0 (w := (fun i => μ.2.2 57 (μ.1 46 24 + i))) (s := (μ.1 46 25)) hw (k := 0) (by decide)
  have l1 := wl_wl0 (w := (fun i => μ.2.2 57 (μ.1 46 24 + i))) (s := (μ.1 46 25)) hw (k := 1) (by decide)
  have l2 := wl_wl0 (w := (fun i => μ.2.2 57 (μ.1 46 24 + i))) (s := (μ.1 46 25)) hw (k := 2) (by decide)
  have rl : ∀ (ν : Mem) (k : Int), (∀ p, p = 24 ∨ p = 25 → ν.1 46 p = μ.1 46 p) → ν.2.2 57 = μ.2.2 57 → 0 ≤ k ∧ k < 100 → w_E sc (fr - 1) (lo - (19 + 2)) 127 [.ref 46, .int (ji k)] (hp ν, ρ) (.inl (some (.int (ji (wl0 (fun i => μ.2.2 57 (μ.1 46 24 + i)) (μ.1 46 25) k))))) (hp ν, ρ) := fun ν k h1 h2 hk => by
    have e := m_rawLetter (sc := sc) (fr := fr - 1) (lo := lo - (19 + 2)) (μ := ν) (ρ := ρ) (by rw [h1 24 (by omega), h1 25 (by omega)]; omega) (k := k) (by omega)
    rw [h1 24 (by omega), h1 25 (by omega), h2] at e
    exact e
  have rl0 : ∀ k : Int, 0 ≤ k ∧ k < 100 → w_E sc (fr - 1) (lo - (19 + 2)) 127 [.ref 46, .int (ji k)] (hp μ, ρ) (.inl (some (.int (ji (wl0 (fun i => μ.2.2 57 (μ.1 46 24 + i)) (μ.1 46 25) k))))) (hp μ, ρ) := fun k hk => rl μ k (fun _ _ => rfl) rfl hk
  obtain ⟨ν, hk1, ⟨r49, r50, r51, r52, r53, r54, r55, r56⟩, hmk⟩ := m_mk sc (fr - 1) (lo - (19 + 4)) ρ (μ := μ) ⟨hn.1, hn.2.1, by omega⟩ 12 q
  have n24 : ν.1 46 24 = μ.1 46 24 := hk1.1 46 24 (by decide)
  have n25 : ν.1 46 25 = μ.1 46 25 := hk1.1 46 25 (by decide)
  have n16 : ν.1 46 16 = -1 := (hk1.1 46 16 (by decide)).trans h16
  have n57 : ν.2.2 57 = μ.2.2 57 := by funext i; exact hk1.2.2.2 57 i (by omega)
  have rlν : ∀ k : Int, 0 ≤ k ∧ k < 100 → w_E sc (fr - 1) (lo - (19 + 2)) 127 [.ref 46, .int (ji k)] (hp ν, ρ) (.inl (some (.int (ji (wl0 (fun i => μ.2.2 57 (μ.1 46 24 + i)) (μ.1 46 25) k))))) (hp ν, ρ) := fun k hk => rl ν k (fun p hp => by rcases hp with rfl | rfl <;> first | exact n24 | exact n25) n57 hk
  have hk2 : mk1 μ (stA (stA (stA ν 51 (256 + n) (μ.1 46 24 + 1)) 52 (256 + n) 1) 53 (256 + n) 1) n := mk1_A (mk1_A (mk1_A hk1 (a := 51) (by decide) rfl) (a := 52) (by decide) rfl) (a := 53) (by decide) rfl
  have hM2 : MI (stA (stA (stA ν 51 (256 + n) (μ.1 46 24 + 1)) 52 (256 + n) 1) 53 (256 + n) 1) := mk1_MI hk2 hM ⟨hn.1, by omega⟩ (by rw [stA_o2 (by decide), sw_row.1 56 (by decide) (by decide)]; exact r56)
  obtain ⟨ν3, hk3, ⟨c49, c50, c51, c52, c53, c54, c55, c56⟩, hmk3⟩ := m_mk sc (fr - 1) (lo - (19 + 4)) ρ (μ := (stA (stA (stA ν 51 (256 + n) (μ.1 46 24 + 1)) 52 (256 + n) 1) 53 (256 + n) 1)) (n := n + 1) ⟨hk1.2.1, by omega, by omega⟩ 4 q
  have x24 : ν3.1 46 24 = μ.1 46 24 := (hk3.1 46 24 (by decide)).trans n24
  have x25 : ν3.1 46 25 = μ.1 46 25 := (hk3.1 46 25 (by decide)).trans n25
  refine w_ld d_134_27 rfl rfl rfl ?_
  refine w_bip d_134_28 (by decide) ?_
  refine w_icmp_eq (g := 79) d_134_30 (by decide) (by omega) (fun h30 => ?_) (fun h30 => ?_)
  · refine w_ld d_134_79 rfl rfl rfl ?_
    refine w_bip d_134_80 (by decide) ?_
    refine w_icmp_eq (g := 139) d_134_82 (by decide) (by omega) (fun h82 => ?_) (fun h82 => ?_)
    · exact absurd h82 (by omega)
    · refine w_ld d_134_85 rfl rfl rfl ?_
      refine w_bip d_134_86 (by decide) ?_
      refine w_icmp_eq (g := 139) d_134_88 (by decide) (by omega) (fun h88 => ?_) (fun h88 => ?_)
      · exact absurd h88 (by omega)
      · refine w_ld d_134_91 rfl rfl rfl ?_
        refine w_bip d_134_92 (by decide) ?_
        refine w_icmp_eq (g := 139) d_134_94 (by decide) (by omega) (fun h94 => ?_) (fun h94 => ?_)
        · exact absurd h94 (by omega)
        · refine w_ld d_134_97 rfl rfl rfl ?_
          refine w_bip d_134_98 (by decide) ?_
          refine w_icmp_eq (g := 139) d_134_100 (by decide) (by omega) (fun h100 => ?_) (fun h100 => ?_)
          · exact absurd h100 (by omega)
          · refine w_ld d_134_103 rfl rfl rfl ?_
            refine w_bip d_134_104 (by decide) ?_
            refine w_icmp_eq (g := 139) d_134_106 (by decide) (by omega) (fun h106 => ?_) (fun h106 => ?_)
            · exact absurd h106 (by omega)
            · refine w_ld d_134_109 rfl rfl rfl ?_
              refine w_bip d_134_110 (by decide) ?_
              refine w_icmp_eq (g := 139) d_134_112 (by decide) (by omega) (fun h112 => ?_) (fun h112 => ?_)
              · exact absurd h112 (by omega)
              · refine w_ld d_134_115 rfl rfl rfl ?_
                refine w_bip d_134_116 (by decide) ?_
                refine w_icmp_eq (g := 139) d_134_118 (by decide) (by omega) (fun h118 => ?_) (fun h118 => ?_)
                · exact absurd h118 (by omega)
                · refine w_ld d_134_121 rfl rfl rfl ?_
                  refine w_bip d_134_122 (by decide) ?_
                  refine w_icmp_eq (g := 139) d_134_124 (by decide) (by omega) (fun h124 => ?_) (fun h124 => ?_)
                  · exact absurd h124 (by omega)
                  · refine w_ld d_134_127 rfl rfl rfl ?_
                    refine w_bip d_134_128 (by decide) ?_
                    refine w_icmp_eq (g := 139) d_134_130 (by decide) (by omega) (fun h130 => ?_) (fun h130 => ?_)
                    · exact absurd h130 (by omega)
                    · refine w_ld d_134_133 rfl rfl rfl ?_
                      refine w_bip d_134_134 (by decide) ?_
                      refine w_icmp_ne (g := 143) d_134_136 (by decide) (by omega) (fun h136 => ?_) (fun h136 => ?_)
                      · refine w_con d_134_143 ?_
                        refine w_st1 (L' := [_, _, _, _, _, _, _, _, _]) d_134_144 rfl (by decide) rfl (by decide) rfl ?_
                        refine w_ld d_134_146 rfl rfl rfl ?_
                        refine w_ld d_134_147 rfl rfl rfl ?_
                        refine w_bip d_134_148 (by decide) ?_
                        refine w_icmp_ne (g := 157) d_134_150 (by decide) (by omega) (fun h150 => ?_) (fun h150 => ?_)
                        · refine w_ld d_134_157 rfl rfl rfl ?_
                          refine w_bip d_134_158 (by decide) ?_
                          refine w_icmp_ne (g := 167) d_134_160 (by decide) (by omega) (fun h160 => ?_) (fun h160 => ?_)
                          · refine w_ld d_134_167 rfl rfl rfl ?_
                            refine w_bip d_134_168 (by decide) ?_
                            refine w_icmp_ne (g := 177) d_134_170 (by decide) (by omega) (fun h170 => ?_) (fun h170 => ?_)
                            · refine w_ld d_134_177 rfl rfl rfl ?_
                              refine w_bip d_134_178 (by decide) ?_
                              refine w_icmp_ne (g := 187) d_134_180 (by decide) (by omega) (fun h180 => ?_) (fun h180 => ?_)
                              · refine w_ld d_134_187 rfl rfl rfl ?_
                                refine w_bip d_134_188 (by decide) ?_
                                refine w_icmp_ne (g := 197) d_134_190 (by decide) (by omega) (fun h190 => ?_) (fun h190 => ?_)
                                · refine w_ld d_134_197 rfl rfl rfl ?_
                                  refine w_bip d_134_198 (by decide) ?_
                                  refine w_icmp_ne (g := 208) d_134_200 (by decide) (by omega) (fun h200 => ?_) (fun h200 => ?_)
                                  · refine w_ld d_134_208 rfl rfl rfl ?_
                                    refine w_bip d_134_209 (by decide) ?_
                                    refine w_icmp_ne (g := 219) d_134_211 (by decide) (by omega) (fun h211 => ?_) (fun h211 => ?_)
                                    · refine w_ld d_134_219 rfl rfl rfl ?_
                                      refine w_if_eq (g := 228) d_134_221 (by decide) (by decide) (fun h221 => ?_) (fun h221 => ?_)
                                      · refine w_bip d_134_228 (by decide) ?_
                                        refine w_ld d_134_230 rfl rfl rfl ?_
                                        refine w_cV1 (a := 46) (as := [_, _]) (rest := _) rfl d_134_231 (by rfl) (by rfl) (by first | rfl | assumption) (by rfl) (by rfl) (Nat.le_of_ble_eq_true rfl) (by omega) (by omega) hmk ?_
                                        refine w_st1 (L' := [_, _, _, _, _, _, _, _, _]) d_134_234 rfl (by decide) rfl (by decide) rfl ?_
                                        refine w_con d_134_236 ?_
                                        refine w_st1 (L' := [_, _, _, _, _, _, _, _, _]) d_134_237 rfl (by decide) rfl (by decide) rfl ?_
                                        refine w_ld d_134_239 rfl rfl rfl ?_
                                        refine w_bip d_134_240 (by decide) ?_
                                        refine w_icmp_ne (g := 252) d_134_242 (by decide) (by omega) (fun h242 => ?_) (fun h242 => ?_)
                                        · refine w_ld d_134_252 rfl rfl rfl ?_
                                          refine w_bip d_134_253 (by decide) ?_
                                          refine w_icmp_ne (g := 318) d_134_255 (by decide) (by omega) (fun h255 => ?_) (fun h255 => ?_)
                                          · refine w_ld d_134_318 rfl rfl rfl ?_
                                            refine w_bip d_134_319 (by decide) ?_
                                            refine w_icmp_eq (g := 330) d_134_321 (by decide) (by omega) (fun h321 => ?_) (fun h321 => ?_)
                                            · exact absurd h321 (by omega)
                                            · refine w_ld d_134_324 rfl rfl rfl ?_
                                              refine w_bip d_134_325 (by decide) ?_
                                              refine w_icmp_ne (g := 341) d_134_327 (by decide) (by omega) (fun h327 => ?_) (fun h327 => ?_)
                                              · refine w_ld d_134_341 rfl rfl rfl ?_
                                                refine w_bip d_134_342 (by decide) ?_
                                                refine w_icmp_eq (g := 353) d_134_344 (by decide) (by omega) (fun h344 => ?_) (fun h344 => ?_)
                                                · exact absurd h344 (by omega)
                                                · refine w_ld d_134_347 rfl rfl rfl ?_
                                                  refine w_bip d_134_348 (by decide) ?_
                                                  refine w_icmp_ne (g := 386) d_134_350 (by decide) (by omega) (fun h350 => ?_) (fun h350 => ?_)
                                                  · refine w_ld d_134_386 rfl rfl rfl ?_
                                                    refine w_bip d_134_387 (by decide) ?_
                                                    refine w_icmp_ne (g := 423) d_134_389 (by decide) (by omega) (fun h389 => ?_) (fun h389 => ?_)
                                                    · refine w_ld d_134_423 rfl rfl rfl ?_
                                                      refine w_if_eq (g := 449) d_134_425 (by decide) (by decide) (fun h425 => ?_) (fun h425 => ?_)
                                                      · refine w_ld d_134_449 rfl rfl rfl ?_
                                                        refine w_cS1 (as := [_]) (rest := _) rfl d_134_450 (by rfl) (by rfl) (by rfl) (by rfl) (Nat.le_of_ble_eq_true rfl) (by omega) (by omega) (m_alpha (by omega)) ?_
                                                        refine w_st1 (L' := [_, _, _, _, _, _, _, _, _]) d_134_453 rfl (by decide) rfl (by decide) rfl ?_
                                                        refine w_ld d_134_455 rfl rfl rfl ?_
                                                        refine w_ld d_134_456 rfl rfl rfl ?_
                                                        refine w_ld d_134_458 rfl rfl rfl ?_
                                                        refine w_gI d_134_459 (by rfl) (by first | rfl | assumption) (by rfl) (by first | exact n24 | exact n25 | exact x24 | exact x25 | rfl) ?_
                                                        refine w_con d_134_462 ?_
                                                        refine w_iadd d_134_463 ?_
                                                        refine w_con d_134_464 ?_
                                                        refine w_cV0 (a := 46) (as := [_, _, _]) (rest := _) rfl d_134_465 (by rfl) (by rfl) (by first | rfl | assumption) (by rfl) (by rfl) (Nat.le_of_ble_eq_true rfl) (by omega) (by omega) (m_setWord (by omega)) ?_
                                                        refine w_ld d_134_468 rfl rfl rfl ?_
                                                        refine w_getF d_134_469 (by rfl) (by first | rfl | assumption) (by rfl) (by rfl) ?_
                                                        refine w_ld d_134_472 rfl rfl rfl ?_
                                                        refine w_con d_134_474 ?_
                                                        refine w_iast d_134_475 (by first | rfl | assumption) (by omega) ?_
                                                        refine w_ld d_134_476 rfl rfl rfl ?_
                                                        refine w_con d_134_477 ?_
                                                        refine w_ld d_134_478 rfl rfl rfl ?_
                                                        refine w_cV1 (a := 46) (as := [_, _]) (rest := _) rfl d_134_479 (by rfl) (by rfl) (by first | rfl | assumption) (by rfl) (by rfl) (Nat.le_of_ble_eq_true rfl) (by omega) (by omega) hmk3 ?_
                                                        refine w_st1 (L' := [_, _, _, _, _, _, _, _, _]) d_134_482 rfl (by decide) rfl (by decide) rfl ?_
                                                        refine w_ld d_134_484 rfl rfl rfl ?_
                                                        refine w_ld d_134_485 rfl rfl rfl ?_
                                                        refine w_ld d_134_487 rfl rfl rfl ?_
                                                        refine w_gI d_134_488 (by rfl) (by first | rfl | assumption) (by rfl) (by first | exact n24 | exact n25 | exact x24 | exact x25 | rfl) ?_
                                                        refine w_con d_134_491 ?_
                                                        refine w_iadd d_134_492 ?_
                                                        refine w_ld d_134_493 rfl rfl rfl ?_
                                                        refine w_if_ne (g := 506) d_134_495 (by decide) (by omega) (fun h495 => ?_) (fun h495 => ?_)
                                                        · refine w_con d_134_506 ?_
                                                          refine w_goto (g := 516) d_134_507 (by decide) ?_
                                                          refine w_cV0 (a := 46) (as := [_, _, _]) (rest := _) rfl d_134_516 (by rfl) (by rfl) (by first | rfl | assumption) (by rfl) (by rfl) (Nat.le_of_ble_eq_true rfl) (by omega) (by omega) (m_setWord (by omega)) ?_
                                                          exact m_tagchild hM hn hr hw h16 hpl hq hf hl (z := 0) (by omega) (by omega) hc hd hk1 hM2 hk3 r49 r50 r55 r56 c49 c50 c53 c55 c56
                                                        · refine w_ld d_134_498 rfl rfl rfl ?_
                                                          refine w_gI d_134_499 (by rfl) (by first | rfl | assumption) (by rfl) (by first | exact n24 | exact n25 | exact x24 | exact x25 | rfl) ?_
                                                          refine w_con d_134_502 ?_
                                                          refine w_icmp_ge (g := 510) d_134_503 (by decide) (by omega) (fun h503 => ?_) (fun h503 => ?_)
                                                          · refine w_ld d_134_510 rfl rfl rfl ?_
                                                            refine w_gI d_134_511 (by rfl) (by first | rfl | assumption) (by rfl) (by first | exact n24 | exact n25 | exact x24 | exact x25 | rfl) ?_
                                                            refine w_con d_134_514 ?_
                                                            refine w_isub d_134_515 ?_
                                                            refine w_cV0 (a := 46) (as := [_, _, _]) (rest := _) rfl d_134_516 (by rfl) (by rfl) (by first | rfl | assumption) (by rfl) (by rfl) (Nat.le_of_ble_eq_true rfl) (by omega) (by omega) (m_setWord (by omega)) ?_
                                                            exact m_tagchild hM hn hr hw h16 hpl hq hf hl (z := μ.1 46 25 - 2) (by omega) (by omega) hc hd hk1 hM2 hk3 r49 r50 r55 r56 c49 c50 c53 c55 c56
                                                          · refine w_con d_134_506 ?_
                                                            refine w_goto (g := 516) d_134_507 (by decide) ?_
                                                            refine w_cV0 (a := 46) (as := [_, _, _]) (rest := _) rfl d_134_516 (by rfl) (by rfl) (by first | rfl | assumption) (by rfl) (by rfl) (Nat.le_of_ble_eq_true rfl) (by omega) (by omega) (m_setWord (by omega)) ?_
                                                            exact m_tagchild hM hn hr hw h16 hpl hq hf hl (z := 0) (by omega) (by omega) hc hd hk1 hM2 hk3 r49 r50 r55 r56 c49 c50 c53 c55 c56
                                                      · exact absurd rfl h425
                                                    · exact absurd h389 (by omega)
                                                  · exact absurd h350 (by omega)
                                              · exact absurd h327 (by omega)
                                          · exact absurd h255 (by omega)
                                        · exact absurd h242 (by omega)
                                      · exact absurd rfl h221
                                    · exact absurd h211 (by omega)
                                  · exact absurd h200 (by omega)
                                · exact absurd h190 (by omega)
                              · exact absurd h180 (by omega)
                            · exact absurd h170 (by omega)
                          · exact absurd h160 (by omega)
                        · exact absurd h150 (by omega)
                      · exact absurd h136 (by omega)
  · exact absurd hc h30
theorem m_meaning {sc : Nat × (Nat → Int32)} {fr lo : Nat} {μ : Mem} {ρ : Nat × Nat × Nat} (hM : MI μ) {n : Int} (hn : μ.1 46 17 = n ∧ 0 ≤ n ∧ n ≤ 125) (hr : 480 ≤ μ.1 46 24 ∧ 0 ≤ μ.1 46 25 ∧ μ.1 46 24 + μ.1 46 25 ≤ 718 ∧ μ.1 46 25 ≤ 238) (hw : ∀ i, 0 ≤ i → i < μ.1 46 25 → 32 ≤ μ.2.2 57 (μ.1 46 24 + i) ∧ μ.2.2 57 (μ.1 46 24 + i) ≤ 126) (h16 : μ.1 46 16 = -1) (hpl : 0 ≤ μ.1 46 15 ∧ μ.1 46 15 ≤ 900) {q : Int} (hq : 0 ≤ q ∧ q ≤ 900) (hf : 12 ≤ fr) (hl : 500 ≤ lo) : w_S sc fr lo 134 [.ref 46, .int (ji q)] (hp μ, ρ) (fun o t' => ∃ μ' : Mem, o = .inl none ∧ mmP μ μ' (fun i => μ.2.2 57 (μ.1 46 24 + i)) (μ.1 46 25) (μ.1 46 24) q n ∧ t' = (hp μ', ρ)) := by
  have l0 := wl_wl0 (w := (fun i => μ.2.2 57 (μ.1 46 24 + i))) (s := (μ.1 46 25)) hw (k := 0) (by decide)
  have l1 := wl_wl0 (w := (fun i => μ.2.2 57 (μ.1 46 24 + i))) (s := (μ.1 46 25)) hw (k := 1) (by decide)
  have l2 := wl_wl0 (w := (fun i => μ.2.2 57 (μ.1 46 24 + i))) (s := (μ.1 46 25)) hw (k := 2) (by decide)
  have rl : ∀ (ν : Mem) (k : Int), (∀ p, p = 24 ∨ p = 25 → ν.1 46 p = μ.1 46 p) → ν.2.2 57 = μ.2.2 57 → 0 ≤ k ∧ k < 100 → w_E sc (fr - 1) (lo - (19 + 2)) 127 [.ref 46, .int (ji k)] (hp ν, ρ) (.inl (some (.int (ji (wl0 (fun i => μ.2.2 57 (μ.1 46 24 + i)) (μ.1 46 25) k))))) (hp ν, ρ) := fun ν k h1 h2 hk => by
    have e := m_rawLetter (sc := sc) (fr := fr - 1) (lo := lo - (19 + 2)) (μ := ν) (ρ := ρ) (by rw [h1 24 (by omega), h1 25 (by omega)]; omega) (k := k) (by omega)
    rw [h1 24 (by omega), h1 25 (by omega), h2] at e
    exact e
  have rl0 : ∀ k : Int, 0 ≤ k ∧ k < 100 → w_E sc (fr - 1) (lo - (19 + 2)) 127 [.ref 46, .int (ji k)] (hp μ, ρ) (.inl (some (.int (ji (wl0 (fun i => μ.2.2 57 (μ.1 46 24 + i)) (μ.1 46 25) k))))) (hp μ, ρ) := fun k hk => rl μ k (fun _ _ => rfl) rfl hk
  refine w_S.of (L0 := [some (.ref 46), some (.int (ji q)), none, none, none, none, none, none, none]) rfl rfl (Nat.le_of_ble_eq_true rfl) (by rfl) ?_
  refine w_ld d_134_0 rfl rfl rfl ?_
  refine w_con d_134_1 ?_
  refine w_cV1 (a := 46) (as := [_]) (rest := _) rfl d_134_2 (by rfl) (by rfl) (by first | rfl | assumption) (by rfl) (by rfl) (Nat.le_of_ble_eq_true rfl) (by omega) (by omega) (rl0 0 (by decide)) ?_
  refine w_st1 (L' := [_, _, _, _, _, _, _, _, _]) d_134_5 rfl (by decide) rfl (by decide) rfl ?_
  refine w_ld d_134_6 rfl rfl rfl ?_
  refine w_con d_134_7 ?_
  refine w_cV1 (a := 46) (as := [_]) (rest := _) rfl d_134_8 (by rfl) (by rfl) (by first | rfl | assumption) (by rfl) (by rfl) (Nat.le_of_ble_eq_true rfl) (by omega) (by omega) (rl0 1 (by decide)) ?_
  refine w_st1 (L' := [_, _, _, _, _, _, _, _, _]) d_134_11 rfl (by decide) rfl (by decide) rfl ?_
  refine w_ld d_134_12 rfl rfl rfl ?_
  refine w_gI d_134_13 (by rfl) (by first | rfl | assumption) (by rfl) rfl ?_
  refine w_con d_134_16 ?_
  refine w_icmp_ne (g := 24) d_134_17 (by decide) (by omega) (fun h17 => ?_) (fun h17 => ?_)
  · refine w_con d_134_24 ?_
    refine w_st1 (L' := [_, _, _, _, _, _, _, _, _]) d_134_25 rfl (by decide) rfl (by decide) rfl ?_
    by_cases hc : (wl0 (fun i => μ.2.2 57 (μ.1 46 24 + i)) (μ.1 46 25) 0) = 126
    · by_cases d126 : (wl0 (fun i => μ.2.2 57 (μ.1 46 24 + i)) (μ.1 46 25) 1) = 126
      · exact m_mean_a hM hn hr hw h16 hpl hq hf hl (Or.inr ⟨rfl, h17⟩) hc d126
      by_cases d94 : (wl0 (fun i => μ.2.2 57 (μ.1 46 24 + i)) (μ.1 46 25) 1) = 94
      · exact m_mean_b hM hn hr hw h16 hpl hq hf hl (Or.inr ⟨rfl, h17⟩) hc d94
      by_cases d96 : (wl0 (fun i => μ.2.2 57 (μ.1 46 24 + i)) (μ.1 46 25) 1) = 96
      · exact m_mean_c hM hn hr hw h16 hpl hq hf hl (Or.inr ⟨rfl, h17⟩) hc d96
      by_cases d95 : (wl0 (fun i => μ.2.2 57 (μ.1 46 24 + i)) (μ.1 46 25) 1) = 95
      · exact m_mean_n hM hn hr hw h16 hpl hq hf hl (Or.inr ⟨rfl, h17⟩) hc d95
      by_cases d63 : (wl0 (fun i => μ.2.2 57 (μ.1 46 24 + i)) (μ.1 46 25) 1) = 63
      · exact m_mean_q hM hn hr hw h16 hpl hq hf hl (Or.inr ⟨rfl, h17⟩) hc d63
      by_cases d105 : (wl0 (fun i => μ.2.2 57 (μ.1 46 24 + i)) (μ.1 46 25) 1) = 105
      · exact m_mean_i hM hn hr hw h16 hpl hq hf hl (Or.inr ⟨rfl, h17⟩) hc d105
      by_cases d109 : (wl0 (fun i => μ.2.2 57 (μ.1 46 24 + i)) (μ.1 46 25) 1) = 109
      · exact m_mean_m hM hn hr hw h16 hpl hq hf hl (Or.inr ⟨rfl, h17⟩) hc d109
      by_cases d58 : (wl0 (fun i => μ.2.2 57 (μ.1 46 24 + i)) (μ.1 46 25) 1) = 58
      · exact m_mean_k hM hn hr hw h16 hpl hq hf hl (Or.inr ⟨rfl, h17⟩) hc d58
      by_cases d36 : (wl0 (fun i => μ.2.2 57 (μ.1 46 24 + i)) (μ.1 46 25) 1) = 36
      · exact m_mean_s hM hn hr hw h16 hpl hq hf hl (Or.inr ⟨rfl, h17⟩) hc d36
      by_cases d99 : (wl0 (fun i => μ.2.2 57 (μ.1 46 24 + i)) (μ.1 46 25) 1) = 99
      · exact m_mean_h hM hn hr hw h16 hpl hq hf hl (Or.inr ⟨rfl, h17⟩) hc d99
      exact m_mean_t hM hn hr hw h16 hpl hq hf hl (Or.inr ⟨rfl, h17⟩) hc ⟨d95, d63, d105, d109, d58, d36, d99, d126, d94, d96⟩
    · exact m_mean0 hM hn hr hw h16 hpl hq hf hl (Or.inr ⟨rfl, h17⟩) hc
  · refine w_con d_134_20 ?_
    refine w_goto (g := 25) d_134_21 (by decide) ?_
    refine w_st1 (L' := [_, _, _, _, _, _, _, _, _]) d_134_25 rfl (by decide) rfl (by decide) rfl ?_
    by_cases hc : (wl0 (fun i => μ.2.2 57 (μ.1 46 24 + i)) (μ.1 46 25) 0) = 126
    · by_cases d126 : (wl0 (fun i => μ.2.2 57 (μ.1 46 24 + i)) (μ.1 46 25) 1) = 126
      · exact m_mean_a hM hn hr hw h16 hpl hq hf hl (Or.inl ⟨rfl, h17⟩) hc d126
      by_cases d94 : (wl0 (fun i => μ.2.2 57 (μ.1 46 24 + i)) (μ.1 46 25) 1) = 94
      · exact m_mean_b hM hn hr hw h16 hpl hq hf hl (Or.inl ⟨rfl, h17⟩) hc d94
      by_cases d96 : (wl0 (fun i => μ.2.2 57 (μ.1 46 24 + i)) (μ.1 46 25) 1) = 96
      · exact m_mean_c hM hn hr hw h16 hpl hq hf hl (Or.inl ⟨rfl, h17⟩) hc d96
      by_cases d95 : (wl0 (fun i => μ.2.2 57 (μ.1 46 24 + i)) (μ.1 46 25) 1) = 95
      · exact m_mean_n hM hn hr hw h16 hpl hq hf hl (Or.inl ⟨rfl, h17⟩) hc d95
      by_cases d63 : (wl0 (fun i => μ.2.2 57 (μ.1 46 24 + i)) (μ.1 46 25) 1) = 63
      · exact m_mean_q hM hn hr hw h16 hpl hq hf hl (Or.inl ⟨rfl, h17⟩) hc d63
      by_cases d105 : (wl0 (fun i => μ.2.2 57 (μ.1 46 24 + i)) (μ.1 46 25) 1) = 105
      · exact m_mean_i hM hn hr hw h16 hpl hq hf hl (Or.inl ⟨rfl, h17⟩) hc d105
      by_cases d109 : (wl0 (fun i => μ.2.2 57 (μ.1 46 24 + i)) (μ.1 46 25) 1) = 109
      · exact m_mean_m hM hn hr hw h16 hpl hq hf hl (Or.inl ⟨rfl, h17⟩) hc d109
      by_cases d58 : (wl0 (fun i => μ.2.2 57 (μ.1 46 24 + i)) (μ.1 46 25) 1) = 58
      · exact m_mean_k hM hn hr hw h16 hpl hq hf hl (Or.inl ⟨rfl, h17⟩) hc d58
      by_cases d36 : (wl0 (fun i => μ.2.2 57 (μ.1 46 24 + i)) (μ.1 46 25) 1) = 36
      · exact m_mean_s hM hn hr hw h16 hpl hq hf hl (Or.inl ⟨rfl, h17⟩) hc d36
      by_cases d99 : (wl0 (fun i => μ.2.2 57 (μ.1 46 24 + i)) (μ.1 46 25) 1) = 99
      · exact m_mean_h hM hn hr hw h16 hpl hq hf hl (Or.inl ⟨rfl, h17⟩) hc d99
      exact m_mean_t hM hn hr hw h16 hpl hq hf hl (Or.inl ⟨rfl, h17⟩) hc ⟨d95, d63, d105, d109, d58, d36, d99, d126, d94, d96⟩
    · exact m_mean0 hM hn hr hw h16 hpl hq hf hl (Or.inl ⟨rfl, h17⟩) hc
