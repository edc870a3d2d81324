/-! THE PURE PART, 69: values that are no arrays: the calls, 2 -/
theorem Cbad_of {t x : Nat} (hT : isT t) {μ μ1 μ2 : Mem} {w : Int} (h1 : cfr t μ μ1) (hC : CI t x μ1) (h2 : nux μ1 μ2) (hw : 0 ≤ w ∧ w ≤ 240) : Cbad t μ (stI μ2 20 6 w) w := by
  obtain ⟨e1, e2⟩ := nux_o h2
  unfold isT at hT
  have := hC.2.2.2.2.2.1
  have := hC.2.2.2.2.1
  have := hC.2.1
  refine ⟨cfr_trans h1 (cfr_trans ⟨fun a q _ _ h3 _ _ => e1 a q h3, by rw [e2], fun a _ _ _ _ => by rw [e2]⟩ (cfr_I (Or.inl rfl))), stI_at _ _ _ _, hw, ?_, fun k => ?_⟩
  · rw [stI_ne (by omega), e1 (t + 7) 1 (by omega)]; omega
  · show 0 ≤ μ2.2.2 (t + 7 + 1) k ∧ μ2.2.2 (t + 7 + 1) k < 65536
    rw [e2]; exact hC.2.2.2.2.2.2.1 k
/-- the class's meaning -/
theorem t_mean2 {sc : Nat × (Nat → Int32)} {fr lo : Nat} {μ μ1 : Mem} {ρ : Nat × Nat × Nat} {t x : Nat} (hT : isT t) (hX : x = 42 ∨ x = 44) (hW : WDc t x μ μ1) {n : Int} (hn : μ.1 t 7 = n ∧ 0 ≤ n ∧ n ≤ 125) (hq : 0 ≤ μ.1 20 5 ∧ μ.1 20 5 ≤ 240) (hf : 18 ≤ fr) (hl : 700 ≤ lo) (hr : 1 ≤ ρ.2.1 ∧ 6 ≤ ρ.2.2) (e : Nat) : w_S sc fr lo 58 [.ref 20] (hp μ1, ρ) (fun o τ =>
    (o = .inl none ∧ ∃ μ', τ = (hp μ', ρ) ∧ CI t x μ' ∧ Kp t n μ1 μ' ∧ GV t (e + 2) n μ' ∧ μ'.1 20 5 = μ1.1 20 5 ∧ (μ'.1 t 7 = n + 1 ∨ μ'.1 t 7 = n + 2 ∧ 2 ≤ μ1.1 20 9) ∧ mn (fun i => μ1.2.2 (t + 7 + 1) (μ1.1 20 8 + i)) (μ1.1 20 9) ≠ none ∧ ∀ d ν ν1 ν', RWd t x d μ1 ν ν1 → mmP ν1 ν' (fun i => ν1.2.2 57 (ν1.1 46 24 + i)) (ν1.1 46 25) (ν1.1 46 24) (μ.1 20 5) n → Pst0 t x d n μ' ν ν')
    ∨ (o = .inr (1, ρ.1) ∧ ∃ μ', τ = (hp μ', ρ.1 + 1, ρ.2.1 - 1, ρ.2.2 - 6) ∧ Cbad t μ μ' (μ.1 20 5) ∧ mn (fun i => μ1.2.2 (t + 7 + 1) (μ1.1 20 8 + i)) (μ1.1 20 9) = none)) := by
  have hW0 := hW
  obtain ⟨w1, w2, w3, w4, w5, w6, w7, w8, w9, w10, w11⟩ := hW
  have hc1 := w1.1
  have hu := w1.2.2.2.2.2.1
  have hpl := w1.2.2.2.2.1
  have hsz := w1.2.1
  have e7 : μ1.1 t 7 = n := w4.trans hn.1
  refine (t_meaning hT hc1.2 ⟨hu.1, by omega⟩ w8 w1.2.2.2.2.2.2.1 (by rw [e7]; omega) hf hl hr).mono ?_
  intro o τ h
  have hpr : ∀ i, 0 ≤ i → i < μ1.1 20 9 → 32 ≤ μ1.2.2 (t + 7 + 1) (μ1.1 20 8 + i) ∧ μ1.2.2 (t + 7 + 1) (μ1.1 20 8 + i) ≤ 126 := fun i i0 i1 => w1.2.2.2.2.2.2.2.1 _ (by omega) (by omega)
  unfold mnQ at h
  cases hm : mn (fun i => μ1.2.2 (t + 7 + 1) (μ1.1 20 8 + i)) (μ1.1 20 9) with
  | none =>
    rw [hm] at h
    obtain ⟨rfl, ν, hx, rfl⟩ := h
    refine Or.inr ⟨rfl, _, rfl, ?_, rfl⟩
    rw [w7]
    exact Cbad_of hT w2 w1 hx hq
  | some p =>
    obtain ⟨k, v, a, z⟩ := p
    rw [hm] at h
    obtain ⟨rfl, ν, hx, h3⟩ := h
    have hsp := mn_sp w8.2.1 hpr hm
    have hx1 := nux_o hx
    have hCν := nux_CI hT hX hx w1
    have hT' := hT
    unfold isT at hT
    have e8 : ν.1 t 7 = n := (hx1.1 t 7 (by omega)).trans e7
    have eu : ν.1 (t + 7) 1 = μ1.1 (t + 7) 1 := hx1.1 (t + 7) 1 (by omega)
    by_cases hk : k = 12
    · subst hk
      simp only [if_pos rfl] at h3
      subst h3
      rw [w7, show μ1.1 t 7 = ν.1 t 7 by omega]
      have hs2 := hsp.2.2.2.2.2.2 rfl
      obtain ⟨g1, g2, g3⟩ := GV_tag hT' hX hCν (n := n) (f := μ1.1 20 8) (s := μ1.1 20 9) (q := μ.1 20 5) ⟨e8, by omega⟩ (by rw [eu]; omega) hq e
      obtain ⟨_, _, rc, rI, _⟩ := tgM_f (μ := ν) hT' (f := μ1.1 20 8) (s := μ1.1 20 9) (q := μ.1 20 5) e8
      refine Or.inl ⟨rfl, tgM ν t (μ1.1 20 8) (μ1.1 20 9) (μ.1 20 5), rfl, g1, Kp_trans (nux_Kp hT' hx n) g2 (Int.le_refl _), g3, ?_, Or.inr ⟨rc, hs2⟩, (fun y => by cases y), fun d α α1 α' hRW hmm => str_T hT' hX hW0 ⟨hn.1, hn.2.1⟩ hRW hx hm hmm⟩
      rw [rI 20 5 (by omega)]
      exact hx1.1 20 5 (by omega)
    · simp only [if_neg hk] at h3
      subst h3
      rw [w7]
      have hwk : 0 ≤ wkf k (μ1.1 20 8) a ∧ 0 ≤ z ∧ wkf k (μ1.1 20 8) a + z ≤ ν.1 (t + 7) 1 := by
        rw [eu]
        unfold wkf
        by_cases hkk : k = 4 ∨ k = 5 ∨ k = 6
        · rw [if_pos hkk]; omega
        · rw [if_neg hkk]
          have := hsp.2.2.1 hk
          omega
      obtain ⟨g1, g2, g3⟩ := GV_leaf hT' hX hCν (n := n) (k := k) (v := v) (f := wkf k (μ1.1 20 8) a) (z := z) (s := μ.1 20 5) ⟨e8, by omega⟩ ⟨hsp.1.1, hsp.2.1 hk⟩ hsp.2.2.2.2.1 hsp.2.2.2.2.2.1 hwk hq (hsp.2.2.1 hk) (e + 1)
      obtain ⟨_, rc, rI, _⟩ := adw_f (μ := ν) hT' (k := k) (v := v) (f := wkf k (μ1.1 20 8) a) (z := z) (s := μ.1 20 5)
      refine Or.inl ⟨rfl, _, rfl, g1, Kp_trans (nux_Kp hT' hx n) g2 (Int.le_refl _), g3, ?_, Or.inl (by rw [rc, e8]), (fun y => by cases y), fun d α α1 α' hRW hmm => str_P hT' hX hW0 ⟨hn.1, hn.2.1⟩ hRW hx hk hm hmm⟩
      rw [rI 20 5 (by omega)]
      exact hx1.1 20 5 (by omega)
/-- meaning, for a string that is an element -/
theorem t_meanU {sc : Nat × (Nat → Int32)} {fr lo : Nat} {μ μ1 : Mem} {ρ : Nat × Nat × Nat} {t x : Nat} {d key : Int} (hT : isT t) (hX : x = 42 ∨ x = 44) (hC : CI t x μ) (hd : 0 ≤ d ∧ d ≤ 8) (hc : cch x μ = 34) (hn : 2 * μ.1 t 7 ≤ μ.1 20 5 + d) (hW : WDc t x (stI μ 20 5 (cpl x μ)) μ1) (hS : SimW sc t x d key (stI μ 20 5 (cpl x μ)) μ1) (hf : 18 ≤ fr) (hl : 700 ≤ lo) (hr : 1 ≤ ρ.2.1 ∧ 6 ≤ ρ.2.2) (e : Nat) : w_S sc fr lo 58 [.ref 20] (hp μ1, ρ) (EP sc t x d key (e + 2) μ ρ) := by
  have hcp := cpl_in hC
  have hsz := hC.2.1
  have hpl := hC.2.2.2.2.1
  have hc0 := hC.2.2.2.2.2.2.2.2.2.2
  have e7 : (stI μ 20 5 (cpl x μ)).1 t 7 = μ.1 t 7 := stI_ne (by unfold isT at hT; omega)
  refine (t_mean2 hT hX hW (n := μ.1 t 7) ⟨e7, hc0, by omega⟩ (by rw [stI_at]; omega) hf hl hr e).mono ?_
  rintro o τ (⟨rfl, μ', rfl, h1, h2, h3, h4, h5, h6, h7⟩ | ⟨rfl, μ', rfl, h1, h2⟩)
  · refine Or.inl ⟨rfl, μ', rfl, h1, Kp_trans (Kp_pl hT hcp.1) (Kp_trans (hW.kp (μ.1 t 7)) h2 (Int.le_refl _)) (Int.le_refl _), h3, ?_, sim_str hT hX hC hd hc ⟨hc0, by omega⟩ hW hS (fun ν ν1 ν' hRW hmm => h7 d ν ν1 ν' hRW (by rw [stI_at]; exact hmm))⟩
    have w10 := hW.2.2.2.2.2.2.2.2.2
    rw [stI_at] at w10
    omega
  · rw [stI_at] at h1
    refine Or.inr ⟨rfl, μ', cpl x μ, rfl, ⟨cfr_trans (cfr_I (Or.inl rfl)) h1.1, h1.2⟩, sim_strX hT hX hC hd hc (Or.inr ⟨rfl, ⟨hc0, by omega⟩, μ1, hW, hS, h2⟩)⟩
