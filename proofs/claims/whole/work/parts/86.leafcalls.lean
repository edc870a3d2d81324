/-! THE PURE PART, 68: values that are no arrays: the calls -/
theorem nux_Rel {t x : Nat} {d : Int} (hT : isT t) (hX : x = 42 ∨ x = 44) {μ μ2 ν : Mem} (h : nux μ μ2) (hR : Rel t x d μ ν) : Rel t x d μ2 ν := by
  obtain ⟨h1, h2⟩ := nux_o h
  exact Rel_mv hT hX hR (fun a q _ a2 => h1 a q a2) (by rw [h2]) (fun _ _ _ _ => rfl) rfl (by rw [h1 20 5 (by omega)]; exact hR.2.1.1) hR.2.1.2
/-- both have the same word -/
theorem RWd_w {t x : Nat} {d : Int} {μ1 ν ν1 : Mem} (h : RWd t x d μ1 ν ν1) (hw : 0 ≤ μ1.1 20 8 ∧ 0 ≤ μ1.1 20 9 ∧ μ1.1 20 8 + μ1.1 20 9 ≤ μ1.1 (t + 7) 1) (i : Int) (i0 : 0 ≤ i) (i1 : i < μ1.1 20 9) : ν1.2.2 57 (ν1.1 46 24 + i) = μ1.2.2 (t + 7 + 1) (μ1.1 20 8 + i) := by
  rw [h.2.1, show 480 + μ1.1 20 8 + i = 480 + (μ1.1 20 8 + i) by omega]
  exact h.1.2.2.2.2.1 _ (by omega) (by omega)
theorem str_P {t x : Nat} {d n : Int} (hT : isT t) (hX : x = 42 ∨ x = 44) {μ μ1 μ2 ν ν1 ν' : Mem} (hW : WDc t x μ μ1) (hn : μ.1 t 7 = n ∧ 0 ≤ n) (hR : RWd t x d μ1 ν ν1) (hx : nux μ1 μ2) {k v a z p : Int} (hk : k ≠ 12) (hm : mn (fun i => μ1.2.2 (t + 7 + 1) (μ1.1 20 8 + i)) (μ1.1 20 9) = some (k, v, a, z)) (h : mmP ν1 ν' (fun i => ν1.2.2 57 (ν1.1 46 24 + i)) (ν1.1 46 25) (ν1.1 46 24) p n) : Pst0 t x d n (adw μ2 t k v (wkf k (μ1.1 20 8) a) z p) ν ν' := by
  obtain ⟨w1, w2, w3, w4, w5, w6, w7, w8, w9, w10, w11⟩ := hW
  have hpr : ∀ i, 0 ≤ i → i < μ1.1 20 9 → 32 ≤ μ1.2.2 (t + 7 + 1) (μ1.1 20 8 + i) ∧ μ1.2.2 (t + 7 + 1) (μ1.1 20 8 + i) ≤ 126 := fun i i0 i1 => w1.2.2.2.2.2.2.2.1 _ (by omega) (by omega)
  have hsp := mn_sp w8.2.1 hpr hm
  have hm2 : mn (fun i => ν1.2.2 57 (ν1.1 46 24 + i)) (ν1.1 46 25) = some (k, v, a, z) := by
    rw [hR.2.2.1, mn_cong (fun i i0 i1 => RWd_w hR w8 i i0 i1)]
    exact hm
  unfold mmP at h
  rw [hm2] at h
  obtain ⟨h1, h2, h3⟩ := h
  simp only [if_neg hk] at h3
  obtain ⟨h3, h4, h5, h6, h7, h8, h9, h10, h11⟩ := h3
  have hx1 := nux_o hx
  obtain ⟨⟨r1, r2, r3, r4, r5, r6, r7⟩, rc, rI, rR, rA⟩ := adw_f (μ := μ2) hT (k := k) (v := v) (f := wkf k (μ1.1 20 8) a) (z := z) (s := p)
  have hT' := hT
  unfold isT at hT
  have e7 : μ2.1 t 7 = n := (hx1.1 t 7 (by omega)).trans (w4.trans hn.1)
  rw [e7] at r1 r2 r3 r4 r5 r6 r7 rc rA
  have eu : (adw μ2 t k v (wkf k (μ1.1 20 8) a) z p).1 (t + 7) 1 = μ1.1 (t + 7) 1 := (rI (t + 7) 1 (by omega)).trans (hx1.1 (t + 7) 1 (by omega))
  refine Pst0_row hT' hX (nux_Rel hT' hX hx hR.1) hR.2.2.2.2.1 hR.2.2.2.2.2.1 ⟨e7, hn.2⟩ (fun a q h1 h2 => rI a q h1) (fun a i hz => rA a i (by omega)) h1 h2 (by rw [rc]; exact h3) (fun i i1 i2 => ?_) (fun i i1 i2 => by rw [rc] at i2; omega)
  rw [rc] at i2
  obtain rfl : i = n := by omega
  refine ⟨⟨by rw [h4, r1], by rw [h5, r2], by rw [h7, r4], by rw [h8, r5], by rw [h9, r6]; omega, by rw [h10, r7], ?_⟩, h11⟩
  rw [r3, r4, eu]
  by_cases hz : z = 0
  · exact Or.inl hz
  · refine Or.inr ?_
    have hkk : k = 4 ∨ k = 5 ∨ k = 6 := by have := hsp.2.2.1 hk; omega
    have ef : wkf k (μ1.1 20 8) a = μ1.1 20 8 + a := by unfold wkf; rw [if_pos hkk]
    rw [ef]
    refine ⟨?_, by omega, by omega⟩
    rcases h6 with y | y
    · omega
    · rw [y, hR.2.1]; omega
theorem str_T {t x : Nat} {d n : Int} (hT : isT t) (hX : x = 42 ∨ x = 44) {μ μ1 μ2 ν ν1 ν' : Mem} (hW : WDc t x μ μ1) (hn : μ.1 t 7 = n ∧ 0 ≤ n) (hR : RWd t x d μ1 ν ν1) (hx : nux μ1 μ2) {v a z p : Int} (hm : mn (fun i => μ1.2.2 (t + 7 + 1) (μ1.1 20 8 + i)) (μ1.1 20 9) = some (12, v, a, z)) (h : mmP ν1 ν' (fun i => ν1.2.2 57 (ν1.1 46 24 + i)) (ν1.1 46 25) (ν1.1 46 24) p n) : Pst0 t x d n (tgM μ2 t (μ1.1 20 8) (μ1.1 20 9) p) ν ν' := by
  obtain ⟨w1, w2, w3, w4, w5, w6, w7, w8, w9, w10, w11⟩ := hW
  have hpr : ∀ i, 0 ≤ i → i < μ1.1 20 9 → 32 ≤ μ1.2.2 (t + 7 + 1) (μ1.1 20 8 + i) ∧ μ1.2.2 (t + 7 + 1) (μ1.1 20 8 + i) ≤ 126 := fun i i0 i1 => w1.2.2.2.2.2.2.2.1 _ (by omega) (by omega)
  have hsp := mn_sp w8.2.1 hpr hm
  have hs2 := hsp.2.2.2.2.2.2 rfl
  have hm2 : mn (fun i => ν1.2.2 57 (ν1.1 46 24 + i)) (ν1.1 46 25) = some (12, v, a, z) := by
    rw [hR.2.2.1, mn_cong (fun i i0 i1 => RWd_w hR w8 i i0 i1)]
    exact hm
  unfold mmP at h
  rw [hm2] at h
  obtain ⟨h1, h2, h3⟩ := h
  simp only [if_pos rfl] at h3
  obtain ⟨h3, ⟨h4, h5, h6, h7, h8, h9, h10, h11⟩, ⟨g4, g5, g6, g7, g8, g9, g10, g11⟩, hnr⟩ := h3
  have hx1 := nux_o hx
  have hT' := hT
  unfold isT at hT
  have e7 : μ2.1 t 7 = n := (hx1.1 t 7 (by omega)).trans (w4.trans hn.1)
  obtain ⟨⟨r1, r2, r3, r4, r5, r6, r7⟩, ⟨s1, s2, s3, s4, s5, s6, s7⟩, rc, rI, rR, rA⟩ := tgM_f (μ := μ2) hT' (f := μ1.1 20 8) (s := μ1.1 20 9) (q := p) e7
  have eu : (tgM μ2 t (μ1.1 20 8) (μ1.1 20 9) p).1 (t + 7) 1 = μ1.1 (t + 7) 1 := (rI (t + 7) 1 (by omega)).trans (hx1.1 (t + 7) 1 (by omega))
  refine Pst0_row hT' hX (nux_Rel hT' hX hx hR.1) hR.2.2.2.2.1 hR.2.2.2.2.2.1 ⟨e7, hn.2⟩ (fun a q h1 h2 => rI a q h1) (fun a i hz => rA a i hz) h1 h2 (by rw [rc]; exact h3) (fun i i1 i2 => ?_) (fun i i1 i2 => ?_)
  · rw [rc] at i2
    rcases (show i = n ∨ i = n + 1 by omega) with rfl | rfl
    · refine ⟨⟨by rw [h4, r1], by rw [h5, r2], by rw [h7, r4], by rw [h8, r5], by rw [h9, r6]; omega, by rw [h10, r7], ?_⟩, h11⟩
      rw [r3, r4, eu]
      refine Or.inr ⟨?_, by omega, by omega⟩
      rcases h6 with y | y
      · cases y
      · rw [y, hR.2.1]; omega
    · refine ⟨⟨by rw [g4, s1], by rw [g5, s2], by rw [g7, s4, hR.2.2.1], by rw [g8, s5], by rw [g9, s6]; omega, by rw [g10, s7], ?_⟩, g11⟩
      rw [s3, s4, eu]
      by_cases hz : μ1.1 20 9 - 2 = 0
      · exact Or.inl hz
      · refine Or.inr ⟨?_, by omega, by omega⟩
        rcases g6 with y | y
        · rw [hR.2.2.1] at y; omega
        · rw [y, hR.2.1]; omega
  · rw [rc] at i2
    obtain rfl : i = n + 1 := by omega
    exact hnr
theorem str_X {t x : Nat} {d n : Int} {μ μ1 ν ν1 ν' : Mem} (hW : WDc t x μ μ1) (hR : RWd t x d μ1 ν ν1) {p : Int} (hm : mn (fun i => μ1.2.2 (t + 7 + 1) (μ1.1 20 8 + i)) (μ1.1 20 9) = none) (h : mmP ν1 ν' (fun i => ν1.2.2 57 (ν1.1 46 24 + i)) (ν1.1 46 25) (ν1.1 46 24) p n) : lfX ν ν' p := by
  have hm2 : mn (fun i => ν1.2.2 57 (ν1.1 46 24 + i)) (ν1.1 46 25) = none := by
    rw [hR.2.2.1, mn_cong (fun i i0 i1 => RWd_w hR hW.2.2.2.2.2.2.2.1 i i0 i1)]
    exact hm
  unfold mmP at h
  rw [hm2] at h
  exact ⟨⟨mfr_trans hR.2.2.2.2.1 h.1.1, h.1.2⟩, h.2⟩
/-- what m_strM and m_strF want -/
theorem RWd_m {t x : Nat} {d : Int} {μ μ1 ν ν1 : Mem} (hW : WDc t x μ μ1) (hR : RWd t x d μ1 ν ν1) : (480 ≤ ν1.1 46 24 ∧ 0 ≤ ν1.1 46 25 ∧ ν1.1 46 24 + ν1.1 46 25 ≤ 718 ∧ ν1.1 46 25 ≤ 238) ∧ (∀ i, 0 ≤ i → i < ν1.1 46 25 → 32 ≤ ν1.2.2 57 (ν1.1 46 24 + i) ∧ ν1.2.2 57 (ν1.1 46 24 + i) ≤ 126) ∧ (0 ≤ ν1.1 46 15 ∧ ν1.1 46 15 ≤ 900) := by
  obtain ⟨w1, w2, w3, w4, w5, w6, w7, w8, w9, w10, w11⟩ := hW
  have hp := w1.2.2.2.2.1
  have hsz := w1.2.1
  refine ⟨?_, fun i i0 i1 => ?_, ?_⟩
  · rw [hR.2.1, hR.2.2.1]; omega
  · rw [hR.2.2.1] at i1
    rw [RWd_w hR w8 i i0 i1]
    exact w1.2.2.2.2.2.2.2.1 _ (by omega) (by omega)
  · rw [hR.2.2.2.1]; omega
/-- a string that is an element, behind the first -/
theorem sim_str {sc : Nat × (Nat → Int32)} {t x : Nat} {d key : Int} (hT : isT t) (hX : x = 42 ∨ x = 44) {μ μ1 μ' : Mem} (hC : CI t x μ) (hd : 0 ≤ d ∧ d ≤ 8) (hc : cch x μ = 34) (hn : 0 ≤ μ.1 t 7 ∧ μ.1 t 7 ≤ 125) (hW : WDc t x (stI μ 20 5 (cpl x μ)) μ1) (hS : SimW sc t x d key (stI μ 20 5 (cpl x μ)) μ1)
    (hP : ∀ ν ν1 ν', RWd t x d μ1 ν ν1 → mmP ν1 ν' (fun i => ν1.2.2 57 (ν1.1 46 24 + i)) (ν1.1 46 25) (ν1.1 46 24) (cpl x μ) (μ.1 t 7) → Pst0 t x d (μ.1 t 7) μ' ν ν') : SimE sc t x d key μ μ' := by
  refine SimE_leaf hT hX hC hd (by rw [hc]; decide) (fun fr lo ρ ν hf hl hR hp hk h34 => ?_)
  have hcp := cpl_in hC
  have hsz := hC.2.1
  have h0 := hC.2.2.2.2.1.1
  have hch : (if ν.1 46 15 < ν.1 46 3 then ν.2.2 47 (ν.1 46 15) else 0) = 34 := by
    have e1 : ν.1 46 3 = μ.1 x 1 := hR.1.1.trans (stI_ne (by omega))
    have e2 := hR.1.2.1
    rw [show (stI μ 20 5 (cpl x μ)).1 x 1 = μ.1 x 1 from stI_ne (by omega)] at e2
    rw [hp, e1, ← hc]
    unfold cch
    by_cases z : cpl x μ < μ.1 x 1
    · rw [if_pos z, if_pos z]; exact e2 _ (by omega) z
    · rw [if_neg z, if_neg z]
  have e3 : ν.1 46 3 = μ.1 x 1 := hR.1.1.trans (stI_ne (by omega))
  refine m_smpS (by rw [e3]; exact hsz) (by rw [hp, e3]; omega) (by omega) (by omega) hch (fun o τ hq => ?_) (hS (fr - 1) (lo - (19 + 4)) ρ _ ν (by omega) (by omega) hR (by rw [hp, stI_at]) hk (fun ν1 c hRW => ?_))
  · obtain ⟨ν', rfl, _⟩ := hq
    exact ⟨1, τ, Or.inr rfl, rfl⟩
  · obtain ⟨m1, m2, m3⟩ := RWd_m hW hRW
    have e7 : ν1.1 46 17 = μ.1 t 7 := by
      rw [hRW.1.2.2.1.2.1, hW.2.2.2.1]
      exact stI_ne (by unfold isT at hT; omega)
    have e59 : ν1.2.2 59 = ν.2.2 59 := hRW.2.2.2.2.2.2 59 (by omega) (by omega)
    refine (m_strM (p := (stI μ 20 5 (cpl x μ)).1 20 5) hRW.1.2.2.2.2.2.1 ⟨e7, hn⟩ m1 m2 hRW.1.2.2.1.1 m3 (by rw [stI_at]; omega) (by omega) (by omega) ⟨hRW.1.2.2.1.2.2.2.1, hd⟩ (fun hd0 => ?_)).mono ?_
    · rw [e59]
      have := hk.1 hd0
      have := h34 hd0
      omega
    · rintro o τ ⟨ν', rfl, hm, rfl⟩
      rw [stI_at] at hm
      exact ⟨ν', rfl, hP ν ν1 ν' hRW hm, rfl⟩
theorem sim_strX {sc : Nat × (Nat → Int32)} {t x : Nat} {d key : Int} (hT : isT t) (hX : x = 42 ∨ x = 44) {μ : Mem} {w : Int} (hC : CI t x μ) (hd : 0 ≤ d ∧ d ≤ 8) (hc : cch x μ = 34) (hS : (SimWX sc t x d key (stI μ 20 5 (cpl x μ)) w) ∨ (w = cpl x μ ∧ (0 ≤ μ.1 t 7 ∧ μ.1 t 7 ≤ 125) ∧ ∃ μ1, WDc t x (stI μ 20 5 (cpl x μ)) μ1 ∧ SimW sc t x d key (stI μ 20 5 (cpl x μ)) μ1 ∧ mn (fun i => μ1.2.2 (t + 7 + 1) (μ1.1 20 8 + i)) (μ1.1 20 9) = none)) : SimX sc t x d key μ w := by
  refine SimX_leaf hT hX hC hd (by rw [hc]; decide) (fun fr lo ρ ν hf hl hR hp hk h34 => ?_)
  have hcp := cpl_in hC
  have hsz := hC.2.1
  have h0 := hC.2.2.2.2.1.1
  have hch : (if ν.1 46 15 < ν.1 46 3 then ν.2.2 47 (ν.1 46 15) else 0) = 34 := by
    have e1 : ν.1 46 3 = μ.1 x 1 := hR.1.1.trans (stI_ne (by omega))
    have e2 := hR.1.2.1
    rw [show (stI μ 20 5 (cpl x μ)).1 x 1 = μ.1 x 1 from stI_ne (by omega)] at e2
    rw [hp, e1, ← hc]
    unfold cch
    by_cases z : cpl x μ < μ.1 x 1
    · rw [if_pos z, if_pos z]; exact e2 _ (by omega) z
    · rw [if_neg z, if_neg z]
  have e3 : ν.1 46 3 = μ.1 x 1 := hR.1.1.trans (stI_ne (by omega))
  refine m_smpS (by rw [e3]; exact hsz) (by rw [hp, e3]; omega) (by omega) (by omega) hch (fun o τ hq => ?_) ?_
  · obtain ⟨ν', rfl, _⟩ := hq
    exact ⟨1, τ, Or.inr rfl, rfl⟩
  · rcases hS with hS | ⟨rfl, hn, μ1, hW, hS, hm⟩
    · exact hS (fr - 1) (lo - (19 + 4)) ρ _ ν (by omega) (by omega) hR (by rw [hp, stI_at]) hk (fun ν' hb => ⟨ν', rfl, hb, rfl⟩)
    · refine hS (fr - 1) (lo - (19 + 4)) ρ _ ν (by omega) (by omega) hR (by rw [hp, stI_at]) hk (fun ν1 c hRW => ?_)
      obtain ⟨m1, m2, m3⟩ := RWd_m hW hRW
      have e7 : ν1.1 46 17 = μ.1 t 7 := by
        rw [hRW.1.2.2.1.2.1, hW.2.2.2.1]
        exact stI_ne (by unfold isT at hT; omega)
      have e59 : ν1.2.2 59 = ν.2.2 59 := hRW.2.2.2.2.2.2 59 (by omega) (by omega)
      refine (m_strM (p := (stI μ 20 5 (cpl x μ)).1 20 5) hRW.1.2.2.2.2.2.1 ⟨e7, hn⟩ m1 m2 hRW.1.2.2.1.1 m3 (by rw [stI_at]; omega) (by omega) (by omega) ⟨hRW.1.2.2.1.2.2.2.1, hd⟩ (fun hd0 => ?_)).mono ?_
      · rw [e59]
        have := hk.1 hd0
        have := h34 hd0
        omega
      · rintro o τ ⟨ν', rfl, hmm, rfl⟩
        rw [stI_at] at hmm
        exact ⟨ν', rfl, str_X hW hRW hm hmm, rfl⟩
