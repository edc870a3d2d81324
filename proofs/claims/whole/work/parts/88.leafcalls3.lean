/-! THE PURE PART, 70: names and numbers in both -/
theorem lf_P {t x : Nat} {d n : Int} (hT : isT t) (hX : x = 42 ∨ x = 44) {B ν ν' : Mem} {k v p pl : Int} (hB : Rel t x d B (stI ν 46 15 pl)) (hn : B.1 t 7 = n ∧ 0 ≤ n) (h : lfP ν ν' n k v p pl) : Pst0 t x d n (adw B t k v 0 0 p) ν ν' := by
  obtain ⟨h1, h2, h3, h4, h5, h6, h7, h8, h9, h10, h11⟩ := h
  obtain ⟨⟨r1, r2, r3, r4, r5, r6, r7⟩, rc, rI, rR, rA⟩ := adw_f (μ := B) hT (k := k) (v := v) (f := 0) (z := 0) (s := p)
  rw [hn.1] at r1 r2 r3 r4 r5 r6 r7 rc rA
  refine Pst0_row hT hX hB (mfr_I (by decide)) (fun a _ _ => rfl) hn (fun a q h1 h2 => rI a q h1) (fun a i hz => rA a i (by omega)) h1 h2 (by rw [rc]; exact h3) (fun i i1 i2 => ?_) (fun i i1 i2 => by rw [rc] at i2; omega)
  rw [rc] at i2
  obtain rfl : i = n := by omega
  exact ⟨⟨by rw [h4, r1], by rw [h5, r2], by rw [h7, r4], by rw [h8, r5], by rw [h9, r6]; omega, by rw [h10, r7], Or.inl r4⟩, h11⟩
/-- what the reference sees at a place that both have -/
theorem Rel_at {t x : Nat} {d : Int} (hX : x = 42 ∨ x = 44) {μ ν : Mem} (hC : CI t x μ) (hR : Rel t x d (stI μ 20 5 (cpl x μ)) ν) (hp : ν.1 46 15 = cpl x μ) : ν.1 46 3 = μ.1 x 1 ∧ (∀ k, 0 ≤ k → k < μ.1 x 1 → ν.2.2 47 k = μ.2.2 (x + 1) k) ∧ (∀ k, 0 ≤ k → k < ν.1 46 3 → 32 ≤ ν.2.2 47 k) ∧ (if ν.1 46 15 < ν.1 46 3 then ν.2.2 47 (ν.1 46 15) else 0) = cch x μ := by
  have hcp := cpl_in hC
  have h0 := hC.2.2.2.2.1.1
  have e1 : ν.1 46 3 = μ.1 x 1 := hR.1.1.trans (stI_ne (by omega))
  have e2 := hR.1.2.1
  rw [show (stI μ 20 5 (cpl x μ)).1 x 1 = μ.1 x 1 from stI_ne (by omega)] at e2
  refine ⟨e1, e2, fun k k0 k1 => ?_, ?_⟩
  · rw [e1] at k1
    rw [e2 k k0 k1]
    exact (hC.2.2.2.1 k k0 k1).1
  · rw [hp, e1]
    unfold cch
    by_cases z : cpl x μ < μ.1 x 1
    · rw [if_pos z, if_pos z]; exact e2 _ (by omega) z
    · rw [if_neg z, if_neg z]
/-- the class reads a bare number -/
theorem t_bareU {sc : Nat × (Nat → Int32)} {fr lo : Nat} {μ : Mem} {ρ : Nat × Nat × Nat} {t x : Nat} {d key : Int} (hT : isT t) (hX : x = 42 ∨ x = 44) (hC : CI t x μ) (hd : 0 ≤ d ∧ d ≤ 8) (hn : 2 * μ.1 t 7 ≤ μ.1 20 5 + d) (hf : 18 ≤ fr) (hl : 900 ≤ lo) (hr : 1 ≤ ρ.2.1 ∧ 6 ≤ ρ.2.2) (e : Nat) (hcc : cch x μ = 45 ∨ 48 ≤ cch x μ ∧ cch x μ ≤ 57) : w_S sc fr lo 66 [.ref 20] (hp (stI μ 20 5 (cpl x μ)), ρ) (EP sc t x d key (e + 1) μ ρ) := by
  have hcp := cpl_in hC
  have hsz := hC.2.1
  have hpl := hC.2.2.2.2.1
  have hu := hC.2.2.2.2.2.1
  have hc0 := hC.2.2.2.2.2.2.2.2.2.2
  have hCs := CI_sk hT hX hC
  have ht := hT
  unfold isT at ht
  have ex : (stI μ 20 5 (cpl x μ)).1 x 1 = μ.1 x 1 := stI_ne (by omega)
  have e7 : (stI μ 20 5 (cpl x μ)).1 t 7 = μ.1 t 7 := stI_ne (by omega)
  have e5 : (stI μ 20 5 (cpl x μ)).1 20 5 = cpl x μ := stI_at _ _ _ _
  have hcs : (stI μ 20 5 (cpl x μ)).2.1 20 3 = .ref x := hC.1.1
  have hct : (stI μ 20 5 (cpl x μ)).2.1 20 4 = .ref t := hC.1.2
  have hst := scn_stop (R := μ.2.2 (x + 1)) hcp.2
  have esc : scn ((stI μ 20 5 (cpl x μ)).2.2 (x + 1)) ((stI μ 20 5 (cpl x μ)).1 20 5) ((stI μ 20 5 (cpl x μ)).1 x 1) = (scn (μ.2.2 (x + 1)) (cpl x μ) (μ.1 x 1)) := by rw [e5, ex]; rfl
  have esr : ∀ ν : Mem, Rel t x d (stI μ 20 5 (cpl x μ)) ν → ν.1 46 15 = cpl x μ → scn (ν.2.2 47) (ν.1 46 15) (ν.1 46 3) = (scn (μ.2.2 (x + 1)) (cpl x μ) (μ.1 x 1)) := fun ν hR hp => by
    obtain ⟨q1, q2, _⟩ := Rel_at hX hC hR hp
    rw [hp, q1]
    exact scn_cong (fun k k1 k2 => q2 k (by omega) k2)
  have hlt : cpl x μ < μ.1 x 1 := Decidable.byContradiction (fun z => by unfold cch at hcc; rw [if_neg z] at hcc; omega)
  by_cases h1 : (scn (μ.2.2 (x + 1)) (cpl x μ) (μ.1 x 1)).1 = true
  · by_cases h2 : (scn (μ.2.2 (x + 1)) (cpl x μ) (μ.1 x 1)).2.2.1 = true
    · have T := t_bare (sc := sc) (fr := fr) (lo := lo) (ρ := ρ) hX hcs hCs.2.1 hCs.2.2.1 hT hct hCs.2.2.2.2.1 (by rw [e7]; omega) (by rw [esc]; exact ⟨h1, h2⟩) (by omega) (by omega)
      rw [esc, e5] at T
      refine T.mono ?_
      rintro o τ ⟨rfl, rfl⟩
      obtain ⟨B, hB⟩ : ∃ B, B = stI (nu (stI μ 20 5 (cpl x μ)) (scn (μ.2.2 (x + 1)) (cpl x μ) (μ.1 x 1)).2.1 ((scn (μ.2.2 (x + 1)) (cpl x μ) (μ.1 x 1)).2.2.1, (scn (μ.2.2 (x + 1)) (cpl x μ) (μ.1 x 1)).2.2.2)) 20 5 (scn (μ.2.2 (x + 1)) (cpl x μ) (μ.1 x 1)).2.1 := ⟨_, rfl⟩
      rw [← hB]
      have b1 : ∀ a q, a ≠ 24 → ¬ (a = 20 ∧ q = 5) → B.1 a q = (stI μ 20 5 (cpl x μ)).1 a q := fun a q h3 h4 => by
        rw [hB, stI_ne h4]
        exact (nux_o (Or.inr ⟨_, _, rfl⟩)).1 a q h3
      have b2 : B.2 = μ.2 := by rw [hB]; rfl
      have b5 : B.1 20 5 = (scn (μ.2.2 (x + 1)) (cpl x μ) (μ.1 x 1)).2.1 := by rw [hB]; exact stI_at _ _ _ _
      have hs3 := hst.2.2 h1
      have hCB : CI t x B := CI_of hCs (b1 x 1 (by omega) (by omega)) (b1 (t + 7) 1 (by omega) (by omega)) (b1 21 2 (by omega) (by omega)) (by rw [b2]; rfl) (by rw [b2]; rfl) (by rw [b2]; rfl) (by rw [b2]; rfl) (by rw [b2]; rfl) (by rw [b5, ex, show (stI μ 20 5 (cpl x μ)).1 (t + 7) 1 = μ.1 (t + 7) 1 from stI_ne (by omega)]; omega) (by rw [b1 t 7 (by omega) (by omega), e7]; exact hc0)
      have eB7 : B.1 t 7 = μ.1 t 7 := (b1 t 7 (by omega) (by omega)).trans e7
      have hKB : Kp t (μ.1 t 7) μ B := by
        refine ⟨⟨fun a q h3 h4 h5 h6 h7 => ?_, by rw [b2], fun a _ _ _ _ => by rw [b2]⟩, fun a k _ _ => by rw [b2], fun k _ => by rw [b2], ?_, by rw [b5]; omega, (b1 20 6 (by omega) (by omega)).trans (stI_ne (by omega))⟩
        · rw [b1 a q h5 (by omega)]; exact stI_ne (by omega)
        · rw [b1 (t + 7) 1 (by omega) (by omega), stI_ne (by omega)]; exact Int.le_refl _
      obtain ⟨g1, g2, g3⟩ := GV_leaf hT hX hCB (n := μ.1 t 7) (k := 2) (v := (scn (μ.2.2 (x + 1)) (cpl x μ) (μ.1 x 1)).2.2.2) (f := 0) (z := 0) (s := cpl x μ) ⟨eB7, by omega⟩ (by decide) (scn_in h2) (fun z => absurd z (by decide)) ⟨by decide, by decide, by have := hCB.2.2.2.2.2.1; omega⟩ (by omega) (Or.inr (Or.inr (Or.inr rfl))) e
      obtain ⟨_, rc, rI, _⟩ := adw_f (μ := B) hT (k := 2) (v := (scn (μ.2.2 (x + 1)) (cpl x μ) (μ.1 x 1)).2.2.2) (f := 0) (z := 0) (s := cpl x μ)
      refine Or.inl ⟨rfl, _, rfl, g1, Kp_trans hKB g2 (Int.le_refl _), g3, by rw [rc, rI 20 5 (by omega), b5, eB7]; omega, SimE_leaf hT hX hC hd (by omega) (fun fr lo ρ ν hf hl hR hp hk h34 => ?_)⟩
      obtain ⟨q1, q2, q3, q4⟩ := Rel_at hX hC hR hp
      have es := esr ν hR hp
      refine (m_smpI hR.2.2.2.2.2.1 (n := μ.1 t 7) ⟨hR.2.2.1.2.1.trans e7, hc0, by omega⟩ hR.2.2.1.1 (by rw [q1]; exact hsz) hR.1.2.2 q3 (by rw [hp, q1]; omega) (by omega) (by omega) (by rw [q4]; omega) (by rw [es]; exact ⟨h1, h2⟩)).mono ?_
      rintro o τ ⟨ν', rfl, hm, rfl⟩
      rw [es, hp] at hm
      refine ⟨ν', rfl, lf_P hT hX (Rel_mv hT hX hR (fun a q h3 h4 => b1 a q h4 (by omega)) (by rw [b2]; rfl) (fun q h3 h4 h5 => stI_ne (by omega)) rfl ?_ ?_) ⟨eB7, hc0⟩ hm, rfl⟩
      · rw [stI_at, b5, q1, ex]
        exact sk_cong q2 _ (by omega)
      · rw [stI_at, ex]; omega
    · have h2' : (scn (μ.2.2 (x + 1)) (cpl x μ) (μ.1 x 1)).2.2.1 = false := by cases hb : (scn (μ.2.2 (x + 1)) (cpl x μ) (μ.1 x 1)).2.2.1 with | true => exact absurd hb h2 | false => rfl
      have T := t_bareX2 (sc := sc) (fr := fr) (lo := lo) (ρ := ρ) hX hcs hCs.2.1 hCs.2.2.1 hT hct hCs.2.2.2.2.1 (by rw [esc]; exact ⟨h1, h2'⟩) (by omega) (by omega) hr
      rw [esc, e5] at T
      refine T.mono ?_
      rintro o τ ⟨rfl, rfl⟩
      refine Or.inr ⟨rfl, _, _, rfl, Cbad_of hT (cfr_I (Or.inl rfl)) hCs (Or.inr ⟨_, _, rfl⟩) (by omega), SimX_leaf hT hX hC hd (by omega) (fun fr lo ρ ν hf hl hR hp hk h34 => ?_)⟩
      obtain ⟨q1, q2, q3, q4⟩ := Rel_at hX hC hR hp
      have es := esr ν hR hp
      refine (m_smpIx2 hR.2.2.2.2.2.1 (n := μ.1 t 7) ⟨hR.2.2.1.2.1.trans e7, hc0, by omega⟩ hR.2.2.1.1 (by rw [q1]; exact hsz) hR.1.2.2 q3 (by rw [hp, q1]; omega) (by omega) (by omega) (by rw [q4]; omega) (by rw [es]; exact ⟨h1, h2'⟩)).mono ?_
      rintro o τ ⟨ν', rfl, hm, rfl⟩
      rw [hp] at hm
      exact ⟨ν', rfl, hm, rfl⟩
  · have h1' : (scn (μ.2.2 (x + 1)) (cpl x μ) (μ.1 x 1)).1 = false := by cases hb : (scn (μ.2.2 (x + 1)) (cpl x μ) (μ.1 x 1)).1 with | true => exact absurd hb h1 | false => rfl
    have T := t_bareX1 (sc := sc) (fr := fr) (lo := lo) (ρ := ρ) hX hcs hCs.2.1 hCs.2.2.1 hT hct hCs.2.2.2.2.1 (by rw [esc]; exact h1') (by omega) (by omega) hr
    rw [esc] at T
    refine T.mono ?_
    rintro o τ ⟨rfl, rfl⟩
    refine Or.inr ⟨rfl, _, _, rfl, Cbad_of hT (cfr_I (Or.inl rfl)) hCs (Or.inr ⟨_, _, rfl⟩) (by omega), SimX_leaf hT hX hC hd (by omega) (fun fr lo ρ ν hf hl hR hp hk h34 => ?_)⟩
    obtain ⟨q1, q2, q3, q4⟩ := Rel_at hX hC hR hp
    have es := esr ν hR hp
    refine (m_smpIx1 hR.2.2.2.2.2.1 (n := μ.1 t 7) ⟨hR.2.2.1.2.1.trans e7, hc0, by omega⟩ hR.2.2.1.1 (by rw [q1]; exact hsz) hR.1.2.2 q3 (by rw [hp, q1]; omega) (by omega) (by omega) (by rw [q4]; omega) (by rw [es]; exact h1')).mono ?_
    rintro o τ ⟨ν', rfl, hm, rfl⟩
    rw [es] at hm
    exact ⟨ν', rfl, hm, rfl⟩
theorem t_nameNU {sc : Nat × (Nat → Int32)} {fr lo : Nat} {μ : Mem} {ρ : Nat × Nat × Nat} {t x : Nat} {d key : Int} (hT : isT t) (hX : x = 42 ∨ x = 44) (hC : CI t x μ) (hd : 0 ≤ d ∧ d ≤ 8) (hn : 2 * μ.1 t 7 ≤ μ.1 20 5 + d) (hf : 18 ≤ fr) (hl : 900 ≤ lo) (hr : 1 ≤ ρ.2.1 ∧ 6 ≤ ρ.2.2) (e : Nat) {c : Int} (hc : c = 110) (hcc : cch x μ = 110) : w_S sc fr lo 67 [.ref 20, .int (ji c)] (hp (stI μ 20 5 (cpl x μ)), ρ) (EP sc t x d key (e + 1) μ ρ) := by
  have hcp := cpl_in hC
  have hsz := hC.2.1
  have hpl := hC.2.2.2.2.1
  have hu := hC.2.2.2.2.2.1
  have hc0 := hC.2.2.2.2.2.2.2.2.2.2
  have hCs := CI_sk hT hX hC
  have ht := hT
  unfold isT at ht
  have ex : (stI μ 20 5 (cpl x μ)).1 x 1 = μ.1 x 1 := stI_ne (by omega)
  have e7 : (stI μ 20 5 (cpl x μ)).1 t 7 = μ.1 t 7 := stI_ne (by omega)
  have e5 : (stI μ 20 5 (cpl x μ)).1 20 5 = cpl x μ := stI_at _ _ _ _
  have hcs : (stI μ 20 5 (cpl x μ)).2.1 20 3 = .ref x := hC.1.1
  have hct : (stI μ 20 5 (cpl x μ)).2.1 20 4 = .ref t := hC.1.2
  have efm : fm ((stI μ 20 5 (cpl x μ)).2.2 (x + 1)) ((stI μ 20 5 (cpl x μ)).1 x 1) ((stI μ 20 5 (cpl x μ)).1 20 5) 5 = (fm (μ.2.2 (x + 1)) (μ.1 x 1) (cpl x μ) 5) := by rw [e5, ex]; rfl
  have efr : ∀ ν : Mem, Rel t x d (stI μ 20 5 (cpl x μ)) ν → ν.1 46 15 = cpl x μ → fm (ν.2.2 47) (ν.1 46 3) (ν.1 46 15) 5 = (fm (μ.2.2 (x + 1)) (μ.1 x 1) (cpl x μ) 5) := fun ν hR hp => by
    obtain ⟨q1, q2, _⟩ := Rel_at hX hC hR hp
    rw [hp, q1]
    exact fm_cong q2 _ (by omega) 5
  have hfs := fm_sp (T := μ.2.2 (x + 1)) (n := μ.1 x 1) (p := cpl x μ) (k := 5) (by decide)
  have hs5 : slen 5 ≤ 5 ∧ 1 ≤ slen 5 := by decide
  have hle : cpl x μ + (fm (μ.2.2 (x + 1)) (μ.1 x 1) (cpl x μ) 5) ≤ μ.1 x 1 := by
    by_cases z : (fm (μ.2.2 (x + 1)) (μ.1 x 1) (cpl x μ) 5) = 0
    · omega
    · have := (hfs.2.1 ((fm (μ.2.2 (x + 1)) (μ.1 x 1) (cpl x μ) 5) - 1) (by omega) (by omega)).1
      omega
  by_cases h1 : (fm (μ.2.2 (x + 1)) (μ.1 x 1) (cpl x μ) 5) = slen 5
  · have T := t_nameN (sc := sc) (fr := fr) (lo := lo) (ρ := ρ) (c := c) hX hcs hCs.2.1 hCs.2.2.1 hT hct (by rw [e5]; omega) (by rw [e7]; omega) hc (by rw [efm]; exact h1) (by omega) (by omega)
    rw [e5] at T
    refine T.mono ?_
    rintro o τ ⟨rfl, rfl⟩
    obtain ⟨B, hB⟩ : ∃ B, B = stI (stI μ 20 5 (cpl x μ)) 20 5 (cpl x μ + slen 5) := ⟨_, rfl⟩
    rw [← hB]
    have b1 : ∀ a q, ¬ (a = 20 ∧ q = 5) → B.1 a q = (stI μ 20 5 (cpl x μ)).1 a q := fun a q h4 => by rw [hB, stI_ne h4]
    have b2 : B.2 = μ.2 := by rw [hB]; rfl
    have b5 : B.1 20 5 = cpl x μ + slen 5 := by rw [hB]; exact stI_at _ _ _ _
    have hCB : CI t x B := CI_of hCs (b1 x 1 (by omega)) (b1 (t + 7) 1 (by omega)) (b1 21 2 (by omega)) (by rw [b2]; rfl) (by rw [b2]; rfl) (by rw [b2]; rfl) (by rw [b2]; rfl) (by rw [b2]; rfl) (by rw [b5, ex, show (stI μ 20 5 (cpl x μ)).1 (t + 7) 1 = μ.1 (t + 7) 1 from stI_ne (by omega)]; omega) (by rw [b1 t 7 (by omega), e7]; exact hc0)
    have eB7 : B.1 t 7 = μ.1 t 7 := (b1 t 7 (by omega)).trans e7
    have hKB : Kp t (μ.1 t 7) μ B := by
      refine ⟨⟨fun a q h3 h4 h5 h6 h7 => ?_, by rw [b2], fun a _ _ _ _ => by rw [b2]⟩, fun a k _ _ => by rw [b2], fun k _ => by rw [b2], ?_, by rw [b5]; omega, (b1 20 6 (by omega)).trans (stI_ne (by omega))⟩
      · rw [b1 a q (by omega)]; exact stI_ne (by omega)
      · rw [b1 (t + 7) 1 (by omega), stI_ne (by omega)]; exact Int.le_refl _
    obtain ⟨g1, g2, g3⟩ := GV_leaf hT hX hCB (n := μ.1 t 7) (k := 0) (v := 0) (f := 0) (z := 0) (s := cpl x μ) ⟨eB7, by omega⟩ (by decide) (by decide) (fun z => absurd z (by decide)) ⟨by decide, by decide, by have := hCB.2.2.2.2.2.1; omega⟩ (by omega) (Or.inr (Or.inr (Or.inr rfl))) e
    obtain ⟨_, rc, rI, _⟩ := adw_f (μ := B) hT (k := 0) (v := 0) (f := 0) (z := 0) (s := cpl x μ)
    refine Or.inl ⟨rfl, _, rfl, g1, Kp_trans hKB g2 (Int.le_refl _), g3, by rw [rc, rI 20 5 (by omega), b5, eB7]; omega, SimE_leaf hT hX hC hd (by omega) (fun fr lo ρ ν hf hl hR hp hk h34 => ?_)⟩
    obtain ⟨q1, q2, q3, q4⟩ := Rel_at hX hC hR hp
    have es := efr ν hR hp
    refine (m_smpN hR.2.2.2.2.2.1 (n := μ.1 t 7) ⟨hR.2.2.1.2.1.trans e7, hc0, by omega⟩ hR.2.2.1.1 (by rw [q1]; exact hsz) hR.1.2.2 q3 (by rw [hp, q1]; omega) (by omega) (by omega) (by rw [q4]; exact hcc) (by rw [es]; exact h1)).mono ?_
    rintro o τ ⟨ν', rfl, hm, rfl⟩
    rw [hp] at hm
    refine ⟨ν', rfl, lf_P hT hX (Rel_mv hT hX hR (fun a q h3 h4 => b1 a q (by omega)) (by rw [b2]; rfl) (fun q h3 h4 h5 => stI_ne (by omega)) rfl ?_ ?_) ⟨eB7, hc0⟩ hm, rfl⟩
    · rw [stI_at, b5, q1, ex]
      exact sk_cong q2 _ (by omega)
    · rw [stI_at, ex]; omega
  · have T := t_nameNx (sc := sc) (fr := fr) (lo := lo) (ρ := ρ) (c := c) hX hcs hCs.2.1 hCs.2.2.1 hT hct (by rw [e5]; omega) hc (by rw [efm]; exact h1) (by omega) (by omega) hr
    rw [efm, e5] at T
    refine T.mono ?_
    rintro o τ ⟨rfl, rfl⟩
    have hC2 : CI t x (stI (stI μ 20 5 (cpl x μ)) 20 5 (cpl x μ + (fm (μ.2.2 (x + 1)) (μ.1 x 1) (cpl x μ) 5))) := CI_of hCs (stI_ne (by omega)) (stI_ne (by omega)) (stI_ne (by omega)) rfl rfl rfl rfl rfl (by rw [stI_at, ex, show (stI μ 20 5 (cpl x μ)).1 (t + 7) 1 = μ.1 (t + 7) 1 from stI_ne (by omega)]; omega) (by rw [stI_ne (by omega), e7]; exact hc0)
    refine Or.inr ⟨rfl, _, _, rfl, Cbad_of hT (cfr_trans (cfr_I (Or.inl rfl)) (cfr_I (Or.inl rfl))) hC2 (Or.inl rfl) (by omega), SimX_leaf hT hX hC hd (by omega) (fun fr lo ρ ν hf hl hR hp hk h34 => ?_)⟩
    obtain ⟨q1, q2, q3, q4⟩ := Rel_at hX hC hR hp
    have es := efr ν hR hp
    refine (m_smpNx hR.2.2.2.2.2.1 (n := μ.1 t 7) ⟨hR.2.2.1.2.1.trans e7, hc0, by omega⟩ hR.2.2.1.1 (by rw [q1]; exact hsz) hR.1.2.2 q3 (by rw [hp, q1]; omega) (by omega) (by omega) (by rw [q4]; exact hcc) (by rw [es]; exact h1)).mono ?_
    rintro o τ ⟨ν', rfl, hm, rfl⟩
    rw [es, hp] at hm
    exact ⟨ν', rfl, hm, rfl⟩
theorem t_nameTU {sc : Nat × (Nat → Int32)} {fr lo : Nat} {μ : Mem} {ρ : Nat × Nat × Nat} {t x : Nat} {d key : Int} (hT : isT t) (hX : x = 42 ∨ x = 44) (hC : CI t x μ) (hd : 0 ≤ d ∧ d ≤ 8) (hn : 2 * μ.1 t 7 ≤ μ.1 20 5 + d) (hf : 18 ≤ fr) (hl : 900 ≤ lo) (hr : 1 ≤ ρ.2.1 ∧ 6 ≤ ρ.2.2) (e : Nat) {c : Int} (hc : c = 116) (hcc : cch x μ = 116) : w_S sc fr lo 67 [.ref 20, .int (ji c)] (hp (stI μ 20 5 (cpl x μ)), ρ) (EP sc t x d key (e + 1) μ ρ) := by
  have hcp := cpl_in hC
  have hsz := hC.2.1
  have hpl := hC.2.2.2.2.1
  have hu := hC.2.2.2.2.2.1
  have hc0 := hC.2.2.2.2.2.2.2.2.2.2
  have hCs := CI_sk hT hX hC
  have ht := hT
  unfold isT at ht
  have ex : (stI μ 20 5 (cpl x μ)).1 x 1 = μ.1 x 1 := stI_ne (by omega)
  have e7 : (stI μ 20 5 (cpl x μ)).1 t 7 = μ.1 t 7 := stI_ne (by omega)
  have e5 : (stI μ 20 5 (cpl x μ)).1 20 5 = cpl x μ := stI_at _ _ _ _
  have hcs : (stI μ 20 5 (cpl x μ)).2.1 20 3 = .ref x := hC.1.1
  have hct : (stI μ 20 5 (cpl x μ)).2.1 20 4 = .ref t := hC.1.2
  have efm : fm ((stI μ 20 5 (cpl x μ)).2.2 (x + 1)) ((stI μ 20 5 (cpl x μ)).1 x 1) ((stI μ 20 5 (cpl x μ)).1 20 5) 6 = (fm (μ.2.2 (x + 1)) (μ.1 x 1) (cpl x μ) 6) := by rw [e5, ex]; rfl
  have efr : ∀ ν : Mem, Rel t x d (stI μ 20 5 (cpl x μ)) ν → ν.1 46 15 = cpl x μ → fm (ν.2.2 47) (ν.1 46 3) (ν.1 46 15) 6 = (fm (μ.2.2 (x + 1)) (μ.1 x 1) (cpl x μ) 6) := fun ν hR hp => by
    obtain ⟨q1, q2, _⟩ := Rel_at hX hC hR hp
    rw [hp, q1]
    exact fm_cong q2 _ (by omega) 6
  have hfs := fm_sp (T := μ.2.2 (x + 1)) (n := μ.1 x 1) (p := cpl x μ) (k := 6) (by decide)
  have hs5 : slen 6 ≤ 5 ∧ 1 ≤ slen 6 := by decide
  have hle : cpl x μ + (fm (μ.2.2 (x + 1)) (μ.1 x 1) (cpl x μ) 6) ≤ μ.1 x 1 := by
    by_cases z : (fm (μ.2.2 (x + 1)) (μ.1 x 1) (cpl x μ) 6) = 0
    · omega
    · have := (hfs.2.1 ((fm (μ.2.2 (x + 1)) (μ.1 x 1) (cpl x μ) 6) - 1) (by omega) (by omega)).1
      omega
  by_cases h1 : (fm (μ.2.2 (x + 1)) (μ.1 x 1) (cpl x μ) 6) = slen 6
  · have T := t_nameT (sc := sc) (fr := fr) (lo := lo) (ρ := ρ) (c := c) hX hcs hCs.2.1 hCs.2.2.1 hT hct (by rw [e5]; omega) (by rw [e7]; omega) hc (by rw [efm]; exact h1) (by omega) (by omega)
    rw [e5] at T
    refine T.mono ?_
    rintro o τ ⟨rfl, rfl⟩
    obtain ⟨B, hB⟩ : ∃ B, B = stI (stI μ 20 5 (cpl x μ)) 20 5 (cpl x μ + slen 6) := ⟨_, rfl⟩
    rw [← hB]
    have b1 : ∀ a q, ¬ (a = 20 ∧ q = 5) → B.1 a q = (stI μ 20 5 (cpl x μ)).1 a q := fun a q h4 => by rw [hB, stI_ne h4]
    have b2 : B.2 = μ.2 := by rw [hB]; rfl
    have b5 : B.1 20 5 = cpl x μ + slen 6 := by rw [hB]; exact stI_at _ _ _ _
    have hCB : CI t x B := CI_of hCs (b1 x 1 (by omega)) (b1 (t + 7) 1 (by omega)) (b1 21 2 (by omega)) (by rw [b2]; rfl) (by rw [b2]; rfl) (by rw [b2]; rfl) (by rw [b2]; rfl) (by rw [b2]; rfl) (by rw [b5, ex, show (stI μ 20 5 (cpl x μ)).1 (t + 7) 1 = μ.1 (t + 7) 1 from stI_ne (by omega)]; omega) (by rw [b1 t 7 (by omega), e7]; exact hc0)
    have eB7 : B.1 t 7 = μ.1 t 7 := (b1 t 7 (by omega)).trans e7
    have hKB : Kp t (μ.1 t 7) μ B := by
      refine ⟨⟨fun a q h3 h4 h5 h6 h7 => ?_, by rw [b2], fun a _ _ _ _ => by rw [b2]⟩, fun a k _ _ => by rw [b2], fun k _ => by rw [b2], ?_, by rw [b5]; omega, (b1 20 6 (by omega)).trans (stI_ne (by omega))⟩
      · rw [b1 a q (by omega)]; exact stI_ne (by omega)
      · rw [b1 (t + 7) 1 (by omega), stI_ne (by omega)]; exact Int.le_refl _
    obtain ⟨g1, g2, g3⟩ := GV_leaf hT hX hCB (n := μ.1 t 7) (k := 1) (v := 1) (f := 0) (z := 0) (s := cpl x μ) ⟨eB7, by omega⟩ (by decide) (by decide) (fun z => absurd z (by decide)) ⟨by decide, by decide, by have := hCB.2.2.2.2.2.1; omega⟩ (by omega) (Or.inr (Or.inr (Or.inr rfl))) e
    obtain ⟨_, rc, rI, _⟩ := adw_f (μ := B) hT (k := 1) (v := 1) (f := 0) (z := 0) (s := cpl x μ)
    refine Or.inl ⟨rfl, _, rfl, g1, Kp_trans hKB g2 (Int.le_refl _), g3, by rw [rc, rI 20 5 (by omega), b5, eB7]; omega, SimE_leaf hT hX hC hd (by omega) (fun fr lo ρ ν hf hl hR hp hk h34 => ?_)⟩
    obtain ⟨q1, q2, q3, q4⟩ := Rel_at hX hC hR hp
    have es := efr ν hR hp
    refine (m_smpT hR.2.2.2.2.2.1 (n := μ.1 t 7) ⟨hR.2.2.1.2.1.trans e7, hc0, by omega⟩ hR.2.2.1.1 (by rw [q1]; exact hsz) hR.1.2.2 q3 (by rw [hp, q1]; omega) (by omega) (by omega) (by rw [q4]; exact hcc) (by rw [es]; exact h1)).mono ?_
    rintro o τ ⟨ν', rfl, hm, rfl⟩
    rw [hp] at hm
    refine ⟨ν', rfl, lf_P hT hX (Rel_mv hT hX hR (fun a q h3 h4 => b1 a q (by omega)) (by rw [b2]; rfl) (fun q h3 h4 h5 => stI_ne (by omega)) rfl ?_ ?_) ⟨eB7, hc0⟩ hm, rfl⟩
    · rw [stI_at, b5, q1, ex]
      exact sk_cong q2 _ (by omega)
    · rw [stI_at, ex]; omega
  · have T := t_nameTx (sc := sc) (fr := fr) (lo := lo) (ρ := ρ) (c := c) hX hcs hCs.2.1 hCs.2.2.1 hT hct (by rw [e5]; omega) hc (by rw [efm]; exact h1) (by omega) (by omega) hr
    rw [efm, e5] at T
    refine T.mono ?_
    rintro o τ ⟨rfl, rfl⟩
    have hC2 : CI t x (stI (stI μ 20 5 (cpl x μ)) 20 5 (cpl x μ + (fm (μ.2.2 (x + 1)) (μ.1 x 1) (cpl x μ) 6))) := CI_of hCs (stI_ne (by omega)) (stI_ne (by omega)) (stI_ne (by omega)) rfl rfl rfl rfl rfl (by rw [stI_at, ex, show (stI μ 20 5 (cpl x μ)).1 (t + 7) 1 = μ.1 (t + 7) 1 from stI_ne (by omega)]; omega) (by rw [stI_ne (by omega), e7]; exact hc0)
    refine Or.inr ⟨rfl, _, _, rfl, Cbad_of hT (cfr_trans (cfr_I (Or.inl rfl)) (cfr_I (Or.inl rfl))) hC2 (Or.inl rfl) (by omega), SimX_leaf hT hX hC hd (by omega) (fun fr lo ρ ν hf hl hR hp hk h34 => ?_)⟩
    obtain ⟨q1, q2, q3, q4⟩ := Rel_at hX hC hR hp
    have es := efr ν hR hp
    refine (m_smpTx hR.2.2.2.2.2.1 (n := μ.1 t 7) ⟨hR.2.2.1.2.1.trans e7, hc0, by omega⟩ hR.2.2.1.1 (by rw [q1]; exact hsz) hR.1.2.2 q3 (by rw [hp, q1]; omega) (by omega) (by omega) (by rw [q4]; exact hcc) (by rw [es]; exact h1)).mono ?_
    rintro o τ ⟨ν', rfl, hm, rfl⟩
    rw [es, hp] at hm
    exact ⟨ν', rfl, hm, rfl⟩
theorem t_nameFU {sc : Nat × (Nat → Int32)} {fr lo : Nat} {μ : Mem} {ρ : Nat × Nat × Nat} {t x : Nat} {d key : Int} (hT : isT t) (hX : x = 42 ∨ x = 44) (hC : CI t x μ) (hd : 0 ≤ d ∧ d ≤ 8) (hn : 2 * μ.1 t 7 ≤ μ.1 20 5 + d) (hf : 18 ≤ fr) (hl : 900 ≤ lo) (hr : 1 ≤ ρ.2.1 ∧ 6 ≤ ρ.2.2) (e : Nat) {c : Int} (hc : -1 ≤ c ∧ c < 65536 ∧ c ≠ 110 ∧ c ≠ 116) (hcc : cch x μ = 102) : w_S sc fr lo 67 [.ref 20, .int (ji c)] (hp (stI μ 20 5 (cpl x μ)), ρ) (EP sc t x d key (e + 1) μ ρ) := by
  have hcp := cpl_in hC
  have hsz := hC.2.1
  have hpl := hC.2.2.2.2.1
  have hu := hC.2.2.2.2.2.1
  have hc0 := hC.2.2.2.2.2.2.2.2.2.2
  have hCs := CI_sk hT hX hC
  have ht := hT
  unfold isT at ht
  have ex : (stI μ 20 5 (cpl x μ)).1 x 1 = μ.1 x 1 := stI_ne (by omega)
  have e7 : (stI μ 20 5 (cpl x μ)).1 t 7 = μ.1 t 7 := stI_ne (by omega)
  have e5 : (stI μ 20 5 (cpl x μ)).1 20 5 = cpl x μ := stI_at _ _ _ _
  have hcs : (stI μ 20 5 (cpl x μ)).2.1 20 3 = .ref x := hC.1.1
  have hct : (stI μ 20 5 (cpl x μ)).2.1 20 4 = .ref t := hC.1.2
  have efm : fm ((stI μ 20 5 (cpl x μ)).2.2 (x + 1)) ((stI μ 20 5 (cpl x μ)).1 x 1) ((stI μ 20 5 (cpl x μ)).1 20 5) 7 = (fm (μ.2.2 (x + 1)) (μ.1 x 1) (cpl x μ) 7) := by rw [e5, ex]; rfl
  have efr : ∀ ν : Mem, Rel t x d (stI μ 20 5 (cpl x μ)) ν → ν.1 46 15 = cpl x μ → fm (ν.2.2 47) (ν.1 46 3) (ν.1 46 15) 7 = (fm (μ.2.2 (x + 1)) (μ.1 x 1) (cpl x μ) 7) := fun ν hR hp => by
    obtain ⟨q1, q2, _⟩ := Rel_at hX hC hR hp
    rw [hp, q1]
    exact fm_cong q2 _ (by omega) 7
  have hfs := fm_sp (T := μ.2.2 (x + 1)) (n := μ.1 x 1) (p := cpl x μ) (k := 7) (by decide)
  have hs5 : slen 7 ≤ 5 ∧ 1 ≤ slen 7 := by decide
  have hle : cpl x μ + (fm (μ.2.2 (x + 1)) (μ.1 x 1) (cpl x μ) 7) ≤ μ.1 x 1 := by
    by_cases z : (fm (μ.2.2 (x + 1)) (μ.1 x 1) (cpl x μ) 7) = 0
    · omega
    · have := (hfs.2.1 ((fm (μ.2.2 (x + 1)) (μ.1 x 1) (cpl x μ) 7) - 1) (by omega) (by omega)).1
      omega
  by_cases h1 : (fm (μ.2.2 (x + 1)) (μ.1 x 1) (cpl x μ) 7) = slen 7
  · have T := t_nameF (sc := sc) (fr := fr) (lo := lo) (ρ := ρ) (c := c) hX hcs hCs.2.1 hCs.2.2.1 hT hct (by rw [e5]; omega) (by rw [e7]; omega) hc (by rw [efm]; exact h1) (by omega) (by omega)
    rw [e5] at T
    refine T.mono ?_
    rintro o τ ⟨rfl, rfl⟩
    obtain ⟨B, hB⟩ : ∃ B, B = stI (stI μ 20 5 (cpl x μ)) 20 5 (cpl x μ + slen 7) := ⟨_, rfl⟩
    rw [← hB]
    have b1 : ∀ a q, ¬ (a = 20 ∧ q = 5) → B.1 a q = (stI μ 20 5 (cpl x μ)).1 a q := fun a q h4 => by rw [hB, stI_ne h4]
    have b2 : B.2 = μ.2 := by rw [hB]; rfl
    have b5 : B.1 20 5 = cpl x μ + slen 7 := by rw [hB]; exact stI_at _ _ _ _
    have hCB : CI t x B := CI_of hCs (b1 x 1 (by omega)) (b1 (t + 7) 1 (by omega)) (b1 21 2 (by omega)) (by rw [b2]; rfl) (by rw [b2]; rfl) (by rw [b2]; rfl) (by rw [b2]; rfl) (by rw [b2]; rfl) (by rw [b5, ex, show (stI μ 20 5 (cpl x μ)).1 (t + 7) 1 = μ.1 (t + 7) 1 from stI_ne (by omega)]; omega) (by rw [b1 t 7 (by omega), e7]; exact hc0)
    have eB7 : B.1 t 7 = μ.1 t 7 := (b1 t 7 (by omega)).trans e7
    have hKB : Kp t (μ.1 t 7) μ B := by
      refine ⟨⟨fun a q h3 h4 h5 h6 h7 => ?_, by rw [b2], fun a _ _ _ _ => by rw [b2]⟩, fun a k _ _ => by rw [b2], fun k _ => by rw [b2], ?_, by rw [b5]; omega, (b1 20 6 (by omega)).trans (stI_ne (by omega))⟩
      · rw [b1 a q (by omega)]; exact stI_ne (by omega)
      · rw [b1 (t + 7) 1 (by omega), stI_ne (by omega)]; exact Int.le_refl _
    obtain ⟨g1, g2, g3⟩ := GV_leaf hT hX hCB (n := μ.1 t 7) (k := 1) (v := 0) (f := 0) (z := 0) (s := cpl x μ) ⟨eB7, by omega⟩ (by decide) (by decide) (fun z => absurd z (by decide)) ⟨by decide, by decide, by have := hCB.2.2.2.2.2.1; omega⟩ (by omega) (Or.inr (Or.inr (Or.inr rfl))) e
    obtain ⟨_, rc, rI, _⟩ := adw_f (μ := B) hT (k := 1) (v := 0) (f := 0) (z := 0) (s := cpl x μ)
    refine Or.inl ⟨rfl, _, rfl, g1, Kp_trans hKB g2 (Int.le_refl _), g3, by rw [rc, rI 20 5 (by omega), b5, eB7]; omega, SimE_leaf hT hX hC hd (by omega) (fun fr lo ρ ν hf hl hR hp hk h34 => ?_)⟩
    obtain ⟨q1, q2, q3, q4⟩ := Rel_at hX hC hR hp
    have es := efr ν hR hp
    refine (m_smpF hR.2.2.2.2.2.1 (n := μ.1 t 7) ⟨hR.2.2.1.2.1.trans e7, hc0, by omega⟩ hR.2.2.1.1 (by rw [q1]; exact hsz) hR.1.2.2 q3 (by rw [hp, q1]; omega) (by omega) (by omega) (by rw [q4]; exact hcc) (by rw [es]; exact h1)).mono ?_
    rintro o τ ⟨ν', rfl, hm, rfl⟩
    rw [hp] at hm
    refine ⟨ν', rfl, lf_P hT hX (Rel_mv hT hX hR (fun a q h3 h4 => b1 a q (by omega)) (by rw [b2]; rfl) (fun q h3 h4 h5 => stI_ne (by omega)) rfl ?_ ?_) ⟨eB7, hc0⟩ hm, rfl⟩
    · rw [stI_at, b5, q1, ex]
      exact sk_cong q2 _ (by omega)
    · rw [stI_at, ex]; omega
  · have T := t_nameFx (sc := sc) (fr := fr) (lo := lo) (ρ := ρ) (c := c) hX hcs hCs.2.1 hCs.2.2.1 hT hct (by rw [e5]; omega) hc (by rw [efm]; exact h1) (by omega) (by omega) hr
    rw [efm, e5] at T
    refine T.mono ?_
    rintro o τ ⟨rfl, rfl⟩
    have hC2 : CI t x (stI (stI μ 20 5 (cpl x μ)) 20 5 (cpl x μ + (fm (μ.2.2 (x + 1)) (μ.1 x 1) (cpl x μ) 7))) := CI_of hCs (stI_ne (by omega)) (stI_ne (by omega)) (stI_ne (by omega)) rfl rfl rfl rfl rfl (by rw [stI_at, ex, show (stI μ 20 5 (cpl x μ)).1 (t + 7) 1 = μ.1 (t + 7) 1 from stI_ne (by omega)]; omega) (by rw [stI_ne (by omega), e7]; exact hc0)
    refine Or.inr ⟨rfl, _, _, rfl, Cbad_of hT (cfr_trans (cfr_I (Or.inl rfl)) (cfr_I (Or.inl rfl))) hC2 (Or.inl rfl) (by omega), SimX_leaf hT hX hC hd (by omega) (fun fr lo ρ ν hf hl hR hp hk h34 => ?_)⟩
    obtain ⟨q1, q2, q3, q4⟩ := Rel_at hX hC hR hp
    have es := efr ν hR hp
    refine (m_smpFx hR.2.2.2.2.2.1 (n := μ.1 t 7) ⟨hR.2.2.1.2.1.trans e7, hc0, by omega⟩ hR.2.2.1.1 (by rw [q1]; exact hsz) hR.1.2.2 q3 (by rw [hp, q1]; omega) (by omega) (by omega) (by rw [q4]; exact hcc) (by rw [es]; exact h1)).mono ?_
    rintro o τ ⟨ν', rfl, hm, rfl⟩
    rw [es, hp] at hm
    exact ⟨ν', rfl, hm, rfl⟩
/-- any other letter -/
theorem t_nameZU {sc : Nat × (Nat → Int32)} {fr lo : Nat} {μ : Mem} {ρ : Nat × Nat × Nat} {t x : Nat} {d key : Int} (hT : isT t) (hX : x = 42 ∨ x = 44) (hC : CI t x μ) (hd : 0 ≤ d ∧ d ≤ 8) (hn : 2 * μ.1 t 7 ≤ μ.1 20 5 + d) (hf : 18 ≤ fr) (hl : 900 ≤ lo) (hr : 1 ≤ ρ.2.1 ∧ 6 ≤ ρ.2.2) (e : Nat) {c : Int} (hc : -1 ≤ c ∧ c < 65536 ∧ c ≠ 110 ∧ c ≠ 116) (hcc : cch x μ ≠ 102 ∧ cch x μ ≠ 91 ∧ cch x μ ≠ 34 ∧ cch x μ ≠ 110 ∧ cch x μ ≠ 116 ∧ cch x μ ≠ 45 ∧ ¬ (48 ≤ cch x μ ∧ cch x μ ≤ 57)) : w_S sc fr lo 67 [.ref 20, .int (ji c)] (hp (stI μ 20 5 (cpl x μ)), ρ) (EP sc t x d key (e + 1) μ ρ) := by
  have hcp := cpl_in hC
  have hsz := hC.2.1
  have hpl := hC.2.2.2.2.1
  have hu := hC.2.2.2.2.2.1
  have hc0 := hC.2.2.2.2.2.2.2.2.2.2
  have hCs := CI_sk hT hX hC
  have ht := hT
  unfold isT at ht
  have ex : (stI μ 20 5 (cpl x μ)).1 x 1 = μ.1 x 1 := stI_ne (by omega)
  have e7 : (stI μ 20 5 (cpl x μ)).1 t 7 = μ.1 t 7 := stI_ne (by omega)
  have e5 : (stI μ 20 5 (cpl x μ)).1 20 5 = cpl x μ := stI_at _ _ _ _
  have hcs : (stI μ 20 5 (cpl x μ)).2.1 20 3 = .ref x := hC.1.1
  have hct : (stI μ 20 5 (cpl x μ)).2.1 20 4 = .ref t := hC.1.2
  have efm : fm ((stI μ 20 5 (cpl x μ)).2.2 (x + 1)) ((stI μ 20 5 (cpl x μ)).1 x 1) ((stI μ 20 5 (cpl x μ)).1 20 5) 7 = (fm (μ.2.2 (x + 1)) (μ.1 x 1) (cpl x μ) 7) := by rw [e5, ex]; rfl
  have hfs := fm_sp (T := μ.2.2 (x + 1)) (n := μ.1 x 1) (p := cpl x μ) (k := 7) (by decide)
  have hch : ∀ z : Int, cpl x μ < μ.1 x 1 → μ.2.2 (x + 1) (cpl x μ) = z → cch x μ = z := fun z h1 h2 => by unfold cch; rw [if_pos h1]; exact h2
  have h0 : (fm (μ.2.2 (x + 1)) (μ.1 x 1) (cpl x μ) 7) = 0 := Decidable.byContradiction (fun z => by
    have h2 := hfs.2.1 0 (by omega) (by omega)
    rw [Int.add_zero] at h2
    exact hcc.1 (hch 102 h2.1 (h2.2.trans (by decide))))
  have hsl : slen 7 = 5 := by decide
  have T := t_nameFx (sc := sc) (fr := fr) (lo := lo) (ρ := ρ) (c := c) hX hcs hCs.2.1 hCs.2.2.1 hT hct (by rw [e5]; omega) hc (by rw [efm]; omega) (by omega) (by omega) hr
  rw [efm, e5, h0, Int.add_zero] at T
  refine T.mono ?_
  rintro o τ ⟨rfl, rfl⟩
  have hC2 : CI t x (stI (stI μ 20 5 (cpl x μ)) 20 5 (cpl x μ)) := CI_of hCs (stI_ne (by omega)) (stI_ne (by omega)) (stI_ne (by omega)) rfl rfl rfl rfl rfl (by rw [stI_at, ex, show (stI μ 20 5 (cpl x μ)).1 (t + 7) 1 = μ.1 (t + 7) 1 from stI_ne (by omega)]; omega) (by rw [stI_ne (by omega), e7]; exact hc0)
  have hsc : (scn (μ.2.2 (x + 1)) (cpl x μ) (μ.1 x 1)) = (false, cpl x μ, true, 0) := by
    unfold scn
    rw [if_neg (fun z => hcc.2.2.2.2.2.1 (hch 45 z.1 z.2)), if_neg (fun z => hcc.2.2.2.2.2.2 (by rw [hch _ z.1 rfl]; omega)), if_neg (fun z => hcc.2.2.2.2.2.2 (by rw [hch 48 z.1 z.2]; decide))]
  refine Or.inr ⟨rfl, _, _, rfl, Cbad_of hT (cfr_trans (cfr_I (Or.inl rfl)) (cfr_I (Or.inl rfl))) hC2 (Or.inl rfl) (by omega), SimX_leaf hT hX hC hd (by omega) (fun fr lo ρ ν hf hl hR hp hk h34 => ?_)⟩
  obtain ⟨q1, q2, q3, q4⟩ := Rel_at hX hC hR hp
  have es : scn (ν.2.2 47) (ν.1 46 15) (ν.1 46 3) = (scn (μ.2.2 (x + 1)) (cpl x μ) (μ.1 x 1)) := by
    rw [hp, q1]
    exact scn_cong (fun k k1 k2 => q2 k (by omega) k2)
  refine (m_smpIx1 hR.2.2.2.2.2.1 (n := μ.1 t 7) ⟨hR.2.2.1.2.1.trans e7, hc0, by omega⟩ hR.2.2.1.1 (by rw [q1]; exact hsz) hR.1.2.2 q3 (by rw [hp, q1]; omega) (by omega) (by omega) (by rw [q4]; exact ⟨hcc.2.2.1, hcc.2.2.2.1, hcc.2.2.2.2.1, hcc.1⟩) (by rw [es, hsc])).mono ?_
  rintro o τ ⟨ν', rfl, hm, rfl⟩
  rw [es, hsc] at hm
  exact ⟨ν', rfl, hm, rfl⟩
