/-! THE PURE PART, 65: values that are no arrays, side by side -/
/-- a value has been made by the reference, before it counts as an element -/
def Pst0 (t x : Nat) (d n0 : Int) (μ' ν ν' : Mem) : Prop := Rel t x d μ' ν' ∧ mfr ν ν' ∧ (∀ a i, 49 ≤ a → a ≤ 56 → i < 256 + n0 → ν'.2.2 a i = ν.2.2 a i) ∧ (∀ k, n0 ≤ k → k < μ'.1 t 7 → 0 ≤ ν'.2.2 56 (256 + k)) ∧ ∀ k, 0 ≤ k → k < μ'.1 t 7 → k ≠ n0 → 0 ≤ ν'.2.2 56 (256 + k) → ν'.2.2 56 (256 + k) ≠ 256 + n0
/-- and behind that -/
def Pst (t x : Nat) (d n0 : Int) (μ' ν ν' : Mem) : Prop := Rel t x d μ' ν' ∧ mfw ν ν' ∧ (∀ a i, 49 ≤ a → a ≤ 56 → i < 256 + n0 → ν'.2.2 a i = ν.2.2 a i) ∧ (∀ k, n0 ≤ k → k < μ'.1 t 7 → 0 ≤ ν'.2.2 56 (256 + k)) ∧ (∀ k, 0 ≤ k → k < μ'.1 t 7 → k ≠ n0 → 0 ≤ ν'.2.2 56 (256 + k) → ν'.2.2 56 (256 + k) ≠ 256 + n0) ∧ (∀ a i, 58 ≤ a → a ≤ 61 → i < d → ν'.2.2 a i = ν.2.2 a i) ∧ (ν'.2.2 58 d = ν.2.2 58 d ∧ ν'.2.2 61 d = ν.2.2 61 d) ∧ (0 < d → ν'.2.2 59 d = (if ν.2.2 59 d = 0 then 1 else ν.2.2 59 d) ∧ ν'.2.2 60 d = ν.2.2 60 d + 1)
def SimE (sc : Nat × (Nat → Int32)) (t x : Nat) (d key : Int) (μ μ' : Mem) : Prop := ∀ (fr lo : Nat) (ρ : Nat × Nat × Nat) (Q : z_O → z_T → Prop) (ν : Mem) (f : Int), 40 ≤ fr → 2000 ≤ lo → Rel t x d μ ν → kcd d key ν → (0 < d → ν.2.2 59 d = 0 → cch x μ ≠ 34) → (f = 0 ∨ f = 1 ∧ cch x μ ≠ 93) → (∀ ν', Pst t x d (μ.1 t 7) μ' ν ν' → RLp sc fr lo ρ Q 0 0 ν') → RLp sc fr lo ρ Q 1 f ν
/-- what is wrong is found; letters are still letters -/
def mbv (ν ν' : Mem) (w : Int) : Prop := mbw ν ν' w ∧ ∀ k, 0 ≤ ν'.2.2 57 k ∧ ν'.2.2 57 k < 65536
def SimX (sc : Nat × (Nat → Int32)) (t x : Nat) (d key : Int) (μ : Mem) (w : Int) : Prop := ∀ (fr lo : Nat) (ρ : Nat × Nat × Nat) (Q : z_O → z_T → Prop) (ν : Mem) (f : Int), 40 ≤ fr → 2000 ≤ lo → Rel t x d μ ν → kcd d key ν → (0 < d → ν.2.2 59 d = 0 → cch x μ ≠ 34) → (f = 0 ∨ f = 1 ∧ cch x μ ≠ 93) → (∀ ν' wa fa, mbv ν ν' w → RLp sc fr lo ρ Q wa fa ν') → RLp sc fr lo ρ Q 1 f ν
theorem cch_in {t x : Nat} {μ : Mem} (h : CI t x μ) : 0 ≤ cch x μ ∧ cch x μ < 65536 := by
  unfold cch
  split
  · exact h.2.2.1 _
  · decide
theorem cpl_in {t x : Nat} {μ : Mem} (h : CI t x μ) : μ.1 20 5 ≤ cpl x μ ∧ cpl x μ ≤ μ.1 x 1 := ⟨sk_ge _ _ _, sk_le _ _ _ h.2.2.2.2.1.2⟩
/-- the letter that the reference sees next -/
theorem Rel_ch {t x : Nat} {d : Int} {μ ν : Mem} (hC : CI t x μ) (h : Rel t x d μ ν) : (if sk (ν.2.2 47) (ν.1 46 3) (ν.1 46 15) < ν.1 46 3 then ν.2.2 47 (sk (ν.2.2 47) (ν.1 46 3) (ν.1 46 15)) else 0) = cch x μ := by
  have hp := cpl_in hC
  have h0 := hC.2.2.2.2.1.1
  obtain ⟨a1, a2, _⟩ := h
  rw [a2.1, a1.1]
  unfold cch
  by_cases z : cpl x μ < μ.1 x 1
  · rw [if_pos z, if_pos z, a1.2.1 _ (by omega) z]
  · rw [if_neg z, if_neg z]
theorem Rel_sk {t x : Nat} {d : Int} (hT : isT t) (hX : x = 42 ∨ x = 44) {μ ν : Mem} (hC : CI t x μ) (h : Rel t x d μ ν) : Rel t x d (stI μ 20 5 (cpl x μ)) (skM ν) ∧ (skM ν).1 46 15 = cpl x μ := by
  have e : (skM ν).1 46 15 = cpl x μ := (stI_at _ _ _ _).trans h.2.1.1
  have hp := cpl_in hC
  have h0 := hC.2.2.2.2.1.1
  refine ⟨Rel_mv hT hX h (fun a q h1 h2 => stI_ne (by omega)) rfl (fun q h1 h2 h3 => stI_ne (by omega)) rfl ?_ ?_, e⟩
  · rw [e, stI_at, h.1.1]
    exact sk_cong h.1.2.1 _ (by omega)
  · rw [e]; omega
theorem CI_sk {t x : Nat} (hT : isT t) (hX : x = 42 ∨ x = 44) {μ : Mem} (hC : CI t x μ) : CI t x (stI μ 20 5 (cpl x μ)) := by
  have hp := cpl_in hC
  unfold isT at hT
  exact CI_of hC (stI_ne (by omega)) (stI_ne (by omega)) (stI_ne (by omega)) rfl rfl rfl rfl rfl (by rw [stI_at]; have := hC.2.2.2.2.2.1; omega) (by rw [stI_ne (by omega)]; exact hC.2.2.2.2.2.2.2.2.2.2)
theorem SimE_leaf {sc : Nat × (Nat → Int32)} {t x : Nat} {d key : Int} (hT : isT t) (hX : x = 42 ∨ x = 44) {μ μ' : Mem} (hC : CI t x μ) (hd : 0 ≤ d ∧ d ≤ 8) (hc : cch x μ ≠ 91) (h : ∀ (fr lo : Nat) (ρ : Nat × Nat × Nat) (ν : Mem), 30 ≤ fr → 1500 ≤ lo → Rel t x d (stI μ 20 5 (cpl x μ)) ν → ν.1 46 15 = cpl x μ → kcd d key ν → (0 < d → ν.2.2 59 d = 0 → cch x μ ≠ 34) → w_S sc fr lo 123 [.ref 46] (hp ν, ρ) (fun o t' => ∃ ν', o = .inl (some (.int (ji 1))) ∧ Pst0 t x d (μ.1 t 7) μ' ν ν' ∧ t' = (hp ν', ρ))) : SimE sc t x d key μ μ' := by
  intro fr lo ρ Q ν f hf hl hR hk h34 hf1 K
  have ec := Rel_ch hC hR
  have hs := Rel_sk hT hX hC hR
  have hci := cch_in hC
  have h0 := hC.2.1
  refine L_head (d := d) (by rw [hR.1.1]; exact h0) hR.1.2.2 (by have := hR.2.1.2; omega) hR.2.2.1.1 ⟨hR.2.2.1.2.2.2.1, hd⟩ (Or.inl rfl) (by omega) (by omega) ?_
  rw [ec]
  refine L_simple rfl ⟨hci.1, hci.2, hc⟩ hf1 (P := fun r ν' => r = 1 ∧ Pst0 t x d (μ.1 t 7) μ' (skM ν) ν') (by omega) (by omega) ((h (fr - 1) (lo - (19 + 5)) ρ (skM ν) (by omega) (by omega) hs.1 hs.2 hk h34).mono ?_) ?_
  · rintro o τ ⟨ν', rfl, hp, rfl⟩
    exact ⟨1, ν', rfl, ⟨rfl, hp⟩, rfl⟩
  · rintro r ν' ⟨rfl, hP⟩
    refine Or.inr ⟨rfl, ?_⟩
    obtain ⟨p1, p2, p3, p4, p5⟩ := hP
    have m0 : mfw ν ν' := mfw_trans (mfw_I (q := 15) (by decide)) p2.w
    have e8 : ∀ a, 58 ≤ a → a ≤ 61 → ν'.2.2 a = ν.2.2 a := fun a a1 a2 => p2.2.2.2.1 a (by omega)
    by_cases hd0 : d = 0
    · refine ⟨ν', m_complete0 (p1.2.2.1.2.2.2.1.trans hd0), K ν' ⟨p1, m0, p3, p4, p5, fun a i a1 a2 _ => by rw [e8 a a1 a2], ⟨by rw [e8 58 (by omega) (by omega)], by rw [e8 61 (by omega) (by omega)]⟩, fun z => by omega⟩⟩
    · have hmo := hk.1 (by omega)
      have m59 : ν'.2.2 59 d = ν.2.2 59 d := by rw [e8 59 (by omega) (by omega)]
      have m60 : ν'.2.2 60 d = ν.2.2 60 d := by rw [e8 60 (by omega) (by omega)]
      refine ⟨_, m_complete (d := d) ⟨p1.2.2.1.2.2.2.1, by omega, hd.2⟩ (by rw [m59]; exact hmo.1), K _ ⟨?_, mfw_trans m0 (mfw_trans (mfw_A (Or.inr (Or.inr (by omega)))) (mfw_A (Or.inr (Or.inr (by omega))))), fun a i a1 a2 a3 => ?_, fun k k1 k2 => ?_, fun k k1 k2 k3 k4 => ?_, fun a i a1 a2 a3 => ?_, ⟨?_, ?_⟩, fun _ => ⟨?_, ?_⟩⟩⟩
      · obtain ⟨b1, b2, b3, b4, b5, b6, b7⟩ := p1
        have y : ∀ a, a ≠ 59 → a ≠ 60 → (stA (stA ν' 59 d (if ν'.2.2 59 d = 0 then 1 else ν'.2.2 59 d)) 60 d (ν'.2.2 60 d + 1)).2.2 a = ν'.2.2 a := fun a y1 y2 => by rw [stA_o2 y2, stA_o2 y1]
        refine ⟨by rw [y 47 (by omega) (by omega)]; exact b1, by rw [y 47 (by omega) (by omega)]; exact b2, b3, by rw [y 62 (by omega) (by omega), y 63 (by omega) (by omega)]; exact b4, by rw [y 57 (by omega) (by omega)]; exact b5, MI_same b6 rfl (fun a a1 a2 => y a (by omega) (by omega)), fun k k0 k1 k2 => ?_⟩
        rw [y 56 (by omega) (by omega)] at k2
        exact RR_of (b7 k k0 k1 k2) (fun a _ => rfl) (fun a a1 a2 => by rw [y a (by omega) (by omega)]) (Int.le_refl _)
      · rw [stA_o2 (by omega), stA_o2 (by omega)]; exact p3 a i a1 a2 a3
      · rw [stA_o2 (by omega), stA_o2 (by omega)]; exact p4 k k1 k2
      · rw [stA_o2 (by omega), stA_o2 (by omega)] at k4 ⊢; exact p5 k k1 k2 k3 k4
      · rw [stA_ne (by omega), stA_ne (by omega), e8 a a1 a2]
      · rw [stA_o2 (by omega), stA_o2 (by omega), e8 58 (by omega) (by omega)]
      · rw [stA_o2 (by omega), stA_o2 (by omega), e8 61 (by omega) (by omega)]
      · rw [stA_o2 (by omega), stA_at, m59]
      · rw [stA_at, m60]
theorem SimX_leaf {sc : Nat × (Nat → Int32)} {t x : Nat} {d key : Int} (hT : isT t) (hX : x = 42 ∨ x = 44) {μ : Mem} {w : Int} (hC : CI t x μ) (hd : 0 ≤ d ∧ d ≤ 8) (hc : cch x μ ≠ 91) (h : ∀ (fr lo : Nat) (ρ : Nat × Nat × Nat) (ν : Mem), 30 ≤ fr → 1500 ≤ lo → Rel t x d (stI μ 20 5 (cpl x μ)) ν → ν.1 46 15 = cpl x μ → kcd d key ν → (0 < d → ν.2.2 59 d = 0 → cch x μ ≠ 34) → w_S sc fr lo 123 [.ref 46] (hp ν, ρ) (fun o t' => ∃ ν', o = .inl (some (.int (ji 1))) ∧ lfX ν ν' w ∧ t' = (hp ν', ρ))) : SimX sc t x d key μ w := by
  intro fr lo ρ Q ν f hf hl hR hk h34 hf1 K
  have ec := Rel_ch hC hR
  have hs := Rel_sk hT hX hC hR
  have hci := cch_in hC
  have h0 := hC.2.1
  refine L_head (d := d) (by rw [hR.1.1]; exact h0) hR.1.2.2 (by have := hR.2.1.2; omega) hR.2.2.1.1 ⟨hR.2.2.1.2.2.2.1, hd⟩ (Or.inl rfl) (by omega) (by omega) ?_
  rw [ec]
  refine L_simple rfl ⟨hci.1, hci.2, hc⟩ hf1 (P := fun r ν' => r = 1 ∧ lfX (skM ν) ν' w) (by omega) (by omega) ((h (fr - 1) (lo - (19 + 5)) ρ (skM ν) (by omega) (by omega) hs.1 hs.2 hk h34).mono ?_) ?_
  · rintro o τ ⟨ν', rfl, hp, rfl⟩
    exact ⟨1, ν', rfl, ⟨rfl, hp⟩, rfl⟩
  · rintro r ν' ⟨rfl, ⟨p2, p3⟩, p4⟩
    refine Or.inr ⟨rfl, ?_⟩
    have m0 : mfw ν ν' := mfw_trans (mfw_I (q := 15) (by decide)) p2.w
    have e19 : ν'.1 46 19 = d := (p2.2.1 19 (by decide) (by decide) (by decide) (by decide) (by decide) (by decide) (by decide)).trans hR.2.2.1.2.2.2.1
    by_cases hd0 : d = 0
    · exact ⟨ν', m_complete0 (e19.trans hd0), K ν' 0 0 ⟨⟨m0, p3⟩, p4⟩⟩
    · have hmo := hk.1 (by omega)
      have m59 : ν'.2.2 59 d = ν.2.2 59 d := by rw [p2.2.2.2.1 59 (by omega)]; rfl
      exact ⟨_, m_complete (d := d) ⟨e19, by omega, hd.2⟩ (by rw [m59]; exact hmo.1), K _ 0 0 ⟨⟨mfw_trans m0 (mfw_trans (mfw_A (Or.inr (Or.inr (by omega)))) (mfw_A (Or.inr (Or.inr (by omega))))), p3⟩, fun k => by rw [stA_o2 (by omega), stA_o2 (by omega)]; exact p4 k⟩⟩
/-- rows that were made -/
theorem Pst0_row {t x : Nat} {d n : Int} (hT : isT t) (hX : x = 42 ∨ x = 44) {μ0 μ' ν ν0 ν' : Mem} (h : Rel t x d μ0 ν0) (hf : mfr ν ν0) (hf2 : ∀ a, 49 ≤ a → a ≤ 56 → ν0.2.2 a = ν.2.2 a) (hn : μ0.1 t 7 = n ∧ 0 ≤ n) (c1 : ∀ a q, ¬ (a = t ∧ q = 7) → a ≠ 24 → μ'.1 a q = μ0.1 a q) (c3 : ∀ a i, ¬ ((t + 1 ≤ a ∧ a ≤ t + 6 ∨ a = 25) ∧ n ≤ i) → μ'.2.2 a i = μ0.2.2 a i)
    (hM : MI ν') (hk : kp ν0 ν' n) (h17 : ν'.1 46 17 = μ'.1 t 7) (hr : ∀ k, n ≤ k → k < μ'.1 t 7 → RR t μ' ν' k ∧ 0 ≤ ν'.2.2 56 (256 + k)) (hnr : ∀ k, n < k → k < μ'.1 t 7 → ν'.2.2 56 (256 + k) ≠ 256 + n) : Pst0 t x d n μ' ν ν' := by
  refine ⟨Rel_rows hT hX h hn c1 c3 hM hk h17 (fun k k1 k2 _ => (hr k k1 k2).1), mfr_trans hf (kp_fr hk hn.2), fun a i a1 a2 a3 => ?_, fun k k1 k2 => (hr k k1 k2).2, fun k k0 k1 k2 k3 => ?_⟩
  · rw [hk.2.2 a i (by omega), hf2 a a1 a2]
  · by_cases z : n < k
    · exact hnr k z k1
    · have e := hk.2.2 56 (256 + k) (by omega)
      rw [e] at k3 ⊢
      have g := (h.2.2.2.2.2.1.2.1 (256 + k) (by omega) (by rw [h.2.2.1.2.1]; omega) k3).1.2.1
      rw [h.2.2.1.2.1] at g
      omega
