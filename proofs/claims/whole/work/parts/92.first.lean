/-! THE PURE PART, 74: the first string of an array -/
theorem Stq_leaf {sc : Nat × (Nat → Int32)} {t x : Nat} {d f n : Int} (hT : isT t) (hX : x = 42 ∨ x = 44) {μ μ' ν : Mem} (hC : CI t x μ) (hd : 0 < d ∧ d ≤ 8) (hc : cch x μ ≠ 91) (hR : Rel t x d μ ν) (hm : 0 ≤ ν.2.2 59 d ∧ ν.2.2 59 d ≤ 7) (hf1 : f = 0 ∨ f = 1 ∧ cch x μ ≠ 93) (h : ∀ (fr lo : Nat) (ρ : Nat × Nat × Nat), 30 ≤ fr → 1500 ≤ lo → w_S sc fr lo 123 [.ref 46] (hp (skM ν), ρ) (fun o t' => ∃ ν', o = .inl (some (.int (ji 1))) ∧ Pst0 t x d n μ' (skM ν) ν' ∧ t' = (hp ν', ρ))) : Stq sc 1 f ν 0 0 (Pst t x d n μ' ν) := by
  intro fr lo ρ Q hf hl K
  have ec := Rel_ch hC hR
  have hci := cch_in hC
  have h0 := hC.2.1
  refine L_head (d := d) (by rw [hR.1.1]; exact h0) hR.1.2.2 (by have := hR.2.1.2; omega) hR.2.2.1.1 ⟨hR.2.2.1.2.2.2.1, by omega, hd.2⟩ (Or.inl rfl) (by omega) (by omega) ?_
  rw [ec]
  refine L_simple rfl ⟨hci.1, hci.2, hc⟩ hf1 (P := fun r ν' => r = 1 ∧ Pst0 t x d n μ' (skM ν) ν') (by omega) (by omega) ((h (fr - 1) (lo - (19 + 5)) ρ (by omega) (by omega)).mono ?_) ?_
  · rintro o τ ⟨ν', rfl, hp, rfl⟩
    exact ⟨1, ν', rfl, ⟨rfl, hp⟩, rfl⟩
  · rintro r ν' ⟨rfl, hP⟩
    refine Or.inr ⟨rfl, ?_⟩
    obtain ⟨p1, p2, p3, p4, p5⟩ := hP
    have m0 : mfw ν ν' := mfw_trans (mfw_I (q := 15) (by decide)) p2.w
    have e8 : ∀ a, 58 ≤ a → a ≤ 61 → ν'.2.2 a = ν.2.2 a := fun a a1 a2 => p2.2.2.2.1 a (by omega)
    have m59 : ν'.2.2 59 d = ν.2.2 59 d := by rw [e8 59 (by omega) (by omega)]
    have m60 : ν'.2.2 60 d = ν.2.2 60 d := by rw [e8 60 (by omega) (by omega)]
    refine ⟨_, m_complete (d := d) ⟨p1.2.2.1.2.2.2.1, by omega, hd.2⟩ (by rw [m59]; exact hm), K _ ⟨?_, mfw_trans m0 (mfw_trans (mfw_A (Or.inr (Or.inr (by omega)))) (mfw_A (Or.inr (Or.inr (by omega))))), fun a i a1 a2 a3 => ?_, fun k k1 k2 => ?_, fun k k1 k2 k3 k4 => ?_, fun a i a1 a2 a3 => ?_, ⟨?_, ?_⟩, fun _ => ⟨?_, ?_⟩⟩⟩
    · obtain ⟨b1, b2, b3, b4, b5, b6, b7⟩ := p1
      have y : ∀ a, a ≠ 59 → a ≠ 60 → (stA (stA ν' 59 d (if ν'.2.2 59 d = 0 then 1 else ν'.2.2 59 d)) 60 d (ν'.2.2 60 d + 1)).2.2 a = ν'.2.2 a := fun a y1 y2 => by rw [stA_o2 y2, stA_o2 y1]
      refine ⟨by rw [y 47 (by omega) (by omega)]; exact b1, by rw [y 47 (by omega) (by omega)]; exact b2, b3, by rw [y 62 (by omega) (by omega), y 63 (by omega) (by omega)]; exact b4, by rw [y 57 (by omega) (by omega)]; exact b5, MI_same b6 rfl (fun a a1 a2 => y a (by omega) (by omega)), fun k k0 k1 k2 => ?_⟩
      rw [y 56 (by omega) (by omega)] at k2
      exact RR_of (b7 k k0 k1 k2) (fun a _ => rfl) (fun a a1 a2 => by rw [y a (by omega) (by omega)]) (Int.le_refl _)
    · rw [stA_o2 (by omega), stA_o2 (by omega)]; exact p3 a i a1 a2 a3
    · rw [stA_o2 (by omega), stA_o2 (by omega)]; exact p4 k k1 k2
    · rw [stA_o2 (by omega), stA_o2 (by omega)] at k4 ⊢; exact p5 k k1 k2 k3 k4
    · rw [stA_ne (by omega), stA_ne (by omega), e8 a a1 a2]
    · rw [stA_o2 (by omega), stA_o2 (by omega), e8 58 (by omega) (by omega)]
    · rw [stA_o2 (by omega), stA_o2 (by omega), e8 61 (by omega) (by omega)]
    · rw [stA_o2 (by omega), stA_at, m59]
    · rw [stA_at, m60]
theorem StX_leaf {sc : Nat × (Nat → Int32)} {t x : Nat} {d f w : Int} {μ ν : Mem} (hC : CI t x μ) (hd : 0 < d ∧ d ≤ 8) (hc : cch x μ ≠ 91) (hR : Rel t x d μ ν) (hm : 0 ≤ ν.2.2 59 d ∧ ν.2.2 59 d ≤ 7) (hf1 : f = 0 ∨ f = 1 ∧ cch x μ ≠ 93) (h : ∀ (fr lo : Nat) (ρ : Nat × Nat × Nat), 30 ≤ fr → 1500 ≤ lo → w_S sc fr lo 123 [.ref 46] (hp (skM ν), ρ) (fun o t' => ∃ ν', o = .inl (some (.int (ji 1))) ∧ lfX (skM ν) ν' w ∧ t' = (hp ν', ρ))) : StX sc 1 f ν w := by
  intro fr lo ρ Q hf hl K
  have ec := Rel_ch hC hR
  have hci := cch_in hC
  have h0 := hC.2.1
  refine L_head (d := d) (by rw [hR.1.1]; exact h0) hR.1.2.2 (by have := hR.2.1.2; omega) hR.2.2.1.1 ⟨hR.2.2.1.2.2.2.1, by omega, hd.2⟩ (Or.inl rfl) (by omega) (by omega) ?_
  rw [ec]
  refine L_simple rfl ⟨hci.1, hci.2, hc⟩ hf1 (P := fun r ν' => r = 1 ∧ lfX (skM ν) ν' w) (by omega) (by omega) ((h (fr - 1) (lo - (19 + 5)) ρ (by omega) (by omega)).mono ?_) ?_
  · rintro o τ ⟨ν', rfl, hp, rfl⟩
    exact ⟨1, ν', rfl, ⟨rfl, hp⟩, rfl⟩
  · rintro r ν' ⟨rfl, ⟨p2, p3⟩, p4⟩
    refine Or.inr ⟨rfl, ?_⟩
    have m0 : mfw ν ν' := mfw_trans (mfw_I (q := 15) (by decide)) p2.w
    have e19 : ν'.1 46 19 = d := (p2.2.1 19 (by decide) (by decide) (by decide) (by decide) (by decide) (by decide) (by decide)).trans hR.2.2.1.2.2.2.1
    have m59 : ν'.2.2 59 d = ν.2.2 59 d := by rw [p2.2.2.2.1 59 (by omega)]; rfl
    exact ⟨_, m_complete (d := d) ⟨e19, by omega, hd.2⟩ (by rw [m59]; exact hm), K _ 0 0 ⟨⟨mfw_trans m0 (mfw_trans (mfw_A (Or.inr (Or.inr (by omega)))) (mfw_A (Or.inr (Or.inr (by omega))))), p3⟩, fun k => by rw [stA_o2 (by omega), stA_o2 (by omega)]; exact p4 k⟩⟩
theorem Stq_leaf0 {sc : Nat × (Nat → Int32)} {t x : Nat} {d f : Int} {μ ν : Mem} {P : Mem → Prop} (hC : CI t x μ) (hd : 0 < d ∧ d ≤ 8) (hc : cch x μ ≠ 91) (hR : Rel t x d μ ν) (hf1 : f = 0 ∨ f = 1 ∧ cch x μ ≠ 93) (h : ∀ (fr lo : Nat) (ρ : Nat × Nat × Nat), 30 ≤ fr → 1500 ≤ lo → w_S sc fr lo 123 [.ref 46] (hp (skM ν), ρ) (fun o t' => ∃ ν', o = .inl (some (.int (ji 0))) ∧ P ν' ∧ t' = (hp ν', ρ))) : Stq sc 1 f ν 0 0 P := by
  intro fr lo ρ Q hf hl K
  have ec := Rel_ch hC hR
  have hci := cch_in hC
  have h0 := hC.2.1
  refine L_head (d := d) (by rw [hR.1.1]; exact h0) hR.1.2.2 (by have := hR.2.1.2; omega) hR.2.2.1.1 ⟨hR.2.2.1.2.2.2.1, by omega, hd.2⟩ (Or.inl rfl) (by omega) (by omega) ?_
  rw [ec]
  refine L_simple rfl ⟨hci.1, hci.2, hc⟩ hf1 (P := fun r ν' => r = 0 ∧ P ν') (by omega) (by omega) ((h (fr - 1) (lo - (19 + 5)) ρ (by omega) (by omega)).mono ?_) ?_
  · rintro o τ ⟨ν', rfl, hp, rfl⟩
    exact ⟨0, ν', rfl, ⟨rfl, hp⟩, rfl⟩
  · rintro r ν' ⟨rfl, hP⟩
    exact Or.inl ⟨rfl, K ν' hP⟩
/-- the reference sees the quote -/
theorem sk_at {t x : Nat} {D : Int} (hT : isT t) (hX : x = 42 ∨ x = 44) {μ ν : Mem} (hC : CI t x μ) (hp5 : μ.1 20 5 = cpl x μ) (hR : Rel t x D μ ν) : Rel t x D μ (skM ν) ∧ (skM ν).1 46 15 = μ.1 20 5 ∧ (skM ν).1 46 3 = μ.1 x 1 ∧ (if (skM ν).1 46 15 < (skM ν).1 46 3 then (skM ν).2.2 47 ((skM ν).1 46 15) else 0) = cch x μ := by
  have hs := Rel_sk hT hX hC hR
  have h0 := hC.2.2.2.2.1
  have e : stI μ 20 5 (cpl x μ) = μ := by rw [← hp5]; exact stI_self μ 20 5
  rw [e] at hs
  refine ⟨hs.1, hs.2.trans hp5.symm, hs.1.1.1, ?_⟩
  rw [hs.2, hs.1.1.1]
  unfold cch
  by_cases z : cpl x μ < μ.1 x 1
  · rw [if_pos z, if_pos z]; exact hs.1.1.2.1 _ (by omega) z
  · rw [if_neg z, if_neg z]
/-- the string is read; the rest is told by what follows -/
theorem first_core {sc : Nat × (Nat → Int32)} {t x : Nat} {D r : Int} (hT : isT t) (hX : x = 42 ∨ x = 44) {μ μ1 ν : Mem} (hC : CI t x μ) (hp5 : μ.1 20 5 = cpl x μ) (hD : 0 < D ∧ D ≤ 8) (hc : cch x μ = 34) (hR : Rel t x D μ ν) (h59 : ν.2.2 59 D = 0) (h60 : ν.2.2 60 D = 0) (hS : SimW sc t x D 0 μ μ1) (hr : r = 0 ∨ r = 1) {P : Mem → Prop}
    (h : ∀ (fr lo : Nat) (ρ : Nat × Nat × Nat) (ν1 : Mem) (c : Int), 29 ≤ fr → 1400 ≤ lo → RWd t x D μ1 (skM ν) ν1 → w_P sc fr lo 124 7 4 false ((some FieldType.boolean)) prog_9_method_31_code 117 [some (.ref 46), some (.int (ji (μ.1 20 5))), some (.int (ji 0)), some (.int (ji c))] [] (hp ν1, ρ) (fun o t' => ∃ ν', o = .inl (some (.int (ji r))) ∧ P ν' ∧ t' = (hp ν', ρ))) (fr lo : Nat) (ρ : Nat × Nat × Nat) (hf : 30 ≤ fr) (hl : 1500 ≤ lo) : w_S sc fr lo 123 [.ref 46] (hp (skM ν), ρ) (fun o t' => ∃ ν', o = .inl (some (.int (ji r))) ∧ P ν' ∧ t' = (hp ν', ρ)) := by
  obtain ⟨s1, s2, s3, s4⟩ := sk_at hT hX hC hp5 hR
  have hsz := hC.2.1
  have h0 := hC.2.2.2.2.1
  refine m_smpS (by rw [s3]; exact hsz) (by rw [s2, s3]; exact h0) (by omega) (by omega) (s4.trans hc) (fun o τ hq => ?_) (hS (fr - 1) (lo - (19 + 4)) ρ _ (skM ν) (by omega) (by omega) s1 s2 ⟨fun _ => ?_, Or.inr ⟨rfl, ?_⟩⟩ (fun ν1 c hRW => h _ _ _ ν1 c (by omega) (by omega) hRW))
  · obtain ⟨ν', rfl, _⟩ := hq
    exact ⟨r, τ, hr, rfl⟩
  · show (0 ≤ ν.2.2 59 D ∧ ν.2.2 59 D ≤ 7) ∧ 0 ≤ ν.2.2 60 D ∧ ν.2.2 60 D ≤ 240
    rw [h59, h60]; decide
  · show ¬ (0 < D ∧ ν.2.2 59 D = 2 ∧ ν.2.2 60 D % 2 = 0)
    rw [h59]; omega
/-- the string itself is wrong -/
theorem first_X {sc : Nat × (Nat → Int32)} {t x : Nat} {D f w : Int} (hT : isT t) (hX : x = 42 ∨ x = 44) {μ ν : Mem} (hC : CI t x μ) (hp5 : μ.1 20 5 = cpl x μ) (hD : 0 < D ∧ D ≤ 8) (hc : cch x μ = 34) (hR : Rel t x D μ ν) (h59 : ν.2.2 59 D = 0) (h60 : ν.2.2 60 D = 0) (hf1 : f = 0 ∨ f = 1) (hS : SimWX sc t x D 0 μ w) : StX sc 1 f ν w := by
  obtain ⟨s1, s2, s3, s4⟩ := sk_at hT hX hC hp5 hR
  have hsz := hC.2.1
  have h0 := hC.2.2.2.2.1
  refine StX_leaf hC hD (by omega) hR (by rw [h59]; decide) (by omega) (fun fr lo ρ hf hl => ?_)
  refine m_smpS (by rw [s3]; exact hsz) (by rw [s2, s3]; exact h0) (by omega) (by omega) (s4.trans hc) (fun o τ hq => ?_) (hS (fr - 1) (lo - (19 + 4)) ρ _ (skM ν) (by omega) (by omega) s1 s2 ⟨fun _ => ?_, Or.inr ⟨rfl, ?_⟩⟩ (fun ν' hb => ⟨ν', rfl, hb, rfl⟩))
  · obtain ⟨ν', rfl, _⟩ := hq
    exact ⟨1, τ, Or.inr rfl, rfl⟩
  · show (0 ≤ ν.2.2 59 D ∧ ν.2.2 59 D ≤ 7) ∧ 0 ≤ ν.2.2 60 D ∧ ν.2.2 60 D ≤ 240
    rw [h59, h60]; decide
  · show ¬ (0 < D ∧ ν.2.2 59 D = 2 ∧ ν.2.2 60 D % 2 = 0)
    rw [h59]; omega
/-- words by the class, words by the reference -/
theorem RWd_wl {t x : Nat} {d : Int} {μ1 ν ν1 : Mem} (h : RWd t x d μ1 ν ν1) (hw : 0 ≤ μ1.1 20 8 ∧ 0 ≤ μ1.1 20 9 ∧ μ1.1 20 8 + μ1.1 20 9 ≤ μ1.1 (t + 7) 1) : (∀ k, 0 ≤ k → wl (fun i => ν1.2.2 57 (ν1.1 46 24 + i)) (ν1.1 46 25) k = wl (fun i => μ1.2.2 (t + 7 + 1) (μ1.1 20 8 + i)) (μ1.1 20 9) k) ∧ ∀ k, tgk (fun i => ν1.2.2 57 (ν1.1 46 24 + i)) (ν1.1 46 25) k ↔ tgk (fun i => μ1.2.2 (t + 7 + 1) (μ1.1 20 8 + i)) (μ1.1 20 9) k := by
  have e := RWd_w h hw
  rw [h.2.2.1]
  exact ⟨fun k hk => wl_cong e k hk, fun k => tgk_cong e⟩
/-- what the words of an array's first string say -/
def isM (t : Nat) (μ : Mem) : Prop := μ.1 20 9 = 2 ∧ wl (fun i => μ.2.2 (t + 7 + 1) (μ.1 20 8 + i)) (μ.1 20 9) 0 = 94 ∧ wl (fun i => μ.2.2 (t + 7 + 1) (μ.1 20 8 + i)) (μ.1 20 9) 1 = 32
def isG (t : Nat) (μ : Mem) : Prop := wl (fun i => μ.2.2 (t + 7 + 1) (μ.1 20 8 + i)) (μ.1 20 9) 0 = 126 ∧ wl (fun i => μ.2.2 (t + 7 + 1) (μ.1 20 8 + i)) (μ.1 20 9) 1 = 35
/-- a first string that is a value -/
theorem first_mean {sc : Nat × (Nat → Int32)} {t x : Nat} {D f n top : Int} (hT : isT t) (hX : x = 42 ∨ x = 44) {μ μ1 μ' ν : Mem} (hC : CI t x μ) (hp5 : μ.1 20 5 = cpl x μ) (hD : 0 < D ∧ D ≤ 8) (hc : cch x μ = 34) (hR : Rel t x D μ ν) (h58 : ν.2.2 58 D = 256 + top ∧ 0 ≤ top ∧ top < 128) (h59 : ν.2.2 59 D = 0) (h60 : ν.2.2 60 D = 0) (hf1 : f = 0 ∨ f = 1) (hn : μ.1 t 7 = n ∧ 0 ≤ n ∧ n ≤ 125) (hW : WDc t x μ μ1) (hS : SimW sc t x D 0 μ μ1) (hA : ¬ isM t μ1) (hG : ¬ (isG t μ1 ∧ 2 < μ1.1 20 9)) (hP : ∀ ν ν1 ν', RWd t x D μ1 ν ν1 → mmP ν1 ν' (fun i => ν1.2.2 57 (ν1.1 46 24 + i)) (ν1.1 46 25) (ν1.1 46 24) (μ.1 20 5) n → Pst0 t x D n μ' ν ν') : Stq sc 1 f ν 0 0 (Pst t x D n μ' ν) := by
  have hsz := hC.2.1
  have h0 := hC.2.2.2.2.1
  refine Stq_leaf hT hX hC hD (by omega) hR (by rw [h59]; decide) (by omega) (first_core hT hX hC hp5 hD hc hR h59 h60 hS (Or.inr rfl) (fun fr lo ρ ν1 c hf hl hRW => ?_))
  obtain ⟨m1, m2, m3⟩ := RWd_m hW hRW
  obtain ⟨w1, w2⟩ := RWd_wl hRW hW.2.2.2.2.2.2.2.1
  have e58 : ∀ a, 58 ≤ a → a ≤ 61 → ν1.2.2 a D = ν.2.2 a D := fun a a1 a2 => by rw [hRW.2.2.2.2.2.2 a a1 a2]; rfl
  refine (m_strF (p := μ.1 20 5) hRW.1.2.2.2.2.2.1 (n := n) ⟨(hRW.1.2.2.1.2.1.trans hW.2.2.2.1).trans hn.1, hn.2⟩ m1 m2 hRW.1.2.2.1.1 m3 (by omega) (by omega) (by omega) ⟨hRW.1.2.2.1.2.2.2.1, hD⟩ (by rw [e58 59 (by omega) (by omega)]; exact h59) (v := 256 + top) (by rw [e58 58 (by omega) (by omega)]; omega) ?_ ?_).mono ?_
  · rw [w1 0 (by omega), w1 1 (by omega), hRW.2.2.1]; exact hA
  · rw [w1 0 (by omega), w1 1 (by omega), hRW.2.2.1]; exact fun z => hG ⟨⟨z.1, z.2.1⟩, z.2.2⟩
  · rintro o τ ⟨ν', rfl, hmm, rfl⟩
    exact ⟨ν', rfl, hP _ ν1 ν' hRW hmm, rfl⟩
/-- a first string that has no meaning -/
theorem first_meanX {sc : Nat × (Nat → Int32)} {t x : Nat} {D f n top : Int} (hT : isT t) (hX : x = 42 ∨ x = 44) {μ μ1 ν : Mem} (hC : CI t x μ) (hp5 : μ.1 20 5 = cpl x μ) (hD : 0 < D ∧ D ≤ 8) (hc : cch x μ = 34) (hR : Rel t x D μ ν) (h58 : ν.2.2 58 D = 256 + top ∧ 0 ≤ top ∧ top < 128) (h59 : ν.2.2 59 D = 0) (h60 : ν.2.2 60 D = 0) (hf1 : f = 0 ∨ f = 1) (hn : μ.1 t 7 = n ∧ 0 ≤ n ∧ n ≤ 125) (hW : WDc t x μ μ1) (hS : SimW sc t x D 0 μ μ1) (hA : ¬ isM t μ1) (hG : ¬ (isG t μ1 ∧ 2 < μ1.1 20 9)) (hm : mn (fun i => μ1.2.2 (t + 7 + 1) (μ1.1 20 8 + i)) (μ1.1 20 9) = none) : StX sc 1 f ν (μ.1 20 5) := by
  have hsz := hC.2.1
  have h0 := hC.2.2.2.2.1
  refine StX_leaf hC hD (by omega) hR (by rw [h59]; decide) (by omega) (first_core hT hX hC hp5 hD hc hR h59 h60 hS (Or.inr rfl) (fun fr lo ρ ν1 c hf hl hRW => ?_))
  obtain ⟨m1, m2, m3⟩ := RWd_m hW hRW
  obtain ⟨w1, w2⟩ := RWd_wl hRW hW.2.2.2.2.2.2.2.1
  have e58 : ∀ a, 58 ≤ a → a ≤ 61 → ν1.2.2 a D = ν.2.2 a D := fun a a1 a2 => by rw [hRW.2.2.2.2.2.2 a a1 a2]; rfl
  refine (m_strF (p := μ.1 20 5) hRW.1.2.2.2.2.2.1 (n := n) ⟨(hRW.1.2.2.1.2.1.trans hW.2.2.2.1).trans hn.1, hn.2⟩ m1 m2 hRW.1.2.2.1.1 m3 (by omega) (by omega) (by omega) ⟨hRW.1.2.2.1.2.2.2.1, hD⟩ (by rw [e58 59 (by omega) (by omega)]; exact h59) (v := 256 + top) (by rw [e58 58 (by omega) (by omega)]; omega) ?_ ?_).mono ?_
  · rw [w1 0 (by omega), w1 1 (by omega), hRW.2.2.1]; exact hA
  · rw [w1 0 (by omega), w1 1 (by omega), hRW.2.2.1]; exact fun z => hG ⟨⟨z.1, z.2.1⟩, z.2.2⟩
  · rintro o τ ⟨ν', rfl, hmm, rfl⟩
    exact ⟨ν', rfl, str_X hW hRW hm hmm, rfl⟩
/-- the row that waits is changed in both, or leaves both -/
theorem Rel_top {t x : Nat} {D top : Int} (hT : isT t) (hX : x = 42 ∨ x = 44) {μ μ' ν ν' : Mem} (h : Rel t x D μ ν) (h0 : 0 ≤ top) (hg : ν.2.2 56 (256 + top) = -1) (c1 : ∀ a q, a ≠ t → μ'.1 a q = μ.1 a q) (c3 : ∀ a i, ¬ ((t + 1 ≤ a ∧ a ≤ t + 6 ∨ a = 25) ∧ i = top) → μ'.2.2 a i = μ.2.2 a i) (r1 : ∀ q, q ≠ 17 → ν'.1 46 q = ν.1 46 q) (r3 : ∀ a i, ¬ (49 ≤ a ∧ a ≤ 55 ∧ i = 256 + top) → ¬ (58 ≤ a ∧ a ≤ 61) → ν'.2.2 a i = ν.2.2 a i) (hcnt : (μ'.1 t 7 = μ.1 t 7 ∧ ν'.1 46 17 = ν.1 46 17) ∨ (μ.1 t 7 = top + 1 ∧ μ'.1 t 7 = top ∧ ν'.1 46 17 = top)) : Rel t x D μ' ν' := by
  obtain ⟨a1, a2, a3, a4, a5, a6, a7⟩ := h
  have hT' := hT
  unfold isT at hT
  have ex : μ'.1 x 1 = μ.1 x 1 := c1 x 1 (by omega)
  have eu : μ'.1 (t + 7) 1 = μ.1 (t + 7) 1 := c1 (t + 7) 1 (by omega)
  have en : μ'.1 21 2 = μ.1 21 2 := c1 21 2 (by omega)
  have ep : μ'.1 20 5 = μ.1 20 5 := c1 20 5 (by omega)
  have cF : ∀ a, ¬ (t + 1 ≤ a ∧ a ≤ t + 6 ∨ a = 25) → μ'.2.2 a = μ.2.2 a := fun a h1 => funext fun i => c3 a i (by omega)
  have rF : ∀ a, a < 49 ∨ a = 56 ∨ a = 57 ∨ 61 < a → ν'.2.2 a = ν.2.2 a := fun a ha => funext fun i => r3 a i (by omega) (by omega)
  have hl := a3.2.1
  refine ⟨by rw [r1 3 (by omega), ex, rF 47 (by omega), cF (x + 1) (by omega)]; exact a1, ?_, ⟨by rw [r1 16 (by omega)]; exact a3.1, by omega, by rw [r1 18 (by omega), eu]; exact a3.2.2.1, by rw [r1 19 (by omega)]; exact a3.2.2.2.1, by rw [r1 26 (by omega), en]; exact a3.2.2.2.2⟩, by rw [en, rF 62 (by omega), rF 63 (by omega), cF 22 (by omega), cF 23 (by omega)]; exact a4, by rw [eu, rF 57 (by omega), cF (t + 7 + 1) (by omega)]; exact a5, ?_, fun k k0 k1 k2 => ?_⟩
  · unfold cpl
    rw [r1 3 (by omega), r1 15 (by omega), rF 47 (by omega), cF (x + 1) (by omega), ex, ep]
    exact a2
  · have hM := a6.1
    refine MI_keep a6 (by omega) (by rw [rF 57 (by omega)]; exact a6.2.2.2.2) (fun v v1 v2 v3 => ?_) (fun v v1 v2 => ?_)
    · have hv : v ≠ 256 + top := fun z => by rw [z, hg] at v3; omega
      exact ⟨by omega, fun a b1 b2 => by
        by_cases z : a = 56
        · rw [z, rF 56 (by omega)]
        · exact r3 a v (by omega) (by omega), fun y _ _ => by rw [rF 57 (by omega)]⟩
    · rw [rF 56 (by omega)]
      exact ⟨fun _ => ⟨by omega, rfl⟩, a6.2.2.2.1 v v1 (by omega)⟩
  · rw [rF 56 (by omega)] at k2
    have hk : k ≠ top := fun z => by rw [z, hg] at k2; omega
    exact RR_of (a7 k k0 (by omega) k2) (fun a ha => c3 a k (by omega)) (fun a b1 b2 => r3 a (256 + k) (by omega) (by omega)) (by rw [eu]; exact Int.le_refl _)
/-- the words of the class are read: an array that is open stays so -/
theorem OA_word {t x : Nat} {D top kd m j : Int} {μ μ1 ν ν1 : Mem} (h : OA t x D top kd m j μ ν) (hW : WDc t x μ μ1) (hRW : RWd t x D μ1 (skM ν) ν1) : OA t x D top kd m j μ1 ν1 := by
  obtain ⟨h1, h2, ⟨h3, h4, h5, h6, h7⟩, h8⟩ := h
  obtain ⟨b1, _, _, _, b5, b6, b7⟩ := hRW
  have e : ∀ a, 49 ≤ a → a ≤ 56 → ν1.2.2 a = ν.2.2 a := fun a a1 a2 => b6 a a1 a2
  have e' : ∀ a, 58 ≤ a → a ≤ 61 → ν1.2.2 a = ν.2.2 a := fun a a1 a2 => b7 a a1 a2
  have c := hW.2.2.1
  unfold OA OL at *
  rw [c 25 (by omega), c (t + 3) (by omega), c (t + 4) (by omega), hW.2.2.2.1, e 49 (by omega) (by omega), e 50 (by omega) (by omega), e 51 (by omega) (by omega), e 52 (by omega) (by omega), e 56 (by omega) (by omega), e' 58 (by omega) (by omega), e' 59 (by omega) (by omega), e' 60 (by omega) (by omega), e' 61 (by omega) (by omega)]
  exact ⟨b1, h2, ⟨h3, h4, h5, h6, h7⟩, h8⟩
theorem RWd_UPf {t x : Nat} {D d top : Int} {μ1 ν ν1 : Mem} (h : RWd t x D μ1 (skM ν) ν1) : UPf d top ν ν1 :=
  ⟨mfw_trans (mfw_I (q := 15) (by decide)) h.2.2.2.2.1.w, fun a i h1 h2 _ => by rw [h.2.2.2.2.2.1 a h1 h2]; rfl, fun a i h1 h2 _ => by rw [h.2.2.2.2.2.2 a h1 h2]; rfl⟩
/-- a first string that opens a map -/
theorem first_map {sc : Nat × (Nat → Int32)} {t x : Nat} {d f top : Int} (hT : isT t) (hX : x = 42 ∨ x = 44) {μ μ1 ν : Mem} (hC : CI t x μ) (hp5 : μ.1 20 5 = cpl x μ) (hd : 0 ≤ d ∧ d ≤ 7) (hc : cch x μ = 34) (hO : OA t x (d + 1) top 8 0 0 μ ν) (h0 : 0 ≤ top) (hf1 : f = 0 ∨ f = 1) (hn : μ.1 t 7 = top + 1 ∧ top ≤ 124) (hW : WDc t x μ μ1) (hS : SimW sc t x (d + 1) 0 μ μ1) (hA : isM t μ1) : Stq sc 1 f ν 0 0 (fun ν' => UPf d top ν ν' ∧ OA t x (d + 1) top 11 2 0 μ1 ν') := by
  have hR := hO.1
  obtain ⟨l1, l2, l3, l4⟩ := hO.2.1
  have hsz := hC.2.1
  have hq := hC.2.2.2.2.1
  refine Stq_leaf0 hC (by omega) (by omega) hR (by omega) (first_core hT hX hC hp5 (by omega) hc hR l2 l3 hS (Or.inl rfl) (fun fr lo ρ ν1 c hf hl hRW => ?_))
  obtain ⟨m1, m2, m3⟩ := RWd_m hW hRW
  obtain ⟨w1, w2⟩ := RWd_wl hRW hW.2.2.2.2.2.2.2.1
  have hO1 := OA_word hO hW hRW
  obtain ⟨k1, k2, k3, k4⟩ := hO1.2.1
  refine (m_strFM (p := μ.1 20 5) hRW.1.2.2.2.2.2.1 (n := top + 1) ⟨(hRW.1.2.2.1.2.1.trans hW.2.2.2.1).trans hn.1, by omega, by omega⟩ m1 m2 hRW.1.2.2.1.1 m3 (by omega) (by omega) (by omega) (d := d + 1) ⟨hRW.1.2.2.1.2.2.2.1, by omega, by omega⟩ k2 (v := 256 + top) ⟨k1, by omega, by omega⟩ ?_).mono ?_
  · rw [w1 0 (by omega), w1 1 (by omega), hRW.2.2.1]; exact hA
  · rintro o τ ⟨rfl, rfl⟩
    refine ⟨_, rfl, ⟨UPf_trans (RWd_UPf hRW) ⟨mfw_trans (mfw_A (Or.inr (Or.inr (by omega)))) (mfw_A (Or.inl (by omega))), fun a i h1 h2 h3 => by rw [stA_ne (by omega), stA_ne (by omega)], fun a i h1 h2 h3 => by rw [stA_ne (by omega), stA_ne (by omega)]⟩, ?_⟩, rfl⟩
    obtain ⟨g1, g2, ⟨g3, g4, g5, g6, g7⟩, g8⟩ := hO1
    have y : ∀ a, a ≠ 59 → a ≠ 49 → (stA (stA ν1 59 (d + 1) 2) 49 (256 + top) 11).2.2 a = ν1.2.2 a := fun a y1 y2 => by rw [stA_o2 y2, stA_o2 y1]
    refine ⟨Rel_top hT hX g1 h0 g7 (fun _ _ _ => rfl) (fun _ _ _ => rfl) (fun _ _ => rfl) (fun a i h1 h2 => by rw [stA_ne (by omega), stA_ne (by omega)]) (Or.inl ⟨rfl, rfl⟩), ⟨by rw [y 58 (by omega) (by omega)]; exact k1, by rw [stA_o2 (by omega), stA_at], by rw [y 60 (by omega) (by omega)]; exact k3, by rw [y 61 (by omega) (by omega)]; exact k4⟩, ⟨stA_at _ _ _ _, by rw [y 50 (by omega) (by omega)]; exact g4, by rw [y 52 (by omega) (by omega)]; exact g5, by rw [y 51 (by omega) (by omega)]; exact g6, by rw [y 56 (by omega) (by omega)]; exact g7⟩, fun k z1 z2 => by rw [y 56 (by omega) (by omega)]; exact g8 k z1 z2⟩
/-- a first string that is a tag of its own -/
theorem first_tag {sc : Nat × (Nat → Int32)} {t x : Nat} {d f top : Int} (hT : isT t) (hX : x = 42 ∨ x = 44) {μ μ1 ν : Mem} (hC : CI t x μ) (hp5 : μ.1 20 5 = cpl x μ) (hd : 0 ≤ d ∧ d ≤ 7) (hc : cch x μ = 34) (hO : OA t x (d + 1) top 8 0 0 μ ν) (h0 : 0 ≤ top) (hf1 : f = 0 ∨ f = 1) (hn : μ.1 t 7 = top + 1 ∧ top ≤ 124) (hW : WDc t x μ μ1) (hS : SimW sc t x (d + 1) 0 μ μ1) (hG : isG t μ1) (h2 : 2 < μ1.1 20 9) (hN : ∀ k, (k = 1 ∨ k = 2 ∨ k = 3 ∨ k = 4) → ¬ tgk (fun i => μ1.2.2 (t + 7 + 1) (μ1.1 20 8 + i)) (μ1.1 20 9) k) : Stq sc 1 f ν 0 0 (fun ν' => UPf d top ν ν' ∧ OA t x (d + 1) top 12 7 0 (stA (stA μ1 (t + 3) top (μ1.1 20 8 + 2)) (t + 4) top (μ1.1 20 9 - 2)) ν') := by
  have hR := hO.1
  obtain ⟨l1, l2, l3, l4⟩ := hO.2.1
  have hsz := hC.2.1
  have hq := hC.2.2.2.2.1
  refine Stq_leaf0 hC (by omega) (by omega) hR (by omega) (first_core hT hX hC hp5 (by omega) hc hR l2 l3 hS (Or.inl rfl) (fun fr lo ρ ν1 c hf hl hRW => ?_))
  obtain ⟨m1, m2, m3⟩ := RWd_m hW hRW
  obtain ⟨w1, w2⟩ := RWd_wl hRW hW.2.2.2.2.2.2.2.1
  have hO1 := OA_word hO hW hRW
  obtain ⟨k1, k2, k3, k4⟩ := hO1.2.1
  refine (m_strFT5 (p := μ.1 20 5) hRW.1.2.2.2.2.2.1 (n := top + 1) ⟨(hRW.1.2.2.1.2.1.trans hW.2.2.2.1).trans hn.1, by omega, by omega⟩ m1 m2 hRW.1.2.2.1.1 m3 (by omega) (by omega) (by omega) (d := d + 1) ⟨hRW.1.2.2.1.2.2.2.1, by omega, by omega⟩ k2 (v := 256 + top) ⟨k1, by omega, by omega⟩ ?_ ?_ ?_ ?_ ?_).mono ?_
  · rw [w1 0 (by omega), w1 1 (by omega), hRW.2.2.1]; exact ⟨hG.1, hG.2, h2⟩
  · rw [w2]; exact hN 1 (by omega)
  · rw [w2]; exact hN 2 (by omega)
  · rw [w2]; exact hN 3 (by omega)
  · rw [w2]; exact hN 4 (by omega)
  · rintro o τ ⟨rfl, rfl⟩
    refine ⟨_, rfl, ⟨UPf_trans (RWd_UPf hRW) ⟨mfw_trans (mfw_trans (mfw_trans (mfw_A (Or.inr (Or.inr (by omega)))) (mfw_A (Or.inl (by omega)))) (mfw_A (Or.inl (by omega)))) (mfw_A (Or.inl (by omega))), fun a i h1 h2 h3 => by rw [stA_ne (by omega), stA_ne (by omega), stA_ne (by omega), stA_ne (by omega)], fun a i h1 h2 h3 => by rw [stA_ne (by omega), stA_ne (by omega), stA_ne (by omega), stA_ne (by omega)]⟩, ?_⟩, rfl⟩
    obtain ⟨g1, g2, ⟨g3, g4, g5, g6, g7⟩, g8⟩ := hO1
    have y : ∀ a, a ≠ 59 → a ≠ 49 → a ≠ 51 → a ≠ 52 → (stA (stA (stA (stA ν1 59 (d + 1) 7) 49 (256 + top) 12) 51 (256 + top) (ν1.1 46 24 + 2)) 52 (256 + top) (ν1.1 46 25 - 2)).2.2 a = ν1.2.2 a := fun a y1 y2 y3 y4 => by rw [stA_o2 y4, stA_o2 y3, stA_o2 y2, stA_o2 y1]
    have hT' := hT
    unfold isT at hT
    have c25 : (stA (stA μ1 (t + 3) top (μ1.1 20 8 + 2)) (t + 4) top (μ1.1 20 9 - 2)).2.2 25 = μ1.2.2 25 := by rw [stA_o2 (by omega), stA_o2 (by omega)]
    have c3 : (stA (stA μ1 (t + 3) top (μ1.1 20 8 + 2)) (t + 4) top (μ1.1 20 9 - 2)).2.2 (t + 3) top = μ1.1 20 8 + 2 := by rw [stA_o2 (by omega), stA_at]
    have c4 : (stA (stA μ1 (t + 3) top (μ1.1 20 8 + 2)) (t + 4) top (μ1.1 20 9 - 2)).2.2 (t + 4) top = μ1.1 20 9 - 2 := stA_at _ _ _ _
    refine ⟨Rel_top hT' hX g1 h0 g7 (fun _ _ _ => rfl) (fun a i h1 => by rw [stA_ne (by omega), stA_ne (by omega)]) (fun _ _ => rfl) (fun a i h1 h2 => by rw [stA_ne (by omega), stA_ne (by omega), stA_ne (by omega), stA_ne (by omega)]) (Or.inl ⟨rfl, rfl⟩), ⟨by rw [y 58 (by omega) (by omega) (by omega) (by omega)]; exact k1, by rw [stA_o2 (by omega), stA_o2 (by omega), stA_o2 (by omega), stA_at], by rw [y 60 (by omega) (by omega) (by omega) (by omega)]; exact k3, by rw [y 61 (by omega) (by omega) (by omega) (by omega), c25]; exact k4⟩, ⟨by rw [stA_o2 (by omega), stA_o2 (by omega), stA_at], by rw [y 50 (by omega) (by omega) (by omega) (by omega)]; exact g4, by rw [stA_at, c4, hRW.2.2.1], Or.inr (by rw [stA_o2 (by omega), stA_at, c3, hRW.2.1]; omega), by rw [y 56 (by omega) (by omega) (by omega) (by omega)]; exact g7⟩, fun k z1 z2 => by rw [y 56 (by omega) (by omega) (by omega) (by omega)]; exact g8 k z1 z2⟩
/-- the four tags whose array is no value: the row is dropped -/
def OD (t x : Nat) (D top m s : Int) (μ ν : Mem) : Prop := Rel t x D μ ν ∧ OL D top m 0 s ν
theorem first_drop {sc : Nat × (Nat → Int32)} {t x : Nat} {d f top : Int} (hT : isT t) (hX : x = 42 ∨ x = 44) {μ μ1 ν : Mem} (hC : CI t x μ) (hp5 : μ.1 20 5 = cpl x μ) (hd : 0 ≤ d ∧ d ≤ 7) (hc : cch x μ = 34) (hO : OA t x (d + 1) top 8 0 0 μ ν) (h0 : 0 ≤ top) (hf1 : f = 0 ∨ f = 1) (hn : μ.1 t 7 = top + 1 ∧ top ≤ 124) (hW : WDc t x μ μ1) (hS : SimW sc t x (d + 1) 0 μ μ1) (hG : isG t μ1) (h2 : 2 < μ1.1 20 9) {k : Nat} {m : Int} (hk : k = 1 ∧ m = 3 ∨ k = 2 ∧ m = 4 ∨ k = 3 ∧ m = 5 ∨ k = 4 ∧ m = 6) (hY : tgk (fun i => μ1.2.2 (t + 7 + 1) (μ1.1 20 8 + i)) (μ1.1 20 9) k) (hN : ∀ i, 1 ≤ i → i < k → ¬ tgk (fun i => μ1.2.2 (t + 7 + 1) (μ1.1 20 8 + i)) (μ1.1 20 9) i) : Stq sc 1 f ν 0 0 (fun ν' => UPf d top ν ν' ∧ OD t x (d + 1) top m (μ1.2.2 25 top) (stI μ1 t 7 top) ν') := by
  have hR := hO.1
  obtain ⟨l1, l2, l3, l4⟩ := hO.2.1
  have hsz := hC.2.1
  have hq := hC.2.2.2.2.1
  refine Stq_leaf0 hC (by omega) (by omega) hR (by omega) (first_core hT hX hC hp5 (by omega) hc hR l2 l3 hS (Or.inl rfl) (fun fr lo ρ ν1 c hf hl hRW => ?_))
  obtain ⟨m1, m2, m3⟩ := RWd_m hW hRW
  obtain ⟨w1, w2⟩ := RWd_wl hRW hW.2.2.2.2.2.2.2.1
  have hO1 := OA_word hO hW hRW
  obtain ⟨k1, k2, k3, k4⟩ := hO1.2.1
  have e17 : ν1.1 46 17 = top + 1 := (hRW.1.2.2.1.2.1.trans hW.2.2.2.1).trans hn.1
  have hg : wl (fun i => ν1.2.2 57 (ν1.1 46 24 + i)) (ν1.1 46 25) 0 = 126 ∧ wl (fun i => ν1.2.2 57 (ν1.1 46 24 + i)) (ν1.1 46 25) 1 = 35 ∧ 2 < ν1.1 46 25 := by
    rw [w1 0 (by omega), w1 1 (by omega), hRW.2.2.1]; exact ⟨hG.1, hG.2, h2⟩
  have hW1 : w_P sc fr lo 124 7 4 false ((some FieldType.boolean)) prog_9_method_31_code 117 [some (.ref 46), some (.int (ji (μ.1 20 5))), some (.int (ji 0)), some (.int (ji c))] [] (hp ν1, ρ) (fun o t' => o = .inl (some (.int (ji 0))) ∧ t' = (hp (stI (stA ν1 59 (d + 1) m) 46 17 (ν1.1 46 17 - 1)), ρ)) := by
    have hn1 : ν1.1 46 17 = top + 1 ∧ 0 ≤ top + 1 ∧ top + 1 ≤ 125 := ⟨e17, by omega, by omega⟩
    have hd1 : ν1.1 46 19 = d + 1 ∧ 0 < d + 1 ∧ d + 1 ≤ 8 := ⟨hRW.1.2.2.1.2.2.2.1, by omega, by omega⟩
    have hv1 : ν1.2.2 58 (d + 1) = 256 + top ∧ 0 ≤ 256 + top ∧ 256 + top < 384 := ⟨k1, by omega, by omega⟩
    have hq1 : 0 ≤ μ.1 20 5 ∧ μ.1 20 5 ≤ 900 := by omega
    rcases hk with ⟨rfl, rfl⟩ | ⟨rfl, rfl⟩ | ⟨rfl, rfl⟩ | ⟨rfl, rfl⟩
    · exact m_strFT1 (p := μ.1 20 5) hRW.1.2.2.2.2.2.1 hn1 m1 m2 hRW.1.2.2.1.1 m3 hq1 (by omega) (by omega) hd1 k2 hv1 hg ((w2 1).mpr hY)
    · exact m_strFT2 (p := μ.1 20 5) hRW.1.2.2.2.2.2.1 hn1 m1 m2 hRW.1.2.2.1.1 m3 hq1 (by omega) (by omega) hd1 k2 hv1 hg (fun z => hN 1 (by omega) (by omega) ((w2 1).mp z)) ((w2 2).mpr hY)
    · exact m_strFT3 (p := μ.1 20 5) hRW.1.2.2.2.2.2.1 hn1 m1 m2 hRW.1.2.2.1.1 m3 hq1 (by omega) (by omega) hd1 k2 hv1 hg (fun z => hN 1 (by omega) (by omega) ((w2 1).mp z)) (fun z => hN 2 (by omega) (by omega) ((w2 2).mp z)) ((w2 3).mpr hY)
    · exact m_strFT4 (p := μ.1 20 5) hRW.1.2.2.2.2.2.1 hn1 m1 m2 hRW.1.2.2.1.1 m3 hq1 (by omega) (by omega) hd1 k2 hv1 hg (fun z => hN 1 (by omega) (by omega) ((w2 1).mp z)) (fun z => hN 2 (by omega) (by omega) ((w2 2).mp z)) (fun z => hN 3 (by omega) (by omega) ((w2 3).mp z)) ((w2 4).mpr hY)
  refine hW1.mono ?_
  rintro o τ ⟨rfl, rfl⟩
  obtain ⟨g1, g2, ⟨g3, g4, g5, g6, g7⟩, g8⟩ := hO1
  have y : ∀ a, a ≠ 59 → (stI (stA ν1 59 (d + 1) m) 46 17 (ν1.1 46 17 - 1)).2.2 a = ν1.2.2 a := fun a y1 => stA_o2 y1
  refine ⟨_, rfl, ⟨UPf_trans (RWd_UPf hRW) ⟨mfw_trans (mfw_A (Or.inr (Or.inr (by omega)))) (mfw_I (by decide)), fun a i h1 h2 h3 => stA_ne (by omega), fun a i h1 h2 h3 => stA_ne (by omega)⟩, ?_, by rw [y 58 (by omega)]; exact k1, stA_at _ _ _ _, by rw [y 60 (by omega)]; exact k3, by rw [y 61 (by omega)]; exact k4⟩, rfl⟩
  refine Rel_top hT hX g1 h0 g7 (fun a q h1 => stI_ne (by omega)) (fun _ _ _ => rfl) (fun q hq => stI_ne (by omega)) (fun a i h1 h2 => stA_ne (by omega)) (Or.inr ⟨hW.2.2.2.1.trans hn.1, stI_at _ _ _ _, by rw [stI_at]; omega⟩)
