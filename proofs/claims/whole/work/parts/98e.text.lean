/-! THE PURE PART, 84: contracts: a whole text is read, in both -/
theorem w_S.ex {sc : Nat × (Nat → Int32)} {fr lo y : Nat} {as : List Value} {τ : z_T} {Q : z_O → z_T → Prop} (h : w_S sc fr lo y as τ Q) : ∃ o t, Q o t ∧ w_E sc fr lo y as τ o t := by
  obtain ⟨o, t, hQ, N, hN⟩ := h
  exact ⟨o, t, hQ, o, t, ⟨rfl, rfl⟩, N, hN⟩
theorem stR_at (μ : Mem) (a k : Nat) (v : Value) : (stR μ a k v).2.1 a k = v := if_pos ⟨rfl, rfl⟩
theorem stR_ne {μ : Mem} {a k b m : Nat} {v : Value} (h : ¬ (b = a ∧ m = k)) : (stR μ a k v).2.1 b m = μ.2.1 b m := if_neg h
/-- the class before it reads -/
def rI0 (t x : Nat) (μ : Mem) : Mem := (stI (stI (stI (stI (stI (stR μ 20 3 (.ref x)) 20 5 0) 20 6 (-1)) 21 2 0) t 7 0) (t + 7) 1 0)
/-- the reference before it reads -/
def rJ0 (ν : Mem) : Mem := stI (stI (stI (stI (stI (stI ν 46 15 0) 46 16 (-1)) 46 17 0) 46 18 0) 46 19 0) 46 26 0
theorem rI0_f {t x : Nat} {μ : Mem} (hT : isT t) : ((rI0 t x μ).1 20 5 = 0 ∧ (rI0 t x μ).1 21 2 = 0 ∧ (rI0 t x μ).1 t 7 = 0 ∧ (rI0 t x μ).1 (t + 7) 1 = 0) ∧ (∀ a q, a ≠ 20 → a ≠ 21 → a ≠ t → a ≠ t + 7 → (rI0 t x μ).1 a q = μ.1 a q) ∧ (rI0 t x μ).2.1 20 3 = .ref x ∧ (∀ a q, ¬ (a = 20 ∧ q = 3) → (rI0 t x μ).2.1 a q = μ.2.1 a q) ∧ (rI0 t x μ).2.2 = μ.2.2 := by
  unfold isT at hT
  unfold rI0
  refine ⟨⟨?_, ?_, ?_, ?_⟩, fun a q h1 h2 h3 h4 => ?_, stR_at μ 20 3 (.ref x), fun a q h => stR_ne (μ := μ) (v := .ref x) h, rfl⟩
  · rw [stI_ne (by omega), stI_ne (by omega), stI_ne (by omega), stI_ne (by omega), stI_at]
  · rw [stI_ne (by omega), stI_ne (by omega), stI_at]
  · rw [stI_ne (by omega), stI_at]
  · rw [stI_at]
  · rw [stI_ne (by omega), stI_ne (by omega), stI_ne (by omega), stI_ne (by omega), stI_ne (by omega)]; rfl
theorem rI0_CI {t x : Nat} {μ : Mem} (hT : isT t) (hX : x = 42 ∨ x = 44) (hG : Gi μ) (ht : μ.2.1 20 4 = .ref t) (h32 : ∀ k, 0 ≤ k → k < μ.1 x 1 → 32 ≤ μ.2.2 (x + 1) k ∧ μ.2.2 (x + 1) k ≤ 126) : CI t x (rI0 t x μ) ∧ GL (rI0 t x μ) := by
  obtain ⟨⟨f1, f2, f3, f4⟩, fI, f5, f6, f7⟩ := rI0_f (x := x) (μ := μ) hT
  have hT' := hT
  unfold isT at hT
  have gx := hG x 240 (by unfold isL; omega)
  have gt := hG (t + 7) 240 hT'.toL
  have ex : (rI0 t x μ).1 x 1 = μ.1 x 1 := fI x 1 (by omega) (by omega) (by omega) (by omega)
  refine ⟨⟨⟨f5, by rw [f6 20 4 (by omega)]; exact ht⟩, by rw [ex]; exact gx.1, by rw [f7]; exact gx.2, by rw [ex, f7]; exact h32, by rw [f1, ex]; have := gx.1; omega, by rw [f4, f1]; decide, by rw [f7]; exact gt.2, fun k k0 k1 => by rw [f4] at k1; omega, by rw [f2]; decide, fun k k0 k1 => by rw [f2] at k1; omega, by rw [f3]; decide⟩, fun a n ha k => ?_⟩
  rw [f7]
  exact (hG a n ha).2 k
theorem rJ0_f {ν : Mem} : ((rJ0 ν).1 46 15 = 0 ∧ (rJ0 ν).1 46 16 = -1 ∧ (rJ0 ν).1 46 17 = 0 ∧ (rJ0 ν).1 46 18 = 0 ∧ (rJ0 ν).1 46 19 = 0 ∧ (rJ0 ν).1 46 26 = 0) ∧ mfw ν (rJ0 ν) ∧ (rJ0 ν).2 = ν.2 ∧ (rJ0 ν).1 46 3 = ν.1 46 3 := by
  refine ⟨⟨rfl, rfl, rfl, rfl, rfl, rfl⟩, ?_, rfl, rfl⟩
  unfold rJ0
  exact mfw_trans (mfw_trans (mfw_trans (mfw_trans (mfw_trans (mfw_I (by decide)) (mfw_I (by decide))) (mfw_I (by decide))) (mfw_I (by decide))) (mfw_I (by decide))) (mfw_I (by decide))
theorem rIJ_Rel {t x : Nat} {μ ν : Mem} (hT : isT t) (hX : x = 42 ∨ x = 44) (hx : 0 ≤ μ.1 x 1) (h3 : ν.1 46 3 = μ.1 x 1) (hT47 : ∀ k, 0 ≤ k → k < μ.1 x 1 → ν.2.2 47 k = μ.2.2 (x + 1) k) (h47 : ∀ k, 0 ≤ ν.2.2 47 k ∧ ν.2.2 47 k < 65536) (h57 : ∀ k, 0 ≤ ν.2.2 57 k ∧ ν.2.2 57 k < 65536) : Pre t x 0 0 (rI0 t x μ) (rJ0 ν) 0 := by
  obtain ⟨⟨f1, f2, f3, f4⟩, fI, f5, f6, f7⟩ := rI0_f (x := x) (μ := μ) hT
  obtain ⟨⟨g1, g2, g3, g4, g5, g6⟩, gw, gA, gs⟩ := rJ0_f (ν := ν)
  unfold isT at hT
  have ex : (rI0 t x μ).1 x 1 = μ.1 x 1 := fI x 1 (by omega) (by omega) (by omega) (by omega)
  refine ⟨⟨⟨by rw [gs, h3, ex], by rw [gA, ex, f7]; exact hT47, by rw [gA]; exact h47⟩, ⟨?_, by rw [g1]; decide, by rw [g1, ex]; exact hx⟩, ⟨g2, by rw [g3, f3], by rw [g4, f4], g5, by rw [g6, f2]⟩, fun k k0 k1 => by rw [f2] at k1; omega, fun k k0 k1 => by rw [f4] at k1; omega, ⟨by rw [g3]; decide, fun v v1 v2 => by rw [g3] at v2; omega, fun v v1 v2 => by rw [g3] at v2; omega, fun v v1 v2 => by rw [g3] at v2; omega, by rw [gA]; exact h57⟩, fun k k0 k1 => by rw [f3] at k1; omega⟩, ⟨fun z => by omega, Or.inr ⟨rfl, fun z => by omega⟩⟩, fun z => by omega, Or.inl rfl⟩
  unfold cpl
  rw [gs, gA, g1, f7, f1, ex, h3]
  exact sk_cong hT47 0 (by decide)
theorem t_readText {sc : Nat × (Nat → Int32)} {fr lo : Nat} {μ : Mem} {ρ : Nat × Nat × Nat} {t x : Nat} (hT : isT t) (hX : x = 42 ∨ x = 44) (ht : μ.2.1 20 4 = .ref t) (hG : Gi μ) (hC : CI t x (rI0 t x μ)) (hGL : GL (rI0 t x μ)) (hr : 1 ≤ ρ.2.1 ∧ 6 ≤ ρ.2.2) (hf : 1000 ≤ fr) (hl : 20000 ≤ lo) : w_S sc fr lo 26 [.ref 20, .ref x] (hp μ, ρ) (fun o τ => (o = .inl none ∧ ∃ μ', τ = (hp (stI μ' 20 5 (cpl x μ')), ρ) ∧ EG sc t x 0 0 10 (rI0 t x μ) μ' ∧ ¬ cpl x μ' < μ'.1 x 1) ∨ (o = .inr (1, ρ.1) ∧ ∃ μ' w, τ = (hp μ', ρ.1 + 1, ρ.2.1 - 1, ρ.2.2 - 6) ∧ (EB sc t x 0 0 (rI0 t x μ) μ' w ∨ ∃ μ2, EG sc t x 0 0 10 (rI0 t x μ) μ2 ∧ cpl x μ2 < μ2.1 x 1 ∧ w = cpl x μ2 ∧ μ' = stI (stI μ2 20 5 (cpl x μ2)) 20 6 (cpl x μ2)))) := by
  obtain ⟨hT0, hT1, hT2, hT3, hT4, hT5, hT6, hT7, hT8⟩ := hT.sh
  have hT9 : t = 2 ∨ t = 11 ∨ t = 26 := hT
  obtain ⟨hX0, hX1⟩ := xsh hX
  have hxr : (rI0 t x μ).2.1 20 3 = .ref x := hC.1.1
  have hxt : (stR μ 20 3 (.ref x)).2.1 20 4 = .ref t := (stR_ne (by omega)).trans ht
  obtain ⟨f0, l0, b1, b2, hE⟩ := elc (sc := sc) hT hX 8 (by omega)
  refine w_S.of (L0 := [some (.ref 20), some (.ref x)]) rfl rfl (Nat.le_of_ble_eq_true rfl) (by rfl) ?_
  refine w_ld d_26_0 rfl rfl rfl ?_
  refine w_ld d_26_1 rfl rfl rfl ?_
  refine w_putR d_26_2 (by rfl) (by first | rfl | assumption) (by rfl) (fit_R (by rfl)) (by rfl) ?_
  refine w_ld d_26_5 rfl rfl rfl ?_
  refine w_con d_26_6 ?_
  refine w_putI d_26_7 (by rfl) (by first | rfl | assumption) (by rfl) (fit_I (by rfl)) (by rfl) ?_
  refine w_ld d_26_10 rfl rfl rfl ?_
  refine w_con d_26_11 ?_
  refine w_putI d_26_12 (by rfl) (by first | rfl | assumption) (by rfl) (fit_I (by rfl)) (by rfl) ?_
  refine w_ld d_26_15 rfl rfl rfl ?_
  refine w_getF d_26_16 (by rfl) (by first | rfl | assumption) (by rfl) (by rfl) ?_
  refine w_cV0 (as := []) (rest := _) rfl d_26_19 (by rfl) (by rfl) (by first | rfl | assumption) (by rfl) (by rfl) (Nat.le_of_ble_eq_true rfl) (by omega) (by omega) (t_forget (Or.inl rfl)) ?_
  refine w_ld d_26_22 rfl rfl rfl ?_
  refine w_getR d_26_23 (by rfl) (by first | rfl | assumption) (by rfl) (hxt) ?_
  refine w_cV0 (as := []) (rest := _) rfl d_26_26 (by rfl) (by rfl) (by first | rfl | assumption) (by rfl) (by rfl) (Nat.le_of_ble_eq_true rfl) (by omega) (by omega) (t_clear hT (by omega) (by omega) (by have g := (hG (t + 7) 240 hT.toL).1; rw [stI_ne (by omega), stI_ne (by omega), stI_ne (by omega)]; exact g)) ?_
  rw [show (stI (stI (stI (stI (stI (stR μ 20 3 (.ref x)) 20 5 0) 20 6 (-1)) 21 2 0) t 7 0) (t + 7) 1 0) = rI0 t x μ from rfl]
  refine w_ld d_26_29 rfl rfl rfl ?_
  refine w_con d_26_30 ?_
  refine w_con d_26_31 ?_
  refine w_cVq (as := [_, _]) (rest := _) rfl d_26_32 (by rfl) (by rfl) (by first | rfl | assumption) (by rfl) (by rfl) (Nat.le_of_ble_eq_true rfl) (by omega) (by omega) (hE _ _ _ ρ 0 (by omega) (by omega) hC hGL (by decide) (by rw [(rI0_f hT).1.1, (rI0_f hT).1.2.2.1]; decide) hr) ?_ ?_
  rotate_left
  · rintro r τ (⟨hv, _⟩ | ⟨hv, μ9, w9, rfl, hb9⟩)
    · cases hv
    · obtain rfl := Sum.inr.inj hv
      exact Or.inr ⟨rfl, μ9, w9, rfl, Or.inl hb9⟩
  rintro v τ (⟨hv, μ2, rfl, hg⟩ | ⟨hv, _⟩)
  rotate_left
  · cases hv
  obtain rfl := Sum.inl.inj hv
  have hC2 := hg.1
  have hcp := cpl_in hC2
  have hsz := hC2.2.1
  have hpl := hC2.2.2.2.2.1
  have hx3 : (stI μ2 20 5 (cpl x μ2)).2.1 20 3 = .ref x := hC2.1.1
  have ex : (stI μ2 20 5 (cpl x μ2)).1 x 1 = μ2.1 x 1 := stI_ne (by omega)
  refine w_ld d_26_35 rfl rfl rfl ?_
  refine w_cV0 (as := []) (rest := _) rfl d_26_36 (by rfl) (by rfl) (by first | rfl | assumption) (by rfl) (by rfl) (Nat.le_of_ble_eq_true rfl) (by omega) (by omega) (t_skp hX hC2 (by omega) (by omega)) ?_
  refine w_ld d_26_39 rfl rfl rfl ?_
  refine w_gI d_26_40 (by rfl) (by first | rfl | assumption) (by rfl) (stI_at _ _ _ _) ?_
  refine w_ld d_26_43 rfl rfl rfl ?_
  refine w_getR d_26_44 (by rfl) (by first | rfl | assumption) (by rfl) hx3 ?_
  refine w_gI d_26_47 (by rfl) (by first | rfl | assumption) (by rfl) ex ?_
  refine w_icmp_ge (g := 61) d_26_50 (by decide) (by omega) (fun h50 => ?_) (fun h50 => ?_)
  · refine w_ret d_26_61 rfl ?_
    exact Or.inl ⟨rfl, μ2, rfl, hg, by omega⟩
  · refine w_ld d_26_53 rfl rfl rfl ?_
    refine w_ld d_26_54 rfl rfl rfl ?_
    refine w_gI d_26_55 (by rfl) (by first | rfl | assumption) (by rfl) (stI_at _ _ _ _) ?_
    refine w_cVx (as := [_]) (rest := _) rfl d_26_58 (by rfl) (by rfl) (by first | rfl | assumption) (by rfl) (by rfl) (Nat.le_of_ble_eq_true rfl) (by omega) (by omega) (t_fail hr (by omega) (by omega)) ?_
    exact Or.inr ⟨rfl, _, _, rfl, Or.inr ⟨μ2, hg, by omega, rfl, rfl⟩⟩
/-- the reference reads the same text -/
theorem m_readOK {sc : Nat × (Nat → Int32)} {fr lo : Nat} {ρ : Nat × Nat × Nat} {t x : Nat} (hT : isT t) (hX : x = 42 ∨ x = 44) {μi μ' ν : Mem} (hE : EG sc t x 0 0 10 μi μ') (h0 : μi.1 t 7 = 0) (hP : Pre t x 0 0 μi (rJ0 ν) 0) (hn : ¬ cpl x μ' < μ'.1 x 1) (hf : 40 ≤ fr) (hl : 2000 ≤ lo) : w_S sc fr lo 117 [.ref 46] (hp ν, ρ) (fun o τ => o = .inl none ∧ ∃ ν', τ = (hp ν', ρ) ∧ Rel t x 0 μ' ν' ∧ mfw ν ν' ∧ (∀ k, 0 ≤ k → k < μ'.1 t 7 → 0 ≤ ν'.2.2 56 (256 + k))) := by
  obtain ⟨h1, h2, h3, h4, h5⟩ := hE
  refine m_readAll ?_
  refine SimE_to h5 (rJ0 ν) 0 hP fr lo ρ _ hf hl (fun ν1 hp => ?_)
  rw [h0] at hp
  obtain ⟨p1, p2, p3, p4, _⟩ := hp
  have hsz := h1.2.1
  refine L_exit (by rw [p1.1.1]; exact hsz) p1.1.2.2 (by have := p1.2.1.2; omega) p1.2.2.1.1 rfl p1.2.2.1.2.2.2.1 (by omega) (by omega) ?_
  have esk := p1.2.1.1
  rw [if_neg (by rw [esk, p1.1.1]; exact hn)]
  have hs : skp ν1 (skM ν1) := skp_I
  refine ⟨rfl, skM ν1, rfl, ?_, mfw_trans (mfw_trans rJ0_f.2.1 p2) (skp_mfw hs), p4⟩
  have hcp := cpl_in h1
  have hpl := h1.2.2.2.2.1
  have e15 : (skM ν1).1 46 15 = cpl x μ' := (stI_at _ _ _ _).trans esk
  refine Rel_mv hT hX p1 (fun _ _ _ _ => rfl) rfl (fun q h1 h2 h3 => hs.2 46 q (by omega)) rfl ?_ (by rw [e15]; omega)
  rw [e15, p1.1.1, sk_cong p1.1.2.1 _ (by omega)]
  exact sk_sk _ _ _
/-- something stands behind the value -/
theorem m_readT {sc : Nat × (Nat → Int32)} {fr lo : Nat} {ρ : Nat × Nat × Nat} {t x : Nat} {μi μ' ν : Mem} (hE : EG sc t x 0 0 10 μi μ') (hP : Pre t x 0 0 μi (rJ0 ν) 0) (hn : cpl x μ' < μ'.1 x 1) (hf : 40 ≤ fr) (hl : 2000 ≤ lo) : w_S sc fr lo 117 [.ref 46] (hp ν, ρ) (fun o τ => o = .inl none ∧ ∃ ν', τ = (hp ν', ρ) ∧ mfw ν ν' ∧ ν'.1 46 16 = cpl x μ' ∧ ∀ k, 0 ≤ ν'.2.2 57 k ∧ ν'.2.2 57 k < 65536) := by
  obtain ⟨h1, h2, h3, h4, h5⟩ := hE
  refine m_readAll ?_
  refine SimE_to h5 (rJ0 ν) 0 hP fr lo ρ _ hf hl (fun ν1 hp => ?_)
  obtain ⟨p1, p2, p3, p4, _⟩ := hp
  have hsz := h1.2.1
  refine L_exit (by rw [p1.1.1]; exact hsz) p1.1.2.2 (by have := p1.2.1.2; omega) p1.2.2.1.1 rfl p1.2.2.1.2.2.2.1 (by omega) (by omega) ?_
  have esk := p1.2.1.1
  rw [if_pos (by rw [esk, p1.1.1]; exact hn)]
  have hs : skp ν1 (skM ν1) := skp_I
  exact ⟨rfl, _, rfl, mfw_trans (mfw_trans (mfw_trans rJ0_f.2.1 p2) (skp_mfw hs)) (mfw_I (by decide)), (stI_at _ _ _ _).trans esk, p1.2.2.2.2.2.1.2.2.2.2⟩
theorem m_readX {sc : Nat × (Nat → Int32)} {fr lo : Nat} {ρ : Nat × Nat × Nat} {t x : Nat} {μi ν : Mem} {w : Int} (hw : 0 ≤ w ∧ w ≤ 240) (hE : SimX sc t x 0 0 μi w) (hP : Pre t x 0 0 μi (rJ0 ν) 0) (hn : 0 ≤ ν.1 46 3 ∧ ν.1 46 3 ≤ 240) (h47 : ∀ k, 0 ≤ ν.2.2 47 k ∧ ν.2.2 47 k < 65536) (hf : 40 ≤ fr) (hl : 2000 ≤ lo) : w_S sc fr lo 117 [.ref 46] (hp ν, ρ) (fun o τ => o = .inl none ∧ ∃ ν', τ = (hp ν', ρ) ∧ mfw ν ν' ∧ ν'.1 46 16 = w ∧ ∀ k, 0 ≤ ν'.2.2 57 k ∧ ν'.2.2 57 k < 65536) := by
  refine m_readAll ?_
  refine SimX_to hE (rJ0 ν) 0 hP fr lo ρ _ hf hl (fun ν1 wa fa hb0 => ?_)
  obtain ⟨hb, hb57⟩ := hb0
  have e3 : ν1.1 46 3 = ν.1 46 3 := hb.1.2.1 3 (by decide) (by decide) (by decide) (by decide) (by decide) (by decide) (by decide) (by decide)
  have e47 : ν1.2.2 47 = ν.2.2 47 := hb.1.2.2.2.1 47 (by omega)
  refine L_exitX (by rw [e3]; exact hn) (by rw [e47]; exact h47) (by have := hb.2.2; omega) (by rw [hb.2.1]; omega) (by omega) (by omega) ?_
  exact ⟨rfl, skM ν1, rfl, mfw_trans (mfw_trans rJ0_f.2.1 hb.1) (skp_mfw skp_I), (show (skM ν1).1 46 16 = ν1.1 46 16 from stI_ne (by omega)).trans hb.2.1, hb57⟩
