/-! THE PURE PART, 86: read, in the law -/
/-- scratch alone has changed -/
theorem IvL_scr {μ ν : Mem} {x t2 : Nat} (k : IvL μ) (hx : μ.2.1 0 3 = .ref x) (ht : μ.2.1 20 4 = .ref t2) (hG : Gi ν) (h1 : ν.1 x 1 = μ.1 x 1) (h1t : ∀ t, isT t → t ≠ t2 → ν.1 t 7 = μ.1 t 7 ∧ ν.1 (t + 7) 1 = μ.1 (t + 7) 1 ∧ ∀ a, t + 1 ≤ a → a ≤ t + 8 → ν.2.2 a = μ.2.2 a) (h2 : ν.2.1 0 3 = μ.2.1 0 3 ∧ ν.2.1 35 3 = μ.2.1 35 3 ∧ (∀ q, ν.2.1 1 q = μ.2.1 1 q) ∧ ν.2.1 20 4 = μ.2.1 20 4) (h3 : ν.2.2 (x + 1) = μ.2.2 (x + 1)) (h47 : ν.2.2 47 = μ.2.2 47 ∧ ν.2.2 48 = μ.2.2 48) (h49 : ∀ a i, 49 ≤ a → a ≤ 54 → i < 256 → ν.2.2 a i = μ.2.2 a i) (h57 : ∀ i, i < 480 → ν.2.2 57 i = μ.2.2 57 i) (h57r : ∀ k, 0 ≤ ν.2.2 57 k ∧ ν.2.2 57 k < 65536) (h4 : ν.1 46 3 = μ.1 46 3 ∧ ν.1 46 4 = μ.1 46 4) (hf : ν.1 20 6 = ν.1 46 1 ∧ -1 ≤ ν.1 46 1 ∧ ν.1 46 1 ≤ 240) : IvL ν := by
  obtain ⟨k1, ⟨y, hy, q1, q2, q3, q4⟩, k3, t0, t1, u2, a0, a1, a2, b0, b1, b2, c0, c1, c2, k4⟩ := k
  rw [hx] at q1
  cases q1
  rw [ht] at c2
  cases c2
  have e : ∀ t r, isT t → t ≠ t2 → (r = 0 ∨ r = 1) → Si μ t r → Si ν t r := fun t r hT hn hr z => by
    obtain ⟨z1, z2, z3⟩ := h1t t hT hn
    exact Si_fine z3 (fun a w1 w2 i i1 i2 => h49 a i w1 w2 (by omega)) (by rw [h47.2]) (fun i i1 i2 => h57 i (by omega)) z2 z1 z
  refine ⟨hG, ⟨x, hy, by rw [h2.1]; exact hx, by rw [h2.2.1]; exact q2, by rw [h4.1, h1]; exact q3, fun m m0 m1 => ?_⟩, ⟨hf.1, hf.2.1, hf.2.2, fun m => ⟨by rw [h47.1]; exact (k3.2.2.2 m).1, h57r m⟩⟩, t0, t1, t2, a0, a1, a2, b0, b1, b2, by rw [h2.2.2.1]; exact c0, by rw [h2.2.2.1]; exact c1, by rw [h2.2.2.2]; exact ht, ?_⟩
  · rw [h1] at m1
    rw [h47.1, h3]
    exact q4 m m0 m1
  · rw [h4.2]
    rcases k4 with ⟨z, z1, z2⟩ | ⟨z, z1, z2⟩
    · exact Or.inl ⟨z, e _ _ a0 b1 (Or.inl rfl) z1, e _ _ a1 b2 (Or.inr rfl) z2⟩
    · exact Or.inr ⟨z, e _ _ a0 b1 (Or.inr rfl) z1, e _ _ a1 b2 (Or.inl rfl) z2⟩
/-- a slot takes the reader's tree, the reader the slot's -/
theorem IvL_new {μ ν : Mem} {x t2 tp : Nat} {p r : Int} (k : IvL μ) (hx : μ.2.1 0 3 = .ref x) (ht : μ.2.1 20 4 = .ref t2) (hp : p = 0 ∨ p = 1) (htp : μ.2.1 1 p.toNat = .ref tp) (hA : μ.1 46 4 = 0 ∧ r = p ∨ μ.1 46 4 = 1 ∧ r = 1 - p) (hG : Gi ν) (h1 : ν.1 x 1 = μ.1 x 1) (h1t : ∀ t, isT t → t ≠ t2 → ν.1 t 7 = μ.1 t 7 ∧ ν.1 (t + 7) 1 = μ.1 (t + 7) 1 ∧ ∀ a, t + 1 ≤ a → a ≤ t + 8 → ν.2.2 a = μ.2.2 a) (h2 : ν.2.1 0 3 = μ.2.1 0 3 ∧ ν.2.1 35 3 = μ.2.1 35 3 ∧ ν.2.1 1 p.toNat = .ref t2 ∧ (∀ q, q ≠ p.toNat → ν.2.1 1 q = μ.2.1 1 q) ∧ ν.2.1 20 4 = .ref tp) (h3 : ν.2.2 (x + 1) = μ.2.2 (x + 1)) (h47 : ν.2.2 47 = μ.2.2 47) (h48 : ν.2.2 48 (1 - r) = μ.2.2 48 (1 - r)) (h49 : ∀ a i, 49 ≤ a → a ≤ 54 → 128 * (1 - r) ≤ i → i < 128 * (1 - r) + 128 → ν.2.2 a i = μ.2.2 a i) (h57 : ∀ i, 240 * (1 - r) ≤ i → i < 240 * (1 - r) + 240 → ν.2.2 57 i = μ.2.2 57 i) (h57r : ∀ k, 0 ≤ ν.2.2 57 k ∧ ν.2.2 57 k < 65536) (h4 : ν.1 46 3 = μ.1 46 3 ∧ ν.1 46 4 = μ.1 46 4) (hf : ν.1 20 6 = ν.1 46 1 ∧ -1 ≤ ν.1 46 1 ∧ ν.1 46 1 ≤ 240) (hS : Si ν t2 r) : IvL ν := by
  obtain ⟨k1, ⟨y, hy, q1, q2, q3, q4⟩, k3, t0, t1, u2, a0, a1, a2, b0, b1, b2, c0, c1, c2, k4⟩ := k
  rw [hx] at q1
  cases q1
  rw [ht] at c2
  cases c2
  have e : ∀ t, isT t → t ≠ t2 → Si μ t (1 - r) → Si ν t (1 - r) := fun t hT hn z => by
    obtain ⟨z1, z2, z3⟩ := h1t t hT hn
    exact Si_fine z3 (fun a a1 a2 i i1 i2 => h49 a i a1 a2 i1 i2) h48 h57 z2 z1 z
  have hTi : Ti ν x := ⟨by rw [h2.1]; exact hx, by rw [h2.2.1]; exact q2, by rw [h4.1, h1]; exact q3, fun m m0 m1 => by
    rw [h1] at m1
    rw [h47, h3]
    exact q4 m m0 m1⟩
  have hF : ν.1 20 6 = ν.1 46 1 ∧ -1 ≤ ν.1 46 1 ∧ ν.1 46 1 ≤ 240 ∧ Ci ν := ⟨hf.1, hf.2.1, hf.2.2, fun m => ⟨by rw [h47]; exact (k3.2.2.2 m).1, h57r m⟩⟩
  rcases hp with rfl | rfl
  · have ht0 : t0 = tp := by
      have : (Value.ref t0) = .ref tp := c0.symm.trans htp
      cases this
      rfl
    subst ht0
    refine ⟨hG, ⟨x, hy, hTi⟩, hF, t2, t1, t0, a2, a1, a0, fun z => b2 z.symm, fun z => b1 z.symm, fun z => b0 z.symm, h2.2.2.1, by rw [h2.2.2.2.1 1 (by decide)]; exact c1, h2.2.2.2.2, ?_⟩
    rw [h4.2]
    rcases k4 with ⟨z, z1, z2⟩ | ⟨z, z1, z2⟩
    · obtain rfl : r = 0 := by omega
      exact Or.inl ⟨z, hS, e _ a1 b2 z2⟩
    · obtain rfl : r = 1 := by omega
      exact Or.inr ⟨z, hS, e _ a1 b2 z2⟩
  · have ht0 : t1 = tp := by
      have : (Value.ref t1) = .ref tp := c1.symm.trans htp
      cases this
      rfl
    subst ht0
    refine ⟨hG, ⟨x, hy, hTi⟩, hF, t0, t2, t1, a0, a2, a1, b1, b0, fun z => b2 z.symm, by rw [h2.2.2.2.1 0 (by decide)]; exact c0, h2.2.2.1, h2.2.2.2.2, ?_⟩
    rw [h4.2]
    rcases k4 with ⟨z, z1, z2⟩ | ⟨z, z1, z2⟩
    · obtain rfl : r = 1 := by omega
      exact Or.inl ⟨z, e _ a0 b1 z1, hS⟩
    · obtain rfl : r = 0 := by omega
      exact Or.inr ⟨z, e _ a0 b1 z1, hS⟩
theorem cpy_ne {μ : Mem} {r k : Int} {b : Nat} (h : b ≠ 57) : (cpy μ r k).2.2 b = μ.2.2 b := by
  funext q
  exact if_neg (fun z => h z.1)
theorem cpy_57 {μ : Mem} {r k : Int} {q : Int} : (cpy μ r k).2.2 57 q = if 240 * r ≤ q ∧ q < 240 * r + k then μ.2.2 57 (480 + (q - 240 * r)) else μ.2.2 57 q := by
  by_cases z : 240 * r ≤ q ∧ q < 240 * r + k
  · rw [if_pos z]; exact if_pos ⟨rfl, z⟩
  · rw [if_neg z]; exact if_neg (fun y => z y.2)
theorem tko_ne {μ : Mem} {r g s n : Int} {b : Nat} (h : ¬ (49 ≤ b ∧ b ≤ 54)) : (tko μ r g s n).2.2 b = μ.2.2 b := by
  funext q
  exact if_neg (fun z => by have := z.2.2; omega)
theorem tko_at {μ : Mem} {r g s n : Int} {b : Nat} {q : Int} (h1 : 49 ≤ b) (h2 : b ≤ 54) : (tko μ r g s n).2.2 b q = if 128 * r ≤ q ∧ q < 128 * r + n then (if b = 51 then μ.2.2 b (g + (q - 128 * r)) + s else μ.2.2 b (g + (q - 128 * r))) else μ.2.2 b q := by
  by_cases z : 128 * r ≤ q ∧ q < 128 * r + n
  · rw [if_pos z]; exact if_pos ⟨z.1, z.2, by omega⟩
  · rw [if_neg z]; exact if_neg (fun y => z ⟨y.1, y.2.1⟩)
/-- what the class may change when it reads, from the start on -/
def crd (t : Nat) (μ μ' : Mem) : Prop := (∀ a q, a ≠ 20 → a ≠ 21 → a ≠ 24 → a ≠ t → a ≠ t + 7 → μ'.1 a q = μ.1 a q) ∧ (∀ a q, ¬ (a = 20 ∧ q = 3) → μ'.2.1 a q = μ.2.1 a q) ∧ ∀ a, a ≠ 22 → a ≠ 23 → a ≠ 25 → ¬ (t + 1 ≤ a ∧ a ≤ t + 8) → μ'.2.2 a = μ.2.2 a
theorem crd_of {t x : Nat} {μ μ' : Mem} (hT : isT t) (h : cfr t (rI0 t x μ) μ') : crd t μ μ' := by
  obtain ⟨_, fI, f5, f6, f7⟩ := rI0_f (x := x) (μ := μ) hT
  exact ⟨fun a q h1 h2 h3 h4 h5 => (h.1 a q h1 h2 h3 h4 h5).trans (fI a q h1 h2 h4 h5), fun a q hq => by rw [h.2.1]; exact f6 a q hq, fun a h1 h2 h3 h4 => (h.2.2 a h1 h2 h3 h4).trans (by rw [f7])⟩
theorem Gi_rd {t : Nat} {μ μ' : Mem} (hT : isT t) (hG : Gi μ) (h : crd t μ μ') (h1 : 0 ≤ μ'.1 (t + 7) 1 ∧ μ'.1 (t + 7) 1 ≤ 240) (h2 : ∀ k, 0 ≤ μ'.2.2 (t + 7 + 1) k ∧ μ'.2.2 (t + 7 + 1) k < 65536) : Gi μ' := by
  intro a n ha
  have ha' := ha
  unfold isL at ha
  by_cases z : a = t + 7
  · subst z
    have hn : n = 240 := by unfold isT at hT; omega
    subst hn
    exact ⟨h1, h2⟩
  · unfold isT at hT
    rw [h.1 a 1 (by omega) (by omega) (by omega) (by omega) (by omega), h.2.2 (a + 1) (by omega) (by omega) (by omega) (by omega)]
    exact hG a n ha'
theorem crd_t {t : Nat} {μ μ' : Mem} (hT : isT t) (h : crd t μ μ') : ∀ u, isT u → u ≠ t → μ'.1 u 7 = μ.1 u 7 ∧ μ'.1 (u + 7) 1 = μ.1 (u + 7) 1 ∧ ∀ a, u + 1 ≤ a → a ≤ u + 8 → μ'.2.2 a = μ.2.2 a := fun u hu hn => by
  unfold isT at hT hu
  exact ⟨h.1 u 7 (by omega) (by omega) (by omega) (by omega) (by omega), h.1 (u + 7) 1 (by omega) (by omega) (by omega) (by omega) (by omega), fun a h1 h2 => h.2.2 a (by omega) (by omega) (by omega) (by omega)⟩
/-- the reading failed, in both -/
theorem IvL_rdX {μ μ1 ν : Mem} {x t : Nat} {w : Int} (k : IvL μ) (hT : isT t) (hX : x = 42 ∨ x = 44) (hx : μ.2.1 0 3 = .ref x) (ht : μ.2.1 20 4 = .ref t) (h : crd t μ μ1) (hw : 0 ≤ w ∧ w ≤ 240) (h6 : μ1.1 20 6 = w) (g1 : 0 ≤ μ1.1 (t + 7) 1 ∧ μ1.1 (t + 7) 1 ≤ 240) (g2 : ∀ k, 0 ≤ μ1.2.2 (t + 7 + 1) k ∧ μ1.2.2 (t + 7 + 1) k < 65536) (hm : mfw μ1 ν) (h57 : ∀ k, 0 ≤ ν.2.2 57 k ∧ ν.2.2 57 k < 65536) : IvL (stI (stI ν 46 1 w) 46 0 2) := by
  have hT' := hT
  unfold isT at hT
  have i1 : ∀ a q, a ≠ 46 → (stI (stI ν 46 1 w) 46 0 2).1 a q = μ1.1 a q := fun a q ha => by rw [stI_ne (by omega), stI_ne (by omega), hm.1 a q ha]
  have i4 : ∀ q, q = 3 ∨ q = 4 → (stI (stI ν 46 1 w) 46 0 2).1 46 q = μ.1 46 q := fun q hq => by
    rw [stI_ne (by omega), stI_ne (by omega), hm.2.1 q (by omega) (by omega) (by omega) (by omega) (by omega) (by omega) (by omega) (by omega)]
    exact h.1 46 q (by omega) (by omega) (by omega) (by omega) (by omega)
  have i2 : (stI (stI ν 46 1 w) 46 0 2).2.1 = μ1.2.1 := hm.2.2.1
  have i3 : ∀ a, a < 49 → (stI (stI ν 46 1 w) 46 0 2).2.2 a = μ1.2.2 a := fun a ha => hm.2.2.2.1 a (Or.inl ha)
  have e1 : (stI (stI ν 46 1 w) 46 0 2).1 46 1 = w := by rw [stI_ne (by omega), stI_at]
  refine IvL_scr k hx ht (fun a n ha => ?_) ?_ (fun u hu hn => ?_) ⟨?_, ?_, fun q => ?_, ?_⟩ ?_ ⟨?_, ?_⟩ (fun a i h1 h2 h3 => ?_) (fun i hi => ?_) h57 ⟨i4 3 (by omega), i4 4 (by omega)⟩ ⟨by rw [i1 20 6 (by omega), e1, h6], by rw [e1]; omega, by rw [e1]; omega⟩
  · have ha' := ha
    unfold isL at ha
    rw [i1 a 1 (by omega), i3 (a + 1) (by omega)]
    exact Gi_rd hT' k.1 h g1 g2 a n ha'
  · rw [i1 x 1 (by omega)]; exact h.1 x 1 (by omega) (by omega) (by omega) (by omega) (by omega)
  · obtain ⟨z1, z2, z3⟩ := crd_t hT' h u hu hn
    unfold isT at hu
    exact ⟨by rw [i1 u 7 (by omega)]; exact z1, by rw [i1 (u + 7) 1 (by omega)]; exact z2, fun a h1 h2 => by rw [i3 a (by omega)]; exact z3 a h1 h2⟩
  · rw [i2]; exact h.2.1 0 3 (by omega)
  · rw [i2]; exact h.2.1 35 3 (by omega)
  · rw [i2]; exact h.2.1 1 q (by omega)
  · rw [i2]; exact h.2.1 20 4 (by omega)
  · rw [i3 (x + 1) (by omega)]; exact h.2.2 (x + 1) (by omega) (by omega) (by omega) (by omega)
  · rw [i3 47 (by omega)]; exact h.2.2 47 (by omega) (by omega) (by omega) (by omega)
  · rw [i3 48 (by omega)]; exact h.2.2 48 (by omega) (by omega) (by omega) (by omega)
  · show ν.2.2 a i = _
    rw [hm.2.2.2.2.1 a i h1 (by omega) h3, h.2.2 a (by omega) (by omega) (by omega) (by omega)]
  · show ν.2.2 57 i = _
    rw [hm.2.2.2.2.2 i hi, h.2.2 57 (by omega) (by omega) (by omega) (by omega)]
/-- the reading went well, in both: the memory behind it -/
theorem IvL_rdOK {sc : Nat × (Nat → Int32)} {μ μ' ν : Mem} {x t tp : Nat} {p r n u : Int} (k : IvL μ) (hT : isT t) (hTp : isT tp) (hX : x = 42 ∨ x = 44) (hx : μ.2.1 0 3 = .ref x) (ht : μ.2.1 20 4 = .ref t) (hp01 : p = 0 ∨ p = 1) (htp : μ.2.1 1 p.toNat = .ref tp) (hA : μ.1 46 4 = 0 ∧ r = p ∨ μ.1 46 4 = 1 ∧ r = 1 - p) (hE : EG sc t x 0 0 10 (rI0 t x μ) μ') (hn : μ'.1 t 7 = n) (hu : μ'.1 (t + 7) 1 = u) (hm : mfw (stA (stR (stR (stI μ' 20 5 (cpl x μ')) 20 4 (.ref tp)) 1 p.toNat (.ref t)) 73 0 n) ν) (hR : Rel t x 0 μ' ν) (hg : ∀ k, 0 ≤ k → k < n → 0 ≤ ν.2.2 56 (256 + k)) : IvL (cpy (stA (tko (stI (stI ν 46 1 (-1)) 46 0 0) r 256 (240 * r - 480) n) 48 r n) r u) := by
  obtain ⟨e1, e2, e3, e4, e5⟩ := hE
  obtain ⟨⟨f1, f2, f3, f4⟩, fI, f5, f6, f7⟩ := rI0_f (x := x) (μ := μ) hT
  rw [f3] at e2 e3
  have hcr := crd_of hT e2.1
  have hr : r = 0 ∨ r = 1 := by omega
  have hpl := e1.2.2.2.2.1
  have hsz := e1.2.1
  have hu0 := e1.2.2.2.2.2.1
  have hn0 := e1.2.2.2.2.2.2.2.2.2.2
  have h6 : μ'.1 20 6 = -1 := by
    rw [e2.2.2.2.2.2]
    unfold rI0
    unfold isT at hT
    rw [stI_ne (by omega), stI_ne (by omega), stI_ne (by omega), stI_at]
  have hT' := hT
  unfold isT at hT
  obtain ⟨C, hC⟩ : ∃ C, C = stA (stR (stR (stI μ' 20 5 (cpl x μ')) 20 4 (.ref tp)) 1 p.toNat (.ref t)) 73 0 n := ⟨_, rfl⟩
  rw [← hC] at hm
  have cI : ∀ a q, ¬ (a = 20 ∧ q = 5) → C.1 a q = μ'.1 a q := fun a q hz => by rw [hC]; exact stI_ne hz
  have cR : ∀ a q, ¬ (a = 20 ∧ q = 4) → ¬ (a = 1 ∧ q = p.toNat) → C.2.1 a q = μ'.2.1 a q := fun a q z1 z2 => by
    rw [hC]
    exact (stR_ne z2).trans (stR_ne z1)
  have cR1 : C.2.1 1 p.toNat = .ref t := by rw [hC]; exact stR_at _ _ _ _
  have cR2 : C.2.1 20 4 = .ref tp := by
    rw [hC]
    exact (stR_ne (μ := stR (stI μ' 20 5 (cpl x μ')) 20 4 (.ref tp)) (a := 1) (k := p.toNat) (b := 20) (m := 4) (v := .ref t) (by omega)).trans (stR_at _ _ _ _)
  have cA : ∀ a, a ≠ 73 → C.2.2 a = μ'.2.2 a := fun a ha => by
    rw [hC]
    exact stA_o2 ha
  obtain ⟨F, hF⟩ : ∃ F, F = cpy (stA (tko (stI (stI ν 46 1 (-1)) 46 0 0) r 256 (240 * r - 480) n) 48 r n) r u := ⟨_, rfl⟩
  rw [← hF]
  have FI : ∀ a q, ¬ (a = 46 ∧ (q = 0 ∨ q = 1)) → F.1 a q = ν.1 a q := fun a q hz => by
    rw [hF]
    show (stI (stI ν 46 1 (-1)) 46 0 0).1 a q = _
    rw [stI_ne (by omega), stI_ne (by omega)]
  have F1 : F.1 46 1 = -1 := by
    rw [hF]
    show (stI (stI ν 46 1 (-1)) 46 0 0).1 46 1 = _
    rw [stI_ne (by omega), stI_at]
  have FR : F.2.1 = ν.2.1 := by rw [hF]; rfl
  have FA : ∀ a, a < 48 ∨ a = 55 ∨ a = 56 ∨ 57 < a → F.2.2 a = ν.2.2 a := fun a ha => by
    rw [hF, cpy_ne (by omega), stA_o2 (by omega), tko_ne (by omega)]; rfl
  have F48 : ∀ i, F.2.2 48 i = if i = r then n else ν.2.2 48 i := fun i => by
    rw [hF, cpy_ne (by omega)]
    by_cases z : i = r
    · rw [if_pos z, z, stA_at]
    · rw [if_neg z, stA_ne (by omega), tko_ne (by omega)]; rfl
  have FT : ∀ a i, 49 ≤ a → a ≤ 54 → F.2.2 a i = if 128 * r ≤ i ∧ i < 128 * r + n then (if a = 51 then ν.2.2 a (256 + (i - 128 * r)) + (240 * r - 480) else ν.2.2 a (256 + (i - 128 * r))) else ν.2.2 a i := fun a i a1 a2 => by
    rw [hF, cpy_ne (by omega), stA_o2 (by omega), tko_at a1 a2]; rfl
  have F57 : ∀ i, F.2.2 57 i = if 240 * r ≤ i ∧ i < 240 * r + u then ν.2.2 57 (480 + (i - 240 * r)) else ν.2.2 57 i := fun i => by
    rw [hF, cpy_57, stA_o2 (by omega), tko_ne (by omega)]; rfl
  -- from the class's memory to the end
  have gI : ∀ a q, a ≠ 46 → ¬ (a = 20 ∧ q = 5) → F.1 a q = μ'.1 a q := fun a q z1 z2 => by rw [FI a q (by omega), hm.1 a q z1, cI a q z2]
  have gA : ∀ a, a < 48 → F.2.2 a = μ'.2.2 a := fun a ha => by rw [FA a (by omega), hm.2.2.2.1 a (by omega), cA a (by omega)]
  have h57r := hR.2.2.2.2.2.1.2.2.2.2
  have g46 : ∀ q, q = 3 ∨ q = 4 → F.1 46 q = μ.1 46 q := fun q hq => by
    rw [FI 46 q (by omega), hm.2.1 q (by omega) (by omega) (by omega) (by omega) (by omega) (by omega) (by omega) (by omega), cI 46 q (by omega)]
    exact hcr.1 46 q (by omega) (by omega) (by omega) (by omega) (by omega)
  have gR : F.2.1 = C.2.1 := by rw [FR, hm.2.2.1]
  have hGi : Gi μ' := Gi_rd hT' k.1 hcr (by omega) e1.2.2.2.2.2.2.1
  refine IvL_new k hx ht hp01 htp hA (fun a m ha => ?_) ?_ (fun w hw hne => ?_) ⟨?_, ?_, ?_, fun q hq => ?_, ?_⟩ ?_ ?_ ?_ (fun a i a1 a2 i1 i2 => ?_) (fun i i1 i2 => ?_) (fun i => ?_) ⟨g46 3 (by omega), g46 4 (by omega)⟩ ⟨by rw [gI 20 6 (by omega) (by omega), F1, h6], by rw [F1]; decide, by rw [F1]; decide⟩ ?_
  · have ha' := ha
    unfold isL at ha
    rw [gI a 1 (by omega) (by omega), gA (a + 1) (by omega)]
    exact hGi a m ha'
  · rw [gI x 1 (by omega) (by omega)]
    exact hcr.1 x 1 (by omega) (by omega) (by omega) (by omega) (by omega)
  · obtain ⟨z1, z2, z3⟩ := crd_t hT' hcr w hw hne
    unfold isT at hw
    exact ⟨by rw [gI w 7 (by omega) (by omega)]; exact z1, by rw [gI (w + 7) 1 (by omega) (by omega)]; exact z2, fun a a1 a2 => by rw [gA a (by omega)]; exact z3 a a1 a2⟩
  · rw [gR, cR 0 3 (by omega) (by omega)]; exact hcr.2.1 0 3 (by omega)
  · rw [gR, cR 35 3 (by omega) (by omega)]; exact hcr.2.1 35 3 (by omega)
  · rw [gR]; exact cR1
  · rw [gR, cR 1 q (by omega) (by omega)]; exact hcr.2.1 1 q (by omega)
  · rw [gR]; exact cR2
  · rw [gA (x + 1) (by omega)]; exact hcr.2.2 (x + 1) (by omega) (by omega) (by omega) (by omega)
  · rw [gA 47 (by omega)]; exact hcr.2.2 47 (by omega) (by omega) (by omega) (by omega)
  · rw [F48, if_neg (by omega), hm.2.2.2.1 48 (by omega), cA 48 (by omega), hcr.2.2 48 (by omega) (by omega) (by omega) (by omega)]
  · rw [FT a i a1 a2, if_neg (by omega), hm.2.2.2.2.1 a i (by omega) (by omega) (by omega), cA a (by omega), hcr.2.2 a (by omega) (by omega) (by omega) (by omega)]
  · rw [F57, if_neg (by omega), hm.2.2.2.2.2 i (by omega), cA 57 (by omega), hcr.2.2 57 (by omega) (by omega) (by omega) (by omega)]
  · rw [F57]
    split
    · exact h57r _
    · exact h57r _
  · obtain ⟨v1, v2, v3, v4, v5⟩ := e3
    rw [hn] at v1 v2 v3 v5
    have en : F.1 t 7 = n := by rw [gI t 7 (by omega) (by omega), hn]
    have eu : F.1 (t + 7) 1 = μ'.1 (t + 7) 1 := gI (t + 7) 1 (by omega) (by omega)
    have ea : ∀ a, t + 1 ≤ a → a ≤ t + 8 → F.2.2 a = μ'.2.2 a := fun a a1 a2 => gA a (by omega)
    have ev := vT_eq ea
    refine ⟨by rw [en]; omega, by rw [F48, if_pos rfl, en], by rw [en]; exact rok_eq ea eu v2, fun _ => by rw [en, ea (t + 6) (by omega) (by omega)]; exact v3, fun i i0 i1 => ?_⟩
    rw [en] at i1
    obtain ⟨o1, o2, o3⟩ := v5 i i0 i1
    obtain ⟨r1, r2, r3, r4, r5, r6, r7⟩ := hR.2.2.2.2.2.2 i i0 (by rw [hn]; exact i1) (hg i i0 i1)
    have hw := (v2.2 i i0 i1).2.2.2.2.1
    have ft : ∀ a, 49 ≤ a → a ≤ 54 → a ≠ 51 → F.2.2 a (128 * r + i) = ν.2.2 a (256 + i) := fun a a1 a2 a3 => by
      rw [FT a _ a1 a2, if_pos (by omega), if_neg a3, show 128 * r + i - 128 * r = i by omega]
    have f51 : F.2.2 51 (128 * r + i) = ν.2.2 51 (256 + i) + (240 * r - 480) := by
      rw [FT 51 _ (by omega) (by omega), if_pos (by omega), if_pos rfl, show 128 * r + i - 128 * r = i by omega]
    refine ⟨by rw [ev]; exact o1, ?_, ?_⟩
    · unfold rki at o2 ⊢
      rw [ea (t + 1) (by omega) (by omega), ea (t + 2) (by omega) (by omega), ea (t + 3) (by omega) (by omega), ea (t + 4) (by omega) (by omega), ea (t + 5) (by omega) (by omega), ea (t + 7 + 1) (by omega) (by omega)]
      exact o2
    · unfold rwR
      rw [ft 49 (by omega) (by omega) (by omega), ft 50 (by omega) (by omega) (by omega), ft 52 (by omega) (by omega) (by omega), ft 53 (by omega) (by omega) (by omega), ft 54 (by omega) (by omega) (by omega), f51, ea (t + 1) (by omega) (by omega), ea (t + 2) (by omega) (by omega), ea (t + 3) (by omega) (by omega), ea (t + 4) (by omega) (by omega), ea (t + 5) (by omega) (by omega), ea (t + 6) (by omega) (by omega), ea (t + 7 + 1) (by omega) (by omega)]
      refine ⟨r1, r2, r3, r4, r5, fun j j0 j1 => ?_, ?_⟩
      · rcases r7 with z | z
        · omega
        · rw [z.1, F57, if_pos (by omega), show 480 + (480 + μ'.2.2 (t + 3) i + (240 * r - 480) + j - 240 * r) = 480 + (μ'.2.2 (t + 3) i + j) by omega]
          exact hR.2.2.2.2.1 _ (by omega) (by omega)
      · rcases r7 with z | z
        · exact Or.inl z
        · exact Or.inr (by rw [z.1]; omega)
/-- read, in the law -/
theorem la_read {sc : Nat × (Nat → Int32)} {μ : Mem} {ρ : Nat × Nat × Nat} {Q : z_O → z_T → Prop} {i : Int} (hi : 0 ≤ i ∧ i + 3 < sc.1 ∧ sc.1 ≤ 2048) (h : IvL μ) (hρ : 1 ≤ ρ.2.1 ∧ 6 ≤ ρ.2.2) (K : ∀ μ' ρ', IvL μ' → (ρ.2.1 ≤ ρ'.2.1 + 1 ∧ ρ.2.2 ≤ ρ'.2.2 + 6) → w_P sc 2048 84000 9999 8 8 false ret code 742 [some (.float 1000), some (.ref 0), some (.ref 46), some (.ref 73), some (.int (ji i)), none, none, none] [] (hp μ', ρ') Q) : w_P sc 2048 84000 9999 8 8 false ret code 186 [some (.float 1000), some (.ref 0), some (.ref 46), some (.ref 73), some (.int (ji i)), none, none, none] [] (hp μ, ρ) Q := by
  have hp1 := scv_in sc (i + 1)
  by_cases hk : scv sc (i + 1) = 0 ∨ scv sc (i + 1) = 1
  · obtain ⟨tp, r, hTp, htp, hA, hS⟩ := h.slot hk
    obtain ⟨k1, ⟨x, hX, q1, q2, q3, q4⟩, k3, t0, t1, t, a0, a1, hT, b0, b1, b2, c0, c1, ht, k4⟩ := id h
    have gx := k1 x 240 (by unfold isL; omega)
    have hT' := hT
    unfold isT at hT
    obtain ⟨hCI, hGL⟩ := rI0_CI hT' hX k1 ht (fun k k0 k1 => ⟨(q4 k k0 k1).2.1, (q4 k k0 k1).2.2⟩)
    obtain ⟨o, τ, hQ, hE⟩ := (t_readText (sc := sc) (fr := 2048 - 1 - 1 - 1) (lo := 84000 - (19 + 4) - (19 + 2) - (19 + 2)) (ρ := ρ) hT' hX ht k1 hCI hGL hρ (by omega) (by omega)).ex
    have e46 : ∀ (α : Mem), crd t μ α → α.1 46 3 = μ.1 x 1 ∧ (∀ k, 0 ≤ k → k < μ.1 x 1 → α.2.2 47 k = μ.2.2 (x + 1) k) ∧ (∀ k, 0 ≤ α.2.2 47 k ∧ α.2.2 47 k < 65536) ∧ ∀ k, 0 ≤ α.2.2 57 k ∧ α.2.2 57 k < 65536 := fun α hα => by
      have z47 := hα.2.2 47 (by omega) (by omega) (by omega) (by omega)
      have z57 := hα.2.2 57 (by omega) (by omega) (by omega) (by omega)
      exact ⟨(hα.1 46 3 (by omega) (by omega) (by omega) (by omega) (by omega)).trans q3, fun k k0 k1 => by rw [z47]; exact (q4 k k0 k1).1, fun k => by rw [z47]; exact (k3.2.2.2 k).1, fun k => by rw [z57]; exact (k3.2.2.2 k).2⟩
    rcases hQ with ⟨rfl, μ', rfl, hEG, hn⟩ | ⟨rfl, μ', w, rfl, hB⟩
    · -- it went well
      have hcr := crd_of hT' hEG.2.1.1
      have hR1 := t_read (sc := sc) (fr := 2048 - 1 - 1) (lo := 84000 - (19 + 4) - (19 + 2)) hX q1 hk hE hT' hTp (show μ'.2.1 20 4 = .ref t from hEG.1.1.2) (show μ'.2.1 1 (scv sc (i + 1)).toNat = .ref tp from (hcr.2.1 1 _ (by omega)).trans htp) (by omega) (by omega)
      rw [show (stI μ' 20 5 (cpl x μ')).1 t 7 = μ'.1 t 7 from stI_ne (by omega)] at hR1
      have hpl := hEG.1.2.2.2.2.1
      have hsz := hEG.1.2.1
      have hu0 := hEG.1.2.2.2.2.2.1
      have hn0 := hEG.1.2.2.2.2.2.2.2.2.2.2
      have hcount := hEG.2.2.2.1
      have hL := l_read (sc := sc) (fr := 2048 - 1) (lo := 84000 - (19 + 4)) (n := μ'.1 t 7) (by omega) hR1 (by omega) (by omega)
      have hcC : crd t μ (stA (stR (stR (stI μ' 20 5 (cpl x μ')) 20 4 (.ref tp)) 1 (scv sc (i + 1)).toNat (.ref t)) 73 0 (μ'.1 t 7)) ∨ True := Or.inr trivial
      have hPre : Pre t x 0 0 (rI0 t x μ) (rJ0 (stA (stR (stR (stI μ' 20 5 (cpl x μ')) 20 4 (.ref tp)) 1 (scv sc (i + 1)).toNat (.ref t)) 73 0 (μ'.1 t 7))) 0 := by
        obtain ⟨z1, z2, z3, z4⟩ := e46 μ' hcr
        refine rIJ_Rel hT' hX gx.1.1 ?_ ?_ ?_ ?_
        · exact (show (stI μ' 20 5 (cpl x μ')).1 46 3 = μ'.1 46 3 from stI_ne (by omega)).trans z1
        · rw [show (stA (stR (stR (stI μ' 20 5 (cpl x μ')) 20 4 (.ref tp)) 1 (scv sc (i + 1)).toNat (.ref t)) 73 0 (μ'.1 t 7)).2.2 47 = μ'.2.2 47 from stA_o2 (by omega)]
          exact z2
        · rw [show (stA (stR (stR (stI μ' 20 5 (cpl x μ')) 20 4 (.ref tp)) 1 (scv sc (i + 1)).toNat (.ref t)) 73 0 (μ'.1 t 7)).2.2 47 = μ'.2.2 47 from stA_o2 (by omega)]
          exact z3
        · rw [show (stA (stR (stR (stI μ' 20 5 (cpl x μ')) 20 4 (.ref tp)) 1 (scv sc (i + 1)).toNat (.ref t)) 73 0 (μ'.1 t 7)).2.2 57 = μ'.2.2 57 from stA_o2 (by omega)]
          exact z4
      obtain ⟨o2, τ2, ⟨rfl, ν, rfl, hR, hm, hg⟩, hM⟩ := (m_readOK (sc := sc) (fr := 2048 - 1 - 1) (lo := 84000 - (19 + 4) - (19 + 4)) (ρ := ρ) hT' hX hEG (rI0_f hT').1.2.2.1 hPre hn (by omega) (by omega)).ex
      have h4 : ν.1 46 4 = μ.1 46 4 := (hm.2.1 4 (by omega) (by omega) (by omega) (by omega) (by omega) (by omega) (by omega) (by omega)).trans ((show (stI μ' 20 5 (cpl x μ')).1 46 4 = μ'.1 46 4 from stI_ne (by omega)).trans (hcr.1 46 4 (by omega) (by omega) (by omega) (by omega) (by omega)))
      have hRd := m_read (sc := sc) (fr := 2048 - 1) (lo := 84000 - (19 + 4)) (ρ := ρ) (r := r) (n := μ'.1 t 7) (u := μ'.1 (t + 7) 1) hk hM hR.2.2.1.1 (by rw [h4]; exact hA) ⟨hR.2.2.1.2.1, by omega, by omega⟩ ⟨hR.2.2.1.2.2.1, by omega, by omega⟩ (by omega) (by omega)
      have hIv := IvL_rdOK h hT' hTp hX q1 ht hk htp hA hEG rfl rfl hm hR hg
      have e73 : (cpy (stA (tko (stI (stI ν 46 1 (-1)) 46 0 0) r 256 (240 * r - 480) (μ'.1 t 7)) 48 r (μ'.1 t 7)) r (μ'.1 (t + 7) 1)).2.2 73 0 = μ'.1 t 7 := by
        rw [cpy_ne (by omega), stA_o2 (by omega), tko_ne (by omega)]
        show ν.2.2 73 0 = _
        rw [hm.2.2.2.1 73 (by omega)]
        exact stA_at _ _ _ _
      refine lc_read hi hL hRd rfl (by decide) (fun _ => e73) (by omega) (fun _ => by rw [e73]; omega) (K _ ρ hIv (by omega))
    · -- it failed
      have hw : 0 ≤ w ∧ w ≤ 240 ∧ crd t μ μ' ∧ μ'.1 20 6 = w ∧ (0 ≤ μ'.1 (t + 7) 1 ∧ μ'.1 (t + 7) 1 ≤ 240) ∧ (∀ k, 0 ≤ μ'.2.2 (t + 7 + 1) k ∧ μ'.2.2 (t + 7 + 1) k < 65536) := by
        rcases hB with hB | ⟨μ2, hEG, hlt, rfl, rfl⟩
        · obtain ⟨⟨c1, c2, c3, c4, c5⟩, _⟩ := hB
          exact ⟨c3.1, c3.2, crd_of hT' c1, c2, c4, c5⟩
        · have hcp := cpl_in hEG.1
          have hpl := hEG.1.2.2.2.2.1
          have hsz := hEG.1.2.1
          have hu0 := hEG.1.2.2.2.2.2.1
          exact ⟨by omega, by omega, crd_of hT' (cfr_trans hEG.2.1.1 (cfr_trans (cfr_I (Or.inl rfl)) (cfr_I (Or.inl rfl)))), stI_at _ _ _ _, by rw [stI_ne (by omega), stI_ne (by omega)]; omega, hEG.1.2.2.2.2.2.2.1⟩
      obtain ⟨w1, w2, hcr, h6, g1, g2⟩ := hw
      have hR1 := t_readX (sc := sc) (fr := 2048 - 1 - 1) (lo := 84000 - (19 + 4) - (19 + 2)) q1 hk hE (by omega) (by omega)
      have hL := l_readX (sc := sc) (fr := 2048 - 1) (lo := 84000 - (19 + 4)) hR1 (by omega) (by omega)
      obtain ⟨z1, z2, z3, z4⟩ := e46 μ' hcr
      have hPre : Pre t x 0 0 (rI0 t x μ) (rJ0 μ') 0 := rIJ_Rel hT' hX gx.1.1 z1 z2 z3 z4
      have hMM : w_S sc (2048 - 1 - 1) (84000 - (19 + 4) - (19 + 4)) 117 [.ref 46] (hp μ', ρ.1 + 1, ρ.2.1 - 1, ρ.2.2 - 6) (fun o τ => o = .inl none ∧ ∃ ν', τ = (hp ν', ρ.1 + 1, ρ.2.1 - 1, ρ.2.2 - 6) ∧ mfw μ' ν' ∧ ν'.1 46 16 = w ∧ ∀ k, 0 ≤ ν'.2.2 57 k ∧ ν'.2.2 57 k < 65536) := by
        rcases hB with hB | ⟨μ2, hEG, hlt, rfl, _⟩
        · exact m_readX ⟨w1, w2⟩ hB.2 hPre (by rw [z1]; exact gx.1) z3 (by omega) (by omega)
        · exact m_readT hEG hPre hlt (by omega) (by omega)
      obtain ⟨o2, τ2, ⟨rfl, ν, rfl, hm, h16, h57⟩, hM⟩ := hMM.ex
      have hRd := m_readW (sc := sc) (fr := 2048 - 1) (lo := 84000 - (19 + 4)) (w := w) hk hM ⟨h16, w1, by omega⟩ (by omega) (by omega)
      have hIv := IvL_rdX h hT' hX q1 ht hcr ⟨w1, w2⟩ h6 g1 g2 hm h57
      exact lc_read hi hL hRd (stI_at _ _ _ _) (by decide) (fun z => by omega) (by decide) (fun z => by omega) (K _ _ hIv (by show _ ≤ ρ.2.1 - 1 + 1 ∧ _ ≤ ρ.2.2 - 6 + 6; omega))
  · have hR1 := t_readI (sc := sc) (fr := 2048 - 1 - 1) (lo := 84000 - (19 + 4) - (19 + 2)) (μ := μ) (ρ := ρ) hp1 hk (by omega) (by omega) hρ
    have hL := l_readI (sc := sc) (fr := 2048 - 1) (lo := 84000 - (19 + 4)) hR1 (by omega) (by omega)
    exact lc_read hi hL (m_readI hp1 hk (by omega) (by omega)) (stI_at _ _ _ _) (by decide) (fun z => by omega) (by decide) (fun z => by omega) (K _ _ (IvL_code h 1) (by show _ ≤ ρ.2.1 - 1 + 1 ∧ _ ≤ ρ.2.2 - 6 + 6; omega))
