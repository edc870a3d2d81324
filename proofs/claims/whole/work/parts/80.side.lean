/-! THE PURE PART, 62: the two readers side by side -/
/-- the class reads: text x, tree t -/
def CI (t x : Nat) (μ : Mem) : Prop :=
  (μ.2.1 20 3 = .ref x ∧ μ.2.1 20 4 = .ref t) ∧ (0 ≤ μ.1 x 1 ∧ μ.1 x 1 ≤ 240) ∧ (∀ k, 0 ≤ μ.2.2 (x + 1) k ∧ μ.2.2 (x + 1) k < 65536) ∧ (∀ k, 0 ≤ k → k < μ.1 x 1 → 32 ≤ μ.2.2 (x + 1) k ∧ μ.2.2 (x + 1) k ≤ 126) ∧ (0 ≤ μ.1 20 5 ∧ μ.1 20 5 ≤ μ.1 x 1) ∧ (0 ≤ μ.1 (t + 7) 1 ∧ μ.1 (t + 7) 1 ≤ μ.1 20 5) ∧ (∀ k, 0 ≤ μ.2.2 (t + 7 + 1) k ∧ μ.2.2 (t + 7 + 1) k < 65536) ∧ (∀ k, 0 ≤ k → k < μ.1 (t + 7) 1 → 32 ≤ μ.2.2 (t + 7 + 1) k ∧ μ.2.2 (t + 7 + 1) k ≤ 126) ∧ (0 ≤ μ.1 21 2 ∧ μ.1 21 2 ≤ 24) ∧ (∀ k, 0 ≤ k → k < μ.1 21 2 → 0 ≤ μ.2.2 22 k ∧ 0 ≤ μ.2.2 23 k ∧ μ.2.2 22 k + μ.2.2 23 k ≤ μ.1 (t + 7) 1) ∧ 0 ≤ μ.1 t 7
def cpl (x : Nat) (μ : Mem) : Int := sk (μ.2.2 (x + 1)) (μ.1 x 1) (μ.1 20 5)
def cch (x : Nat) (μ : Mem) : Int := if cpl x μ < μ.1 x 1 then μ.2.2 (x + 1) (cpl x μ) else 0
/-- a row of the reference is the row of the class -/
def RR (t : Nat) (μ ν : Mem) (k : Int) : Prop := ν.2.2 49 (256 + k) = μ.2.2 (t + 1) k ∧ ν.2.2 50 (256 + k) = μ.2.2 (t + 2) k ∧ ν.2.2 52 (256 + k) = μ.2.2 (t + 4) k ∧ ν.2.2 53 (256 + k) = μ.2.2 (t + 5) k ∧ ν.2.2 54 (256 + k) = μ.2.2 (t + 6) k - k ∧ ν.2.2 55 (256 + k) = μ.2.2 25 k ∧ (μ.2.2 (t + 4) k = 0 ∨ ν.2.2 51 (256 + k) = 480 + μ.2.2 (t + 3) k ∧ 0 ≤ μ.2.2 (t + 3) k ∧ μ.2.2 (t + 3) k + μ.2.2 (t + 4) k ≤ μ.1 (t + 7) 1)
def Rel (t x : Nat) (d : Int) (μ ν : Mem) : Prop :=
  (ν.1 46 3 = μ.1 x 1 ∧ (∀ k, 0 ≤ k → k < μ.1 x 1 → ν.2.2 47 k = μ.2.2 (x + 1) k) ∧ ∀ k, 0 ≤ ν.2.2 47 k ∧ ν.2.2 47 k < 65536)
  ∧ (sk (ν.2.2 47) (ν.1 46 3) (ν.1 46 15) = cpl x μ ∧ 0 ≤ ν.1 46 15 ∧ ν.1 46 15 ≤ μ.1 x 1)
  ∧ (ν.1 46 16 = -1 ∧ ν.1 46 17 = μ.1 t 7 ∧ ν.1 46 18 = μ.1 (t + 7) 1 ∧ ν.1 46 19 = d ∧ ν.1 46 26 = μ.1 21 2)
  ∧ (∀ k, 0 ≤ k → k < μ.1 21 2 → ν.2.2 62 k = 480 + μ.2.2 22 k ∧ ν.2.2 63 k = μ.2.2 23 k)
  ∧ (∀ k, 0 ≤ k → k < μ.1 (t + 7) 1 → ν.2.2 57 (480 + k) = μ.2.2 (t + 7 + 1) k)
  ∧ MI ν ∧ (∀ k, 0 ≤ k → k < μ.1 t 7 → 0 ≤ ν.2.2 56 (256 + k) → RR t μ ν k)
/-- what the class may change while it reads -/
def cfr (t : Nat) (μ μ' : Mem) : Prop := (∀ a q, a ≠ 20 → a ≠ 21 → a ≠ 24 → a ≠ t → a ≠ t + 7 → μ'.1 a q = μ.1 a q) ∧ μ'.2.1 = μ.2.1 ∧ ∀ a, a ≠ 22 → a ≠ 23 → a ≠ 25 → ¬ (t + 1 ≤ a ∧ a ≤ t + 8) → μ'.2.2 a = μ.2.2 a
theorem cfr_refl (t : Nat) (μ : Mem) : cfr t μ μ := ⟨fun _ _ _ _ _ _ _ => rfl, rfl, fun _ _ _ _ _ => rfl⟩
theorem cfr_trans {t : Nat} {α β γ : Mem} (h : cfr t α β) (g : cfr t β γ) : cfr t α γ :=
  ⟨fun a q h1 h2 h3 h4 h5 => (g.1 a q h1 h2 h3 h4 h5).trans (h.1 a q h1 h2 h3 h4 h5), g.2.1.trans h.2.1, fun a h1 h2 h3 h4 => (g.2.2 a h1 h2 h3 h4).trans (h.2.2 a h1 h2 h3 h4)⟩
theorem cfr_I {t : Nat} {μ : Mem} {a q : Nat} {v : Int} (h : a = 20 ∨ a = 21 ∨ a = 24 ∨ a = t ∨ a = t + 7) : cfr t μ (stI μ a q v) :=
  ⟨fun b p h1 h2 h3 h4 h5 => stI_ne (fun z => by omega), rfl, fun _ _ _ _ _ => rfl⟩
theorem cfr_A {t : Nat} {μ : Mem} {a : Nat} {i v : Int} (h : a = 22 ∨ a = 23 ∨ a = 25 ∨ t + 1 ≤ a ∧ a ≤ t + 8) : cfr t μ (stA μ a i v) :=
  ⟨fun _ _ _ _ _ _ _ => rfl, rfl, fun b h1 h2 h3 h4 => stA_o2 (fun z => by omega)⟩
/-- a throw in the class's reader: the memory behind it -/
def Cbad (t : Nat) (μ μ' : Mem) (w : Int) : Prop := cfr t μ μ' ∧ μ'.1 20 6 = w ∧ (0 ≤ w ∧ w ≤ 240) ∧ (0 ≤ μ'.1 (t + 7) 1 ∧ μ'.1 (t + 7) 1 ≤ 240) ∧ ∀ k, 0 ≤ μ'.2.2 (t + 7 + 1) k ∧ μ'.2.2 (t + 7 + 1) k < 65536
theorem CI_of {t x : Nat} {μ μ' : Mem} (h : CI t x μ) (h1 : μ'.1 x 1 = μ.1 x 1) (h2 : μ'.1 (t + 7) 1 = μ.1 (t + 7) 1) (h3 : μ'.1 21 2 = μ.1 21 2) (hr : μ'.2.1 = μ.2.1) (a1 : μ'.2.2 (x + 1) = μ.2.2 (x + 1)) (a2 : μ'.2.2 (t + 7 + 1) = μ.2.2 (t + 7 + 1)) (a3 : μ'.2.2 22 = μ.2.2 22) (a4 : μ'.2.2 23 = μ.2.2 23) (hp : μ.1 (t + 7) 1 ≤ μ'.1 20 5 ∧ μ'.1 20 5 ≤ μ.1 x 1) (hc : 0 ≤ μ'.1 t 7) : CI t x μ' := by
  obtain ⟨c1, c2, c3, c4, c5, c6, c7, c8, c9, c10, c11⟩ := h
  refine ⟨by rw [hr]; exact c1, by rw [h1]; exact c2, by rw [a1]; exact c3, by rw [h1, a1]; exact c4, by rw [h1]; omega, by rw [h2]; omega, by rw [a2]; exact c7, by rw [h2, a2]; exact c8, by rw [h3]; exact c9, by rw [h3, a3, a4, h2]; exact c10, hc⟩
theorem MI_same {ν ν' : Mem} (h : MI ν) (e1 : ν'.1 46 17 = ν.1 46 17) (e2 : ∀ a, 49 ≤ a → a ≤ 57 → ν'.2.2 a = ν.2.2 a) : MI ν' :=
  MI_keep h (by rw [e1]; exact h.1) (by rw [e2 57 (by omega) (by omega)]; exact h.2.2.2.2) (fun v v1 v2 v3 => ⟨by rw [e1]; exact v2, fun a a1 a2 => by rw [e2 a a1 (by omega)], fun x _ _ => by rw [e2 57 (by omega) (by omega)]⟩) (fun v v1 v2 => by
    rw [e1] at v2
    rw [e2 56 (by omega) (by omega)]
    exact ⟨fun _ => ⟨v2, rfl⟩, h.2.2.2.1 v v1 v2⟩)
theorem RR_of {t : Nat} {μ μ' ν ν' : Mem} {k : Int} (h : RR t μ ν k) (c : ∀ a, t + 1 ≤ a ∧ a ≤ t + 6 ∨ a = 25 → μ'.2.2 a k = μ.2.2 a k) (r : ∀ a, 49 ≤ a → a ≤ 55 → ν'.2.2 a (256 + k) = ν.2.2 a (256 + k)) (u : μ.1 (t + 7) 1 ≤ μ'.1 (t + 7) 1) : RR t μ' ν' k := by
  obtain ⟨r1, r2, r3, r4, r5, r6, r7⟩ := h
  refine ⟨?_, ?_, ?_, ?_, ?_, ?_, ?_⟩
  · rw [r 49 (by omega) (by omega), c (t + 1) (by omega)]; exact r1
  · rw [r 50 (by omega) (by omega), c (t + 2) (by omega)]; exact r2
  · rw [r 52 (by omega) (by omega), c (t + 4) (by omega)]; exact r3
  · rw [r 53 (by omega) (by omega), c (t + 5) (by omega)]; exact r4
  · rw [r 54 (by omega) (by omega), c (t + 6) (by omega)]; exact r5
  · rw [r 55 (by omega) (by omega), c 25 (by omega)]; exact r6
  · rw [r 51 (by omega) (by omega), c (t + 4) (by omega), c (t + 3) (by omega)]
    rcases r7 with z | z
    · exact Or.inl z
    · exact Or.inr ⟨z.1, z.2.1, by omega⟩
/-- places move; what stands in registers -/
theorem Rel_mv {t x : Nat} {d : Int} (hT : isT t) (hX : x = 42 ∨ x = 44) {μ μ' ν ν' : Mem} (h : Rel t x d μ ν) (c1 : ∀ a q, a ≠ 20 → a ≠ 24 → μ'.1 a q = μ.1 a q) (c3 : μ'.2.2 = μ.2.2)
    (r1 : ∀ q, q ≠ 15 → q ≠ 24 → q ≠ 25 → ν'.1 46 q = ν.1 46 q) (r3 : ν'.2.2 = ν.2.2) (hs : sk (ν.2.2 47) (ν.1 46 3) (ν'.1 46 15) = sk (μ.2.2 (x + 1)) (μ.1 x 1) (μ'.1 20 5)) (hb : 0 ≤ ν'.1 46 15 ∧ ν'.1 46 15 ≤ μ.1 x 1) : Rel t x d μ' ν' := by
  unfold isT at hT
  obtain ⟨a1, a2, a3, a4, a5, a6, a7⟩ := h
  have ex : μ'.1 x 1 = μ.1 x 1 := c1 x 1 (by omega) (by omega)
  have et : μ'.1 t 7 = μ.1 t 7 := c1 t 7 (by omega) (by omega)
  have eu : μ'.1 (t + 7) 1 = μ.1 (t + 7) 1 := c1 (t + 7) 1 (by omega) (by omega)
  have en : μ'.1 21 2 = μ.1 21 2 := c1 21 2 (by omega) (by omega)
  refine ⟨by rw [r1 3 (by omega) (by omega) (by omega), ex, r3, c3]; exact a1, ⟨?_, by rw [ex]; exact hb⟩, by rw [r1 16 (by omega) (by omega) (by omega), r1 17 (by omega) (by omega) (by omega), r1 18 (by omega) (by omega) (by omega), r1 19 (by omega) (by omega) (by omega), r1 26 (by omega) (by omega) (by omega), et, eu, en]; exact a3, by rw [en, r3, c3]; exact a4, by rw [eu, r3, c3]; exact a5, MI_same a6 (r1 17 (by omega) (by omega) (by omega)) (fun a _ _ => by rw [r3]), fun k k0 k1 k2 => ?_⟩
  · unfold cpl
    rw [r3, r1 3 (by omega) (by omega) (by omega), c3, ex]
    exact hs
  · rw [et] at k1
    rw [r3] at k2
    exact RR_of (a7 k k0 k1 k2) (fun a _ => by rw [c3]) (fun a _ _ => by rw [r3]) (by rw [eu]; exact Int.le_refl _)
/-- rows are made -/
theorem Rel_rows {t x : Nat} {d n : Int} (hT : isT t) (hX : x = 42 ∨ x = 44) {μ μ' ν ν' : Mem} (h : Rel t x d μ ν) (hn : μ.1 t 7 = n ∧ 0 ≤ n) (c1 : ∀ a q, ¬ (a = t ∧ q = 7) → a ≠ 24 → μ'.1 a q = μ.1 a q) (c3 : ∀ a i, ¬ ((t + 1 ≤ a ∧ a ≤ t + 6 ∨ a = 25) ∧ n ≤ i) → μ'.2.2 a i = μ.2.2 a i)
    (hM : MI ν') (hk : kp ν ν' n) (h17 : ν'.1 46 17 = μ'.1 t 7) (hr : ∀ k, n ≤ k → k < μ'.1 t 7 → 0 ≤ ν'.2.2 56 (256 + k) → RR t μ' ν' k) : Rel t x d μ' ν' := by
  unfold isT at hT
  obtain ⟨a1, a2, a3, a4, a5, a6, a7⟩ := h
  obtain ⟨k1, k2, k3⟩ := hk
  have ex : μ'.1 x 1 = μ.1 x 1 := c1 x 1 (by omega) (by omega)
  have eu : μ'.1 (t + 7) 1 = μ.1 (t + 7) 1 := c1 (t + 7) 1 (by omega) (by omega)
  have en : μ'.1 21 2 = μ.1 21 2 := c1 21 2 (by omega) (by omega)
  have ep : μ'.1 20 5 = μ.1 20 5 := c1 20 5 (by omega) (by omega)
  have xx : μ'.2.2 (x + 1) = μ.2.2 (x + 1) := funext fun i => c3 (x + 1) i (by omega)
  have xw : μ'.2.2 (t + 7 + 1) = μ.2.2 (t + 7 + 1) := funext fun i => c3 (t + 7 + 1) i (by omega)
  have x22 : μ'.2.2 22 = μ.2.2 22 := funext fun i => c3 22 i (by omega)
  have x23 : μ'.2.2 23 = μ.2.2 23 := funext fun i => c3 23 i (by omega)
  have y47 : ν'.2.2 47 = ν.2.2 47 := funext fun i => k3 47 i (by omega)
  have y57 : ν'.2.2 57 = ν.2.2 57 := funext fun i => k3 57 i (by omega)
  have y62 : ν'.2.2 62 = ν.2.2 62 := funext fun i => k3 62 i (by omega)
  have y63 : ν'.2.2 63 = ν.2.2 63 := funext fun i => k3 63 i (by omega)
  have f : ∀ q, q ≠ 17 → ν'.1 46 q = ν.1 46 q := fun q hq => k1 46 q (by omega)
  refine ⟨by rw [f 3 (by omega), ex, y47, xx]; exact a1, ?_, ⟨by rw [f 16 (by omega)]; exact a3.1, h17, by rw [f 18 (by omega), eu]; exact a3.2.2.1, by rw [f 19 (by omega)]; exact a3.2.2.2.1, by rw [f 26 (by omega), en]; exact a3.2.2.2.2⟩, by rw [en, y62, y63, x22, x23]; exact a4, by rw [eu, y57, xw]; exact a5, hM, fun k k0 kk k2 => ?_⟩
  · unfold cpl
    rw [f 3 (by omega), f 15 (by omega), y47, xx, ex, ep]
    exact a2
  · by_cases z : n ≤ k
    · exact hr k z kk k2
    · rw [k3 56 (256 + k) (by omega)] at k2
      exact RR_of (a7 k k0 (by omega) k2) (fun a _ => c3 a k (by omega)) (fun a _ _ => k3 a (256 + k) (by omega)) (by rw [eu]; exact Int.le_refl _)
