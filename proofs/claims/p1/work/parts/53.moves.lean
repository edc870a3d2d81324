/-! THE PURE PART, 37: pick and type keep what holds -/
theorem Si_move {μ ν : Mem} {t : Nat} {r v n : Int} (hS : Si μ t r) (hv : 0 ≤ v ∧ v < μ.1 t 7) (hn : n = μ.2.2 (t + 6) v - v)
    (c1 : ν.1 t 7 = n) (c2 : ν.1 (t + 7) 1 = μ.1 (t + 7) 1) (c3 : ν.2.2 48 r = n)
    (h1 : ∀ j, 0 ≤ j → j < n → ν.2.2 (t + 1) j = μ.2.2 (t + 1) (v + j) ∧ ν.2.2 (t + 2) j = μ.2.2 (t + 2) (v + j) ∧ ν.2.2 (t + 3) j = μ.2.2 (t + 3) (v + j) ∧ ν.2.2 (t + 4) j = μ.2.2 (t + 4) (v + j) ∧ ν.2.2 (t + 5) j = μ.2.2 (t + 5) (v + j) ∧ ν.2.2 (t + 6) j = μ.2.2 (t + 6) (v + j) - v)
    (h8 : ν.2.2 (t + 7 + 1) = μ.2.2 (t + 7 + 1))
    (g : ∀ j, 0 ≤ j → j < n → ν.2.2 49 (128 * r + j) = μ.2.2 49 (128 * r + (v + j)) ∧ ν.2.2 50 (128 * r + j) = μ.2.2 50 (128 * r + (v + j)) ∧ ν.2.2 51 (128 * r + j) = μ.2.2 51 (128 * r + (v + j)) ∧ ν.2.2 52 (128 * r + j) = μ.2.2 52 (128 * r + (v + j)) ∧ ν.2.2 53 (128 * r + j) = μ.2.2 53 (128 * r + (v + j)) ∧ ν.2.2 54 (128 * r + j) = μ.2.2 54 (128 * r + (v + j)))
    (g57 : ν.2.2 57 = μ.2.2 57) : Si ν t r := by
  obtain ⟨k1, k2, k3, k4, k5⟩ := hS
  have gv := k3.2 v hv.1 hv.2
  have hC : ∀ k, v ≤ k → k < v + n → 0 ≤ k ∧ k < μ.1 t 7 := fun k q1 q2 => by omega
  have hI : iso (-v) (vT μ t) (vT ν t) (fun k => v ≤ k ∧ k < v + n) := by
    intro k hk
    obtain ⟨e1, e2, e3, e4, e5, e6⟩ := h1 (k + -v) (by omega) (by omega)
    rw [show v + (k + -v) = k by omega] at e1 e2 e3 e4 e5 e6
    refine ⟨⟨e1.symm, e2.symm, e5.symm, e4.symm, fun x _ _ => ?_⟩, ?_⟩
    · show μ.2.2 (t + 7 + 1) (μ.2.2 (t + 3) k + x) = ν.2.2 (t + 7 + 1) (ν.2.2 (t + 3) (k + -v) + x)
      rw [h8, e3]
    · show ν.2.2 (t + 6) (k + -v) = μ.2.2 (t + 6) k + -v
      rw [e6]
      omega
  have hR : reg (vT μ t) (fun k => v ≤ k ∧ k < v + n) := by
    intro k hk
    obtain ⟨q1, q2⟩ := hC k hk.1 hk.2
    refine ⟨(k5 k q1 q2).1.2.1, fun m hm => ?_⟩
    have z := (k3.2 k q1 q2).2.2.2.2.2 m hm
    have z2 := gv.2.2.2.1.2.2 k hk.1 (by omega)
    exact ⟨by omega, by omega⟩
  have hrow : ∀ j, 0 ≤ j → j < n → v ≤ v + j ∧ v + j < v + n := fun j q1 q2 => by omega
  refine ⟨by rw [c1]; omega, by rw [c3, c1], ?_, ?_, ?_⟩
  · rw [c1]
    refine ⟨⟨Int.le_refl 0, by omega, by rw [c2]; exact k3.1.2.2.1, by rw [c2]; exact k3.1.2.2.2⟩, fun j q1 q2 => ?_⟩
    obtain ⟨e1, e2, e3, e4, e5, e6⟩ := h1 j q1 q2
    obtain ⟨z1, z2, z3, z4, z5, z6⟩ := k3.2 (v + j) (by omega) (by omega)
    have z7 := gv.2.2.2.1.2.2 (v + j) (by omega) (by omega)
    rw [e1, e2, e3, e4, e5, e6, c2]
    refine ⟨z1, z2, z3, ⟨by omega, by omega, fun m m1 m2 => ?_⟩, z5, fun m hm => ?_⟩
    · rw [(h1 m (by omega) (by omega)).2.2.2.2.2]
      have := z4.2.2 (v + m) (by omega) (by omega)
      omega
    · have hp := pt_iso hI hR (k := v + j) (hrow j q1 q2) m (by show (m : Int) ≤ μ.2.2 (t + 5) (v + j); omega)
      rw [show v + j + -v = j by omega] at hp
      rw [hp]
      have := z6 m hm
      omega
  · intro _
    rw [c1, (h1 0 (Int.le_refl 0) (by omega)).2.2.2.2.2, Int.add_zero]
    omega
  · rw [c1]
    intro j q1 q2
    obtain ⟨e1, e2, e3, e4, e5, e6⟩ := h1 j q1 q2
    obtain ⟨f1, f2, f3, f4, f5, f6⟩ := g j q1 q2
    obtain ⟨o1, o2, o3⟩ := k5 (v + j) (by omega) (by omega)
    refine ⟨?_, ?_, ?_⟩
    · have := okv_iso hI hR 10 (v + j) (hrow j q1 q2) o1
      rwa [show v + j + -v = j by omega] at this
    · unfold rki
      rw [e1, e2, e3, e4, e5, h8]
      exact o2
    · unfold rwR
      rw [e1, e2, e3, e4, e5, e6, f1, f2, f3, f4, f5, f6, g57, h8]
      obtain ⟨r1, r2, r3, r4, r5, r6, r7⟩ := o3
      exact ⟨r1, r2, r3, r4, by omega, r6, r7⟩
/-- one slot changes, in both -/
theorem IvL_slot {μ ν : Mem} {t : Nat} {p r : Int} (k : IvL μ) (hp : p = 0 ∨ p = 1) (hT : isT t) (ht : μ.2.1 1 p.toNat = .ref t) (hA : μ.1 46 4 = 0 ∧ r = p ∨ μ.1 46 4 = 1 ∧ r = 1 - p)
    (h1 : ∀ a q, a ≠ 46 → a ≠ t → a ≠ t + 7 → ν.1 a q = μ.1 a q) (h2 : ν.2.1 = μ.2.1) (h3 : ∀ a, a < 47 → ¬ (t + 1 ≤ a ∧ a ≤ t + 8) → ν.2.2 a = μ.2.2 a) (h47 : ν.2.2 47 = μ.2.2 47) (h4 : ν.1 46 1 = μ.1 46 1 ∧ ν.1 46 3 = μ.1 46 3 ∧ ν.1 46 4 = μ.1 46 4)
    (hg : (0 ≤ ν.1 (t + 7) 1 ∧ ν.1 (t + 7) 1 ≤ 240) ∧ ∀ k, 0 ≤ ν.2.2 (t + 7 + 1) k ∧ ν.2.2 (t + 7 + 1) k < 65536)
    (g : ∀ a, 49 ≤ a → a ≤ 54 → ∀ k, 128 * (1 - r) ≤ k → k < 128 * (1 - r) + 128 → ν.2.2 a k = μ.2.2 a k) (g48 : ν.2.2 48 (1 - r) = μ.2.2 48 (1 - r)) (g57 : ∀ k, 240 * (1 - r) ≤ k → k < 240 * (1 - r) + 240 → ν.2.2 57 k = μ.2.2 57 k) (hS : Si ν t r) : IvL ν := by
  obtain ⟨k1, ⟨x, hx, q1, q2, q3, q4⟩, k3, t0, t1, t2, a0, a1, a2, b0, b1, b2, c0, c1, c2, k4⟩ := k
  have hT' : t = 2 ∨ t = 11 ∨ t = 26 := hT
  have e : ∀ u, isT u → u ≠ t → Si μ u (1 - r) → Si ν u (1 - r) := fun u hu hn z => by
    have hu : u = 2 ∨ u = 11 ∨ u = 26 := hu
    exact Si_fine (fun a z1 z2 => h3 a (by omega) (by omega)) g g48 g57 (h1 _ _ (by omega) (by omega) (by omega)) (h1 _ _ (by omega) (by omega) (by omega)) z
  refine ⟨fun a n ha => ?_, ⟨x, hx, ?_⟩, ?_, t0, t1, t2, a0, a1, a2, b0, b1, b2, by rw [h2]; exact c0, by rw [h2]; exact c1, by rw [h2]; exact c2, ?_⟩
  · have hb : a < 46 ∧ (a = 9 ∨ a = 18 ∨ a = 33 ∨ a = 42 ∨ a = 44 ∨ a = 39) := by rcases ha with ⟨z, _⟩ | ⟨z, _⟩ <;> omega
    by_cases hat : a = t + 7
    · subst hat
      have hn : n = 240 := by rcases ha with ⟨_, z⟩ | ⟨z, _⟩ <;> omega
      subst hn
      exact hg
    · rw [h1 a 1 (by omega) (by omega) hat, h3 (a + 1) (by omega) (by omega)]
      exact k1 a n ha
  · unfold Ti
    rw [h2, h4.2.1, h1 x 1 (by omega) (by omega) (by omega), h47, h3 (x + 1) (by omega) (by omega)]
    exact ⟨q1, q2, q3, q4⟩
  · rw [h1 20 6 (by omega) (by omega) (by omega), h4.1]; exact k3
  · rw [h4.2.2]
    rcases hp with rfl | rfl
    · have ht0 : t0 = t := by
        have : (Value.ref t0) = .ref t := c0.symm.trans ht
        cases this
        rfl
      subst ht0
      rcases k4 with ⟨z, z1, z2⟩ | ⟨z, z1, z2⟩
      · have hr : r = 0 := by omega
        subst hr
        exact Or.inl ⟨z, hS, e _ a1 (fun w => b0 w.symm) z2⟩
      · have hr : r = 1 := by omega
        subst hr
        exact Or.inr ⟨z, hS, e _ a1 (fun w => b0 w.symm) z2⟩
    · have ht0 : t1 = t := by
        have : (Value.ref t1) = .ref t := c1.symm.trans ht
        cases this
        rfl
      subst ht0
      rcases k4 with ⟨z, z1, z2⟩ | ⟨z, z1, z2⟩
      · have hr : r = 1 := by omega
        subst hr
        exact Or.inl ⟨z, e _ a0 b0 z1, hS⟩
      · have hr : r = 0 := by omega
        subst hr
        exact Or.inr ⟨z, e _ a0 b0 z1, hS⟩
theorem IvL_pick {μ : Mem} {t : Nat} {p r v n : Int} (k : IvL μ) (hp : p = 0 ∨ p = 1) (hT : isT t) (ht : μ.2.1 1 p.toNat = .ref t) (hA : μ.1 46 4 = 0 ∧ r = p ∨ μ.1 46 4 = 1 ∧ r = 1 - p) (hS : Si μ t r) (hv : 0 ≤ v ∧ v < μ.1 t 7) (hn : n = μ.2.2 (t + 6) v - v) : IvL (stA (tko (stI (stA (stI (kpo μ t v n) t 7 n) 73 0 n) 46 0 0) r (128 * r + v) 0 n) 48 r n) := by
  have hT' : t = 2 ∨ t = 11 ∨ t = 26 := hT
  have hr : r = 0 ∨ r = 1 := by omega
  have gv := hS.2.2.1.2 v hv.1 hv.2
  have e0 : ∀ a, ¬ (49 ≤ a ∧ a ≤ 54) → a ≠ 48 → a ≠ 73 → ¬ (t + 1 ≤ a ∧ a ≤ t + 6) → (stA (tko (stI (stA (stI (kpo μ t v n) t 7 n) 73 0 n) 46 0 0) r (128 * r + v) 0 n) 48 r n).2.2 a = μ.2.2 a := by
    intro a z1 z2 z3 z4
    funext m
    simp only [stA, stI, tko, kpo]
    rw [if_neg (by omega), if_neg (by omega), if_neg (by omega), if_neg (by omega)]
  have e1 : ∀ a j, t + 1 ≤ a → a ≤ t + 6 → 0 ≤ j → j < n → (stA (tko (stI (stA (stI (kpo μ t v n) t 7 n) 73 0 n) 46 0 0) r (128 * r + v) 0 n) 48 r n).2.2 a j = (if a = t + 6 then μ.2.2 a (v + j) - v else μ.2.2 a (v + j)) := by
    intro a j z1 z2 z3 z4
    simp only [stA, stI, tko, kpo]
    rw [if_neg (by omega), if_neg (by omega), if_neg (by omega), if_pos (by omega)]
  have e2 : ∀ a j, 49 ≤ a → a ≤ 54 → 0 ≤ j → j < n → (stA (tko (stI (stA (stI (kpo μ t v n) t 7 n) 73 0 n) 46 0 0) r (128 * r + v) 0 n) 48 r n).2.2 a (128 * r + j) = μ.2.2 a (128 * r + (v + j)) := by
    intro a j z1 z2 z3 z4
    simp only [stA, stI, tko, kpo]
    rw [if_neg (by omega), if_pos (by omega), show 128 * r + v + (128 * r + j - 128 * r) = 128 * r + (v + j) by omega, if_neg (show ¬ (a = 73 ∧ 128 * r + (v + j) = 0) by omega), if_neg (show ¬ (0 ≤ 128 * r + (v + j) ∧ 128 * r + (v + j) < n ∧ (a = t + 1 ∨ a = t + 2 ∨ a = t + 3 ∨ a = t + 4 ∨ a = t + 5 ∨ a = t + 6)) by omega), Int.add_zero]
    split <;> rfl
  have e3 : ∀ a m, 49 ≤ a → a ≤ 54 → 128 * (1 - r) ≤ m → m < 128 * (1 - r) + 128 → (stA (tko (stI (stA (stI (kpo μ t v n) t 7 n) 73 0 n) 46 0 0) r (128 * r + v) 0 n) 48 r n).2.2 a m = μ.2.2 a m := by
    intro a m z1 z2 z3 z4
    have := hS.1
    simp only [stA, stI, tko, kpo]
    rw [if_neg (by omega), if_neg (by omega), if_neg (by omega), if_neg (by omega)]
  have f0 : ∀ a q, a ≠ 46 → a ≠ t → (stA (tko (stI (stA (stI (kpo μ t v n) t 7 n) 73 0 n) 46 0 0) r (128 * r + v) 0 n) 48 r n).1 a q = μ.1 a q := by
    intro a q z1 z2
    simp only [stA, stI, tko, kpo]
    rw [if_neg (by omega), if_neg (by omega)]
  refine IvL_slot k hp hT ht hA (fun a q z1 z2 _ => f0 a q z1 z2) rfl (fun a z1 z2 => e0 a (by omega) (by omega) (by omega) (by omega)) (e0 47 (by omega) (by omega) (by omega) (by omega)) ⟨?_, ?_, ?_⟩ ?_ (fun a z1 z2 m z3 z4 => e3 a m z1 z2 z3 z4) ?_ (fun m _ _ => by rw [e0 57 (by omega) (by omega) (by omega) (by omega)]) ?_
  · simp only [stA, stI, tko, kpo]
    rw [if_neg (by omega), if_neg (by omega)]
  · simp only [stA, stI, tko, kpo]
    rw [if_neg (by omega), if_neg (by omega)]
  · simp only [stA, stI, tko, kpo]
    rw [if_neg (by omega), if_neg (by omega)]
  · rw [f0 (t + 7) 1 (by omega) (by omega), e0 (t + 7 + 1) (by omega) (by omega) (by omega) (by omega)]
    exact k.1 _ _ hT.toL
  · simp only [stA, stI, tko, kpo]
    rw [if_neg (by omega), if_neg (by omega), if_neg (by omega), if_neg (by omega)]
  · refine Si_move hS hv hn ?_ (f0 _ _ (by omega) (by omega)) ?_ (fun j z1 z2 => ?_) (e0 _ (by omega) (by omega) (by omega) (by omega)) (fun j z1 z2 => ⟨e2 _ _ (by omega) (by omega) z1 z2, e2 _ _ (by omega) (by omega) z1 z2, e2 _ _ (by omega) (by omega) z1 z2, e2 _ _ (by omega) (by omega) z1 z2, e2 _ _ (by omega) (by omega) z1 z2, e2 _ _ (by omega) (by omega) z1 z2⟩) (e0 57 (by omega) (by omega) (by omega) (by omega))
    · show (if t = 46 ∧ 7 = 0 then (0 : Int) else if t = t ∧ 7 = 7 then n else μ.1 t 7) = n
      rw [if_neg (by omega), if_pos ⟨rfl, rfl⟩]
    · exact if_pos ⟨rfl, rfl⟩
    · rw [e1 (t + 1) j (by omega) (by omega) z1 z2, e1 (t + 2) j (by omega) (by omega) z1 z2, e1 (t + 3) j (by omega) (by omega) z1 z2, e1 (t + 4) j (by omega) (by omega) z1 z2, e1 (t + 5) j (by omega) (by omega) z1 z2, e1 (t + 6) j (by omega) (by omega) z1 z2]
      rw [if_neg (by omega), if_neg (by omega), if_neg (by omega), if_neg (by omega), if_neg (by omega), if_pos rfl]
      exact ⟨rfl, rfl, rfl, rfl, rfl, rfl⟩
/-- the texts of two memories -/
def Tr (x : Nat) (μ ν : Mem) : Prop := ν.1 46 3 = μ.1 x 1 ∧ 0 ≤ μ.1 x 1 ∧ (∀ k, 0 ≤ μ.2.2 (x + 1) k ∧ μ.2.2 (x + 1) k < 65536) ∧ ∀ k, 0 ≤ k → k < μ.1 x 1 → ν.2.2 47 k = μ.2.2 (x + 1) k ∧ 32 ≤ μ.2.2 (x + 1) k ∧ μ.2.2 (x + 1) k ≤ 126
theorem Tr_1 {x : Nat} {μ ν : Mem} {c : Int} (hc : ¬ bad c) (hc0 : 0 ≤ c ∧ c ≤ 255) (h : Tr x μ ν) : Tr x (ty1 μ (x + 1) x 1 c) (ty1 ν 47 46 3 c) := by
  unfold ty1
  by_cases h0 : c = 0
  · rw [if_pos h0, if_pos h0]; exact h
  · rw [if_neg h0, if_neg h0]
    obtain ⟨h1, h2, h3, h4⟩ := h
    have hc1 : 32 ≤ c ∧ c ≤ 126 := by
      unfold bad at hc
      omega
    refine ⟨?_, ?_, fun k => ?_, fun k k0 k1 => ?_⟩
    · show (if 46 = 46 ∧ 3 = 3 then ν.1 46 3 + 1 else ν.1 46 3) = (if x = x ∧ 1 = 1 then μ.1 x 1 + 1 else μ.1 x 1)
      rw [if_pos ⟨rfl, rfl⟩, if_pos ⟨rfl, rfl⟩, h1]
    · show 0 ≤ (if x = x ∧ 1 = 1 then μ.1 x 1 + 1 else μ.1 x 1)
      rw [if_pos ⟨rfl, rfl⟩]
      omega
    · show 0 ≤ (if x + 1 = x + 1 ∧ k = μ.1 x 1 then c else μ.2.2 (x + 1) k) ∧ (if x + 1 = x + 1 ∧ k = μ.1 x 1 then c else μ.2.2 (x + 1) k) < 65536
      split
      · omega
      · exact h3 k
    · have k1 : k < (if x = x ∧ 1 = 1 then μ.1 x 1 + 1 else μ.1 x 1) := k1
      rw [if_pos ⟨rfl, rfl⟩] at k1
      show (if 47 = 47 ∧ k = ν.1 46 3 then c else ν.2.2 47 k) = (if x + 1 = x + 1 ∧ k = μ.1 x 1 then c else μ.2.2 (x + 1) k) ∧ 32 ≤ (if x + 1 = x + 1 ∧ k = μ.1 x 1 then c else μ.2.2 (x + 1) k) ∧ (if x + 1 = x + 1 ∧ k = μ.1 x 1 then c else μ.2.2 (x + 1) k) ≤ 126
      by_cases hk : k = μ.1 x 1
      · rw [if_pos ⟨rfl, by omega⟩, if_pos ⟨rfl, hk⟩]
        exact ⟨rfl, hc1⟩
      · rw [if_neg (by omega), if_neg (by omega)]
        exact h4 k k0 (by omega)
theorem Tr_f {x : Nat} {μ ν : Mem} {c : Int → Int} (hc : ∀ j, 0 ≤ j → j ≤ 24 → j % 8 = 0 → ¬ bad (c j)) (hc0 : ∀ j, 0 ≤ c j ∧ c j ≤ 255) (h : Tr x μ ν) : Tr x (tyf μ (x + 1) x 1 c 24) (tyf ν 47 46 3 c 24) :=
  Tr_1 (hc 0 (by decide) (by decide) (by decide)) (hc0 0) (Tr_1 (hc 8 (by decide) (by decide) (by decide)) (hc0 8) (Tr_1 (hc 16 (by decide) (by decide) (by decide)) (hc0 16) (Tr_1 (hc 24 (by decide) (by decide) (by decide)) (hc0 24) h)))
theorem ty1_o {μ : Mem} {r q f : Nat} {c : Int} : (∀ a m, a ≠ q → (ty1 μ r q f c).1 a m = μ.1 a m) ∧ (∀ m, m ≠ f → (ty1 μ r q f c).1 q m = μ.1 q m) ∧ (ty1 μ r q f c).2.1 = μ.2.1 ∧ (∀ a, a ≠ r → (ty1 μ r q f c).2.2 a = μ.2.2 a) ∧ (ty1 μ r q f c).1 q f = μ.1 q f + nz c := by
  unfold ty1 nz
  by_cases h0 : c = 0
  · rw [if_pos h0, if_pos h0]
    exact ⟨fun _ _ _ => rfl, fun _ _ => rfl, rfl, fun _ _ => rfl, by omega⟩
  · rw [if_neg h0, if_neg h0]
    refine ⟨fun a m ha => if_neg (fun z => ha z.1), fun m hm => if_neg (fun z => hm z.2), rfl, fun a ha => ?_, if_pos ⟨rfl, rfl⟩⟩
    funext m
    exact if_neg (fun z => ha z.1)
theorem tyf_o {μ : Mem} {r q f : Nat} {c : Int → Int} : (∀ a m, a ≠ q → (tyf μ r q f c 24).1 a m = μ.1 a m) ∧ (∀ m, m ≠ f → (tyf μ r q f c 24).1 q m = μ.1 q m) ∧ (tyf μ r q f c 24).2.1 = μ.2.1 ∧ (∀ a, a ≠ r → (tyf μ r q f c 24).2.2 a = μ.2.2 a) ∧ (tyf μ r q f c 24).1 q f = μ.1 q f + cnt c 24 := by
  show (∀ a m, a ≠ q → (ty1 (ty1 (ty1 (ty1 μ r q f (c 24)) r q f (c 16)) r q f (c 8)) r q f (c 0)).1 a m = μ.1 a m) ∧ (∀ m, m ≠ f → (ty1 (ty1 (ty1 (ty1 μ r q f (c 24)) r q f (c 16)) r q f (c 8)) r q f (c 0)).1 q m = μ.1 q m) ∧ (ty1 (ty1 (ty1 (ty1 μ r q f (c 24)) r q f (c 16)) r q f (c 8)) r q f (c 0)).2.1 = μ.2.1 ∧ (∀ a, a ≠ r → (ty1 (ty1 (ty1 (ty1 μ r q f (c 24)) r q f (c 16)) r q f (c 8)) r q f (c 0)).2.2 a = μ.2.2 a) ∧ (ty1 (ty1 (ty1 (ty1 μ r q f (c 24)) r q f (c 16)) r q f (c 8)) r q f (c 0)).1 q f = μ.1 q f + cnt c 24
  refine ⟨fun a m ha => ?_, fun m hm => ?_, ?_, fun a ha => ?_, ?_⟩
  · rw [ty1_o.1 a m ha, ty1_o.1 a m ha, ty1_o.1 a m ha, ty1_o.1 a m ha]
  · rw [ty1_o.2.1 m hm, ty1_o.2.1 m hm, ty1_o.2.1 m hm, ty1_o.2.1 m hm]
  · rw [ty1_o.2.2.1, ty1_o.2.2.1, ty1_o.2.2.1, ty1_o.2.2.1]
  · rw [ty1_o.2.2.2.1 a ha, ty1_o.2.2.2.1 a ha, ty1_o.2.2.2.1 a ha, ty1_o.2.2.2.1 a ha]
  · rw [ty1_o.2.2.2.2, ty1_o.2.2.2.2, ty1_o.2.2.2.2, ty1_o.2.2.2.2]
    show μ.1 q f + nz (c 24) + nz (c 16) + nz (c 8) + nz (c 0) = μ.1 q f + (nz (c 0) + nz (c 8) + nz (c 16) + nz (c 24))
    omega
theorem IvL_type {μ : Mem} {x : Nat} {c : Int → Int} (hx : x = 42 ∨ x = 44) (k : IvL μ) (ht : μ.2.1 0 3 = .ref x) (hc : ∀ j, 0 ≤ j → j ≤ 24 → j % 8 = 0 → ¬ bad (c j)) (hc0 : ∀ j, 0 ≤ c j ∧ c j ≤ 255) (hn : μ.1 x 1 + cnt c 24 ≤ 240) : IvL (tyf (stI (tyf μ (x + 1) x 1 c 24) 46 0 0) 47 46 3 c 24) := by
  obtain ⟨k1, ⟨y, hy, q1, q2, q3, q4⟩, k3⟩ := id k
  rw [ht] at q1
  cases q1
  have hL : isL x 240 := Or.inl ⟨by omega, rfl⟩
  have hT : Tr x μ (stI (tyf μ (x + 1) x 1 c 24) 46 0 0) := by
    refine ⟨?_, (k1 x 240 hL).1.1, (k1 x 240 hL).2, fun k k0 k1 => ?_⟩
    · show (if 46 = 46 ∧ 3 = 0 then 0 else (tyf μ (x + 1) x 1 c 24).1 46 3) = _
      rw [if_neg (by omega), tyf_o.1 46 3 (by omega)]
      exact q3
    · have : (stI (tyf μ (x + 1) x 1 c 24) 46 0 0).2.2 47 = μ.2.2 47 := tyf_o.2.2.2.1 47 (by omega)
      rw [this]
      exact q4 k k0 k1
  have hT2 := Tr_f hc hc0 hT
  have w1 : ∀ a q, a ≠ 46 → (tyf (stI (tyf μ (x + 1) x 1 c 24) 46 0 0) 47 46 3 c 24).1 a q = (tyf μ (x + 1) x 1 c 24).1 a q := fun a q ha => by
    rw [tyf_o.1 a q ha]
    exact if_neg (fun z => ha z.1)
  have w3 : ∀ a, a ≠ 47 → (tyf (stI (tyf μ (x + 1) x 1 c 24) 46 0 0) 47 46 3 c 24).2.2 a = (tyf μ (x + 1) x 1 c 24).2.2 a := fun a ha => tyf_o.2.2.2.1 a ha
  have w5 : ∀ q, q ≠ 0 → q ≠ 3 → (tyf (stI (tyf μ (x + 1) x 1 c 24) 46 0 0) 47 46 3 c 24).1 46 q = μ.1 46 q := fun q h0 h3 => by
    rw [tyf_o.2.1 q h3]
    show (if 46 = 46 ∧ q = 0 then 0 else (tyf μ (x + 1) x 1 c 24).1 46 q) = _
    rw [if_neg (fun z => h0 z.2), tyf_o.1 46 q (by omega)]
  refine IvL_text hx k ht (fun a q z1 z2 => by rw [w1 a q z1, tyf_o.1 a q z2]) ?_ (fun a z1 z2 => by rw [w3 a z1, tyf_o.2.2.2.1 a z2]) ⟨w5 1 (by omega) (by omega), w5 4 (by omega) (by omega)⟩ ⟨?_, ?_, ?_⟩ ?_ ?_
  · rw [tyf_o.2.2.1]
    exact tyf_o.2.2.1
  · rw [w1 x 1 (by omega)]; exact hT2.2.1
  · rw [w1 x 1 (by omega), tyf_o.2.2.2.2]; exact hn
  · rw [w1 x 1 (by omega)]; exact hT2.1
  · rw [w3 (x + 1) (by omega)]; exact hT2.2.2.1
  · rw [w1 x 1 (by omega), w3 (x + 1) (by omega)]; exact hT2.2.2.2
theorem IvL_wipe {μ : Mem} {x : Nat} (hx : x = 42 ∨ x = 44) (k : IvL μ) (ht : μ.2.1 0 3 = .ref x) : IvL (stI (stI (stI μ x 1 0) 46 0 0) 46 3 0) := by
  have hL : isL x 240 := Or.inl ⟨by omega, rfl⟩
  have e : (stI (stI (stI μ x 1 0) 46 0 0) 46 3 0).1 x 1 = 0 := by
    show (if x = 46 ∧ 1 = 3 then (0 : Int) else if x = 46 ∧ 1 = 0 then 0 else if x = x ∧ 1 = 1 then 0 else μ.1 x 1) = 0
    rw [if_neg (by omega), if_neg (by omega), if_pos ⟨rfl, rfl⟩]
  refine IvL_text hx k ht (fun a q z1 z2 => ?_) rfl (fun a _ _ => rfl) ⟨?_, ?_⟩ ⟨by omega, by omega, by rw [e]; rfl⟩ (k.1 x 240 hL).2 (fun k k0 k1 => by omega)
  · simp only [stI]
    rw [if_neg (by omega), if_neg (by omega), if_neg (by omega)]
  · simp only [stI]
    rw [if_neg (by omega), if_neg (by omega), if_neg (by omega)]
  · simp only [stI]
    rw [if_neg (by omega), if_neg (by omega), if_neg (by omega)]
