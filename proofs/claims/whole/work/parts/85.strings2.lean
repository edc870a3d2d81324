/-! THE PURE PART, 67: a string gets its meaning in both -/
theorem mn_sp {w : Int → Int} {s : Int} (hs : 0 ≤ s) (hw : ∀ i, 0 ≤ i → i < s → 32 ≤ w i ∧ w i ≤ 126) {k v a z : Int} (h : mn w s = some (k, v, a, z)) : (0 ≤ k ∧ k ≤ 12) ∧ (k ≠ 12 → k ≤ 7) ∧ (k ≠ 12 → k = 4 ∨ k = 5 ∨ k = 6 ∨ z = 0) ∧ (0 ≤ a ∧ 0 ≤ z ∧ a + z ≤ s) ∧ (-9223372036854775808 ≤ v ∧ v < 9223372036854775808) ∧ (k = 7 → 32 ≤ v ∧ v ≤ 126) ∧ (k = 12 → 2 ≤ s) := by
  have hl : ∀ i, 0 ≤ i → wl w s i ≠ -1 → i < s ∧ 32 ≤ wl w s i ∧ wl w s i ≤ 126 := fun i i0 hi => by
    unfold wl at hi ⊢
    by_cases y : i < s
    · rw [if_pos y]
      exact ⟨y, hw i i0 y⟩
    · rw [if_neg y] at hi
      exact absurd rfl hi
  have hnm : ∀ x, nmb w 2 s = some x → -9223372036854775808 ≤ x ∧ x < 9223372036854775808 := fun x hx => by
    unfold nmb at hx
    split at hx
    · rename_i y
      cases hx
      exact scn_in y.2.1
    · cases hx
  unfold mn at h
  by_cases c0 : wl w s 0 = 94 ∨ wl w s 0 = 96
  · rw [if_pos c0] at h
    cases h
  rw [if_neg c0] at h
  by_cases c1 : wl w s 0 ≠ 126
  · rw [if_pos c1] at h
    cases h
    exact ⟨by decide, fun _ => by decide, fun _ => Or.inl rfl, by omega, by decide, fun y => absurd y (by decide), fun y => absurd y (by decide)⟩
  rw [if_neg c1] at h
  have hf0 : wl w s 0 = 126 := Decidable.byContradiction c1
  by_cases c2 : wl w s 1 = 126 ∨ wl w s 1 = 94 ∨ wl w s 1 = 96
  · rw [if_pos c2] at h
    have := (hl 1 (by decide) (by omega)).1
    cases h
    exact ⟨by decide, fun _ => by decide, fun _ => Or.inl rfl, by omega, by decide, fun y => absurd y (by decide), fun y => absurd y (by decide)⟩
  rw [if_neg c2] at h
  by_cases c3 : wl w s 1 = 95
  · rw [if_pos c3] at h
    by_cases z2 : s = 2
    · rw [if_pos z2] at h
      cases h
      exact ⟨by decide, fun _ => by decide, fun _ => Or.inr (Or.inr (Or.inr rfl)), by omega, by decide, fun y => absurd y (by decide), fun y => absurd y (by decide)⟩
    · rw [if_neg z2] at h
      cases h
  rw [if_neg c3] at h
  by_cases c4 : wl w s 1 = 63
  · rw [if_pos c4] at h
    by_cases z2 : s = 3 ∧ (wl w s 2 = 116 ∨ wl w s 2 = 102)
    · rw [if_pos z2] at h
      cases h
      refine ⟨by decide, fun _ => by decide, fun _ => Or.inr (Or.inr (Or.inr rfl)), by omega, ?_, fun y => absurd y (by decide), fun y => absurd y (by decide)⟩
      by_cases z3 : wl w s 2 = 116
      · rw [if_pos z3]; decide
      · rw [if_neg z3]; decide
    · rw [if_neg z2] at h
      cases h
  rw [if_neg c4] at h
  by_cases c5 : wl w s 1 = 105
  · rw [if_pos c5] at h
    cases hx : nmb w 2 s with
    | none => rw [hx] at h; cases h
    | some x =>
      rw [hx] at h
      cases h
      exact ⟨by decide, fun _ => by decide, fun _ => Or.inr (Or.inr (Or.inr rfl)), by omega, hnm _ hx, fun y => absurd y (by decide), fun y => absurd y (by decide)⟩
  rw [if_neg c5] at h
  by_cases c6 : wl w s 1 = 109
  · rw [if_pos c6] at h
    cases hx : nmb w 2 s with
    | none => rw [hx] at h; cases h
    | some x =>
      rw [hx] at h
      cases h
      exact ⟨by decide, fun _ => by decide, fun _ => Or.inr (Or.inr (Or.inr rfl)), by omega, hnm _ hx, fun y => absurd y (by decide), fun y => absurd y (by decide)⟩
  rw [if_neg c6] at h
  by_cases c7 : wl w s 1 = 58
  · rw [if_pos c7] at h
    by_cases z2 : 2 < s
    · rw [if_pos z2] at h
      cases h
      exact ⟨by decide, fun _ => by decide, fun _ => Or.inr (Or.inl rfl), by omega, by decide, fun y => absurd y (by decide), fun y => absurd y (by decide)⟩
    · rw [if_neg z2] at h
      cases h
  rw [if_neg c7] at h
  by_cases c8 : wl w s 1 = 36
  · rw [if_pos c8] at h
    by_cases z2 : 2 < s
    · rw [if_pos z2] at h
      cases h
      exact ⟨by decide, fun _ => by decide, fun _ => Or.inr (Or.inr (Or.inl rfl)), by omega, by decide, fun y => absurd y (by decide), fun y => absurd y (by decide)⟩
    · rw [if_neg z2] at h
      cases h
  rw [if_neg c8] at h
  by_cases c9 : wl w s 1 = 99
  · rw [if_pos c9] at h
    by_cases z2 : s = 3
    · rw [if_pos z2] at h
      have h2 : wl w s 2 = w 2 := if_pos (by omega)
      have h3 := hw 2 (by decide) (by omega)
      rw [h2] at h
      cases h
      exact ⟨by decide, fun _ => by decide, fun _ => Or.inr (Or.inr (Or.inr rfl)), by omega, by omega, fun _ => h3, fun y => absurd y (by decide)⟩
    · rw [if_neg z2] at h
      cases h
  rw [if_neg c9] at h
  by_cases c10 : 97 ≤ wl w s 1 ∧ wl w s 1 ≤ 122 ∨ 65 ≤ wl w s 1 ∧ wl w s 1 ≤ 90
  · rw [if_pos c10] at h
    have := (hl 1 (by decide) (by omega)).1
    cases h
    exact ⟨by decide, fun y => absurd rfl y, fun y => absurd rfl y, by omega, by decide, fun y => absurd y (by decide), fun _ => by omega⟩
  · rw [if_neg c10] at h
    cases h
theorem nux_CI {t x : Nat} (hT : isT t) (hX : x = 42 ∨ x = 44) {μ ν : Mem} (h : nux μ ν) (hC : CI t x μ) : CI t x ν := by
  obtain ⟨h1, h2⟩ := nux_o h
  unfold isT at hT
  exact CI_of hC (h1 _ _ (by omega)) (h1 _ _ (by omega)) (h1 _ _ (by omega)) (by rw [h2]) (by rw [h2]) (by rw [h2]) (by rw [h2]) (by rw [h2]) (by rw [h1 20 5 (by omega)]; have := hC.2.2.2.2.1; have := hC.2.2.2.2.2.1; omega) (by rw [h1 t 7 (by omega)]; exact hC.2.2.2.2.2.2.2.2.2.2)
theorem nux_Kp {t : Nat} (hT : isT t) {μ ν : Mem} (h : nux μ ν) (n : Int) : Kp t n μ ν := by
  obtain ⟨h1, h2⟩ := nux_o h
  unfold isT at hT
  exact ⟨⟨fun a q _ _ h3 _ _ => h1 a q h3, by rw [h2], fun a _ _ _ _ => by rw [h2]⟩, fun a k _ _ => by rw [h2], fun k _ => by rw [h2], by rw [h1 (t + 7) 1 (by omega)]; exact Int.le_refl _, by rw [h1 20 5 (by omega)]; exact Int.le_refl _, h1 20 6 (by omega)⟩
/-- the memory with a value that has a tag and was one string -/
def tgM (μ : Mem) (t : Nat) (f s q : Int) : Mem := cls (adw (adw μ t 12 0 (f + 1) 1 q) t 4 0 (f + 2) (s - 2) q) t (μ.1 t 7) 12 1
theorem tgM_f {μ : Mem} {t : Nat} (hT : isT t) {n f s q : Int} (hn : μ.1 t 7 = n) : ((tgM μ t f s q).2.2 (t + 1) n = 12 ∧ (tgM μ t f s q).2.2 (t + 2) n = 0 ∧ (tgM μ t f s q).2.2 (t + 3) n = f + 1 ∧ (tgM μ t f s q).2.2 (t + 4) n = 1 ∧ (tgM μ t f s q).2.2 (t + 5) n = 1 ∧ (tgM μ t f s q).2.2 (t + 6) n = n + 2 ∧ (tgM μ t f s q).2.2 25 n = q) ∧ ((tgM μ t f s q).2.2 (t + 1) (n + 1) = 4 ∧ (tgM μ t f s q).2.2 (t + 2) (n + 1) = 0 ∧ (tgM μ t f s q).2.2 (t + 3) (n + 1) = f + 2 ∧ (tgM μ t f s q).2.2 (t + 4) (n + 1) = s - 2 ∧ (tgM μ t f s q).2.2 (t + 5) (n + 1) = 0 ∧ (tgM μ t f s q).2.2 (t + 6) (n + 1) = n + 2 ∧ (tgM μ t f s q).2.2 25 (n + 1) = q) ∧ (tgM μ t f s q).1 t 7 = n + 2 ∧ (∀ a p, ¬ (a = t ∧ p = 7) → (tgM μ t f s q).1 a p = μ.1 a p) ∧ (tgM μ t f s q).2.1 = μ.2.1 ∧ ∀ a i, ¬ ((t + 1 ≤ a ∧ a ≤ t + 6 ∨ a = 25) ∧ n ≤ i) → (tgM μ t f s q).2.2 a i = μ.2.2 a i := by
  obtain ⟨⟨r1, r2, r3, r4, r5, r6, r7⟩, rc, rI, rR, rA⟩ := adw_f (μ := μ) hT (k := 12) (v := 0) (f := f + 1) (z := 1) (s := q)
  obtain ⟨⟨s1, s2, s3, s4, s5, s6, s7⟩, sc, sI, sR, sA⟩ := adw_f (μ := adw μ t 12 0 (f + 1) 1 q) hT (k := 4) (v := 0) (f := f + 2) (z := s - 2) (s := q)
  rw [hn] at r1 r2 r3 r4 r5 r6 r7 rc rA
  rw [rc] at s1 s2 s3 s4 s5 s6 s7 sc sA
  unfold isT at hT
  have o : ∀ a i, i = n → (adw (adw μ t 12 0 (f + 1) 1 q) t 4 0 (f + 2) (s - 2) q).2.2 a i = (adw μ t 12 0 (f + 1) 1 q).2.2 a i := fun a i hi => sA a i (by omega)
  have e : ∀ a i, ¬ ((a = t + 1 ∨ a = t + 5 ∨ a = t + 6) ∧ i = n) → (tgM μ t f s q).2.2 a i = (adw (adw μ t 12 0 (f + 1) 1 q) t 4 0 (f + 2) (s - 2) q).2.2 a i := fun a i hz => by
    unfold tgM cls
    rw [hn, stA_ne (by omega), stA_ne (by omega), stA_ne (by omega)]
  have e1 : (tgM μ t f s q).1 = (adw (adw μ t 12 0 (f + 1) 1 q) t 4 0 (f + 2) (s - 2) q).1 := rfl
  refine ⟨⟨?_, ?_, ?_, ?_, ?_, ?_, ?_⟩, ⟨?_, ?_, ?_, ?_, ?_, ?_, ?_⟩, ?_, fun a p hz => ?_, ?_, fun a i hz => ?_⟩
  · unfold tgM cls
    rw [hn, stA_o2 (by omega), stA_o2 (by omega), stA_at]
  · rw [e _ _ (by omega), o _ _ rfl]; exact r2
  · rw [e _ _ (by omega), o _ _ rfl]; exact r3
  · rw [e _ _ (by omega), o _ _ rfl]; exact r4
  · unfold tgM cls
    rw [hn, stA_o2 (by omega), stA_at]
  · unfold tgM cls
    rw [hn, stA_at, sc]
    omega
  · rw [e _ _ (by omega), o _ _ rfl]; exact r7
  · rw [e _ _ (by omega)]; exact s1
  · rw [e _ _ (by omega)]; exact s2
  · rw [e _ _ (by omega)]; exact s3
  · rw [e _ _ (by omega)]; exact s4
  · rw [e _ _ (by omega)]; exact s5
  · rw [e _ _ (by omega), s6]; omega
  · rw [e _ _ (by omega)]; exact s7
  · rw [e1, sc]; omega
  · rw [e1, sI a p hz, rI a p hz]
  · show (adw (adw μ t 12 0 (f + 1) 1 q) t 4 0 (f + 2) (s - 2) q).2.1 = _
    rw [sR, rR]
  · rw [e a i (by omega), sA a i (by omega), rA a i (by omega)]
theorem GV_tag {t x : Nat} (hT : isT t) (hX : x = 42 ∨ x = 44) {μ : Mem} (hC : CI t x μ) {n f s q : Int} (hn : μ.1 t 7 = n ∧ n ≤ 230) (hw : 0 ≤ f ∧ 2 ≤ s ∧ f + s ≤ μ.1 (t + 7) 1) (hs : 0 ≤ q ∧ q ≤ 240) (e : Nat) : CI t x (tgM μ t f s q) ∧ Kp t n μ (tgM μ t f s q) ∧ GV t (e + 2) n (tgM μ t f s q) := by
  obtain ⟨⟨r1, r2, r3, r4, r5, r6, r7⟩, ⟨s1, s2, s3, s4, s5, s6, s7⟩, rc, rI, rR, rA⟩ := tgM_f (μ := μ) hT (f := f) (s := s) (q := q) hn.1
  unfold isT at hT
  have c11 := hC.2.2.2.2.2.2.2.2.2.2
  have aw : (tgM μ t f s q).2.2 (t + 7 + 1) = μ.2.2 (t + 7 + 1) := funext fun i => rA _ i (by omega)
  have eu := rI (t + 7) 1 (by omega)
  have hu := hC.2.2.2.2.2.1
  have hpl := hC.2.2.2.2.1
  have hsz := hC.2.1
  have hp0 : pt (vT (tgM μ t f s q) t) n 0 = n + 1 := rfl
  have ok1 : ∀ j, okv (j + 1) (vT (tgM μ t f s q) t) (n + 1) := fun j => okv_0 s5
  have ok0 : ∀ j, okv (j + 2) (vT (tgM μ t f s q) t) n := fun j => by
    refine ⟨?_, fun z => ?_, fun m hm => ?_, fun z => ?_, fun z => ?_⟩
    · show 0 ≤ (tgM μ t f s q).2.2 (t + 5) n
      rw [r5]; decide
    · have z : (tgM μ t f s q).2.2 (t + 1) n = 11 := z
      rw [r1] at z; cases z
    · have hm : (m : Int) < (tgM μ t f s q).2.2 (t + 5) n := hm
      rw [r5] at hm
      obtain rfl : m = 0 := by omega
      exact ok1 j
    · have z : (tgM μ t f s q).2.2 (t + 1) n = 10 := z
      rw [r1] at z; cases z
    · have z : (tgM μ t f s q).2.2 (t + 1) n = 11 := z
      rw [r1] at z; cases z
  refine ⟨CI_of hC (rI x 1 (by omega)) eu (rI 21 2 (by omega)) rR (funext fun i => rA _ i (by omega)) aw (funext fun i => rA _ i (by omega)) (funext fun i => rA _ i (by omega)) (by rw [rI 20 5 (by omega)]; omega) (by rw [rc]; omega), ⟨⟨fun a q h1 h2 h3 h4 h5 => rI a q (by omega), rR, fun a h1 h2 h3 h4 => funext fun i => rA a i (by omega)⟩, fun a i ha hi => rA a i (by omega), fun i hi => by rw [aw], by rw [eu]; exact Int.le_refl _, by rw [rI 20 5 (by omega)]; exact Int.le_refl _, rI 20 6 (by omega)⟩, ?_⟩
  refine ⟨by rw [rc]; omega, ⟨⟨by omega, by rw [rc]; omega, by rw [eu]; exact hu.1, by rw [eu]; omega⟩, fun i i1 i2 => ?_⟩, by rw [r6, rc], ok0 e, fun i i1 i2 => ?_⟩
  · rw [rc] at i2 ⊢
    rcases (show i = n ∨ i = n + 1 by omega) with rfl | rfl
    · refine ⟨by rw [r1]; decide, by rw [r2]; decide, by rw [r5]; decide, ⟨by rw [r6]; omega, by rw [r6]; omega, fun m m1 m2 => ?_⟩, by rw [r3, r4, eu]; omega, fun m hm => ?_⟩
      · rw [r6] at m2 ⊢
        rcases (show m = i ∨ m = i + 1 by omega) with rfl | rfl
        · rw [r6]; exact Int.le_refl _
        · rw [s6]; exact Int.le_refl _
      · rw [r5] at hm
        obtain rfl : m = 0 := by omega
        rw [r6]
        show i < i + 1 ∧ i + 1 < i + 2
        omega
    · refine ⟨by rw [s1]; decide, by rw [s2]; decide, by rw [s5]; decide, ⟨by rw [s6]; omega, by rw [s6]; omega, fun m m1 m2 => ?_⟩, by rw [s3, s4, eu]; omega, fun m hm => ?_⟩
      · rw [s6] at m2
        obtain rfl : m = n + 1 := by omega
        exact Int.le_refl _
      · rw [s5] at hm; omega
  · rw [rc] at i2
    rcases (show i = n ∨ i = n + 1 by omega) with rfl | rfl
    · refine ⟨ok0 8, ⟨fun z => by rw [r1] at z; omega, fun _ => r5, fun z => by rw [r1] at z; omega, fun j j0 j1 => ?_⟩, by rw [r7]; omega, by rw [r7]; omega⟩
      rw [r4] at j1
      rw [r3, aw]
      exact hC.2.2.2.2.2.2.2.1 _ (by omega) (by omega)
    · refine ⟨ok1 9, ⟨fun _ => ⟨s5, Or.inl s1⟩, fun z => by rw [s1] at z; omega, fun z => by rw [s1] at z; omega, fun j j0 j1 => ?_⟩, by rw [s7]; omega, by rw [s7]; omega⟩
      rw [s4] at j1
      rw [s3, aw]
      exact hC.2.2.2.2.2.2.2.1 _ (by omega) (by omega)
