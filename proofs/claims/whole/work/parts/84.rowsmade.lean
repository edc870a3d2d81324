/-! THE PURE PART, 66: rows that the class's reader makes -/
/-- a value at n0 is whole -/
def GV (t e : Nat) (n0 : Int) (μ : Mem) : Prop := n0 < μ.1 t 7 ∧ rok μ t n0 (μ.1 t 7) ∧ μ.2.2 (t + 6) n0 = μ.1 t 7 ∧ okv e (vT μ t) n0 ∧ ∀ k, n0 ≤ k → k < μ.1 t 7 → okv 10 (vT μ t) k ∧ rki μ t k ∧ 0 ≤ μ.2.2 25 k ∧ μ.2.2 25 k ≤ 240
/-- what stood before it stands -/
def Kp (t : Nat) (n0 : Int) (μ μ' : Mem) : Prop := cfr t μ μ' ∧ (∀ a k, (t + 1 ≤ a ∧ a ≤ t + 6 ∨ a = 25) → k < n0 → μ'.2.2 a k = μ.2.2 a k) ∧ (∀ k, k < μ.1 (t + 7) 1 → μ'.2.2 (t + 7 + 1) k = μ.2.2 (t + 7 + 1) k) ∧ μ.1 (t + 7) 1 ≤ μ'.1 (t + 7) 1 ∧ μ.1 20 5 ≤ μ'.1 20 5 ∧ μ'.1 20 6 = μ.1 20 6
theorem Kp_trans {t : Nat} {n m : Int} {α β γ : Mem} (h : Kp t n α β) (g : Kp t m β γ) (hn : n ≤ m) : Kp t n α γ :=
  ⟨cfr_trans h.1 g.1, fun a k ha hk => (g.2.1 a k ha (by omega)).trans (h.2.1 a k ha hk), fun k hk => (g.2.2.1 k (by have := h.2.2.2.1; omega)).trans (h.2.2.1 k hk), by have := h.2.2.2.1; have := g.2.2.2.1; omega, by have := h.2.2.2.2.1; have := g.2.2.2.2.1; omega, g.2.2.2.2.2.trans h.2.2.2.2.2⟩
theorem Kp_pl {t : Nat} (hT : isT t) {n : Int} {μ : Mem} {p : Int} (h : μ.1 20 5 ≤ p) : Kp t n μ (stI μ 20 5 p) := by
  unfold isT at hT
  exact ⟨cfr_I (Or.inl rfl), fun _ _ _ _ => rfl, fun _ _ => rfl, by rw [stI_ne (by omega)]; exact Int.le_refl _, by rw [stI_at]; exact h, stI_ne (by omega)⟩
theorem WDc.kp {t x : Nat} {μ μ1 : Mem} (h : WDc t x μ μ1) (n : Int) : Kp t n μ μ1 :=
  ⟨h.2.1, fun a k ha _ => by rw [h.2.2.1 a ha], h.2.2.2.2.1, h.2.2.2.2.2.1, by have := h.2.2.2.2.2.2.2.2.2.1; omega, h.2.2.2.2.2.2.2.2.2.2.2⟩
def EP (sc : Nat × (Nat → Int32)) (t x : Nat) (d key : Int) (e : Nat) (μ : Mem) (ρ : Nat × Nat × Nat) (o : z_O) (τ : z_T) : Prop :=
  (o = .inl none ∧ ∃ μ', τ = (hp μ', ρ) ∧ CI t x μ' ∧ Kp t (μ.1 t 7) μ μ' ∧ GV t e (μ.1 t 7) μ' ∧ 2 * μ'.1 t 7 ≤ μ'.1 20 5 + d + 1 ∧ SimE sc t x d key μ μ') ∨ (o = .inr (1, ρ.1) ∧ ∃ μ' w, τ = (hp μ', ρ.1 + 1, ρ.2.1 - 1, ρ.2.2 - 6) ∧ Cbad t μ μ' w ∧ SimX sc t x d key μ w)
/-- what adw does -/
theorem adw_f {μ : Mem} {t : Nat} (hT : isT t) {k v f z s : Int} : ((adw μ t k v f z s).2.2 (t + 1) (μ.1 t 7) = k ∧ (adw μ t k v f z s).2.2 (t + 2) (μ.1 t 7) = v ∧ (adw μ t k v f z s).2.2 (t + 3) (μ.1 t 7) = f ∧ (adw μ t k v f z s).2.2 (t + 4) (μ.1 t 7) = z ∧ (adw μ t k v f z s).2.2 (t + 5) (μ.1 t 7) = 0 ∧ (adw μ t k v f z s).2.2 (t + 6) (μ.1 t 7) = μ.1 t 7 + 1 ∧ (adw μ t k v f z s).2.2 25 (μ.1 t 7) = s) ∧ (adw μ t k v f z s).1 t 7 = μ.1 t 7 + 1 ∧ (∀ a q, ¬ (a = t ∧ q = 7) → (adw μ t k v f z s).1 a q = μ.1 a q) ∧ (adw μ t k v f z s).2.1 = μ.2.1 ∧ ∀ a i, ¬ ((t + 1 ≤ a ∧ a ≤ t + 6 ∨ a = 25) ∧ i = μ.1 t 7) → (adw μ t k v f z s).2.2 a i = μ.2.2 a i := by
  unfold isT at hT
  refine ⟨⟨?_, ?_, ?_, ?_, ?_, ?_, ?_⟩, ?_, fun a q h => ?_, rfl, fun a i h => ?_⟩
  all_goals unfold adw
  · show (if _ = _ then (if t + 1 = t + 1 then k else _) else _) = k
    rw [if_pos rfl, if_pos rfl]
  · show (if _ = _ then (if t + 2 = t + 1 then k else if t + 2 = t + 2 then v else _) else _) = v
    rw [if_pos rfl, if_neg (by omega), if_pos rfl]
  · show (if _ = _ then (if t + 3 = t + 1 then k else if t + 3 = t + 2 then v else if t + 3 = t + 3 then f else _) else _) = f
    rw [if_pos rfl, if_neg (by omega), if_neg (by omega), if_pos rfl]
  · show (if _ = _ then (if t + 4 = t + 1 then k else if t + 4 = t + 2 then v else if t + 4 = t + 3 then f else if t + 4 = t + 4 then z else _) else _) = z
    rw [if_pos rfl, if_neg (by omega), if_neg (by omega), if_neg (by omega), if_pos rfl]
  · show (if _ = _ then (if t + 5 = t + 1 then k else if t + 5 = t + 2 then v else if t + 5 = t + 3 then f else if t + 5 = t + 4 then z else if t + 5 = t + 5 then 0 else _) else _) = 0
    rw [if_pos rfl, if_neg (by omega), if_neg (by omega), if_neg (by omega), if_neg (by omega), if_pos rfl]
  · show (if _ = _ then (if t + 6 = t + 1 then k else if t + 6 = t + 2 then v else if t + 6 = t + 3 then f else if t + 6 = t + 4 then z else if t + 6 = t + 5 then 0 else if t + 6 = t + 6 then μ.1 t 7 + 1 else _) else _) = _
    rw [if_pos rfl, if_neg (by omega), if_neg (by omega), if_neg (by omega), if_neg (by omega), if_neg (by omega), if_pos rfl]
  · show (if _ = _ then (if 25 = t + 1 then k else if 25 = t + 2 then v else if 25 = t + 3 then f else if 25 = t + 4 then z else if 25 = t + 5 then 0 else if 25 = t + 6 then μ.1 t 7 + 1 else if 25 = 25 then s else _) else _) = s
    rw [if_pos rfl, if_neg (by omega), if_neg (by omega), if_neg (by omega), if_neg (by omega), if_neg (by omega), if_neg (by omega), if_pos rfl]
  · show (if t = t ∧ 7 = 7 then μ.1 t 7 + 1 else _) = _
    rw [if_pos ⟨rfl, rfl⟩]
  · show (if a = t ∧ q = 7 then μ.1 t 7 + 1 else μ.1 a q) = _
    rw [if_neg h]
  · show (if i = μ.1 t 7 then (if a = t + 1 then k else if a = t + 2 then v else if a = t + 3 then f else if a = t + 4 then z else if a = t + 5 then 0 else if a = t + 6 then μ.1 t 7 + 1 else if a = 25 then s else μ.2.2 a i) else μ.2.2 a i) = _
    by_cases hi : i = μ.1 t 7
    · rw [if_pos hi, if_neg (by omega), if_neg (by omega), if_neg (by omega), if_neg (by omega), if_neg (by omega), if_neg (by omega), if_neg (by omega)]
    · rw [if_neg hi]
/-- a row without parts -/
theorem GV_leaf {t x : Nat} (hT : isT t) (hX : x = 42 ∨ x = 44) {μ : Mem} (hC : CI t x μ) {n k v f z s : Int} (hn : μ.1 t 7 = n ∧ n ≤ 230) (hk : 0 ≤ k ∧ k ≤ 7) (hv : -9223372036854775808 ≤ v ∧ v < 9223372036854775808) (hv7 : k = 7 → 32 ≤ v ∧ v ≤ 126) (hw : 0 ≤ f ∧ 0 ≤ z ∧ f + z ≤ μ.1 (t + 7) 1) (hs : 0 ≤ s ∧ s ≤ 240) (hz : k = 4 ∨ k = 5 ∨ k = 6 ∨ z = 0) (e : Nat) : CI t x (adw μ t k v f z s) ∧ Kp t n μ (adw μ t k v f z s) ∧ GV t (e + 1) n (adw μ t k v f z s) := by
  obtain ⟨⟨r1, r2, r3, r4, r5, r6, r7⟩, rc, rI, rR, rA⟩ := adw_f (μ := μ) hT (k := k) (v := v) (f := f) (z := z) (s := s)
  rw [hn.1] at r1 r2 r3 r4 r5 r6 r7 rc
  have hT' := hT
  unfold isT at hT
  have c11 := hC.2.2.2.2.2.2.2.2.2.2
  have aw : (adw μ t k v f z s).2.2 (t + 7 + 1) = μ.2.2 (t + 7 + 1) := funext fun i => rA _ i (by omega)
  have eu := rI (t + 7) 1 (by omega)
  have hu := hC.2.2.2.2.2.1
  have hpl := hC.2.2.2.2.1
  have hsz := hC.2.1
  refine ⟨CI_of hC (rI x 1 (by omega)) eu (rI 21 2 (by omega)) rR (funext fun i => rA _ i (by omega)) aw (funext fun i => rA _ i (by omega)) (funext fun i => rA _ i (by omega)) (by rw [rI 20 5 (by omega)]; omega) (by rw [rc]; omega), ⟨⟨fun a q h1 h2 h3 h4 h5 => rI a q (by omega), rR, fun a h1 h2 h3 h4 => funext fun i => rA a i (by omega)⟩, fun a i ha hi => rA a i (by omega), fun i hi => by rw [aw], by rw [eu]; exact Int.le_refl _, by rw [rI 20 5 (by omega)]; exact Int.le_refl _, rI 20 6 (by omega)⟩, ?_⟩
  refine ⟨by rw [rc]; omega, ⟨⟨by omega, by rw [rc]; omega, by rw [eu]; exact hu.1, by rw [eu]; omega⟩, fun i i1 i2 => ?_⟩, by rw [r6, rc], okv_0 r5, fun i i1 i2 => ?_⟩
  · rw [rc] at i2 ⊢
    obtain rfl : i = n := by omega
    refine ⟨by rw [r1]; omega, by rw [r2]; exact hv, by rw [r5]; decide, ⟨by rw [r6]; omega, by rw [r6]; omega, fun m m1 m2 => ?_⟩, by rw [r3, r4, eu]; exact hw, fun m hm => ?_⟩
    · rw [r6] at m2
      obtain rfl : m = i := by omega
      exact Int.le_refl _
    · rw [r5] at hm
      omega
  · rw [rc] at i2
    obtain rfl : i = n := by omega
    refine ⟨okv_0 r5, ⟨fun _ => ⟨r5, by rw [r1, r4]; exact hz⟩, fun z => by rw [r1] at z; omega, fun z => ?_, fun j j0 j1 => ?_⟩, by rw [r7]; omega, by rw [r7]; omega⟩
    · rw [r1] at z
      rw [r2]
      exact hv7 z
    · rw [r4] at j1
      rw [r3, aw]
      exact hC.2.2.2.2.2.2.2.1 _ (by omega) (by omega)
