/-! THE PURE PART, 12: contracts: swap, pick -/
/-- a tree's rows when n values from k on have moved to the front -/
def kpo (μ : Mem) (a : Nat) (k n : Int) : Mem := (μ.1, μ.2.1, fun b j => if 0 ≤ j ∧ j < n ∧ (b = a + 1 ∨ b = a + 2 ∨ b = a + 3 ∨ b = a + 4 ∨ b = a + 5 ∨ b = a + 6) then (if b = a + 6 then μ.2.2 b (k + j) - k else μ.2.2 b (k + j)) else μ.2.2 b j)
theorem kpo_0 (μ : Mem) (a : Nat) (k : Int) : kpo μ a k 0 = μ := by
  refine Prod.ext rfl (Prod.ext rfl ?_)
  funext b j
  exact if_neg (by omega)
theorem kpo_rd {μ : Mem} {a b : Nat} {k i : Int} (hk : 0 ≤ k) : (kpo μ a k i).2.2 b (k + i) = μ.2.2 b (k + i) := if_neg (by omega)
theorem kpo_s {μ : Mem} {a : Nat} {k i : Int} (hi : 0 ≤ i) : stA (stA (stA (stA (stA (stA (kpo μ a k i) (a + 1) i (μ.2.2 (a + 1) (k + i))) (a + 2) i (μ.2.2 (a + 2) (k + i))) (a + 3) i (μ.2.2 (a + 3) (k + i))) (a + 4) i (μ.2.2 (a + 4) (k + i))) (a + 5) i (μ.2.2 (a + 5) (k + i))) (a + 6) i (μ.2.2 (a + 6) (k + i) - k) = kpo μ a k (i + 1) := by
  refine Prod.ext rfl (Prod.ext rfl ?_)
  funext b j
  by_cases hb : b = a + 1 ∨ b = a + 2 ∨ b = a + 3 ∨ b = a + 4 ∨ b = a + 5 ∨ b = a + 6
  · by_cases hj : j = i
    · subst hj
      have h1 : j < j + 1 := by omega
      rcases hb with rfl | rfl | rfl | rfl | rfl | rfl <;> simp [stA, kpo, hi, h1]
    · have h1 : (j < i + 1) ↔ (j < i) := by omega
      simp [stA, kpo, hj, h1]
  · have e1 : ¬ b = a + 1 := fun z => hb (Or.inl z)
    have e2 : ¬ b = a + 2 := fun z => hb (Or.inr (Or.inl z))
    have e3 : ¬ b = a + 3 := fun z => hb (Or.inr (Or.inr (Or.inl z)))
    have e4 : ¬ b = a + 4 := fun z => hb (Or.inr (Or.inr (Or.inr (Or.inl z))))
    have e5 : ¬ b = a + 5 := fun z => hb (Or.inr (Or.inr (Or.inr (Or.inr (Or.inl z)))))
    have e6 : ¬ b = a + 6 := fun z => hb (Or.inr (Or.inr (Or.inr (Or.inr (Or.inr z)))))
    simp [stA, kpo, e1, e2, e3, e4, e5, e6]
theorem t_swap {sc : Nat × (Nat → Int32)} {fr lo : Nat} {μ : Mem} {ρ : Nat × Nat × Nat} {t u : Nat} (hT : isT t) (hU : isT u) (h0 : μ.2.1 1 0 = .ref t) (h1 : μ.2.1 1 1 = .ref u) : w_E sc fr lo 22 [.ref 0] (hp μ, ρ) (.inl none) (hp (stR (stR μ 1 0 (.ref u)) 1 1 (.ref t)), ρ) := by
  have hT0 := hT.sh.1
  have hU0 := hU.sh.1
  refine w_S.of (L0 := [some (.ref 0), none]) rfl rfl (Nat.le_of_ble_eq_true rfl) (by rfl) ?_
  refine w_ld d_22_0 rfl rfl rfl ?_
  refine w_getF d_22_1 (by rfl) (by first | rfl | assumption) (by rfl) (by rfl) ?_
  refine w_con d_22_4 ?_
  refine w_aald d_22_5 (by first | rfl | assumption) (by omega) (by assumption) ?_
  refine w_st1 (L' := [_, _]) d_22_6 rfl (by decide) rfl (by decide) rfl ?_
  refine w_ld d_22_7 rfl rfl rfl ?_
  refine w_getF d_22_8 (by rfl) (by first | rfl | assumption) (by rfl) (by rfl) ?_
  refine w_con d_22_11 ?_
  refine w_ld d_22_12 rfl rfl rfl ?_
  refine w_getF d_22_13 (by rfl) (by first | rfl | assumption) (by rfl) (by rfl) ?_
  refine w_con d_22_16 ?_
  refine w_aald d_22_17 (by first | rfl | assumption) (by omega) (by assumption) ?_
  refine w_aast d_22_18 (by first | rfl | assumption) (by first | rfl | assumption) (by omega) ?_
  refine w_ld d_22_19 rfl rfl rfl ?_
  refine w_getF d_22_20 (by rfl) (by first | rfl | assumption) (by rfl) (by rfl) ?_
  refine w_con d_22_23 ?_
  refine w_ld d_22_24 rfl rfl rfl ?_
  refine w_aast d_22_25 (by first | rfl | assumption) (by first | rfl | assumption) (by omega) ?_
  refine w_ret d_22_26 rfl ?_
  exact ⟨rfl, rfl⟩
theorem t_keep_l {sc : Nat × (Nat → Int32)} {fr lo : Nat} {ρ : Nat × Nat × Nat} {μ : Mem} {a : Nat} (ha : isT a) {k n : Int} (hk : 0 ≤ k ∧ 0 ≤ n ∧ k + n ≤ 240) : ∀ (m : Nat) (i : Int), (n - i).toNat = m → 0 ≤ i ∧ i ≤ n → w_P sc fr lo 108 2 4 false (none) prog_6_method_8_code 11 [some (.ref a), some (.int (ji k)), some (.int (ji n)), some (.int (ji i))] [] (hp (kpo μ a k i), ρ) (fun o t => o = .inl none ∧ t = (hp (stI (kpo μ a k n) a 7 n), ρ)) := by
  intro m
  induction m using Nat.strongRecOn with
  | ind m ih =>
    intro i hm hi
    obtain ⟨hT, h1, h2, h3, h4, h5, h6, h7, h8⟩ := ha.sh
    refine w_ld d_108_11 rfl rfl rfl ?_
    refine w_ld d_108_12 rfl rfl rfl ?_
    refine w_icmp_ge (g := 108) d_108_13 (by decide) (by omega) (fun h13 => ?_) (fun h13 => ?_)
    · refine w_ld d_108_108 rfl rfl rfl ?_
      refine w_ld d_108_109 rfl rfl rfl ?_
      refine w_putI d_108_110 (by rfl) (by first | rfl | assumption) (by rfl) (fit_I (by rfl)) (by rfl) ?_
      refine w_ret d_108_113 rfl ?_
      rw [show i = n by omega]
      exact ⟨rfl, rfl⟩
    · refine w_ld d_108_16 rfl rfl rfl ?_
      refine w_getF d_108_17 (by rfl) (by first | rfl | assumption) (by rfl) (by rfl) ?_
      refine w_ld d_108_20 rfl rfl rfl ?_
      refine w_ld d_108_21 rfl rfl rfl ?_
      refine w_getF d_108_22 (by rfl) (by first | rfl | assumption) (by rfl) (by rfl) ?_
      refine w_ld d_108_25 rfl rfl rfl ?_
      refine w_ld d_108_26 rfl rfl rfl ?_
      refine w_iadd d_108_27 ?_
      refine w_aI d_108_28 (by first | rfl | assumption) (by omega) (by first | (simp [stI, stA, stR]; exact kpo_rd hk.1) | exact kpo_rd hk.1) ?_
      refine w_iast d_108_29 (by first | rfl | assumption) (by omega) ?_
      refine w_ld d_108_30 rfl rfl rfl ?_
      refine w_getF d_108_31 (by rfl) (by first | rfl | assumption) (by rfl) (by rfl) ?_
      refine w_ld d_108_34 rfl rfl rfl ?_
      refine w_ld d_108_35 rfl rfl rfl ?_
      refine w_getF d_108_36 (by rfl) (by first | rfl | assumption) (by rfl) (by rfl) ?_
      refine w_ld d_108_39 rfl rfl rfl ?_
      refine w_ld d_108_40 rfl rfl rfl ?_
      refine w_iadd d_108_41 ?_
      refine w_aL d_108_42 (by first | rfl | assumption) (by omega) (by first | (simp [stI, stA, stR]; exact kpo_rd hk.1) | exact kpo_rd hk.1) ?_
      refine w_last d_108_43 (by first | rfl | assumption) (by omega) ?_
      refine w_ld d_108_44 rfl rfl rfl ?_
      refine w_getF d_108_45 (by rfl) (by first | rfl | assumption) (by rfl) (by rfl) ?_
      refine w_ld d_108_48 rfl rfl rfl ?_
      refine w_ld d_108_49 rfl rfl rfl ?_
      refine w_getF d_108_50 (by rfl) (by first | rfl | assumption) (by rfl) (by rfl) ?_
      refine w_ld d_108_53 rfl rfl rfl ?_
      refine w_ld d_108_54 rfl rfl rfl ?_
      refine w_iadd d_108_55 ?_
      refine w_aI d_108_56 (by first | rfl | assumption) (by omega) (by first | (simp [stI, stA, stR]; exact kpo_rd hk.1) | exact kpo_rd hk.1) ?_
      refine w_iast d_108_57 (by first | rfl | assumption) (by omega) ?_
      refine w_ld d_108_58 rfl rfl rfl ?_
      refine w_getF d_108_59 (by rfl) (by first | rfl | assumption) (by rfl) (by rfl) ?_
      refine w_ld d_108_62 rfl rfl rfl ?_
      refine w_ld d_108_63 rfl rfl rfl ?_
      refine w_getF d_108_64 (by rfl) (by first | rfl | assumption) (by rfl) (by rfl) ?_
      refine w_ld d_108_67 rfl rfl rfl ?_
      refine w_ld d_108_68 rfl rfl rfl ?_
      refine w_iadd d_108_69 ?_
      refine w_aI d_108_70 (by first | rfl | assumption) (by omega) (by first | (simp [stI, stA, stR]; exact kpo_rd hk.1) | exact kpo_rd hk.1) ?_
      refine w_iast d_108_71 (by first | rfl | assumption) (by omega) ?_
      refine w_ld d_108_72 rfl rfl rfl ?_
      refine w_getF d_108_73 (by rfl) (by first | rfl | assumption) (by rfl) (by rfl) ?_
      refine w_ld d_108_76 rfl rfl rfl ?_
      refine w_ld d_108_77 rfl rfl rfl ?_
      refine w_getF d_108_78 (by rfl) (by first | rfl | assumption) (by rfl) (by rfl) ?_
      refine w_ld d_108_81 rfl rfl rfl ?_
      refine w_ld d_108_82 rfl rfl rfl ?_
      refine w_iadd d_108_83 ?_
      refine w_aI d_108_84 (by first | rfl | assumption) (by omega) (by first | (simp [stI, stA, stR]; exact kpo_rd hk.1) | exact kpo_rd hk.1) ?_
      refine w_iast d_108_85 (by first | rfl | assumption) (by omega) ?_
      refine w_ld d_108_86 rfl rfl rfl ?_
      refine w_getF d_108_87 (by rfl) (by first | rfl | assumption) (by rfl) (by rfl) ?_
      refine w_ld d_108_90 rfl rfl rfl ?_
      refine w_ld d_108_91 rfl rfl rfl ?_
      refine w_getF d_108_92 (by rfl) (by first | rfl | assumption) (by rfl) (by rfl) ?_
      refine w_ld d_108_95 rfl rfl rfl ?_
      refine w_ld d_108_96 rfl rfl rfl ?_
      refine w_iadd d_108_97 ?_
      refine w_aI d_108_98 (by first | rfl | assumption) (by omega) (by first | (simp [stI, stA, stR]; exact kpo_rd hk.1) | exact kpo_rd hk.1) ?_
      refine w_ld d_108_99 rfl rfl rfl ?_
      refine w_isub d_108_100 ?_
      refine w_iast d_108_101 (by first | rfl | assumption) (by omega) ?_
      refine w_inc (L' := [_, _, _, _]) d_108_102 rfl (by decide) rfl ?_
      refine w_goto (g := 11) d_108_105 (by decide) ?_
      rw [kpo_s hi.1]
      exact ih _ (by omega) (i + 1) rfl (by omega)
theorem t_keepOnly {sc : Nat × (Nat → Int32)} {fr lo : Nat} {μ : Mem} {ρ : Nat × Nat × Nat} {a : Nat} (ha : isT a) {k : Int} (hk : 0 ≤ k ∧ k < 240 ∧ k ≤ μ.2.2 (a + 6) k ∧ μ.2.2 (a + 6) k ≤ 240) : w_E sc fr lo 108 [.ref a, .int (ji k)] (hp μ, ρ) (.inl none) (hp (stI (kpo μ a k (μ.2.2 (a + 6) k - k)) a 7 (μ.2.2 (a + 6) k - k)), ρ) := by
  obtain ⟨hT, h1, h2, h3, h4, h5, h6, h7, h8⟩ := ha.sh
  refine w_S.of (L0 := [some (.ref a), some (.int (ji k)), none, none]) rfl rfl (Nat.le_of_ble_eq_true rfl) (by rfl) ?_
  refine w_ld d_108_0 rfl rfl rfl ?_
  refine w_getF d_108_1 (by rfl) (by first | rfl | assumption) (by rfl) (by rfl) ?_
  refine w_ld d_108_4 rfl rfl rfl ?_
  refine w_aI d_108_5 (by first | rfl | assumption) (by omega) (by (try simp [stI, stA, stR]) <;> rfl) ?_
  refine w_ld d_108_6 rfl rfl rfl ?_
  refine w_isub d_108_7 ?_
  refine w_st1 (L' := [_, _, _, _]) d_108_8 rfl (by decide) rfl (by decide) rfl ?_
  refine w_con d_108_9 ?_
  refine w_st1 (L' := [_, _, _, _]) d_108_10 rfl (by decide) rfl (by decide) rfl ?_
  have h := t_keep_l (sc := sc) (fr := fr) (lo := lo) (μ := μ) (ρ := ρ) ha (k := k) (n := μ.2.2 (a + 6) k - k) (by omega) _ 0 rfl (by omega)
  rw [kpo_0] at h
  exact h
theorem t_pick {sc : Nat × (Nat → Int32)} {fr lo : Nat} {μ : Mem} {ρ : Nat × Nat × Nat} {k : Int} (hk : k = 0 ∨ k = 1) {t : Nat} (hT : isT t) (ht : μ.2.1 1 k.toNat = .ref t) (hc : 0 ≤ μ.1 t 7 ∧ μ.1 t 7 ≤ 240) {v : Int} (hv : 0 ≤ v ∧ v < μ.1 t 7) (he : v < μ.2.2 (t + 6) v ∧ μ.2.2 (t + 6) v ≤ 240) (hf : 12 ≤ fr) (hl : 400 ≤ lo) : w_E sc fr lo 107 [.ref 0, .int (ji k), .int (ji v)] (hp μ, ρ) (.inl (some (.int (ji (μ.2.2 (t + 6) v - v))))) (hp (stI (kpo μ t v (μ.2.2 (t + 6) v - v)) t 7 (μ.2.2 (t + 6) v - v)), ρ) := by
  obtain ⟨hT0, h1, h2, h3, h4, h5, h6, h7, h8⟩ := hT.sh
  refine w_S.of (L0 := [some (.ref 0), some (.int (ji k)), some (.int (ji v))]) rfl rfl (Nat.le_of_ble_eq_true rfl) (by rfl) ?_
  refine w_ld d_107_0 rfl rfl rfl ?_
  refine w_ld d_107_1 rfl rfl rfl ?_
  refine w_ld d_107_2 rfl rfl rfl ?_
  refine w_cV0 (as := [_, _]) (rest := _) rfl d_107_3 (by rfl) (by rfl) (by first | rfl | assumption) (by rfl) (by rfl) (Nat.le_of_ble_eq_true rfl) (by omega) (by omega) (t_rv hk hT ht hc hv (by omega) (by omega)) ?_
  refine w_ld d_107_6 rfl rfl rfl ?_
  refine w_getF d_107_7 (by rfl) (by first | rfl | assumption) (by rfl) (by rfl) ?_
  refine w_ld d_107_10 rfl rfl rfl ?_
  refine w_aald d_107_11 (by first | rfl | assumption) (by omega) (by assumption) ?_
  refine w_ld d_107_12 rfl rfl rfl ?_
  refine w_cV0 (as := [_]) (rest := _) rfl d_107_13 (by rfl) (by rfl) (by first | rfl | assumption) (by rfl) (by rfl) (Nat.le_of_ble_eq_true rfl) (by omega) (by omega) (t_keepOnly hT (by omega)) ?_
  refine w_ld d_107_16 rfl rfl rfl ?_
  refine w_getF d_107_17 (by rfl) (by first | rfl | assumption) (by rfl) (by rfl) ?_
  refine w_ld d_107_20 rfl rfl rfl ?_
  refine w_aald d_107_21 (by first | rfl | assumption) (by omega) (by assumption) ?_
  refine w_gI d_107_22 (by rfl) (by first | rfl | assumption) (by rfl) (by (try simp [stI, stA, stR]) <;> rfl) ?_
  refine w_iret d_107_25 rfl ?_
  exact ⟨rfl, rfl⟩
theorem t_pickx1 {sc : Nat × (Nat → Int32)} {fr lo : Nat} {μ : Mem} {ρ : Nat × Nat × Nat} {k : Int} (hk : -2147483648 ≤ k ∧ k < 2147483648) {v : Int} (h01 : ¬ (k = 0 ∨ k = 1)) (hf : 12 ≤ fr) (hl : 400 ≤ lo) (hr : 1 ≤ ρ.2.1 ∧ 6 ≤ ρ.2.2) : w_E sc fr lo 107 [.ref 0, .int (ji k), .int (ji v)] (hp μ, ρ) (.inr (0, ρ.1)) (hp μ, ρ.1 + 1, ρ.2.1 - 1, ρ.2.2 - 6) := by
  refine w_S.of (L0 := [some (.ref 0), some (.int (ji k)), some (.int (ji v))]) rfl rfl (Nat.le_of_ble_eq_true rfl) (by rfl) ?_
  refine w_ld d_107_0 rfl rfl rfl ?_
  refine w_ld d_107_1 rfl rfl rfl ?_
  refine w_ld d_107_2 rfl rfl rfl ?_
  refine w_cVx (as := [_, _]) (rest := _) rfl d_107_3 (by rfl) (by rfl) (by first | rfl | assumption) (by rfl) (by rfl) (Nat.le_of_ble_eq_true rfl) (by omega) (by omega) (t_rvx1 hk h01 (by omega) (by omega) hr) ?_
  exact ⟨rfl, rfl⟩
theorem t_pickx2 {sc : Nat × (Nat → Int32)} {fr lo : Nat} {μ : Mem} {ρ : Nat × Nat × Nat} {k : Int} (hk : k = 0 ∨ k = 1) {t : Nat} (hT : isT t) (ht : μ.2.1 1 k.toNat = .ref t) (hc : 0 ≤ μ.1 t 7 ∧ μ.1 t 7 ≤ 240) {v : Int} (hv0 : -2147483648 ≤ v ∧ v < 2147483648) (hv : ¬ (0 ≤ v ∧ v < μ.1 t 7)) (hf : 12 ≤ fr) (hl : 400 ≤ lo) (hr : 1 ≤ ρ.2.1 ∧ 6 ≤ ρ.2.2) : w_E sc fr lo 107 [.ref 0, .int (ji k), .int (ji v)] (hp μ, ρ) (.inr (0, ρ.1)) (hp μ, ρ.1 + 1, ρ.2.1 - 1, ρ.2.2 - 6) := by
  refine w_S.of (L0 := [some (.ref 0), some (.int (ji k)), some (.int (ji v))]) rfl rfl (Nat.le_of_ble_eq_true rfl) (by rfl) ?_
  refine w_ld d_107_0 rfl rfl rfl ?_
  refine w_ld d_107_1 rfl rfl rfl ?_
  refine w_ld d_107_2 rfl rfl rfl ?_
  refine w_cVx (as := [_, _]) (rest := _) rfl d_107_3 (by rfl) (by rfl) (by first | rfl | assumption) (by rfl) (by rfl) (Nat.le_of_ble_eq_true rfl) (by omega) (by omega) (t_rvx2 hk hT ht hc hv0 hv (by omega) (by omega) hr) ?_
  exact ⟨rfl, rfl⟩
