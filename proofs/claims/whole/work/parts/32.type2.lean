/-! THE PURE PART, 16: the second half of type; type as a whole -/
/-- a character more in the row at r, counted in field f of the object at q -/
def ty1 (μ : Mem) (r q f : Nat) (c : Int) : Mem := if c = 0 then μ else stI (stA μ r (μ.1 q f) c) q f (μ.1 q f + 1)
def tyf (μ : Mem) (r q f : Nat) (c : Int → Int) (k : Int) : Mem :=
  if k = 24 then ty1 (ty1 (ty1 (ty1 μ r q f (c 24)) r q f (c 16)) r q f (c 8)) r q f (c 0)
  else if k = 16 then ty1 (ty1 (ty1 μ r q f (c 16)) r q f (c 8)) r q f (c 0)
  else if k = 8 then ty1 (ty1 μ r q f (c 8)) r q f (c 0)
  else if k = 0 then ty1 μ r q f (c 0) else μ
theorem tyf_s {μ : Mem} {r q f : Nat} {c : Int → Int} {k : Int} (h : k = 24 ∨ k = 16 ∨ k = 8 ∨ k = 0) : tyf μ r q f c k = tyf (ty1 μ r q f (c k)) r q f c (k + -8) := by
  rcases h with rfl | rfl | rfl | rfl <;> rfl
theorem tyf_n {μ : Mem} {r q f : Nat} {c : Int → Int} {k : Int} (h : k < 0) : tyf μ r q f c k = μ := by
  unfold tyf
  rw [if_neg (by omega), if_neg (by omega), if_neg (by omega), if_neg (by omega)]
theorem nz_r (c : Int) : 0 ≤ nz c ∧ nz c ≤ 1 := by
  unfold nz
  split <;> omega
theorem cnt_r (c : Int → Int) (k : Int) : 0 ≤ cnt c k ∧ cnt c k ≤ 4 := by
  have h1 := nz_r (c 0)
  have h2 := nz_r (c 8)
  have h3 := nz_r (c 16)
  have h4 := nz_r (c 24)
  unfold cnt
  split <;> split <;> split <;> split <;> omega
theorem t_add1 {sc : Nat × (Nat → Int32)} {fr lo : Nat} {μ : Mem} {ρ : Nat × Nat × Nat} {a n : Nat} (hs : sh a = some (.inl (1, [4, 0]))) (hr : sh (a + 1) = some (.inr (2, n))) (hc : 0 ≤ μ.1 a 1 ∧ μ.1 a 1 < n ∧ n < 2147483648) {c : Int} (hk : 0 ≤ c ∧ c < 65536) : w_E sc fr lo 8 [.ref a, .int (ji c)] (hp μ, ρ) (.inl (some (.int (ji 1)))) (hp (stI (stA μ (a + 1) (μ.1 a 1) c) a 1 (μ.1 a 1 + 1)), ρ) := by
  refine w_S.of (L0 := [some (.ref a), some (.int (ji c))]) rfl rfl (Nat.le_of_ble_eq_true rfl) (by rfl) ?_
  refine w_ld d_8_0 rfl rfl rfl ?_
  refine w_gI d_8_1 (by rfl) (by first | rfl | assumption) (by rfl) (by (try simp [stI, stA, stR]) <;> rfl) ?_
  refine w_ld d_8_4 rfl rfl rfl ?_
  refine w_getF d_8_5 (by rfl) (by first | rfl | assumption) (by rfl) (by rfl) ?_
  refine w_alen d_8_8 (by first | rfl | assumption) (by decide) ?_
  refine w_icmp_lt (g := 14) d_8_9 (by decide) (by omega) (fun h9 => ?_) (fun h9 => ?_)
  · refine w_ld d_8_14 rfl rfl rfl ?_
    refine w_getF d_8_15 (by rfl) (by first | rfl | assumption) (by rfl) (by rfl) ?_
    refine w_ld d_8_18 rfl rfl rfl ?_
    refine w_gI d_8_19 (by rfl) (by first | rfl | assumption) (by rfl) (by (try simp [stI, stA, stR]) <;> rfl) ?_
    refine w_ld d_8_22 rfl rfl rfl ?_
    refine w_i2c d_8_23 (by omega) ?_
    refine w_cast d_8_24 (by first | rfl | assumption) (by omega) (by omega) ?_
    refine w_ld d_8_25 rfl rfl rfl ?_
    refine w_stk d_8_26 rfl ?_
    refine w_gI d_8_27 (by rfl) (by first | rfl | assumption) (by rfl) (by (try simp [stI, stA, stR]) <;> rfl) ?_
    refine w_con d_8_30 ?_
    refine w_iadd d_8_31 ?_
    refine w_putI d_8_32 (by rfl) (by first | rfl | assumption) (by rfl) (fit_I (by rfl)) (by rfl) ?_
    refine w_con d_8_35 ?_
    refine w_zret d_8_36 rfl (by omega) ?_
    exact ⟨rfl, rfl⟩
  · omega
theorem m_type_2 {sc : Nat × (Nat → Int32)} {fr lo : Nat} {ρ : Nat × Nat × Nat} {w : Int32}  : ∀ (m : Nat) (k : Int) (μ : Mem), (k + 8).toNat = m → (k = 24 ∨ k = 16 ∨ k = 8 ∨ k = 0 ∨ k = -8) → (0 ≤ μ.1 46 3 ∧ μ.1 46 3 + cnt (bA w) k ≤ 240) → w_P sc fr lo 111 7 5 false ((some FieldType.boolean)) prog_9_method_3_code 80 [some (.ref 46), some (.int w), none, some (.int (ji k)), none] [] (hp (μ), ρ) (fun o t => o = .inl (some (.int (ji 1))) ∧ t = (hp (tyf μ 47 46 3 (bA w) k), ρ)) := by
  intro m
  induction m using Nat.strongRecOn with
  | ind m ih =>
    intro k μ hm hk hcn
    refine w_ld d_111_80 rfl rfl rfl ?_
    refine w_if_lt (g := 125) d_111_81 (by decide) (by omega) (fun h81 => ?_) (fun h81 => ?_)
    · refine w_con d_111_125 ?_
      refine w_zret d_111_126 rfl (by omega) ?_
      rw [tyf_n (by omega)]
      exact ⟨rfl, rfl⟩
    · refine w_ld d_111_84 rfl rfl rfl ?_
      refine w_ld d_111_85 rfl rfl rfl ?_
      refine w_stk d_111_86 rfl ?_
      refine w_sip d_111_87 (by decide) ?_
      refine w_and d_111_90 ?_
      refine w_st1 (L' := [_, _, _, _, _]) d_111_91 rfl (by decide) rfl (by decide) rfl ?_
      have hc0 := a255_r (w >>> (ji k &&& 31))
      generalize hcc : a255 (w >>> (ji k &&& 31)) = c at hc0 ⊢
      have hcb : bA w k = c := hcc
      have hcr := cnt_r (bA w) (k + -8)
      have hs0 := cnt_s (c := bA w) (k := k) (by omega)
      rw [hcb] at hs0
      have hn1 : ¬ c = 0 → nz c = 1 := fun z => if_neg z
      refine w_ld d_111_93 rfl rfl rfl ?_
      refine w_if_eq (g := 119) d_111_95 (by decide) (by omega) (fun h95 => ?_) (fun h95 => ?_)
      · refine w_inc (L' := [_, _, _, _, _]) d_111_119 rfl (by decide) rfl ?_
        refine w_goto (g := 80) d_111_122 (by decide) ?_
        have hs1 := cnt_s (c := bA w) (k := k) (by omega)
        rw [hcb] at hs1
        rw [tyf_s (by omega), hcb]
        first
        | (rw [show ty1 μ 47 46 3 c = μ from if_pos h95]
           rw [show nz c = 0 from if_pos h95] at hs1
           exact (ih _ (by omega) (k + -8) μ rfl (by omega) (by omega)).le ⟨rfl, rfl, rfl, trivial⟩)
        | (rw [show ty1 μ 47 46 3 c = stI (stA μ 47 (μ.1 46 3) c) 46 3 (μ.1 46 3 + 1) from if_neg h95]
           rw [show nz c = 1 from if_neg h95] at hs1
           have es : (stI (stA μ 47 (μ.1 46 3) c) 46 3 (μ.1 46 3 + 1)).1 46 3 = μ.1 46 3 + 1 := by simp [stI]
           exact (ih _ (by omega) (k + -8) (stI (stA μ 47 (μ.1 46 3) c) 46 3 (μ.1 46 3 + 1)) rfl (by omega) (by omega)).le ⟨rfl, rfl, rfl, trivial⟩)
      · refine w_ld d_111_98 rfl rfl rfl ?_
        refine w_getF d_111_99 (by rfl) (by first | rfl | assumption) (by rfl) (by rfl) ?_
        refine w_ld d_111_102 rfl rfl rfl ?_
        refine w_gI d_111_103 (by rfl) (by first | rfl | assumption) (by rfl) (by (try simp [stI, stA, stR]) <;> rfl) ?_
        refine w_ld d_111_106 rfl rfl rfl ?_
        refine w_iast d_111_108 (by first | rfl | assumption) (by have := hn1 h95; omega) ?_
        refine w_ld d_111_109 rfl rfl rfl ?_
        refine w_stk d_111_110 rfl ?_
        refine w_gI d_111_111 (by rfl) (by first | rfl | assumption) (by rfl) (by (try simp [stI, stA, stR]) <;> rfl) ?_
        refine w_con d_111_114 ?_
        refine w_iadd d_111_115 ?_
        refine w_putI d_111_116 (by rfl) (by first | rfl | assumption) (by rfl) (fit_I (by rfl)) (by rfl) ?_
        refine w_inc (L' := [_, _, _, _, _]) d_111_119 rfl (by decide) rfl ?_
        refine w_goto (g := 80) d_111_122 (by decide) ?_
        have hs1 := cnt_s (c := bA w) (k := k) (by omega)
        rw [hcb] at hs1
        rw [tyf_s (by omega), hcb]
        first
        | (rw [show ty1 μ 47 46 3 c = μ from if_pos h95]
           rw [show nz c = 0 from if_pos h95] at hs1
           exact (ih _ (by omega) (k + -8) μ rfl (by omega) (by omega)).le ⟨rfl, rfl, rfl, trivial⟩)
        | (rw [show ty1 μ 47 46 3 c = stI (stA μ 47 (μ.1 46 3) c) 46 3 (μ.1 46 3 + 1) from if_neg h95]
           rw [show nz c = 1 from if_neg h95] at hs1
           have es : (stI (stA μ 47 (μ.1 46 3) c) 46 3 (μ.1 46 3 + 1)).1 46 3 = μ.1 46 3 + 1 := by simp [stI]
           exact (ih _ (by omega) (k + -8) (stI (stA μ 47 (μ.1 46 3) c) 46 3 (μ.1 46 3 + 1)) rfl (by omega) (by omega)).le ⟨rfl, rfl, rfl, trivial⟩)
theorem t_type_2 {sc : Nat × (Nat → Int32)} {fr lo : Nat} {ρ : Nat × Nat × Nat} {w : Int32} {b : Nat} (hb : isL b 240) (hf : 1 ≤ fr) (hl : 60 ≤ lo) : ∀ (m : Nat) (k : Int) (μ : Mem), (k + 8).toNat = m → (k = 24 ∨ k = 16 ∨ k = 8 ∨ k = 0 ∨ k = -8) → μ.2.1 0 3 = .ref b → (0 ≤ μ.1 b 1 ∧ μ.1 b 1 + cnt (bL w) k ≤ 240) → w_P sc fr lo 7 0 5 false ((some FieldType.boolean)) prog_1_method_2_code 78 [some (.ref 0), some (.int w), none, some (.int (ji k)), none] [] (hp (μ), ρ) (fun o t => o = .inl (some (.int (ji 1))) ∧ t = (hp (tyf μ (b + 1) b 1 (bL w) k), ρ)) := by
  intro m
  induction m using Nat.strongRecOn with
  | ind m ih =>
    intro k μ hm hk ht hcn
    have hsb := hb.sh.1
    refine w_ld d_7_78 rfl rfl rfl ?_
    refine w_if_lt (g := 112) d_7_79 (by decide) (by omega) (fun h79 => ?_) (fun h79 => ?_)
    · refine w_con d_7_112 ?_
      refine w_zret d_7_113 rfl (by omega) ?_
      rw [tyf_n (by omega)]
      exact ⟨rfl, rfl⟩
    · refine w_ld d_7_82 rfl rfl rfl ?_
      refine w_ld d_7_83 rfl rfl rfl ?_
      refine w_stk d_7_84 rfl ?_
      refine w_sip d_7_85 (by decide) ?_
      refine w_and d_7_88 ?_
      refine w_st1 (L' := [_, _, _, _, _]) d_7_89 rfl (by decide) rfl (by decide) rfl ?_
      have hc0 := a255_r (w.toUInt32 >>> ((ji k).toUInt32 &&& Int32.toUInt32 31)).toInt32
      generalize hcc : a255 (w.toUInt32 >>> ((ji k).toUInt32 &&& Int32.toUInt32 31)).toInt32 = c at hc0 ⊢
      have hcb : bL w k = c := hcc
      have hcr := cnt_r (bL w) (k + -8)
      have hs0 := cnt_s (c := bL w) (k := k) (by omega)
      rw [hcb] at hs0
      have hn1 : ¬ c = 0 → nz c = 1 := fun z => if_neg z
      refine w_ld d_7_91 rfl rfl rfl ?_
      refine w_if_eq (g := 106) d_7_93 (by decide) (by omega) (fun h93 => ?_) (fun h93 => ?_)
      · refine w_inc (L' := [_, _, _, _, _]) d_7_106 rfl (by decide) rfl ?_
        refine w_goto (g := 78) d_7_109 (by decide) ?_
        have hs1 := cnt_s (c := bL w) (k := k) (by omega)
        rw [hcb] at hs1
        rw [tyf_s (by omega), hcb]
        first
        | (rw [show ty1 μ (b + 1) b 1 c = μ from if_pos h93]
           rw [show nz c = 0 from if_pos h93] at hs1
           exact (ih _ (by omega) (k + -8) μ rfl (by omega) ht (by omega)).le ⟨rfl, rfl, rfl, trivial⟩)
        | (rw [show ty1 μ (b + 1) b 1 c = stI (stA μ (b + 1) (μ.1 b 1) c) b 1 (μ.1 b 1 + 1) from if_neg h93]
           rw [show nz c = 1 from if_neg h93] at hs1
           have es : (stI (stA μ (b + 1) (μ.1 b 1) c) b 1 (μ.1 b 1 + 1)).1 b 1 = μ.1 b 1 + 1 := by simp [stI]
           exact (ih _ (by omega) (k + -8) (stI (stA μ (b + 1) (μ.1 b 1) c) b 1 (μ.1 b 1 + 1)) rfl (by omega) ht (by omega)).le ⟨rfl, rfl, rfl, trivial⟩)
      · refine w_ld d_7_96 rfl rfl rfl ?_
        refine w_getR d_7_97 (by rfl) (by first | rfl | assumption) (by rfl) (by assumption) ?_
        refine w_ld d_7_100 rfl rfl rfl ?_
        refine w_cV1 (as := [_]) (rest := _) rfl d_7_102 (by rfl) (by rfl) (by first | rfl | assumption) (by rfl) (by rfl) (Nat.le_of_ble_eq_true rfl) (by omega) (by omega) (t_add1 hb.sh.1 hb.sh.2.1 (by have := hn1 h93; omega) (by omega)) ?_
        refine w_stk d_7_105 rfl ?_
        refine w_inc (L' := [_, _, _, _, _]) d_7_106 rfl (by decide) rfl ?_
        refine w_goto (g := 78) d_7_109 (by decide) ?_
        have hs1 := cnt_s (c := bL w) (k := k) (by omega)
        rw [hcb] at hs1
        rw [tyf_s (by omega), hcb]
        first
        | (rw [show ty1 μ (b + 1) b 1 c = μ from if_pos h93]
           rw [show nz c = 0 from if_pos h93] at hs1
           exact (ih _ (by omega) (k + -8) μ rfl (by omega) ht (by omega)).le ⟨rfl, rfl, rfl, trivial⟩)
        | (rw [show ty1 μ (b + 1) b 1 c = stI (stA μ (b + 1) (μ.1 b 1) c) b 1 (μ.1 b 1 + 1) from if_neg h93]
           rw [show nz c = 1 from if_neg h93] at hs1
           have es : (stI (stA μ (b + 1) (μ.1 b 1) c) b 1 (μ.1 b 1 + 1)).1 b 1 = μ.1 b 1 + 1 := by simp [stI]
           exact (ih _ (by omega) (k + -8) (stI (stA μ (b + 1) (μ.1 b 1) c) b 1 (μ.1 b 1 + 1)) rfl (by omega) ht (by omega)).le ⟨rfl, rfl, rfl, trivial⟩)
