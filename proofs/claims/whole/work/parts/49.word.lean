/-! THE PURE PART, 33: contracts: the reader's words -/
/-- letters are added to a row of letters -/
def apL (μ : Mem) (a : Nat) (l : List Int) : Mem := (fun b q => if b = a ∧ q = 1 then μ.1 a 1 + l.length else μ.1 b q, μ.2.1, fun b i => if b = a + 1 ∧ μ.1 a 1 ≤ i ∧ i < μ.1 a 1 + l.length then l.getD (i - μ.1 a 1).toNat 0 else μ.2.2 b i)
theorem apL_nil (μ : Mem) (a : Nat) : apL μ a [] = μ := by
  refine Prod.ext ?_ (Prod.ext rfl ?_)
  · funext b q
    show (if b = a ∧ q = 1 then μ.1 a 1 + ((0 : Nat) : Int) else μ.1 b q) = μ.1 b q
    split
    · rename_i h
      rw [h.1, h.2]
      omega
    · rfl
  · funext b i
    show (if b = a + 1 ∧ μ.1 a 1 ≤ i ∧ i < μ.1 a 1 + ((0 : Nat) : Int) then _ else μ.2.2 b i) = μ.2.2 b i
    rw [if_neg (by omega)]
theorem apL_cons (μ : Mem) (a : Nat) (c : Int) (l : List Int) : apL (stI (stA μ (a + 1) (μ.1 a 1) c) a 1 (μ.1 a 1 + 1)) a l = apL μ a (c :: l) := by
  have e : (stI (stA μ (a + 1) (μ.1 a 1) c) a 1 (μ.1 a 1 + 1)).1 a 1 = μ.1 a 1 + 1 := stI_at _ _ _ _
  refine Prod.ext ?_ (Prod.ext rfl ?_)
  · funext b q
    show (if b = a ∧ q = 1 then (stI (stA μ (a + 1) (μ.1 a 1) c) a 1 (μ.1 a 1 + 1)).1 a 1 + (l.length : Int) else (if b = a ∧ q = 1 then μ.1 a 1 + 1 else μ.1 b q)) = (if b = a ∧ q = 1 then μ.1 a 1 + ((c :: l).length : Int) else μ.1 b q)
    rw [e]
    split
    · simp only [List.length_cons]
      omega
    · rfl
  · funext b i
    show (if b = a + 1 ∧ (stI (stA μ (a + 1) (μ.1 a 1) c) a 1 (μ.1 a 1 + 1)).1 a 1 ≤ i ∧ i < (stI (stA μ (a + 1) (μ.1 a 1) c) a 1 (μ.1 a 1 + 1)).1 a 1 + (l.length : Int) then l.getD (i - (stI (stA μ (a + 1) (μ.1 a 1) c) a 1 (μ.1 a 1 + 1)).1 a 1).toNat 0 else (if b = a + 1 ∧ i = μ.1 a 1 then c else μ.2.2 b i)) = (if b = a + 1 ∧ μ.1 a 1 ≤ i ∧ i < μ.1 a 1 + ((c :: l).length : Int) then (c :: l).getD (i - μ.1 a 1).toNat 0 else μ.2.2 b i)
    rw [e]
    simp only [List.length_cons]
    by_cases hb : b = a + 1
    · by_cases hi : i = μ.1 a 1
      · rw [if_neg (by omega), if_pos ⟨hb, hi⟩, if_pos (by omega), show (i - μ.1 a 1).toNat = 0 by omega]
        rfl
      · by_cases hr : μ.1 a 1 + 1 ≤ i ∧ i < μ.1 a 1 + 1 + (l.length : Int)
        · rw [if_pos ⟨hb, hr⟩, if_pos (by omega), show (i - μ.1 a 1).toNat = (i - (μ.1 a 1 + 1)).toNat + 1 by omega]
          rfl
        · rw [if_neg (fun z => hr z.2), if_neg (fun z => hi z.2), if_neg (by omega)]
    · rw [if_neg (fun z => hb z.1), if_neg (fun z => hb z.1), if_neg (fun z => hb z.1)]
theorem apL_stI {μ : Mem} {a b q : Nat} {v : Int} {l : List Int} (h : b ≠ a) : apL (stI μ b q v) a l = stI (apL μ a l) b q v := by
  have e : (stI μ b q v).1 a 1 = μ.1 a 1 := if_neg (fun z => h z.1.symm)
  refine Prod.ext ?_ (Prod.ext rfl ?_)
  · funext c m
    show (if c = a ∧ m = 1 then (stI μ b q v).1 a 1 + (l.length : Int) else (if c = b ∧ m = q then v else μ.1 c m)) = (if c = b ∧ m = q then v else (if c = a ∧ m = 1 then μ.1 a 1 + (l.length : Int) else μ.1 c m))
    rw [e]
    by_cases h1 : c = a ∧ m = 1
    · rw [if_pos h1, if_neg (fun z => h (z.1.symm.trans h1.1)), if_pos h1]
    · rw [if_neg h1, if_neg h1]
  · funext c i
    show (if c = a + 1 ∧ (stI μ b q v).1 a 1 ≤ i ∧ i < (stI μ b q v).1 a 1 + (l.length : Int) then l.getD (i - (stI μ b q v).1 a 1).toNat 0 else μ.2.2 c i) = _
    rw [e]
    rfl
/-- the reader went wrong at w while it read a word -/
def rwx (t : Nat) (μ μ' : Mem) (w : Int) : Prop := ∃ (p : Int) (l : List Int), μ.1 (t + 7) 1 + l.length ≤ 240 ∧ (∀ c ∈ l, 0 ≤ c ∧ c < 65536) ∧ μ' = stI (stI (apL μ (t + 7) l) 20 5 p) 20 6 w
theorem t_resc {sc : Nat × (Nat → Int32)} {fr lo : Nat} {μ : Mem} {ρ : Nat × Nat × Nat} {c : Int} (hc : c = 34 ∨ c = 92 ∨ c = 47) : w_E sc fr lo 41 [.ref 20, .int (ji c)] (hp μ, ρ) (.inl none) (hp μ, ρ) := by
  refine w_S.of (L0 := [some (.ref 20), some (.int (ji c))]) rfl rfl (Nat.le_of_ble_eq_true rfl) (by rfl) ?_
  refine w_ld d_41_0 rfl rfl rfl ?_
  refine w_bip d_41_1 (by decide) ?_
  refine w_icmp_eq (g := 26) d_41_3 (by decide) (by omega) (fun h3 => ?_) (fun h3 => ?_)
  · refine w_ret d_41_26 rfl ?_
    exact ⟨rfl, rfl⟩
  · refine w_ld d_41_6 rfl rfl rfl ?_
    refine w_bip d_41_7 (by decide) ?_
    refine w_icmp_eq (g := 26) d_41_9 (by decide) (by omega) (fun h9 => ?_) (fun h9 => ?_)
    · refine w_ret d_41_26 rfl ?_
      exact ⟨rfl, rfl⟩
    · refine w_ld d_41_12 rfl rfl rfl ?_
      refine w_bip d_41_13 (by decide) ?_
      refine w_icmp_eq (g := 26) d_41_15 (by decide) (by omega) (fun h15 => ?_) (fun h15 => ?_)
      · refine w_ret d_41_26 rfl ?_
        exact ⟨rfl, rfl⟩
      · exact absurd h15 (by omega)
theorem t_rescx {sc : Nat × (Nat → Int32)} {fr lo : Nat} {μ : Mem} {ρ : Nat × Nat × Nat} {c : Int} (hc0 : -1 ≤ c ∧ c < 65536) (hc : ¬ (c = 34 ∨ c = 92 ∨ c = 47)) (hf : 8 ≤ fr) (hl : 200 ≤ lo) (hr : 1 ≤ ρ.2.1 ∧ 6 ≤ ρ.2.2) : w_E sc fr lo 41 [.ref 20, .int (ji c)] (hp μ, ρ) (.inr (1, ρ.1)) (hp (stI μ 20 6 (μ.1 20 5)), ρ.1 + 1, ρ.2.1 - 1, ρ.2.2 - 6) := by
  refine w_S.of (L0 := [some (.ref 20), some (.int (ji c))]) rfl rfl (Nat.le_of_ble_eq_true rfl) (by rfl) ?_
  refine w_ld d_41_0 rfl rfl rfl ?_
  refine w_bip d_41_1 (by decide) ?_
  refine w_icmp_eq (g := 26) d_41_3 (by decide) (by omega) (fun h3 => ?_) (fun h3 => ?_)
  · exact absurd h3 (by omega)
  · refine w_ld d_41_6 rfl rfl rfl ?_
    refine w_bip d_41_7 (by decide) ?_
    refine w_icmp_eq (g := 26) d_41_9 (by decide) (by omega) (fun h9 => ?_) (fun h9 => ?_)
    · exact absurd h9 (by omega)
    · refine w_ld d_41_12 rfl rfl rfl ?_
      refine w_bip d_41_13 (by decide) ?_
      refine w_icmp_eq (g := 26) d_41_15 (by decide) (by omega) (fun h15 => ?_) (fun h15 => ?_)
      · exact absurd h15 (by omega)
      · refine w_ld d_41_18 rfl rfl rfl ?_
        refine w_ld d_41_19 rfl rfl rfl ?_
        refine w_gI d_41_20 (by rfl) (by first | rfl | assumption) (by rfl) (by (try simp [stI, stA, stR]) <;> rfl) ?_
        refine w_cVx (as := [_]) (rest := _) rfl d_41_23 (by rfl) (by rfl) (by first | rfl | assumption) (by rfl) (by rfl) (Nat.le_of_ble_eq_true rfl) (by omega) (by omega) (t_fail hr (by omega) (by omega)) ?_
        exact ⟨rfl, rfl⟩
theorem t_word_l {sc : Nat × (Nat → Int32)} {fr lo : Nat} {ρ : Nat × Nat × Nat} {x t : Nat} (hX : x = 42 ∨ x = 44) (hT : isT t) {key : Int} {Q : z_O → z_T → Prop} (hf : 10 ≤ fr) (hl : 300 ≤ lo) (hr : 1 ≤ ρ.2.1 ∧ 6 ≤ ρ.2.2) : ∀ (m : Nat) (μ : Mem), (μ.1 x 1 - μ.1 20 5).toNat = m → μ.2.1 20 3 = .ref x → μ.2.1 20 4 = .ref t → (0 ≤ μ.1 x 1 ∧ μ.1 x 1 ≤ 240) → (∀ k, 0 ≤ μ.2.2 (x + 1) k ∧ μ.2.2 (x + 1) k < 65536) → (0 ≤ μ.1 20 5 ∧ μ.1 20 5 ≤ μ.1 x 1) → (0 ≤ μ.1 (t + 7) 1 ∧ μ.1 (t + 7) 1 + (μ.1 x 1 - μ.1 20 5) ≤ 240) → (∀ (q : Int) (l : List Int), rw' (μ.2.2 (x + 1)) (μ.1 x 1) (μ.1 20 5) = .inr (q, l) → w_P sc fr lo 40 5 3 false (none) prog_5_method_12_code 138 [some (.ref 20), some (.int (ji key)), none] [] (hp (stI (apL μ (t + 7) l) 20 5 q), ρ) Q) → (∀ (w : Int) (μ' : Mem), rw' (μ.2.2 (x + 1)) (μ.1 x 1) (μ.1 20 5) = .inl w → rwx t μ μ' w → Q (.inr (1, ρ.1)) (hp μ', ρ.1 + 1, ρ.2.1 - 1, ρ.2.2 - 6)) → w_P sc fr lo 40 5 3 false (none) prog_5_method_12_code 32 [some (.ref 20), some (.int (ji key)), none] [] (hp (μ), ρ) Q := by
  intro m
  induction m using Nat.strongRecOn with
  | ind m ih =>
    intro μ hm hx ht hn hch hpl hu kO kX
    have hXs : sh x = some (.inl (1, [4, 0])) ∧ sh (x + 1) = some (.inr (2, 240)) := by rcases hX with rfl | rfl <;> exact ⟨rfl, rfl⟩
    obtain ⟨hX0, hX1⟩ := hXs
    have m2 : (stI μ 20 5 (μ.1 20 5 + 1)).1 x 1 = μ.1 x 1 := stI_ne (by omega)
    have m3 : (stI μ 20 5 (μ.1 20 5 + 1)).1 (t + 7) 1 = μ.1 (t + 7) 1 := stI_ne (by omega)
    have m1 : (stI μ 20 5 (μ.1 20 5 + 1)).1 20 5 = μ.1 20 5 + 1 := stI_at _ _ _ _
    obtain ⟨hT0, hT1, hT2, hT3, hT4, hT5, hT6, hT7, hT8⟩ := hT.sh
    have hT9 : t = 2 ∨ t = 11 ∨ t = 26 := hT
    refine w_ld d_40_32 rfl rfl rfl ?_
    refine w_gI d_40_33 (by rfl) (by first | rfl | assumption) (by rfl) (by first | exact stI_at _ _ _ _ | ((try simp only [stI, stA, stR, adw, and_self, if_true]) <;> (repeat first | rw [if_neg (by omega)] | rw [if_pos (by omega)]) <;> rfl)) ?_
    refine w_ld d_40_36 rfl rfl rfl ?_
    refine w_getR d_40_37 (by rfl) (by first | rfl | assumption) (by rfl) (by assumption) ?_
    refine w_gI d_40_40 (by rfl) (by first | rfl | assumption) (by rfl) (by first | exact stI_at _ _ _ _ | ((try simp only [stI, stA, stR, adw, and_self, if_true]) <;> (repeat first | rw [if_neg (by omega)] | rw [if_pos (by omega)]) <;> rfl)) ?_
    refine w_icmp_ge (g := 138) d_40_43 (by decide) (by omega) (fun h43 => ?_) (fun h43 => ?_)
    · refine w_ld d_40_138 rfl rfl rfl ?_
      refine w_bip d_40_139 (by decide) ?_
      refine w_cVx (as := [_]) (rest := _) rfl d_40_141 (by rfl) (by rfl) (by first | rfl | assumption) (by rfl) (by rfl) (Nat.le_of_ble_eq_true rfl) (by omega) (by omega) (t_expectx hX hx hn hch (by omega) (by decide) (by rw [if_neg (by omega)]; decide) (by omega) (by omega) hr) ?_
      exact kX _ _ (rw_end (by omega)) ⟨μ.1 20 5, [], (by simp; omega), (fun c hc => by cases hc), (by rw [apL_nil, stI_self])⟩
    · refine w_ld d_40_46 rfl rfl rfl ?_
      refine w_getR d_40_47 (by rfl) (by first | rfl | assumption) (by rfl) (by assumption) ?_
      refine w_ld d_40_50 rfl rfl rfl ?_
      refine w_gI d_40_51 (by rfl) (by first | rfl | assumption) (by rfl) (by first | exact stI_at _ _ _ _ | ((try simp only [stI, stA, stR, adw, and_self, if_true]) <;> (repeat first | rw [if_neg (by omega)] | rw [if_pos (by omega)]) <;> rfl)) ?_
      refine w_cV1 (as := [_]) (rest := _) rfl d_40_54 (by rfl) (by rfl) (by first | rfl | assumption) (by rfl) (by rfl) (Nat.le_of_ble_eq_true rfl) (by omega) (by omega) (t_peek hX0 hX1 (by omega) (by omega)) ?_
      refine w_bip d_40_57 (by decide) ?_
      rw [if_pos ⟨hpl.1, h43⟩]
      refine w_icmp_eq (g := 138) d_40_59 (by decide) (by have e1 := hch (μ.1 20 5); omega) (fun h59 => ?_) (fun h59 => ?_)
      · have e := kO _ _ (rw_q h43 h59)
        rw [apL_nil, stI_self] at e
        exact e
      · refine w_ld d_40_62 rfl rfl rfl ?_
        refine w_getR d_40_63 (by rfl) (by first | rfl | assumption) (by rfl) (by assumption) ?_
        refine w_ld d_40_66 rfl rfl rfl ?_
        refine w_gI d_40_67 (by rfl) (by first | rfl | assumption) (by rfl) (by first | exact stI_at _ _ _ _ | ((try simp only [stI, stA, stR, adw, and_self, if_true]) <;> (repeat first | rw [if_neg (by omega)] | rw [if_pos (by omega)]) <;> rfl)) ?_
        refine w_cV1 (as := [_]) (rest := _) rfl d_40_70 (by rfl) (by rfl) (by first | rfl | assumption) (by rfl) (by rfl) (Nat.le_of_ble_eq_true rfl) (by omega) (by omega) (t_peek hX0 hX1 (by omega) (by omega)) ?_
        refine w_bip d_40_73 (by decide) ?_
        rw [if_pos ⟨hpl.1, h43⟩]
        refine w_icmp_ne (g := 103) d_40_75 (by decide) (by have e1 := hch (μ.1 20 5); omega) (fun h75 => ?_) (fun h75 => ?_)
        · refine w_ld d_40_103 rfl rfl rfl ?_
          refine w_getR d_40_104 (by rfl) (by first | rfl | assumption) (by rfl) (by assumption) ?_
          refine w_getF d_40_107 (by rfl) (by first | rfl | assumption) (by rfl) (by rfl) ?_
          refine w_ld d_40_110 rfl rfl rfl ?_
          refine w_getR d_40_111 (by rfl) (by first | rfl | assumption) (by rfl) (by assumption) ?_
          refine w_ld d_40_114 rfl rfl rfl ?_
          refine w_gI d_40_115 (by rfl) (by first | rfl | assumption) (by rfl) (by first | exact stI_at _ _ _ _ | ((try simp only [stI, stA, stR, adw, and_self, if_true]) <;> (repeat first | rw [if_neg (by omega)] | rw [if_pos (by omega)]) <;> rfl)) ?_
          refine w_cV1 (as := [_]) (rest := _) rfl d_40_118 (by rfl) (by rfl) (by first | rfl | assumption) (by rfl) (by rfl) (Nat.le_of_ble_eq_true rfl) (by omega) (by omega) (t_peek hX0 hX1 (by omega) (by omega)) ?_
          rw [if_pos ⟨hpl.1, h43⟩]
          refine w_cV1 (as := [_]) (rest := _) rfl d_40_121 (by rfl) (by rfl) (by first | rfl | assumption) (by rfl) (by rfl) (Nat.le_of_ble_eq_true rfl) (by omega) (by omega) (t_add1 hT7 hT8 (by omega) (hch _)) ?_
          refine w_stk d_40_124 rfl ?_
          refine w_ld d_40_125 rfl rfl rfl ?_
          refine w_stk d_40_126 rfl ?_
          refine w_gI d_40_127 (by rfl) (by first | rfl | assumption) (by rfl) (by first | exact stI_at _ _ _ _ | ((try simp only [stI, stA, stR, adw, and_self, if_true]) <;> (repeat first | rw [if_neg (by omega)] | rw [if_pos (by omega)]) <;> rfl)) ?_
          refine w_con d_40_130 ?_
          refine w_iadd d_40_131 ?_
          refine w_putI d_40_132 (by rfl) (by first | rfl | assumption) (by rfl) (fit_I (by rfl)) (by rfl) ?_
          refine w_goto (g := 32) d_40_135 (by decide) ?_
          have hN : ∃ N, N = stI (stI (stA μ (t + 7 + 1) (μ.1 (t + 7) 1) (μ.2.2 (x + 1) (μ.1 20 5))) (t + 7) 1 (μ.1 (t + 7) 1 + 1)) 20 5 (μ.1 20 5 + 1) := ⟨_, rfl⟩
          obtain ⟨N, hN⟩ := hN
          have n1 : N.1 20 5 = μ.1 20 5 + 1 := by rw [hN, stI_at]
          have n2 : N.1 x 1 = μ.1 x 1 := by rw [hN, stI_ne (by omega), stI_ne (by omega)]; first | rfl | exact stI_ne (by omega)
          have n3 : N.2.2 (x + 1) = μ.2.2 (x + 1) := by rw [hN]; funext z; simp only [stI, stA]; rw [if_neg (by omega)]
          have n4 : N.1 (t + 7) 1 = μ.1 (t + 7) 1 + 1 := by rw [hN]; rw [stI_ne (by omega)]; exact stI_at _ _ _ _
          have n5 : ∀ l, apL N (t + 7) l = stI (apL μ (t + 7) (μ.2.2 (x + 1) (μ.1 20 5) :: l)) 20 5 (μ.1 20 5 + 1) := fun l => by
            rw [hN, apL_stI (by omega), apL_cons]
          rw [← hN]
          refine ih _ ?_ N rfl ?_ ?_ ?_ ?_ ?_ ?_ ?_ ?_
          · rw [n1, n2]; omega
          · rw [hN]; exact hx
          · rw [hN]; exact ht
          · rw [n2]; exact hn
          · rw [n3]; exact hch
          · rw [n1, n2]; omega
          · rw [n1, n2, n4]; omega
          · intro q l hq
            rw [n1, n2, n3] at hq
            rw [n5, stI_stI]
            exact kO q (μ.2.2 (x + 1) (μ.1 20 5) :: l) (by rw [rw_c h43 h59 h75, show μ.1 20 5 + 1 = μ.1 20 5 + 1 from rfl, hq])
          · intro w μ' hq hw
            rw [n1, n2, n3] at hq
            obtain ⟨p, l, w1, w2, w3⟩ := hw
            refine kX w μ' (by rw [rw_c h43 h59 h75, hq]) ⟨p, μ.2.2 (x + 1) (μ.1 20 5) :: l, ?_, ?_, ?_⟩
            · rw [n4] at w1
              simp only [List.length_cons]
              omega
            · intro z hz
              rcases List.mem_cons.mp hz with rfl | hz
              · exact hch _
              · exact w2 z hz
            · rw [w3, n5, stI_stI]
        · refine w_ld d_40_78 rfl rfl rfl ?_
          refine w_stk d_40_79 rfl ?_
          refine w_gI d_40_80 (by rfl) (by first | rfl | assumption) (by rfl) (by first | exact stI_at _ _ _ _ | ((try simp only [stI, stA, stR, adw, and_self, if_true]) <;> (repeat first | rw [if_neg (by omega)] | rw [if_pos (by omega)]) <;> rfl)) ?_
          refine w_con d_40_83 ?_
          refine w_iadd d_40_84 ?_
          refine w_putI d_40_85 (by rfl) (by first | rfl | assumption) (by rfl) (fit_I (by rfl)) (by rfl) ?_
          refine w_ld d_40_88 rfl rfl rfl ?_
          refine w_ld d_40_89 rfl rfl rfl ?_
          refine w_getR d_40_90 (by rfl) (by first | rfl | assumption) (by rfl) (by first | assumption | (simp only [stI, stA, stR, adw]; assumption)) ?_
          refine w_ld d_40_93 rfl rfl rfl ?_
          refine w_gI d_40_94 (by rfl) (by first | rfl | assumption) (by rfl) (by first | exact stI_at _ _ _ _ | ((try simp only [stI, stA, stR, adw, and_self, if_true]) <;> (repeat first | rw [if_neg (by omega)] | rw [if_pos (by omega)]) <;> rfl)) ?_
          refine w_cV1 (a := x) (as := [_]) (rest := _) rfl d_40_97 (by rfl) (by rfl) (by first | rfl | assumption) (by rfl) (by rfl) (Nat.le_of_ble_eq_true rfl) (by omega) (by omega) (by have e := t_peek (sc := sc) (fr := fr - 1) (lo := lo - (19 + 2)) (μ := (stI μ 20 5 (μ.1 20 5 + 1))) (ρ := ρ) hX0 hX1 (by rw [m2]; omega) (k := μ.1 20 5 + 1) (by omega); rw [m2] at e; exact e) ?_
          by_cases hE : μ.1 20 5 + 1 < μ.1 x 1 ∧ (μ.2.2 (x + 1) (μ.1 20 5 + 1) = 34 ∨ μ.2.2 (x + 1) (μ.1 20 5 + 1) = 92 ∨ μ.2.2 (x + 1) (μ.1 20 5 + 1) = 47)
          · rw [if_pos ⟨by omega, hE.1⟩]
            refine w_cV0 (as := [_]) (rest := _) rfl d_40_100 (by rfl) (by rfl) (by first | rfl | assumption) (by rfl) (by rfl) (Nat.le_of_ble_eq_true rfl) (by omega) (by omega) (t_resc hE.2) ?_
            refine w_ld d_40_103 rfl rfl rfl ?_
            refine w_getR d_40_104 (by rfl) (by first | rfl | assumption) (by rfl) (by first | assumption | (simp only [stI, stA, stR, adw]; assumption)) ?_
            refine w_getF d_40_107 (by rfl) (by first | rfl | assumption) (by rfl) (by rfl) ?_
            refine w_ld d_40_110 rfl rfl rfl ?_
            refine w_getR d_40_111 (by rfl) (by first | rfl | assumption) (by rfl) (by first | assumption | (simp only [stI, stA, stR, adw]; assumption)) ?_
            refine w_ld d_40_114 rfl rfl rfl ?_
            refine w_gI d_40_115 (by rfl) (by first | rfl | assumption) (by rfl) (by first | exact stI_at _ _ _ _ | ((try simp only [stI, stA, stR, adw, and_self, if_true]) <;> (repeat first | rw [if_neg (by omega)] | rw [if_pos (by omega)]) <;> rfl)) ?_
            refine w_cV1 (a := x) (as := [_]) (rest := _) rfl d_40_118 (by rfl) (by rfl) (by first | rfl | assumption) (by rfl) (by rfl) (Nat.le_of_ble_eq_true rfl) (by omega) (by omega) (by have e := t_peek (sc := sc) (fr := fr - 1) (lo := lo - (19 + 2)) (μ := (stI μ 20 5 (μ.1 20 5 + 1))) (ρ := ρ) hX0 hX1 (by rw [m2]; omega) (k := μ.1 20 5 + 1) (by omega); rw [m2] at e; exact e) ?_
            rw [if_pos ⟨by omega, hE.1⟩]
            refine w_cV1 (a := t + 7) (as := [_]) (rest := _) rfl d_40_121 (by rfl) (by rfl) (by first | rfl | assumption) (by rfl) (by rfl) (Nat.le_of_ble_eq_true rfl) (by omega) (by omega) (t_add1 (μ := (stI μ 20 5 (μ.1 20 5 + 1))) hT7 hT8 (by rw [m3]; omega) (hch _)) ?_
            rw [m3]
            refine w_stk d_40_124 rfl ?_
            refine w_ld d_40_125 rfl rfl rfl ?_
            refine w_stk d_40_126 rfl ?_
            refine w_gI d_40_127 (by rfl) (by first | rfl | assumption) (by rfl) (by first | exact stI_at _ _ _ _ | ((try simp only [stI, stA, stR, adw, and_self, if_true]) <;> (repeat first | rw [if_neg (by omega)] | rw [if_pos (by omega)]) <;> rfl)) ?_
            refine w_con d_40_130 ?_
            refine w_iadd d_40_131 ?_
            refine w_putI d_40_132 (by rfl) (by first | rfl | assumption) (by rfl) (fit_I (by rfl)) (by rfl) ?_
            refine w_goto (g := 32) d_40_135 (by decide) ?_
            have hN : ∃ N, N = stI (stI (stA (stI μ 20 5 (μ.1 20 5 + 1)) (t + 7 + 1) (μ.1 (t + 7) 1) (μ.2.2 (x + 1) (μ.1 20 5 + 1))) (t + 7) 1 (μ.1 (t + 7) 1 + 1)) 20 5 (μ.1 20 5 + 1 + 1) := ⟨_, rfl⟩
            obtain ⟨N, hN⟩ := hN
            have n1 : N.1 20 5 = μ.1 20 5 + 2 := by rw [hN, stI_at]; omega
            have n2 : N.1 x 1 = μ.1 x 1 := by rw [hN, stI_ne (by omega), stI_ne (by omega)]; first | rfl | exact stI_ne (by omega)
            have n3 : N.2.2 (x + 1) = μ.2.2 (x + 1) := by rw [hN]; funext z; simp only [stI, stA]; rw [if_neg (by omega)]
            have n4 : N.1 (t + 7) 1 = μ.1 (t + 7) 1 + 1 := by rw [hN]; rw [stI_ne (by omega)]; exact stI_at _ _ _ _
            have n5 : ∀ l, apL N (t + 7) l = stI (apL μ (t + 7) (μ.2.2 (x + 1) (μ.1 20 5 + 1) :: l)) 20 5 (μ.1 20 5 + 1 + 1) := fun l => by
              rw [hN, apL_stI (by omega), ← m3, apL_cons, apL_stI (by omega), stI_stI]
            rw [← hN]
            refine ih _ ?_ N rfl ?_ ?_ ?_ ?_ ?_ ?_ ?_ ?_
            · rw [n1, n2]; omega
            · rw [hN]; exact hx
            · rw [hN]; exact ht
            · rw [n2]; exact hn
            · rw [n3]; exact hch
            · rw [n1, n2]; omega
            · rw [n1, n2, n4]; omega
            · intro q l hq
              rw [n1, n2, n3] at hq
              rw [n5, stI_stI]
              exact kO q (μ.2.2 (x + 1) (μ.1 20 5 + 1) :: l) (by rw [rw_e h43 h75 hE, show μ.1 20 5 + 2 = μ.1 20 5 + 2 from rfl, hq])
            · intro w μ' hq hw
              rw [n1, n2, n3] at hq
              obtain ⟨p, l, w1, w2, w3⟩ := hw
              refine kX w μ' (by rw [rw_e h43 h75 hE, hq]) ⟨p, μ.2.2 (x + 1) (μ.1 20 5 + 1) :: l, ?_, ?_, ?_⟩
              · rw [n4] at w1
                simp only [List.length_cons]
                omega
              · intro z hz
                rcases List.mem_cons.mp hz with rfl | hz
                · exact hch _
                · exact w2 z hz
              · rw [w3, n5, stI_stI]
          · refine w_cVx (as := [_]) (rest := _) rfl d_40_100 (by rfl) (by rfl) (by first | rfl | assumption) (by rfl) (by rfl) (Nat.le_of_ble_eq_true rfl) (by omega) (by omega) (t_rescx (c := (if 0 ≤ μ.1 20 5 + 1 ∧ μ.1 20 5 + 1 < μ.1 x 1 then μ.2.2 (x + 1) (μ.1 20 5 + 1) else -1)) (by have e1 := hch (μ.1 20 5 + 1); split <;> omega) (fun z => hE (by
              split at z
              · rename_i z1
                exact ⟨z1.2, z⟩
              · omega)) (by omega) (by omega) hr) ?_
            rw [m1]
            exact kX _ _ (rw_x h43 h75 hE) ⟨μ.1 20 5 + 1, [], (by simp; omega), (fun c hc => by cases hc), (by rw [apL_nil])⟩
