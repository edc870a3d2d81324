/-! THE PURE PART, 47: contracts: the reference reads a raw word -/
/-- letters are added to the reference's letters -/
def apM (μ : Mem) (l : List Int) : Mem := (fun b q => if b = 46 ∧ q = 18 then μ.1 46 18 + l.length else μ.1 b q, μ.2.1, fun b i => if b = 57 ∧ 480 + μ.1 46 18 ≤ i ∧ i < 480 + μ.1 46 18 + l.length then l.getD (i - (480 + μ.1 46 18)).toNat 0 else μ.2.2 b i)
theorem apM_nil (μ : Mem) : apM μ [] = μ := by
  refine Prod.ext ?_ (Prod.ext rfl ?_)
  · funext b q
    show (if b = 46 ∧ q = 18 then μ.1 46 18 + ((0 : Nat) : Int) else μ.1 b q) = μ.1 b q
    split
    · rename_i h
      rw [h.1, h.2]
      omega
    · rfl
  · funext b i
    show (if b = 57 ∧ 480 + μ.1 46 18 ≤ i ∧ i < 480 + μ.1 46 18 + ((0 : Nat) : Int) then _ else μ.2.2 b i) = μ.2.2 b i
    rw [if_neg (by omega)]
theorem apM_cons (μ : Mem) (c : Int) (l : List Int) : apM (stI (stA μ 57 (480 + μ.1 46 18) c) 46 18 (μ.1 46 18 + 1)) l = apM μ (c :: l) := by
  have e : (stI (stA μ 57 (480 + μ.1 46 18) c) 46 18 (μ.1 46 18 + 1)).1 46 18 = μ.1 46 18 + 1 := rfl
  refine Prod.ext ?_ (Prod.ext rfl ?_)
  · funext b q
    show (if b = 46 ∧ q = 18 then (stI (stA μ 57 (480 + μ.1 46 18) c) 46 18 (μ.1 46 18 + 1)).1 46 18 + (l.length : Int) else (if b = 46 ∧ q = 18 then μ.1 46 18 + 1 else μ.1 b q)) = (if b = 46 ∧ q = 18 then μ.1 46 18 + ((c :: l).length : Int) else μ.1 b q)
    rw [e]
    split
    · simp only [List.length_cons]
      omega
    · rfl
  · funext b i
    show (if b = 57 ∧ 480 + (stI (stA μ 57 (480 + μ.1 46 18) c) 46 18 (μ.1 46 18 + 1)).1 46 18 ≤ i ∧ i < 480 + (stI (stA μ 57 (480 + μ.1 46 18) c) 46 18 (μ.1 46 18 + 1)).1 46 18 + (l.length : Int) then l.getD (i - (480 + (stI (stA μ 57 (480 + μ.1 46 18) c) 46 18 (μ.1 46 18 + 1)).1 46 18)).toNat 0 else (if b = 57 ∧ i = 480 + μ.1 46 18 then c else μ.2.2 b i)) = (if b = 57 ∧ 480 + μ.1 46 18 ≤ i ∧ i < 480 + μ.1 46 18 + ((c :: l).length : Int) then (c :: l).getD (i - (480 + μ.1 46 18)).toNat 0 else μ.2.2 b i)
    rw [e]
    simp only [List.length_cons]
    by_cases hb : b = 57
    · by_cases hi : i = 480 + μ.1 46 18
      · rw [if_neg (by omega), if_pos ⟨hb, hi⟩, if_pos (by omega), show (i - (480 + μ.1 46 18)).toNat = 0 by omega]
        rfl
      · by_cases hr : 480 + (μ.1 46 18 + 1) ≤ i ∧ i < 480 + (μ.1 46 18 + 1) + (l.length : Int)
        · rw [if_pos ⟨hb, hr⟩, if_pos (by omega), show (i - (480 + μ.1 46 18)).toNat = (i - (480 + (μ.1 46 18 + 1))).toNat + 1 by omega]
          rfl
        · rw [if_neg (fun z => hr z.2), if_neg (fun z => hi z.2), if_neg (by omega)]
    · rw [if_neg (fun z => hb z.1), if_neg (fun z => hb z.1), if_neg (fun z => hb z.1)]
theorem apM_stI {μ : Mem} {q : Nat} {v : Int} {l : List Int} (h : q ≠ 18) : apM (stI μ 46 q v) l = stI (apM μ l) 46 q v := by
  have e : (stI μ 46 q v).1 46 18 = μ.1 46 18 := stI_ne (fun z => h z.2.symm)
  refine Prod.ext ?_ (Prod.ext rfl ?_)
  · funext c m
    show (if c = 46 ∧ m = 18 then (stI μ 46 q v).1 46 18 + (l.length : Int) else (if c = 46 ∧ m = q then v else μ.1 c m)) = (if c = 46 ∧ m = q then v else (if c = 46 ∧ m = 18 then μ.1 46 18 + (l.length : Int) else μ.1 c m))
    rw [e]
    by_cases h1 : c = 46 ∧ m = 18
    · rw [if_pos h1, if_neg (fun z => h (z.2.symm.trans h1.2)), if_pos h1]
    · rw [if_neg h1, if_neg h1]
  · funext c i
    show (if c = 57 ∧ 480 + (stI μ 46 q v).1 46 18 ≤ i ∧ i < 480 + (stI μ 46 q v).1 46 18 + (l.length : Int) then l.getD (i - (480 + (stI μ 46 q v).1 46 18)).toNat 0 else μ.2.2 c i) = _
    rw [e]
    rfl
/-- what the reference's reading leaves as it was -/
def mfr (ν ν' : Mem) : Prop := (∀ a q, a ≠ 46 → ν'.1 a q = ν.1 a q) ∧ (∀ q, q ≠ 15 → q ≠ 16 → q ≠ 17 → q ≠ 18 → q ≠ 24 → q ≠ 25 → q ≠ 26 → ν'.1 46 q = ν.1 46 q) ∧ ν'.2.1 = ν.2.1 ∧ (∀ a, a < 49 ∨ 63 < a ∨ 58 ≤ a ∧ a ≤ 61 → ν'.2.2 a = ν.2.2 a) ∧ (∀ a i, 49 ≤ a → a ≤ 56 → i < 256 → ν'.2.2 a i = ν.2.2 a i) ∧ ∀ i, i < 480 → ν'.2.2 57 i = ν.2.2 57 i
theorem mfr_refl (ν : Mem) : mfr ν ν := ⟨fun _ _ _ => rfl, fun _ _ _ _ _ _ _ _ => rfl, rfl, fun _ _ => rfl, fun _ _ _ _ _ => rfl, fun _ _ => rfl⟩
theorem mfr_trans {α β γ : Mem} (h : mfr α β) (g : mfr β γ) : mfr α γ :=
  ⟨fun a q z => (g.1 a q z).trans (h.1 a q z), fun q z1 z2 z3 z4 z5 z6 z7 => (g.2.1 q z1 z2 z3 z4 z5 z6 z7).trans (h.2.1 q z1 z2 z3 z4 z5 z6 z7), g.2.2.1.trans h.2.2.1, fun a z => (g.2.2.2.1 a z).trans (h.2.2.2.1 a z), fun a i z1 z2 z3 => (g.2.2.2.2.1 a i z1 z2 z3).trans (h.2.2.2.2.1 a i z1 z2 z3), fun i z => (g.2.2.2.2.2 i z).trans (h.2.2.2.2.2 i z)⟩
theorem mfr_I {ν : Mem} {q : Nat} {v : Int} (h : q = 15 ∨ q = 16 ∨ q = 17 ∨ q = 18 ∨ q = 24 ∨ q = 25 ∨ q = 26) : mfr ν (stI ν 46 q v) :=
  ⟨fun a m z => stI_ne (fun w => z w.1), fun m z1 z2 z3 z4 z5 z6 z7 => stI_ne (fun w => by omega), rfl, fun _ _ => rfl, fun _ _ _ _ _ => rfl, fun _ _ => rfl⟩
theorem mfr_A {ν : Mem} {a : Nat} {i v : Int} (h : (49 ≤ a ∧ a ≤ 56 ∧ 256 ≤ i) ∨ (a = 57 ∧ 480 ≤ i) ∨ (62 ≤ a ∧ a ≤ 63)) : mfr ν (stA ν a i v) :=
  ⟨fun _ _ _ => rfl, fun _ _ _ _ _ _ _ _ => rfl, rfl, fun b z => by
    funext m
    exact if_neg (fun w => by omega), fun b m z1 z2 z3 => if_neg (fun w => by omega), fun m z => if_neg (fun w => by omega)⟩
def mfw (ν ν' : Mem) : Prop := (∀ a q, a ≠ 46 → ν'.1 a q = ν.1 a q) ∧ (∀ q, q ≠ 15 → q ≠ 16 → q ≠ 17 → q ≠ 18 → q ≠ 19 → q ≠ 24 → q ≠ 25 → q ≠ 26 → ν'.1 46 q = ν.1 46 q) ∧ ν'.2.1 = ν.2.1 ∧ (∀ a, a < 49 ∨ 63 < a → ν'.2.2 a = ν.2.2 a) ∧ (∀ a i, 49 ≤ a → a ≤ 56 → i < 256 → ν'.2.2 a i = ν.2.2 a i) ∧ ∀ i, i < 480 → ν'.2.2 57 i = ν.2.2 57 i
theorem mfw_refl (ν : Mem) : mfw ν ν := ⟨fun _ _ _ => rfl, fun _ _ _ _ _ _ _ _ _ => rfl, rfl, fun _ _ => rfl, fun _ _ _ _ _ => rfl, fun _ _ => rfl⟩
theorem mfw_trans {α β γ : Mem} (h : mfw α β) (g : mfw β γ) : mfw α γ :=
  ⟨fun a q z => (g.1 a q z).trans (h.1 a q z), fun q z1 z2 z3 z4 z5 z6 z7 z8 => (g.2.1 q z1 z2 z3 z4 z5 z6 z7 z8).trans (h.2.1 q z1 z2 z3 z4 z5 z6 z7 z8), g.2.2.1.trans h.2.2.1, fun a z => (g.2.2.2.1 a z).trans (h.2.2.2.1 a z), fun a i z1 z2 z3 => (g.2.2.2.2.1 a i z1 z2 z3).trans (h.2.2.2.2.1 a i z1 z2 z3), fun i z => (g.2.2.2.2.2 i z).trans (h.2.2.2.2.2 i z)⟩
theorem mfw_I {ν : Mem} {q : Nat} {v : Int} (h : q = 15 ∨ q = 16 ∨ q = 17 ∨ q = 18 ∨ q = 19 ∨ q = 24 ∨ q = 25 ∨ q = 26) : mfw ν (stI ν 46 q v) :=
  ⟨fun a m z => stI_ne (fun w => z w.1), fun m z1 z2 z3 z4 z5 z6 z7 z8 => stI_ne (fun w => by omega), rfl, fun _ _ => rfl, fun _ _ _ _ _ => rfl, fun _ _ => rfl⟩
theorem mfw_A {ν : Mem} {a : Nat} {i v : Int} (h : (49 ≤ a ∧ a ≤ 56 ∧ 256 ≤ i) ∨ (a = 57 ∧ 480 ≤ i) ∨ (58 ≤ a ∧ a ≤ 63)) : mfw ν (stA ν a i v) :=
  ⟨fun _ _ _ => rfl, fun _ _ _ _ _ _ _ _ _ => rfl, rfl, fun b z => by
    funext m
    exact if_neg (fun w => by omega), fun b m z1 z2 z3 => if_neg (fun w => by omega), fun m z => if_neg (fun w => by omega)⟩
theorem mfr.w {ν ν' : Mem} (h : mfr ν ν') : mfw ν ν' := ⟨h.1, fun q h1 h2 h3 h4 h5 h6 h7 h8 => h.2.1 q h1 h2 h3 h4 h6 h7 h8, h.2.2.1, fun a ha => h.2.2.2.1 a (by omega), h.2.2.2.2⟩
/-- the reference went wrong at w -/
def mbad (ν ν' : Mem) (w : Int) : Prop := mfr ν ν' ∧ ν'.1 46 16 = w ∧ (0 ≤ ν'.1 46 15 ∧ ν'.1 46 15 ≤ 900)
def mbd (ν ν' : Mem) (w : Int) : Prop := mfr ν ν' ∧ ν'.1 46 16 = w ∧ (0 ≤ ν'.1 46 15 ∧ ν'.1 46 15 ≤ 800)
/-- the same, whatever happened to the levels -/
def mbw (ν ν' : Mem) (w : Int) : Prop := mfw ν ν' ∧ ν'.1 46 16 = w ∧ (0 ≤ ν'.1 46 15 ∧ ν'.1 46 15 ≤ 900)
theorem mbad.w {ν ν' : Mem} {w : Int} (h : mbad ν ν' w) : mbw ν ν' w := ⟨h.1.w, h.2⟩
/-- the loop of readRaw -/
theorem m_readRaw_l {sc : Nat × (Nat → Int32)} {fr lo : Nat} {ρ : Nat × Nat × Nat} {Q : z_O → z_T → Prop} (hf : 8 ≤ fr) (hl : 200 ≤ lo) : ∀ (m : Nat) (μ : Mem), (μ.1 46 3 - μ.1 46 15).toNat = m → μ.1 46 16 = -1 → (0 ≤ (μ.1 46 3) ∧ (μ.1 46 3) ≤ 240) → (∀ k, 0 ≤ (μ.2.2 47) k ∧ (μ.2.2 47) k < 65536) → (∀ k, 0 ≤ k → k < (μ.1 46 3) → 32 ≤ (μ.2.2 47) k) → (0 ≤ (μ.1 46 15) ∧ (μ.1 46 15) ≤ (μ.1 46 3)) → (0 ≤ μ.1 46 18 ∧ μ.1 46 18 + ((μ.1 46 3) - (μ.1 46 15)) ≤ 239) → (∀ (q : Int) (l : List Int), rw' (μ.2.2 47) (μ.1 46 3) (μ.1 46 15) = .inr (q, l) → w_P sc fr lo 125 7 2 false (none) prog_9_method_23_code 165 [some (.ref 46), none] [] (hp (stI (apM μ l) 46 15 q), ρ) Q) → (∀ (w : Int) (μ' : Mem), rw' (μ.2.2 47) (μ.1 46 3) (μ.1 46 15) = .inl w → mbd μ μ' w → (∀ k, (0 ≤ μ.2.2 57 k ∧ μ.2.2 57 k < 65536) → 0 ≤ μ'.2.2 57 k ∧ μ'.2.2 57 k < 65536) → w_P sc fr lo 125 7 2 false (none) prog_9_method_23_code 165 [some (.ref 46), none] [] (hp μ', ρ) Q) → w_P sc fr lo 125 7 2 false (none) prog_9_method_23_code 22 [some (.ref 46), none] [] (hp (μ), ρ) Q := by
  intro m
  induction m using Nat.strongRecOn with
  | ind m ih =>
    intro μ hm h16 hn hch h32 hpl hu kO kX
    refine w_ld d_125_22 rfl rfl rfl ?_
    refine w_gI d_125_23 (by rfl) (by first | rfl | assumption) (by rfl) h16 ?_
    refine w_if_ge (g := 165) d_125_26 (by decide) (by omega) (fun h26 => ?_) (fun h26 => ?_)
    · exact absurd h26 (by omega)
    · refine w_ld d_125_29 rfl rfl rfl ?_
      refine w_ld d_125_30 rfl rfl rfl ?_
      refine w_gI d_125_31 (by rfl) (by first | rfl | assumption) (by rfl) (by first | exact h16 | rfl) ?_
      refine w_cV1 (a := 46) (as := [_]) (rest := _) rfl d_125_34 (by rfl) (by rfl) (by first | rfl | assumption) (by rfl) (by rfl) (Nat.le_of_ble_eq_true rfl) (by omega) (by omega) (m_look hn (by omega) (by omega)) ?_
      refine w_bip d_125_37 (by decide) ?_
      refine w_icmp_eq (g := 165) d_125_39 (by decide) (by have e1 := hch (μ.1 46 15); split <;> omega) (fun h39 => ?_) (fun h39 => ?_)
      · have hlt : μ.1 46 15 < μ.1 46 3 := Decidable.byContradiction (fun z => by rw [if_neg z] at h39; cases h39)
        rw [if_pos hlt] at h39
        have e := kO _ _ (rw_q hlt h39)
        rw [apM_nil, stI_self] at e
        exact e
      · refine w_ld d_125_42 rfl rfl rfl ?_
        refine w_ld d_125_43 rfl rfl rfl ?_
        refine w_gI d_125_44 (by rfl) (by first | rfl | assumption) (by rfl) (by first | exact h16 | rfl) ?_
        refine w_cV1 (a := 46) (as := [_]) (rest := _) rfl d_125_47 (by rfl) (by rfl) (by first | rfl | assumption) (by rfl) (by rfl) (Nat.le_of_ble_eq_true rfl) (by omega) (by omega) (m_look hn (by omega) (by omega)) ?_
        refine w_st1 (L' := [_, _]) d_125_50 rfl (by decide) rfl (by decide) rfl ?_
        refine w_ld d_125_51 rfl rfl rfl ?_
        refine w_bip d_125_52 (by decide) ?_
        refine w_icmp_ne (g := 102) d_125_54 (by decide) (by have e1 := hch (μ.1 46 15); split <;> omega) (fun h54 => ?_) (fun h54 => ?_)
        · by_cases hlt : μ.1 46 15 < μ.1 46 3
          · rw [if_pos hlt] at h39 h54 ⊢
            have e32 := h32 _ hpl.1 hlt
            have e1 := hch (μ.1 46 15)
            refine w_ld d_125_102 rfl rfl rfl ?_
            refine w_if_ne (g := 114) d_125_103 (by decide) (by omega) (fun h103 => ?_) (fun h103 => ?_)
            · refine w_ld d_125_114 rfl rfl rfl ?_
              refine w_getF d_125_115 (by rfl) (by first | rfl | assumption) (by rfl) (by rfl) ?_
              refine w_sip d_125_118 (by decide) ?_
              refine w_ld d_125_121 rfl rfl rfl ?_
              refine w_gI d_125_122 (by rfl) (by first | rfl | assumption) (by rfl) (show _ = μ.1 46 18 from rfl) ?_
              refine w_iadd d_125_125 ?_
              refine w_ld d_125_126 rfl rfl rfl ?_
              refine w_iast d_125_127 (by first | rfl | assumption) (by omega) ?_
              refine w_ld d_125_128 rfl rfl rfl ?_
              refine w_ld d_125_129 rfl rfl rfl ?_
              refine w_gI d_125_130 (by rfl) (by first | rfl | assumption) (by rfl) (show (stA μ 57 (480 + μ.1 46 18) (μ.2.2 47 (μ.1 46 15))).1 46 16 = -1 from h16) ?_
              refine w_if_ge (g := 145) d_125_133 (by decide) (by omega) (fun h133 => ?_) (fun h133 => ?_)
              · exact absurd h133 (by omega)
              · refine w_ld d_125_136 rfl rfl rfl ?_
                refine w_gI d_125_137 (by rfl) (by first | rfl | assumption) (by rfl) (show _ = μ.1 46 18 from rfl) ?_
                refine w_con d_125_140 ?_
                refine w_iadd d_125_141 ?_
                refine w_goto (g := 149) d_125_142 (by decide) ?_
                refine w_putI d_125_149 (by rfl) (by first | rfl | assumption) (by rfl) (fit_I (by rfl)) (by rfl) ?_
                refine w_ld d_125_152 rfl rfl rfl ?_
                refine w_stk d_125_153 rfl ?_
                refine w_gI d_125_154 (by rfl) (by first | rfl | assumption) (by rfl) (show _ = μ.1 46 15 from rfl) ?_
                refine w_con d_125_157 ?_
                refine w_iadd d_125_158 ?_
                refine w_putI d_125_159 (by rfl) (by first | rfl | assumption) (by rfl) (fit_I (by rfl)) (by rfl) ?_
                refine w_goto (g := 22) d_125_162 (by decide) ?_
                obtain ⟨N, hN⟩ : ∃ N, N = (stI (stI (stA μ 57 (480 + μ.1 46 18) (μ.2.2 47 (μ.1 46 15))) 46 18 (μ.1 46 18 + 1)) 46 15 (μ.1 46 15 + 1)) := ⟨_, rfl⟩
                have n1 : N.1 46 15 = μ.1 46 15 + 1 := by rw [hN, stI_at]
                have n2 : N.1 46 3 = μ.1 46 3 := by rw [hN]; rfl
                have n3 : N.2.2 47 = μ.2.2 47 := by rw [hN]; rfl
                have n4 : N.1 46 18 = μ.1 46 18 + 1 := by rw [hN]; rfl
                have n6 : N.1 46 16 = -1 := by rw [hN]; exact h16
                have n7 : ∀ i, N.2.2 57 i = if i = 480 + μ.1 46 18 then μ.2.2 47 (μ.1 46 15) else μ.2.2 57 i := fun i => by
                  rw [hN]
                  show (if 57 = 57 ∧ i = 480 + μ.1 46 18 then _ else _) = _
                  by_cases hz : i = 480 + μ.1 46 18
                  · rw [if_pos ⟨rfl, hz⟩, if_pos hz]
                  · rw [if_neg (fun w => hz w.2), if_neg hz]
                    all_goals rfl
                have n8 : mfr μ N := by
                  rw [hN]
                  exact mfr_trans (mfr_A (a := 57) (i := 480 + μ.1 46 18) (Or.inr (Or.inl ⟨rfl, by omega⟩))) (mfr_trans (mfr_I (q := 18) (by decide)) (mfr_I (q := 15) (by decide)))
                have n5 : ∀ l, apM N l = stI (apM μ (μ.2.2 47 (μ.1 46 15) :: l)) 46 15 (μ.1 46 15 + 1) := fun l => by
                  rw [hN, apM_stI (by decide), apM_cons]
                rw [← hN]
                refine w_P.le (ih _ ?_ N rfl n6 ?_ ?_ ?_ ?_ ?_ ?_ ?_) ⟨rfl, trivial⟩
                · rw [n1, n2]; omega
                · rw [n2]; exact hn
                · rw [n3]; exact hch
                · rw [n2, n3]; exact h32
                · rw [n1, n2]; omega
                · rw [n1, n2, n4]; omega
                · intro q l hq
                  rw [n1, n2, n3] at hq
                  rw [n5, stI_stI]
                  exact kO q (μ.2.2 47 (μ.1 46 15) :: l) (by rw [rw_c hlt h39 h54, hq])
                · intro w μ' hq hw hw2
                  rw [n1, n2, n3] at hq
                  refine kX w μ' (by rw [rw_c hlt h39 h54, hq]) ⟨mfr_trans n8 hw.1, hw.2⟩ (fun i hi => hw2 i ?_)
                  rw [n7]
                  split
                  · exact hch _
                  · exact hi
            · exact absurd h103 (by omega)
          · rw [if_neg hlt]
            refine w_ld d_125_102 rfl rfl rfl ?_
            refine w_if_ne (g := 114) d_125_103 (by decide) (by decide) (fun h103 => ?_) (fun h103 => ?_)
            · exact absurd rfl h103
            · refine w_ld d_125_106 rfl rfl rfl ?_
              refine w_ld d_125_107 rfl rfl rfl ?_
              refine w_gI d_125_108 (by rfl) (by first | rfl | assumption) (by rfl) rfl ?_
              refine w_cV0 (a := 46) (as := [_]) (rest := _) rfl d_125_111 (by rfl) (by rfl) (by first | rfl | assumption) (by rfl) (by rfl) (Nat.le_of_ble_eq_true rfl) (by omega) (by omega) (by have e := m_fail (sc := sc) (fr := fr - 1) (lo := lo - (19 + 2)) (μ := μ) (ρ := ρ) (by rw [show (μ).1 46 16 = -1 from h16]; decide) (k := μ.1 46 3); rw [show (μ).1 46 16 = -1 from h16, if_pos (by decide)] at e; exact e) ?_
              refine w_ld d_125_114 rfl rfl rfl ?_
              refine w_getF d_125_115 (by rfl) (by first | rfl | assumption) (by rfl) (by rfl) ?_
              refine w_sip d_125_118 (by decide) ?_
              refine w_ld d_125_121 rfl rfl rfl ?_
              refine w_gI d_125_122 (by rfl) (by first | rfl | assumption) (by rfl) (show _ = μ.1 46 18 from rfl) ?_
              refine w_iadd d_125_125 ?_
              refine w_ld d_125_126 rfl rfl rfl ?_
              refine w_iast d_125_127 (by first | rfl | assumption) (by omega) ?_
              refine w_ld d_125_128 rfl rfl rfl ?_
              refine w_ld d_125_129 rfl rfl rfl ?_
              refine w_gI d_125_130 (by rfl) (by first | rfl | assumption) (by rfl) (show _ = μ.1 46 3 from rfl) ?_
              refine w_if_ge (g := 145) d_125_133 (by decide) (by omega) (fun h133 => ?_) (fun h133 => ?_)
              · refine w_ld d_125_145 rfl rfl rfl ?_
                refine w_gI d_125_146 (by rfl) (by first | rfl | assumption) (by rfl) (show _ = μ.1 46 18 from rfl) ?_
                refine w_putI d_125_149 (by rfl) (by first | rfl | assumption) (by rfl) (fit_I (by rfl)) (by rfl) ?_
                refine w_ld d_125_152 rfl rfl rfl ?_
                refine w_stk d_125_153 rfl ?_
                refine w_gI d_125_154 (by rfl) (by first | rfl | assumption) (by rfl) (show _ = μ.1 46 15 from rfl) ?_
                refine w_con d_125_157 ?_
                refine w_iadd d_125_158 ?_
                refine w_putI d_125_159 (by rfl) (by first | rfl | assumption) (by rfl) (fit_I (by rfl)) (by rfl) ?_
                refine w_goto (g := 22) d_125_162 (by decide) ?_
                obtain ⟨N, hN⟩ : ∃ N, N = (stI (stI (stA (stI μ 46 16 (μ.1 46 3)) 57 (480 + μ.1 46 18) 0) 46 18 (μ.1 46 18)) 46 15 (μ.1 46 15 + 1)) := ⟨_, rfl⟩
                rw [← hN]
                have b16 : N.1 46 16 = μ.1 46 3 := by rw [hN]; rfl
                refine w_ld d_125_22 rfl rfl rfl ?_
                refine w_gI d_125_23 (by rfl) rfl (by rfl) b16 ?_
                refine w_if_ge (g := 165) d_125_26 (by decide) (by omega) (fun _ => ?_) (fun h => absurd h (by omega))
                refine w_P.le (kX _ N (by rw [rw_end hlt, show μ.1 46 15 = μ.1 46 3 by omega]) ⟨?_, b16, ?_⟩ ?_) ⟨rfl, trivial⟩
                · rw [hN]
                  exact mfr_trans (mfr_I (by omega)) (mfr_trans (mfr_A (Or.inr (Or.inl ⟨rfl, by omega⟩))) (mfr_trans (mfr_I (by omega)) (mfr_I (by omega))))
                · rw [hN, stI_at]; omega
                · intro k hk
                  rw [hN]
                  show 0 ≤ (if 57 = 57 ∧ k = 480 + μ.1 46 18 then 0 else μ.2.2 57 k) ∧ (if 57 = 57 ∧ k = 480 + μ.1 46 18 then 0 else μ.2.2 57 k) < 65536
                  split
                  · decide
                  · exact hk
              · exact absurd h133 (by omega)
        · have hlt : μ.1 46 15 < μ.1 46 3 := Decidable.byContradiction (fun z => by rw [if_neg z] at h54; cases h54)
          rw [if_pos hlt] at h39 h54
          refine w_ld d_125_57 rfl rfl rfl ?_
          refine w_stk d_125_58 rfl ?_
          refine w_gI d_125_59 (by rfl) (by first | rfl | assumption) (by rfl) (by first | exact h16 | rfl) ?_
          refine w_con d_125_62 ?_
          refine w_iadd d_125_63 ?_
          refine w_putI d_125_64 (by rfl) (by first | rfl | assumption) (by rfl) (fit_I (by rfl)) (by rfl) ?_
          refine w_ld d_125_67 rfl rfl rfl ?_
          refine w_ld d_125_68 rfl rfl rfl ?_
          refine w_gI d_125_69 (by rfl) (by first | rfl | assumption) (by rfl) (show _ = μ.1 46 15 + 1 from rfl) ?_
          refine w_cV1 (a := 46) (as := [_]) (rest := _) rfl d_125_72 (by rfl) (by rfl) (by first | rfl | assumption) (by rfl) (by rfl) (Nat.le_of_ble_eq_true rfl) (by omega) (by omega) (by have e := m_look (sc := sc) (fr := fr - 1) (lo := lo - (19 + 2)) (μ := (stI μ 46 15 (μ.1 46 15 + 1))) (ρ := ρ) hn (k := μ.1 46 15 + 1) (by omega) (by omega); exact e) ?_
          by_cases hE : μ.1 46 15 + 1 < μ.1 46 3 ∧ (μ.2.2 47 (μ.1 46 15 + 1) = 34 ∨ μ.2.2 47 (μ.1 46 15 + 1) = 92 ∨ μ.2.2 47 (μ.1 46 15 + 1) = 47)
          · show w_P _ _ _ _ _ _ _ _ _ _ _ [.int (ji (if μ.1 46 15 + 1 < μ.1 46 3 then μ.2.2 47 (μ.1 46 15 + 1) else 0))] _ _
            rw [if_pos hE.1]
            refine w_st1 (L' := [_, _]) d_125_75 rfl (by decide) rfl (by decide) rfl ?_
            refine w_ld d_125_76 rfl rfl rfl ?_
            refine w_bip d_125_77 (by decide) ?_
            refine w_icmp_eq (g := 102) d_125_79 (by decide) (by have := hch (μ.1 46 15 + 1); omega) (fun h79 => ?_) (fun h79 => ?_)
            · refine w_ld d_125_102 rfl rfl rfl ?_
              refine w_if_ne (g := 114) d_125_103 (by decide) (by have := hch (μ.1 46 15 + 1); omega) (fun h103 => ?_) (fun h103 => ?_)
              · refine w_ld d_125_114 rfl rfl rfl ?_
                refine w_getF d_125_115 (by rfl) (by first | rfl | assumption) (by rfl) (by rfl) ?_
                refine w_sip d_125_118 (by decide) ?_
                refine w_ld d_125_121 rfl rfl rfl ?_
                refine w_gI d_125_122 (by rfl) (by first | rfl | assumption) (by rfl) (show _ = μ.1 46 18 from rfl) ?_
                refine w_iadd d_125_125 ?_
                refine w_ld d_125_126 rfl rfl rfl ?_
                refine w_iast d_125_127 (by first | rfl | assumption) (by omega) ?_
                refine w_ld d_125_128 rfl rfl rfl ?_
                refine w_ld d_125_129 rfl rfl rfl ?_
                refine w_gI d_125_130 (by rfl) (by first | rfl | assumption) (by rfl) (show (stA (stI μ 46 15 (μ.1 46 15 + 1)) 57 (480 + μ.1 46 18) (μ.2.2 47 (μ.1 46 15 + 1))).1 46 16 = -1 from h16) ?_
                refine w_if_ge (g := 145) d_125_133 (by decide) (by omega) (fun h133 => ?_) (fun h133 => ?_)
                · exact absurd h133 (by omega)
                · refine w_ld d_125_136 rfl rfl rfl ?_
                  refine w_gI d_125_137 (by rfl) (by first | rfl | assumption) (by rfl) (show _ = μ.1 46 18 from rfl) ?_
                  refine w_con d_125_140 ?_
                  refine w_iadd d_125_141 ?_
                  refine w_goto (g := 149) d_125_142 (by decide) ?_
                  refine w_putI d_125_149 (by rfl) (by first | rfl | assumption) (by rfl) (fit_I (by rfl)) (by rfl) ?_
                  refine w_ld d_125_152 rfl rfl rfl ?_
                  refine w_stk d_125_153 rfl ?_
                  refine w_gI d_125_154 (by rfl) (by first | rfl | assumption) (by rfl) (show _ = μ.1 46 15 + 1 from rfl) ?_
                  refine w_con d_125_157 ?_
                  refine w_iadd d_125_158 ?_
                  refine w_putI d_125_159 (by rfl) (by first | rfl | assumption) (by rfl) (fit_I (by rfl)) (by rfl) ?_
                  refine w_goto (g := 22) d_125_162 (by decide) ?_
                  obtain ⟨N, hN⟩ : ∃ N, N = (stI (stI (stA (stI μ 46 15 (μ.1 46 15 + 1)) 57 (480 + μ.1 46 18) (μ.2.2 47 (μ.1 46 15 + 1))) 46 18 (μ.1 46 18 + 1)) 46 15 (μ.1 46 15 + 1 + 1)) := ⟨_, rfl⟩
                  have n1 : N.1 46 15 = μ.1 46 15 + 2 := by rw [hN, stI_at]; omega
                  have n2 : N.1 46 3 = μ.1 46 3 := by rw [hN]; rfl
                  have n3 : N.2.2 47 = μ.2.2 47 := by rw [hN]; rfl
                  have n4 : N.1 46 18 = μ.1 46 18 + 1 := by rw [hN]; rfl
                  have n6 : N.1 46 16 = -1 := by rw [hN]; exact h16
                  have n7 : ∀ i, N.2.2 57 i = if i = 480 + μ.1 46 18 then μ.2.2 47 (μ.1 46 15 + 1) else μ.2.2 57 i := fun i => by
                    rw [hN]
                    show (if 57 = 57 ∧ i = 480 + μ.1 46 18 then _ else _) = _
                    by_cases hz : i = 480 + μ.1 46 18
                    · rw [if_pos ⟨rfl, hz⟩, if_pos hz]
                    · rw [if_neg (fun w => hz w.2), if_neg hz]
                      all_goals rfl
                  have n8 : mfr μ N := by
                    rw [hN]
                    exact mfr_trans (mfr_I (q := 15) (by decide)) (mfr_trans (mfr_A (a := 57) (i := 480 + μ.1 46 18) (Or.inr (Or.inl ⟨rfl, by omega⟩))) (mfr_trans (mfr_I (q := 18) (by decide)) (mfr_I (q := 15) (by decide))))
                  have n5 : ∀ l, apM N l = stI (apM μ (μ.2.2 47 (μ.1 46 15 + 1) :: l)) 46 15 (μ.1 46 15 + 1 + 1) := fun l => by
                    rw [hN, apM_stI (by decide), show (480 + μ.1 46 18) = 480 + (stI μ 46 15 (μ.1 46 15 + 1)).1 46 18 from rfl, show μ.1 46 18 + 1 = (stI μ 46 15 (μ.1 46 15 + 1)).1 46 18 + 1 from rfl, apM_cons, apM_stI (by decide), stI_stI]
                  rw [← hN]
                  refine w_P.le (ih _ ?_ N rfl n6 ?_ ?_ ?_ ?_ ?_ ?_ ?_) ⟨rfl, trivial⟩
                  · rw [n1, n2]; omega
                  · rw [n2]; exact hn
                  · rw [n3]; exact hch
                  · rw [n2, n3]; exact h32
                  · rw [n1, n2]; omega
                  · rw [n1, n2, n4]; omega
                  · intro q l hq
                    rw [n1, n2, n3] at hq
                    rw [n5, stI_stI]
                    exact kO q (μ.2.2 47 (μ.1 46 15 + 1) :: l) (by rw [rw_e hlt h54 hE, hq])
                  · intro w μ' hq hw hw2
                    rw [n1, n2, n3] at hq
                    refine kX w μ' (by rw [rw_e hlt h54 hE, hq]) ⟨mfr_trans n8 hw.1, hw.2⟩ (fun i hi => hw2 i ?_)
                    rw [n7]
                    split
                    · exact hch _
                    · exact hi
              · exact absurd hE.2 (by omega)
            · refine w_ld d_125_82 rfl rfl rfl ?_
              refine w_bip d_125_83 (by decide) ?_
              refine w_icmp_eq (g := 102) d_125_85 (by decide) (by have := hch (μ.1 46 15 + 1); omega) (fun h85 => ?_) (fun h85 => ?_)
              · refine w_ld d_125_102 rfl rfl rfl ?_
                refine w_if_ne (g := 114) d_125_103 (by decide) (by have := hch (μ.1 46 15 + 1); omega) (fun h103 => ?_) (fun h103 => ?_)
                · refine w_ld d_125_114 rfl rfl rfl ?_
                  refine w_getF d_125_115 (by rfl) (by first | rfl | assumption) (by rfl) (by rfl) ?_
                  refine w_sip d_125_118 (by decide) ?_
                  refine w_ld d_125_121 rfl rfl rfl ?_
                  refine w_gI d_125_122 (by rfl) (by first | rfl | assumption) (by rfl) (show _ = μ.1 46 18 from rfl) ?_
                  refine w_iadd d_125_125 ?_
                  refine w_ld d_125_126 rfl rfl rfl ?_
                  refine w_iast d_125_127 (by first | rfl | assumption) (by omega) ?_
                  refine w_ld d_125_128 rfl rfl rfl ?_
                  refine w_ld d_125_129 rfl rfl rfl ?_
                  refine w_gI d_125_130 (by rfl) (by first | rfl | assumption) (by rfl) (show (stA (stI μ 46 15 (μ.1 46 15 + 1)) 57 (480 + μ.1 46 18) (μ.2.2 47 (μ.1 46 15 + 1))).1 46 16 = -1 from h16) ?_
                  refine w_if_ge (g := 145) d_125_133 (by decide) (by omega) (fun h133 => ?_) (fun h133 => ?_)
                  · exact absurd h133 (by omega)
                  · refine w_ld d_125_136 rfl rfl rfl ?_
                    refine w_gI d_125_137 (by rfl) (by first | rfl | assumption) (by rfl) (show _ = μ.1 46 18 from rfl) ?_
                    refine w_con d_125_140 ?_
                    refine w_iadd d_125_141 ?_
                    refine w_goto (g := 149) d_125_142 (by decide) ?_
                    refine w_putI d_125_149 (by rfl) (by first | rfl | assumption) (by rfl) (fit_I (by rfl)) (by rfl) ?_
                    refine w_ld d_125_152 rfl rfl rfl ?_
                    refine w_stk d_125_153 rfl ?_
                    refine w_gI d_125_154 (by rfl) (by first | rfl | assumption) (by rfl) (show _ = μ.1 46 15 + 1 from rfl) ?_
                    refine w_con d_125_157 ?_
                    refine w_iadd d_125_158 ?_
                    refine w_putI d_125_159 (by rfl) (by first | rfl | assumption) (by rfl) (fit_I (by rfl)) (by rfl) ?_
                    refine w_goto (g := 22) d_125_162 (by decide) ?_
                    obtain ⟨N, hN⟩ : ∃ N, N = (stI (stI (stA (stI μ 46 15 (μ.1 46 15 + 1)) 57 (480 + μ.1 46 18) (μ.2.2 47 (μ.1 46 15 + 1))) 46 18 (μ.1 46 18 + 1)) 46 15 (μ.1 46 15 + 1 + 1)) := ⟨_, rfl⟩
                    have n1 : N.1 46 15 = μ.1 46 15 + 2 := by rw [hN, stI_at]; omega
                    have n2 : N.1 46 3 = μ.1 46 3 := by rw [hN]; rfl
                    have n3 : N.2.2 47 = μ.2.2 47 := by rw [hN]; rfl
                    have n4 : N.1 46 18 = μ.1 46 18 + 1 := by rw [hN]; rfl
                    have n6 : N.1 46 16 = -1 := by rw [hN]; exact h16
                    have n7 : ∀ i, N.2.2 57 i = if i = 480 + μ.1 46 18 then μ.2.2 47 (μ.1 46 15 + 1) else μ.2.2 57 i := fun i => by
                      rw [hN]
                      show (if 57 = 57 ∧ i = 480 + μ.1 46 18 then _ else _) = _
                      by_cases hz : i = 480 + μ.1 46 18
                      · rw [if_pos ⟨rfl, hz⟩, if_pos hz]
                      · rw [if_neg (fun w => hz w.2), if_neg hz]
                        all_goals rfl
                    have n8 : mfr μ N := by
                      rw [hN]
                      exact mfr_trans (mfr_I (q := 15) (by decide)) (mfr_trans (mfr_A (a := 57) (i := 480 + μ.1 46 18) (Or.inr (Or.inl ⟨rfl, by omega⟩))) (mfr_trans (mfr_I (q := 18) (by decide)) (mfr_I (q := 15) (by decide))))
                    have n5 : ∀ l, apM N l = stI (apM μ (μ.2.2 47 (μ.1 46 15 + 1) :: l)) 46 15 (μ.1 46 15 + 1 + 1) := fun l => by
                      rw [hN, apM_stI (by decide), show (480 + μ.1 46 18) = 480 + (stI μ 46 15 (μ.1 46 15 + 1)).1 46 18 from rfl, show μ.1 46 18 + 1 = (stI μ 46 15 (μ.1 46 15 + 1)).1 46 18 + 1 from rfl, apM_cons, apM_stI (by decide), stI_stI]
                    rw [← hN]
                    refine w_P.le (ih _ ?_ N rfl n6 ?_ ?_ ?_ ?_ ?_ ?_ ?_) ⟨rfl, trivial⟩
                    · rw [n1, n2]; omega
                    · rw [n2]; exact hn
                    · rw [n3]; exact hch
                    · rw [n2, n3]; exact h32
                    · rw [n1, n2]; omega
                    · rw [n1, n2, n4]; omega
                    · intro q l hq
                      rw [n1, n2, n3] at hq
                      rw [n5, stI_stI]
                      exact kO q (μ.2.2 47 (μ.1 46 15 + 1) :: l) (by rw [rw_e hlt h54 hE, hq])
                    · intro w μ' hq hw hw2
                      rw [n1, n2, n3] at hq
                      refine kX w μ' (by rw [rw_e hlt h54 hE, hq]) ⟨mfr_trans n8 hw.1, hw.2⟩ (fun i hi => hw2 i ?_)
                      rw [n7]
                      split
                      · exact hch _
                      · exact hi
                · exact absurd hE.2 (by omega)
              · refine w_ld d_125_88 rfl rfl rfl ?_
                refine w_bip d_125_89 (by decide) ?_
                refine w_icmp_eq (g := 102) d_125_91 (by decide) (by have := hch (μ.1 46 15 + 1); omega) (fun h91 => ?_) (fun h91 => ?_)
                · refine w_ld d_125_102 rfl rfl rfl ?_
                  refine w_if_ne (g := 114) d_125_103 (by decide) (by have := hch (μ.1 46 15 + 1); omega) (fun h103 => ?_) (fun h103 => ?_)
                  · refine w_ld d_125_114 rfl rfl rfl ?_
                    refine w_getF d_125_115 (by rfl) (by first | rfl | assumption) (by rfl) (by rfl) ?_
                    refine w_sip d_125_118 (by decide) ?_
                    refine w_ld d_125_121 rfl rfl rfl ?_
                    refine w_gI d_125_122 (by rfl) (by first | rfl | assumption) (by rfl) (show _ = μ.1 46 18 from rfl) ?_
                    refine w_iadd d_125_125 ?_
                    refine w_ld d_125_126 rfl rfl rfl ?_
                    refine w_iast d_125_127 (by first | rfl | assumption) (by omega) ?_
                    refine w_ld d_125_128 rfl rfl rfl ?_
                    refine w_ld d_125_129 rfl rfl rfl ?_
                    refine w_gI d_125_130 (by rfl) (by first | rfl | assumption) (by rfl) (show (stA (stI μ 46 15 (μ.1 46 15 + 1)) 57 (480 + μ.1 46 18) (μ.2.2 47 (μ.1 46 15 + 1))).1 46 16 = -1 from h16) ?_
                    refine w_if_ge (g := 145) d_125_133 (by decide) (by omega) (fun h133 => ?_) (fun h133 => ?_)
                    · exact absurd h133 (by omega)
                    · refine w_ld d_125_136 rfl rfl rfl ?_
                      refine w_gI d_125_137 (by rfl) (by first | rfl | assumption) (by rfl) (show _ = μ.1 46 18 from rfl) ?_
                      refine w_con d_125_140 ?_
                      refine w_iadd d_125_141 ?_
                      refine w_goto (g := 149) d_125_142 (by decide) ?_
                      refine w_putI d_125_149 (by rfl) (by first | rfl | assumption) (by rfl) (fit_I (by rfl)) (by rfl) ?_
                      refine w_ld d_125_152 rfl rfl rfl ?_
                      refine w_stk d_125_153 rfl ?_
                      refine w_gI d_125_154 (by rfl) (by first | rfl | assumption) (by rfl) (show _ = μ.1 46 15 + 1 from rfl) ?_
                      refine w_con d_125_157 ?_
                      refine w_iadd d_125_158 ?_
                      refine w_putI d_125_159 (by rfl) (by first | rfl | assumption) (by rfl) (fit_I (by rfl)) (by rfl) ?_
                      refine w_goto (g := 22) d_125_162 (by decide) ?_
                      obtain ⟨N, hN⟩ : ∃ N, N = (stI (stI (stA (stI μ 46 15 (μ.1 46 15 + 1)) 57 (480 + μ.1 46 18) (μ.2.2 47 (μ.1 46 15 + 1))) 46 18 (μ.1 46 18 + 1)) 46 15 (μ.1 46 15 + 1 + 1)) := ⟨_, rfl⟩
                      have n1 : N.1 46 15 = μ.1 46 15 + 2 := by rw [hN, stI_at]; omega
                      have n2 : N.1 46 3 = μ.1 46 3 := by rw [hN]; rfl
                      have n3 : N.2.2 47 = μ.2.2 47 := by rw [hN]; rfl
                      have n4 : N.1 46 18 = μ.1 46 18 + 1 := by rw [hN]; rfl
                      have n6 : N.1 46 16 = -1 := by rw [hN]; exact h16
                      have n7 : ∀ i, N.2.2 57 i = if i = 480 + μ.1 46 18 then μ.2.2 47 (μ.1 46 15 + 1) else μ.2.2 57 i := fun i => by
                        rw [hN]
                        show (if 57 = 57 ∧ i = 480 + μ.1 46 18 then _ else _) = _
                        by_cases hz : i = 480 + μ.1 46 18
                        · rw [if_pos ⟨rfl, hz⟩, if_pos hz]
                        · rw [if_neg (fun w => hz w.2), if_neg hz]
                          all_goals rfl
                      have n8 : mfr μ N := by
                        rw [hN]
                        exact mfr_trans (mfr_I (q := 15) (by decide)) (mfr_trans (mfr_A (a := 57) (i := 480 + μ.1 46 18) (Or.inr (Or.inl ⟨rfl, by omega⟩))) (mfr_trans (mfr_I (q := 18) (by decide)) (mfr_I (q := 15) (by decide))))
                      have n5 : ∀ l, apM N l = stI (apM μ (μ.2.2 47 (μ.1 46 15 + 1) :: l)) 46 15 (μ.1 46 15 + 1 + 1) := fun l => by
                        rw [hN, apM_stI (by decide), show (480 + μ.1 46 18) = 480 + (stI μ 46 15 (μ.1 46 15 + 1)).1 46 18 from rfl, show μ.1 46 18 + 1 = (stI μ 46 15 (μ.1 46 15 + 1)).1 46 18 + 1 from rfl, apM_cons, apM_stI (by decide), stI_stI]
                      rw [← hN]
                      refine w_P.le (ih _ ?_ N rfl n6 ?_ ?_ ?_ ?_ ?_ ?_ ?_) ⟨rfl, trivial⟩
                      · rw [n1, n2]; omega
                      · rw [n2]; exact hn
                      · rw [n3]; exact hch
                      · rw [n2, n3]; exact h32
                      · rw [n1, n2]; omega
                      · rw [n1, n2, n4]; omega
                      · intro q l hq
                        rw [n1, n2, n3] at hq
                        rw [n5, stI_stI]
                        exact kO q (μ.2.2 47 (μ.1 46 15 + 1) :: l) (by rw [rw_e hlt h54 hE, hq])
                      · intro w μ' hq hw hw2
                        rw [n1, n2, n3] at hq
                        refine kX w μ' (by rw [rw_e hlt h54 hE, hq]) ⟨mfr_trans n8 hw.1, hw.2⟩ (fun i hi => hw2 i ?_)
                        rw [n7]
                        split
                        · exact hch _
                        · exact hi
                  · exact absurd hE.2 (by omega)
                · exact absurd hE.2 (by omega)
          · show w_P _ _ _ _ _ _ _ _ _ _ _ [.int (ji (if μ.1 46 15 + 1 < μ.1 46 3 then μ.2.2 47 (μ.1 46 15 + 1) else 0))] _ _
            obtain ⟨cc, hcc⟩ : ∃ cc, cc = (if μ.1 46 15 + 1 < μ.1 46 3 then μ.2.2 47 (μ.1 46 15 + 1) else 0) := ⟨_, rfl⟩
            have hc0 : (0 ≤ cc ∧ cc < 65536) ∧ cc ≠ 34 ∧ cc ≠ 92 ∧ cc ≠ 47 := by
              have e1 := hch (μ.1 46 15 + 1)
              rw [hcc]
              split
              · rename_i hz
                refine ⟨e1, fun z => hE ⟨hz, Or.inl z⟩, fun z => hE ⟨hz, Or.inr (Or.inl z)⟩, fun z => hE ⟨hz, Or.inr (Or.inr z)⟩⟩
              · decide
            rw [← hcc]
            refine w_st1 (L' := [_, _]) d_125_75 rfl (by decide) rfl (by decide) rfl ?_
            refine w_ld d_125_76 rfl rfl rfl ?_
            refine w_bip d_125_77 (by decide) ?_
            refine w_icmp_eq (g := 102) d_125_79 (by decide) (by omega) (fun h79 => ?_) (fun h79 => ?_)
            · exact absurd h79 hc0.2.1
            · refine w_ld d_125_82 rfl rfl rfl ?_
              refine w_bip d_125_83 (by decide) ?_
              refine w_icmp_eq (g := 102) d_125_85 (by decide) (by omega) (fun h85 => ?_) (fun h85 => ?_)
              · exact absurd h85 hc0.2.2.1
              · refine w_ld d_125_88 rfl rfl rfl ?_
                refine w_bip d_125_89 (by decide) ?_
                refine w_icmp_eq (g := 102) d_125_91 (by decide) (by omega) (fun h91 => ?_) (fun h91 => ?_)
                · exact absurd h91 hc0.2.2.2
                · refine w_ld d_125_94 rfl rfl rfl ?_
                  refine w_ld d_125_95 rfl rfl rfl ?_
                  refine w_gI d_125_96 (by rfl) (by first | rfl | assumption) (by rfl) (show _ = μ.1 46 15 + 1 from rfl) ?_
                  refine w_cV0 (a := 46) (as := [_]) (rest := _) rfl d_125_99 (by rfl) (by rfl) (by first | rfl | assumption) (by rfl) (by rfl) (Nat.le_of_ble_eq_true rfl) (by omega) (by omega) (by have e := m_fail (sc := sc) (fr := fr - 1) (lo := lo - (19 + 2)) (μ := (stI μ 46 15 (μ.1 46 15 + 1))) (ρ := ρ) (by rw [show ((stI μ 46 15 (μ.1 46 15 + 1))).1 46 16 = -1 from h16]; decide) (k := μ.1 46 15 + 1); rw [show ((stI μ 46 15 (μ.1 46 15 + 1))).1 46 16 = -1 from h16, if_pos (by decide)] at e; exact e) ?_
                  refine w_ld d_125_102 rfl rfl rfl ?_
                  refine w_if_ne (g := 114) d_125_103 (by decide) (by omega) (fun h103 => ?_) (fun h103 => ?_)
                  · try rw [stI_stI]
                    refine w_ld d_125_114 rfl rfl rfl ?_
                    refine w_getF d_125_115 (by rfl) (by first | rfl | assumption) (by rfl) (by rfl) ?_
                    refine w_sip d_125_118 (by decide) ?_
                    refine w_ld d_125_121 rfl rfl rfl ?_
                    refine w_gI d_125_122 (by rfl) (by first | rfl | assumption) (by rfl) (show _ = μ.1 46 18 from rfl) ?_
                    refine w_iadd d_125_125 ?_
                    refine w_ld d_125_126 rfl rfl rfl ?_
                    refine w_iast d_125_127 (by first | rfl | assumption) (by omega) ?_
                    refine w_ld d_125_128 rfl rfl rfl ?_
                    refine w_ld d_125_129 rfl rfl rfl ?_
                    refine w_gI d_125_130 (by rfl) (by first | rfl | assumption) (by rfl) (show _ = μ.1 46 15 + 1 from rfl) ?_
                    refine w_if_ge (g := 145) d_125_133 (by decide) (by omega) (fun h133 => ?_) (fun h133 => ?_)
                    · refine w_ld d_125_145 rfl rfl rfl ?_
                      refine w_gI d_125_146 (by rfl) (by first | rfl | assumption) (by rfl) (show _ = μ.1 46 18 from rfl) ?_
                      refine w_putI d_125_149 (by rfl) (by first | rfl | assumption) (by rfl) (fit_I (by rfl)) (by rfl) ?_
                      refine w_ld d_125_152 rfl rfl rfl ?_
                      refine w_stk d_125_153 rfl ?_
                      refine w_gI d_125_154 (by rfl) (by first | rfl | assumption) (by rfl) (show _ = μ.1 46 15 + 1 from rfl) ?_
                      refine w_con d_125_157 ?_
                      refine w_iadd d_125_158 ?_
                      refine w_putI d_125_159 (by rfl) (by first | rfl | assumption) (by rfl) (fit_I (by rfl)) (by rfl) ?_
                      refine w_goto (g := 22) d_125_162 (by decide) ?_
                      obtain ⟨N, hN⟩ : ∃ N, N = (stI (stI (stA (stI (stI μ 46 15 (μ.1 46 15 + 1)) 46 16 (μ.1 46 15 + 1)) 57 (480 + μ.1 46 18) cc) 46 18 (μ.1 46 18)) 46 15 (μ.1 46 15 + 1 + 1)) := ⟨_, rfl⟩
                      rw [← hN]
                      have b16 : N.1 46 16 = μ.1 46 15 + 1 := by rw [hN]; rfl
                      refine w_ld d_125_22 rfl rfl rfl ?_
                      refine w_gI d_125_23 (by rfl) rfl (by rfl) b16 ?_
                      refine w_if_ge (g := 165) d_125_26 (by decide) (by omega) (fun _ => ?_) (fun h => absurd h (by omega))
                      refine w_P.le (kX _ N (rw_x hlt h54 hE) ⟨?_, b16, ?_⟩ ?_) ⟨rfl, trivial⟩
                      · rw [hN]
                        exact mfr_trans (mfr_I (by omega)) (mfr_trans (mfr_I (by omega)) (mfr_trans (mfr_A (Or.inr (Or.inl ⟨rfl, by omega⟩))) (mfr_trans (mfr_I (by omega)) (mfr_I (by omega)))))
                      · rw [hN, stI_at]; omega
                      · intro k hk
                        rw [hN]
                        show 0 ≤ (if 57 = 57 ∧ k = 480 + μ.1 46 18 then cc else μ.2.2 57 k) ∧ (if 57 = 57 ∧ k = 480 + μ.1 46 18 then cc else μ.2.2 57 k) < 65536
                        split
                        · exact hc0.1
                        · exact hk
                    · exact absurd h133 (by omega)
                  · refine w_ld d_125_106 rfl rfl rfl ?_
                    refine w_ld d_125_107 rfl rfl rfl ?_
                    refine w_gI d_125_108 (by rfl) (by first | rfl | assumption) (by rfl) (show _ = μ.1 46 3 from rfl) ?_
                    refine w_cV0 (a := 46) (as := [_]) (rest := _) rfl d_125_111 (by rfl) (by rfl) (by first | rfl | assumption) (by rfl) (by rfl) (Nat.le_of_ble_eq_true rfl) (by omega) (by omega) (by have e := m_fail (sc := sc) (fr := fr - 1) (lo := lo - (19 + 2)) (μ := (stI (stI μ 46 15 (μ.1 46 15 + 1)) 46 16 (μ.1 46 15 + 1))) (ρ := ρ) (by rw [show ((stI (stI μ 46 15 (μ.1 46 15 + 1)) 46 16 (μ.1 46 15 + 1))).1 46 16 = μ.1 46 15 + 1 from rfl]; omega) (k := μ.1 46 3); rw [show ((stI (stI μ 46 15 (μ.1 46 15 + 1)) 46 16 (μ.1 46 15 + 1))).1 46 16 = μ.1 46 15 + 1 from rfl, if_neg (by omega)] at e; exact e) ?_
                    try rw [stI_stI]
                    refine w_ld d_125_114 rfl rfl rfl ?_
                    refine w_getF d_125_115 (by rfl) (by first | rfl | assumption) (by rfl) (by rfl) ?_
                    refine w_sip d_125_118 (by decide) ?_
                    refine w_ld d_125_121 rfl rfl rfl ?_
                    refine w_gI d_125_122 (by rfl) (by first | rfl | assumption) (by rfl) (show _ = μ.1 46 18 from rfl) ?_
                    refine w_iadd d_125_125 ?_
                    refine w_ld d_125_126 rfl rfl rfl ?_
                    refine w_iast d_125_127 (by first | rfl | assumption) (by omega) ?_
                    refine w_ld d_125_128 rfl rfl rfl ?_
                    refine w_ld d_125_129 rfl rfl rfl ?_
                    refine w_gI d_125_130 (by rfl) (by first | rfl | assumption) (by rfl) (show _ = μ.1 46 15 + 1 from rfl) ?_
                    refine w_if_ge (g := 145) d_125_133 (by decide) (by omega) (fun h133 => ?_) (fun h133 => ?_)
                    · refine w_ld d_125_145 rfl rfl rfl ?_
                      refine w_gI d_125_146 (by rfl) (by first | rfl | assumption) (by rfl) (show _ = μ.1 46 18 from rfl) ?_
                      refine w_putI d_125_149 (by rfl) (by first | rfl | assumption) (by rfl) (fit_I (by rfl)) (by rfl) ?_
                      refine w_ld d_125_152 rfl rfl rfl ?_
                      refine w_stk d_125_153 rfl ?_
                      refine w_gI d_125_154 (by rfl) (by first | rfl | assumption) (by rfl) (show _ = μ.1 46 15 + 1 from rfl) ?_
                      refine w_con d_125_157 ?_
                      refine w_iadd d_125_158 ?_
                      refine w_putI d_125_159 (by rfl) (by first | rfl | assumption) (by rfl) (fit_I (by rfl)) (by rfl) ?_
                      refine w_goto (g := 22) d_125_162 (by decide) ?_
                      obtain ⟨N, hN⟩ : ∃ N, N = (stI (stI (stA (stI (stI μ 46 15 (μ.1 46 15 + 1)) 46 16 (μ.1 46 15 + 1)) 57 (480 + μ.1 46 18) cc) 46 18 (μ.1 46 18)) 46 15 (μ.1 46 15 + 1 + 1)) := ⟨_, rfl⟩
                      rw [← hN]
                      have b16 : N.1 46 16 = μ.1 46 15 + 1 := by rw [hN]; rfl
                      refine w_ld d_125_22 rfl rfl rfl ?_
                      refine w_gI d_125_23 (by rfl) rfl (by rfl) b16 ?_
                      refine w_if_ge (g := 165) d_125_26 (by decide) (by omega) (fun _ => ?_) (fun h => absurd h (by omega))
                      refine w_P.le (kX _ N (rw_x hlt h54 hE) ⟨?_, b16, ?_⟩ ?_) ⟨rfl, trivial⟩
                      · rw [hN]
                        exact mfr_trans (mfr_I (by omega)) (mfr_trans (mfr_I (by omega)) (mfr_trans (mfr_A (Or.inr (Or.inl ⟨rfl, by omega⟩))) (mfr_trans (mfr_I (by omega)) (mfr_I (by omega)))))
                      · rw [hN, stI_at]; omega
                      · intro k hk
                        rw [hN]
                        show 0 ≤ (if 57 = 57 ∧ k = 480 + μ.1 46 18 then cc else μ.2.2 57 k) ∧ (if 57 = 57 ∧ k = 480 + μ.1 46 18 then cc else μ.2.2 57 k) < 65536
                        split
                        · exact hc0.1
                        · exact hk
                    · exact absurd h133 (by omega)
