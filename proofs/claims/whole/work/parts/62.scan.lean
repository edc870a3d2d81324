/-! THE PURE PART, 44: contracts: the reader's numbers -/
theorem t_scan_l {sc : Nat × (Nat → Int32)} {fr lo : Nat} {μ : Mem} {ρ : Nat × Nat × Nat} {b n : Nat} (hL : isL b n) (hc : 0 ≤ μ.1 b 1 ∧ μ.1 b 1 ≤ n) {f to : Int} (hft : 0 ≤ f ∧ f ≤ to ∧ to ≤ μ.1 b 1) (hch : ∀ k, 0 ≤ μ.2.2 (b + 1) k ∧ μ.2.2 (b + 1) k < 65536) (hf : 6 ≤ fr) (hl : 200 ≤ lo) {mi p0 : Int} {c0 : Bool × Int} {Q : z_O → z_T → Prop} (kO : w_P sc fr lo 61 4 5 false ((some FieldType.boolean)) prog_4_method_2_code 165 [some (.ref 24), some (.ref b), some (.int (ji f)), some (.int (ji to)), some (.int (ji mi))] [] (hp (nu μ (dru (μ.2.2 (b + 1)) to p0) (dvl (μ.2.2 (b + 1)) (dru (μ.2.2 (b + 1)) to p0 - p0).toNat p0 c0)), ρ) Q) : ∀ (m : Nat) (p : Int) (c : Bool × Int), (to - p).toNat = m → (f ≤ p ∧ p ≤ to) → (-9223372036854775808 ≤ c.2 ∧ c.2 ≤ 0) → dru (μ.2.2 (b + 1)) to p = dru (μ.2.2 (b + 1)) to p0 → dvl (μ.2.2 (b + 1)) (dru (μ.2.2 (b + 1)) to p - p).toNat p c = dvl (μ.2.2 (b + 1)) (dru (μ.2.2 (b + 1)) to p0 - p0).toNat p0 c0 → w_P sc fr lo 61 4 5 false ((some FieldType.boolean)) prog_4_method_2_code 115 [some (.ref 24), some (.ref b), some (.int (ji f)), some (.int (ji to)), some (.int (ji mi))] [] (hp (nu μ p c), ρ) Q := by
  intro m
  induction m using Nat.strongRecOn with
  | ind m ih =>
    intro p c hm hp0 hcr hd hv
    obtain ⟨hb0, hb1, hb2⟩ := hL.sh
    have hn480 : (n : Int) ≤ 480 := by rcases hL with ⟨_, z⟩ | ⟨_, z⟩ <;> omega
    have hb24 : b ≠ 24 := by rcases hL with ⟨z, _⟩ | ⟨z, _⟩ <;> omega
    have pk : ∀ (ν : Mem) (k : Int), (ν = μ ∨ ∃ p c, ν = nu μ p c) → 0 ≤ k → k < to → w_E sc (fr - 1) (lo - (19 + 2)) 13 [.ref b, .int (ji k)] (hp ν, ρ) (.inl (some (.int (ji (μ.2.2 (b + 1) k))))) (hp ν, ρ) := fun ν k hν k0 k1 => by
      have h1 : ν.1 b 1 = μ.1 b 1 := by
        rcases hν with rfl | ⟨p, c, rfl⟩
        · rfl
        · exact nu_o hb24
      have h2 : ν.2.2 (b + 1) = μ.2.2 (b + 1) := by
        rcases hν with rfl | ⟨p, c, rfl⟩ <;> rfl
      have e := t_peek (sc := sc) (fr := fr - 1) (lo := lo - (19 + 2)) (μ := ν) (ρ := ρ) hb0 hb1 (by rw [h1]; omega) (k := k) (by omega)
      rw [h1, h2, if_pos ⟨k0, by omega⟩] at e
      exact e
    refine w_ld d_61_115 rfl rfl rfl ?_
    refine w_gI d_61_116 (by rfl) (by first | rfl | assumption) (by rfl) (by first | exact nu_g1 | exact nu_g2 | exact nu_g0) ?_
    refine w_ld d_61_119 rfl rfl rfl ?_
    refine w_icmp_ge (g := 165) d_61_120 (by decide) (by omega) (fun h120 => ?_) (fun h120 => ?_)
    · have e1 : dru (μ.2.2 (b + 1)) to p = p := by rw [dru_eq, if_neg (by omega)]
      rw [e1, show (p - p).toNat = 0 by omega] at hv
      rw [e1] at hd
      rw [hd, show c = dvl (μ.2.2 (b + 1)) (dru (μ.2.2 (b + 1)) to p0 - p0).toNat p0 c0 from hv]
      exact kO
    · refine w_ld d_61_123 rfl rfl rfl ?_
      refine w_ld d_61_124 rfl rfl rfl ?_
      refine w_gI d_61_125 (by rfl) (by first | rfl | assumption) (by rfl) (by first | exact nu_g1 | exact nu_g2 | exact nu_g0) ?_
      refine w_cV1 (a := b) (as := [_]) (rest := _) rfl d_61_128 (by rfl) (by rfl) (by first | rfl | assumption) (by rfl) (by rfl) (Nat.le_of_ble_eq_true rfl) (by omega) (by omega) (pk _ _ (Or.inr ⟨_, _, rfl⟩) (by omega) (by omega)) ?_
      have e0 := hch p
      refine w_cS1 (as := [_]) (rest := _) rfl d_61_131 (by rfl) (by rfl) (by rfl) (by rfl) (Nat.le_of_ble_eq_true rfl) (by omega) (by omega) (t_isDigit (by omega)) ?_
      refine w_if_eq (g := 165) d_61_134 (by decide) (by split <;> omega) (fun h134 => ?_) (fun h134 => ?_)
      · have hnd : ¬ (48 ≤ μ.2.2 (b + 1) p ∧ μ.2.2 (b + 1) p ≤ 57) := fun z => by rw [if_pos z] at h134; cases h134
        have e1 : dru (μ.2.2 (b + 1)) to p = p := by rw [dru_eq, if_neg (fun z => hnd z.2)]
        rw [e1, show (p - p).toNat = 0 by omega] at hv
        rw [e1] at hd
        rw [hd, show c = dvl (μ.2.2 (b + 1)) (dru (μ.2.2 (b + 1)) to p0 - p0).toNat p0 c0 from hv]
        exact kO
      · have hdg : 48 ≤ μ.2.2 (b + 1) p ∧ μ.2.2 (b + 1) p ≤ 57 := Decidable.byContradiction (fun z => h134 (if_neg z))
        refine w_ld d_61_137 rfl rfl rfl ?_
        refine w_ld d_61_138 rfl rfl rfl ?_
        refine w_ld d_61_139 rfl rfl rfl ?_
        refine w_gI d_61_140 (by rfl) (by first | rfl | assumption) (by rfl) (by first | exact nu_g1 | exact nu_g2 | exact nu_g0) ?_
        refine w_cV1 (a := b) (as := [_]) (rest := _) rfl d_61_143 (by rfl) (by rfl) (by first | rfl | assumption) (by rfl) (by rfl) (Nat.le_of_ble_eq_true rfl) (by omega) (by omega) (pk _ _ (Or.inr ⟨_, _, rfl⟩) (by omega) (by omega)) ?_
        refine w_bip d_61_146 (by decide) ?_
        refine w_isub d_61_148 ?_
        refine w_cV0 (a := 24) (as := [_]) (rest := _) rfl d_61_149 (by rfl) (by rfl) (by first | rfl | assumption) (by rfl) (by rfl) (Nat.le_of_ble_eq_true rfl) (by omega) (by omega) (t_takeDigit hcr (by omega)) ?_
        refine w_ld d_61_152 rfl rfl rfl ?_
        refine w_stk d_61_153 rfl ?_
        refine w_gI d_61_154 (by rfl) (by first | rfl | assumption) (by rfl) (by first | exact nu_g1 | exact nu_g2 | exact nu_g0) ?_
        refine w_con d_61_157 ?_
        refine w_iadd d_61_158 ?_
        refine w_putI d_61_159 (by rfl) (by first | rfl | assumption) (by rfl) (fit_I (by rfl)) (by rfl) ?_
        refine w_goto (g := 115) d_61_162 (by decide) ?_
        rw [nu_1]
        have e1 : dru (μ.2.2 (b + 1)) to p = dru (μ.2.2 (b + 1)) to (p + 1) := by rw [dru_eq, if_pos ⟨by omega, hdg⟩]
        have e2 := (dru_ge (μ.2.2 (b + 1)) to _ (p + 1) rfl).1
        refine ih _ (by omega) (p + 1) _ rfl (by omega) ?_ (by rw [← e1]; exact hd) ?_
        · unfold tkd
          split
          · show _ ≤ c.2 * 10 - (μ.2.2 (b + 1) p - 48) ∧ c.2 * 10 - (μ.2.2 (b + 1) p - 48) ≤ 0
            omega
          · exact hcr
        · rw [← hv, e1, show (dru (μ.2.2 (b + 1)) to (p + 1) - p).toNat = (dru (μ.2.2 (b + 1)) to (p + 1) - (p + 1)).toNat + 1 by omega]
          rfl
theorem t_scanM {sc : Nat × (Nat → Int32)} {fr lo : Nat} {μ : Mem} {ρ : Nat × Nat × Nat} {b n : Nat} (hL : isL b n) (hc : 0 ≤ μ.1 b 1 ∧ μ.1 b 1 ≤ n) {f to : Int} (hft : 0 ≤ f ∧ f ≤ to ∧ to ≤ μ.1 b 1) (hch : ∀ k, 0 ≤ μ.2.2 (b + 1) k ∧ μ.2.2 (b + 1) k < 65536) (hf : 6 ≤ fr) (hl : 200 ≤ lo) (hm : f < to ∧ (μ.2.2 (b + 1)) f = 45) : w_E sc fr lo 61 [.ref 24, .ref b, .int (ji f), .int (ji to)] (hp μ, ρ) (.inl (some (.int (ji (bi (scn (μ.2.2 (b + 1)) f to).1))))) (hp (nu μ (scn (μ.2.2 (b + 1)) f to).2.1 ((scn (μ.2.2 (b + 1)) f to).2.2.1, (scn (μ.2.2 (b + 1)) f to).2.2.2)), ρ) := by
  obtain ⟨hb0, hb1, hb2⟩ := hL.sh
  have hn480 : (n : Int) ≤ 480 := by rcases hL with ⟨_, z⟩ | ⟨_, z⟩ <;> omega
  have hb24 : b ≠ 24 := by rcases hL with ⟨z, _⟩ | ⟨z, _⟩ <;> omega
  have pk : ∀ (ν : Mem) (k : Int), (ν = μ ∨ ∃ p c, ν = nu μ p c) → 0 ≤ k → k < to → w_E sc (fr - 1) (lo - (19 + 2)) 13 [.ref b, .int (ji k)] (hp ν, ρ) (.inl (some (.int (ji (μ.2.2 (b + 1) k))))) (hp ν, ρ) := fun ν k hν k0 k1 => by
    have h1 : ν.1 b 1 = μ.1 b 1 := by
      rcases hν with rfl | ⟨p, c, rfl⟩
      · rfl
      · exact nu_o hb24
    have h2 : ν.2.2 (b + 1) = μ.2.2 (b + 1) := by
      rcases hν with rfl | ⟨p, c, rfl⟩ <;> rfl
    have e := t_peek (sc := sc) (fr := fr - 1) (lo := lo - (19 + 2)) (μ := ν) (ρ := ρ) hb0 hb1 (by rw [h1]; omega) (k := k) (by omega)
    rw [h1, h2, if_pos ⟨k0, by omega⟩] at e
    exact e
  refine w_S.of (L0 := [some (.ref 24), some (.ref b), some (.int (ji f)), some (.int (ji to)), none]) rfl rfl (Nat.le_of_ble_eq_true rfl) (by rfl) ?_
  refine w_ld d_61_0 rfl rfl rfl ?_
  refine w_ld d_61_1 rfl rfl rfl ?_
  refine w_icmp_ge (g := 19) d_61_2 (by decide) (by omega) (fun h2 => ?_) (fun h2 => ?_)
  · exact absurd h2 (by omega)
  · refine w_ld d_61_5 rfl rfl rfl ?_
    refine w_ld d_61_6 rfl rfl rfl ?_
    refine w_cV1 (a := b) (as := [_]) (rest := _) rfl d_61_7 (by rfl) (by rfl) (by first | rfl | assumption) (by rfl) (by rfl) (Nat.le_of_ble_eq_true rfl) (by omega) (by omega) (pk _ _ (Or.inl rfl) (by omega) (by omega)) ?_
    refine w_bip d_61_10 (by decide) ?_
    refine w_icmp_ne (g := 19) d_61_12 (by decide) (by have := hch f; omega) (fun h12 => ?_) (fun h12 => ?_)
    · exact absurd hm.2 h12
    · refine w_con d_61_15 ?_
      refine w_goto (g := 20) d_61_16 (by decide) ?_
      refine w_st1 (L' := [_, _, _, _, _]) d_61_20 rfl (by decide) rfl (by decide) rfl ?_
      refine w_ld d_61_22 rfl rfl rfl ?_
      refine w_ld d_61_23 rfl rfl rfl ?_
      refine w_if_eq (g := 34) d_61_25 (by decide) (by decide) (fun h25 => ?_) (fun h25 => ?_)
      · exact absurd h25 (by decide)
      · refine w_ld d_61_28 rfl rfl rfl ?_
        refine w_con d_61_29 ?_
        refine w_iadd d_61_30 ?_
        refine w_goto (g := 35) d_61_31 (by decide) ?_
        refine w_putI d_61_35 (by rfl) (by first | rfl | assumption) (by rfl) (fit_I (by rfl)) (by rfl) ?_
        refine w_ld d_61_38 rfl rfl rfl ?_
        refine w_lcon0 d_61_39 ?_
        refine w_putJ d_61_40 (by rfl) (by first | rfl | assumption) (by rfl) (fit_J (by rfl)) (by rfl) ?_
        refine w_ld d_61_43 rfl rfl rfl ?_
        refine w_con d_61_44 ?_
        refine w_putI d_61_45 (by rfl) (by first | rfl | assumption) (by rfl) (fit_Z (by rfl) (by omega)) (by rfl) ?_
        rw [nu_i (b := true) (z := 1) rfl]
        refine w_ld d_61_48 rfl rfl rfl ?_
        refine w_gI d_61_49 (by rfl) (by first | rfl | assumption) (by rfl) (by first | exact nu_g1 | exact nu_g2 | exact nu_g0) ?_
        refine w_ld d_61_52 rfl rfl rfl ?_
        refine w_icmp_ge (g := 70) d_61_53 (by decide) (by omega) (fun h53 => ?_) (fun h53 => ?_)
        · refine w_con d_61_70 ?_
          refine w_zret d_61_71 rfl (by decide) ?_
          have e : (scn (μ.2.2 (b + 1)) f to) = (false, f + 1, true, 0) := by
            unfold scn
            rw [if_pos hm, if_neg (by omega)]
          rw [e]
          exact ⟨rfl, rfl⟩
        · refine w_ld d_61_56 rfl rfl rfl ?_
          refine w_ld d_61_57 rfl rfl rfl ?_
          refine w_gI d_61_58 (by rfl) (by first | rfl | assumption) (by rfl) (by first | exact nu_g1 | exact nu_g2 | exact nu_g0) ?_
          refine w_cV1 (a := b) (as := [_]) (rest := _) rfl d_61_61 (by rfl) (by rfl) (by first | rfl | assumption) (by rfl) (by rfl) (Nat.le_of_ble_eq_true rfl) (by omega) (by omega) (pk _ _ (Or.inr ⟨_, _, rfl⟩) (by omega) (by omega)) ?_
          refine w_cS1 (as := [_]) (rest := _) rfl d_61_64 (by rfl) (by rfl) (by rfl) (by rfl) (Nat.le_of_ble_eq_true rfl) (by omega) (by omega) (t_isDigit (by have := hch (f + 1); omega)) ?_
          refine w_if_ne (g := 72) d_61_67 (by decide) (by split <;> omega) (fun h67 => ?_) (fun h67 => ?_)
          · have hdg : 48 ≤ μ.2.2 (b + 1) (f + 1) ∧ μ.2.2 (b + 1) (f + 1) ≤ 57 := Decidable.byContradiction (fun z => h67 (if_neg z))
            refine w_ld d_61_72 rfl rfl rfl ?_
            refine w_ld d_61_73 rfl rfl rfl ?_
            refine w_gI d_61_74 (by rfl) (by first | rfl | assumption) (by rfl) (by first | exact nu_g1 | exact nu_g2 | exact nu_g0) ?_
            refine w_cV1 (a := b) (as := [_]) (rest := _) rfl d_61_77 (by rfl) (by rfl) (by first | rfl | assumption) (by rfl) (by rfl) (Nat.le_of_ble_eq_true rfl) (by omega) (by omega) (pk _ _ (Or.inr ⟨_, _, rfl⟩) (by omega) (by omega)) ?_
            refine w_bip d_61_80 (by decide) ?_
            refine w_icmp_ne (g := 115) d_61_82 (by decide) (by omega) (fun h82 => ?_) (fun h82 => ?_)
            · refine t_scan_l hL hc hft hch hf hl (p0 := f + 1) (c0 := (true, 0)) ?_ _ (f + 1) (true, 0) rfl (by omega) ⟨by show (_ : Int) ≤ 0; decide, Int.le_refl 0⟩ rfl rfl
              refine w_ld d_61_165 rfl rfl rfl ?_
              refine w_if_ne (g := 206) d_61_167 (by decide) (by decide) (fun _ => ?_) (fun h => absurd h (by decide))
              refine w_con d_61_206 ?_
              refine w_zret d_61_207 rfl (by decide) ?_
              have e : (scn (μ.2.2 (b + 1)) f to) = (true, (dru (μ.2.2 (b + 1)) to (f + 1)), (dvl (μ.2.2 (b + 1)) (dru (μ.2.2 (b + 1)) to (f + 1) - (f + 1)).toNat (f + 1) (true, 0)).1, (dvl (μ.2.2 (b + 1)) (dru (μ.2.2 (b + 1)) to (f + 1) - (f + 1)).toNat (f + 1) (true, 0)).2) := by
                unfold scn
                rw [if_pos hm, if_pos (by omega)]
              rw [e]
              exact ⟨rfl, rfl⟩
            · refine w_ld d_61_85 rfl rfl rfl ?_
              refine w_stk d_61_86 rfl ?_
              refine w_gI d_61_87 (by rfl) (by first | rfl | assumption) (by rfl) (by first | exact nu_g1 | exact nu_g2 | exact nu_g0) ?_
              refine w_ld d_61_90 rfl rfl rfl ?_
              refine w_if_eq (g := 99) d_61_92 (by decide) (by decide) (fun h92 => ?_) (fun h92 => ?_)
              · exact absurd h92 (by decide)
              · refine w_con d_61_95 ?_
                refine w_goto (g := 100) d_61_96 (by decide) ?_
                refine w_iadd d_61_100 ?_
                rw [Int.add_zero]
                refine w_putI d_61_101 (by rfl) (by first | rfl | assumption) (by rfl) (fit_I (by rfl)) (by rfl) ?_
                refine w_ld d_61_104 rfl rfl rfl ?_
                refine w_if_ne (g := 113) d_61_106 (by decide) (by decide) (fun h106 => ?_) (fun h106 => ?_)
                · refine w_con d_61_113 ?_
                  refine w_zret d_61_114 rfl (by decide) ?_
                  rw [nu_1]
                  have e : (scn (μ.2.2 (b + 1)) f to) = (false, f + 1, true, 0) := by
                    unfold scn
                    rw [if_pos hm, if_neg (by omega)]
                  rw [e]
                  exact ⟨rfl, rfl⟩
                · exact absurd h106 (by decide)
          · refine w_con d_61_70 ?_
            refine w_zret d_61_71 rfl (by decide) ?_
            have hnd : ¬ (48 ≤ μ.2.2 (b + 1) (f + 1) ∧ μ.2.2 (b + 1) (f + 1) ≤ 57) := fun z => by rw [if_pos z] at h67; cases h67
            have e : (scn (μ.2.2 (b + 1)) f to) = (false, f + 1, true, 0) := by
              unfold scn
              rw [if_pos hm, if_neg (by omega)]
            rw [e]
            exact ⟨rfl, rfl⟩
theorem t_scanP {sc : Nat × (Nat → Int32)} {fr lo : Nat} {μ : Mem} {ρ : Nat × Nat × Nat} {b n : Nat} (hL : isL b n) (hc : 0 ≤ μ.1 b 1 ∧ μ.1 b 1 ≤ n) {f to : Int} (hft : 0 ≤ f ∧ f ≤ to ∧ to ≤ μ.1 b 1) (hch : ∀ k, 0 ≤ μ.2.2 (b + 1) k ∧ μ.2.2 (b + 1) k < 65536) (hf : 6 ≤ fr) (hl : 200 ≤ lo) (hm : ¬ (f < to ∧ (μ.2.2 (b + 1)) f = 45)) : w_E sc fr lo 61 [.ref 24, .ref b, .int (ji f), .int (ji to)] (hp μ, ρ) (.inl (some (.int (ji (bi (scn (μ.2.2 (b + 1)) f to).1))))) (hp (nu μ (scn (μ.2.2 (b + 1)) f to).2.1 ((scn (μ.2.2 (b + 1)) f to).2.2.1, (scn (μ.2.2 (b + 1)) f to).2.2.2)), ρ) := by
  obtain ⟨hb0, hb1, hb2⟩ := hL.sh
  have hn480 : (n : Int) ≤ 480 := by rcases hL with ⟨_, z⟩ | ⟨_, z⟩ <;> omega
  have hb24 : b ≠ 24 := by rcases hL with ⟨z, _⟩ | ⟨z, _⟩ <;> omega
  have pk : ∀ (ν : Mem) (k : Int), (ν = μ ∨ ∃ p c, ν = nu μ p c) → 0 ≤ k → k < to → w_E sc (fr - 1) (lo - (19 + 2)) 13 [.ref b, .int (ji k)] (hp ν, ρ) (.inl (some (.int (ji (μ.2.2 (b + 1) k))))) (hp ν, ρ) := fun ν k hν k0 k1 => by
    have h1 : ν.1 b 1 = μ.1 b 1 := by
      rcases hν with rfl | ⟨p, c, rfl⟩
      · rfl
      · exact nu_o hb24
    have h2 : ν.2.2 (b + 1) = μ.2.2 (b + 1) := by
      rcases hν with rfl | ⟨p, c, rfl⟩ <;> rfl
    have e := t_peek (sc := sc) (fr := fr - 1) (lo := lo - (19 + 2)) (μ := ν) (ρ := ρ) hb0 hb1 (by rw [h1]; omega) (k := k) (by omega)
    rw [h1, h2, if_pos ⟨k0, by omega⟩] at e
    exact e
  refine w_S.of (L0 := [some (.ref 24), some (.ref b), some (.int (ji f)), some (.int (ji to)), none]) rfl rfl (Nat.le_of_ble_eq_true rfl) (by rfl) ?_
  refine w_ld d_61_0 rfl rfl rfl ?_
  refine w_ld d_61_1 rfl rfl rfl ?_
  refine w_icmp_ge (g := 19) d_61_2 (by decide) (by omega) (fun h2 => ?_) (fun h2 => ?_)
  · refine w_con d_61_19 ?_
    refine w_st1 (L' := [_, _, _, _, _]) d_61_20 rfl (by decide) rfl (by decide) rfl ?_
    refine w_ld d_61_22 rfl rfl rfl ?_
    refine w_ld d_61_23 rfl rfl rfl ?_
    refine w_if_eq (g := 34) d_61_25 (by decide) (by decide) (fun h25 => ?_) (fun h25 => ?_)
    · refine w_ld d_61_34 rfl rfl rfl ?_
      refine w_putI d_61_35 (by rfl) (by first | rfl | assumption) (by rfl) (fit_I (by rfl)) (by rfl) ?_
      refine w_ld d_61_38 rfl rfl rfl ?_
      refine w_lcon0 d_61_39 ?_
      refine w_putJ d_61_40 (by rfl) (by first | rfl | assumption) (by rfl) (fit_J (by rfl)) (by rfl) ?_
      refine w_ld d_61_43 rfl rfl rfl ?_
      refine w_con d_61_44 ?_
      refine w_putI d_61_45 (by rfl) (by first | rfl | assumption) (by rfl) (fit_Z (by rfl) (by omega)) (by rfl) ?_
      rw [nu_i (b := true) (z := 1) rfl]
      refine w_ld d_61_48 rfl rfl rfl ?_
      refine w_gI d_61_49 (by rfl) (by first | rfl | assumption) (by rfl) (by first | exact nu_g1 | exact nu_g2 | exact nu_g0) ?_
      refine w_ld d_61_52 rfl rfl rfl ?_
      refine w_icmp_ge (g := 70) d_61_53 (by decide) (by omega) (fun h53 => ?_) (fun h53 => ?_)
      · refine w_con d_61_70 ?_
        refine w_zret d_61_71 rfl (by decide) ?_
        have e : (scn (μ.2.2 (b + 1)) f to) = (false, f, true, 0) := by
          unfold scn
          rw [if_neg hm, if_neg (by omega), if_neg (by omega)]
        rw [e]
        exact ⟨rfl, rfl⟩
      · refine w_ld d_61_56 rfl rfl rfl ?_
        refine w_ld d_61_57 rfl rfl rfl ?_
        refine w_gI d_61_58 (by rfl) (by first | rfl | assumption) (by rfl) (by first | exact nu_g1 | exact nu_g2 | exact nu_g0) ?_
        refine w_cV1 (a := b) (as := [_]) (rest := _) rfl d_61_61 (by rfl) (by rfl) (by first | rfl | assumption) (by rfl) (by rfl) (Nat.le_of_ble_eq_true rfl) (by omega) (by omega) (pk _ _ (Or.inr ⟨_, _, rfl⟩) (by omega) (by omega)) ?_
        refine w_cS1 (as := [_]) (rest := _) rfl d_61_64 (by rfl) (by rfl) (by rfl) (by rfl) (Nat.le_of_ble_eq_true rfl) (by omega) (by omega) (t_isDigit (by have := hch f; omega)) ?_
        refine w_if_ne (g := 72) d_61_67 (by decide) (by split <;> omega) (fun h67 => ?_) (fun h67 => ?_)
        · have hdg : 48 ≤ μ.2.2 (b + 1) f ∧ μ.2.2 (b + 1) f ≤ 57 := Decidable.byContradiction (fun z => h67 (if_neg z))
          refine w_ld d_61_72 rfl rfl rfl ?_
          refine w_ld d_61_73 rfl rfl rfl ?_
          refine w_gI d_61_74 (by rfl) (by first | rfl | assumption) (by rfl) (by first | exact nu_g1 | exact nu_g2 | exact nu_g0) ?_
          refine w_cV1 (a := b) (as := [_]) (rest := _) rfl d_61_77 (by rfl) (by rfl) (by first | rfl | assumption) (by rfl) (by rfl) (Nat.le_of_ble_eq_true rfl) (by omega) (by omega) (pk _ _ (Or.inr ⟨_, _, rfl⟩) (by omega) (by omega)) ?_
          refine w_bip d_61_80 (by decide) ?_
          refine w_icmp_ne (g := 115) d_61_82 (by decide) (by omega) (fun h82 => ?_) (fun h82 => ?_)
          · refine t_scan_l hL hc hft hch hf hl (p0 := f) (c0 := (true, 0)) ?_ _ f (true, 0) rfl (by omega) ⟨by show (_ : Int) ≤ 0; decide, Int.le_refl 0⟩ rfl rfl
            have hin := dvl_dru_in (R := (μ.2.2 (b + 1))) (to := to) (p := f)
            obtain ⟨cc, hcc⟩ : ∃ cc, cc = (dvl (μ.2.2 (b + 1)) (dru (μ.2.2 (b + 1)) to f - f).toNat f (true, 0)) := ⟨_, rfl⟩
            rw [← hcc] at hin ⊢
            have e : (scn (μ.2.2 (b + 1)) f to) = (true, (dru (μ.2.2 (b + 1)) to f), cc.1 && decide (cc.2 ≠ -9223372036854775808), -cc.2) := by
              rw [hcc]
              unfold scn
              rw [if_neg hm, if_pos (by omega)]
            rw [e]
            refine w_ld d_61_165 rfl rfl rfl ?_
            refine w_if_ne (g := 206) d_61_167 (by decide) (by decide) (fun h167 => ?_) (fun h167 => ?_)
            · exact absurd rfl h167
            · refine w_ld d_61_170 rfl rfl rfl ?_
              refine w_ld d_61_171 rfl rfl rfl ?_
              refine w_gI d_61_172 (by rfl) (by first | rfl | assumption) (by rfl) (by first | exact nu_g1 | exact nu_g2 | exact nu_g0) ?_
              refine w_if_eq (g := 193) d_61_175 (by decide) (by have := bi_01 cc.1; omega) (fun h175 => ?_) (fun h175 => ?_)
              · refine w_con d_61_193 ?_
                refine w_putI d_61_194 (by rfl) (by first | rfl | assumption) (by rfl) (fit_Z (by rfl) (by decide)) (by rfl) ?_
                have hb : (cc.1 && decide (cc.2 ≠ -9223372036854775808)) = false := by rw [bi_f.mp h175]; rfl
                rw [nu_2 (z := 0) (b := false) rfl]
                refine w_ld d_61_197 rfl rfl rfl ?_
                refine w_ld d_61_198 rfl rfl rfl ?_
                refine w_gJ d_61_199 (by rfl) (by first | rfl | assumption) (by rfl) (by first | exact nu_g1 | exact nu_g2 | exact nu_g0) ?_
                refine w_lneg d_61_202 ?_
                refine w_putJ d_61_203 (by rfl) (by first | rfl | assumption) (by rfl) (fit_J (by rfl)) (by rfl) ?_
                refine w_con d_61_206 ?_
                refine w_zret d_61_207 rfl (by decide) ?_
                rw [nu_0, hb]
                exact ⟨rfl, rfl⟩
              · have hb1 : cc.1 = true := bi_t.mp (by have := bi_01 cc.1; omega)
                refine w_ld d_61_178 rfl rfl rfl ?_
                refine w_gJ d_61_179 (by rfl) (by first | rfl | assumption) (by rfl) (by first | exact nu_g1 | exact nu_g2 | exact nu_g0) ?_
                refine w_ldl (x := (-9223372036854775808)) d_61_182 (by rfl) ?_
                refine w_lcmp d_61_185 (by omega) ?_
                refine w_if_eq (g := 193) d_61_186 (by decide) (by have := lcm_in cc.2 (-9223372036854775808); omega) (fun h186 => ?_) (fun h186 => ?_)
                · refine w_con d_61_193 ?_
                  refine w_putI d_61_194 (by rfl) (by first | rfl | assumption) (by rfl) (fit_Z (by rfl) (by decide)) (by rfl) ?_
                  have hb : (cc.1 && decide (cc.2 ≠ -9223372036854775808)) = false := by rw [(lcm_eq _ _).mp h186]; simp
                  rw [nu_2 (z := 0) (b := false) rfl]
                  refine w_ld d_61_197 rfl rfl rfl ?_
                  refine w_ld d_61_198 rfl rfl rfl ?_
                  refine w_gJ d_61_199 (by rfl) (by first | rfl | assumption) (by rfl) (by first | exact nu_g1 | exact nu_g2 | exact nu_g0) ?_
                  refine w_lneg d_61_202 ?_
                  refine w_putJ d_61_203 (by rfl) (by first | rfl | assumption) (by rfl) (fit_J (by rfl)) (by rfl) ?_
                  refine w_con d_61_206 ?_
                  refine w_zret d_61_207 rfl (by decide) ?_
                  rw [nu_0, hb]
                  exact ⟨rfl, rfl⟩
                · refine w_con d_61_189 ?_
                  refine w_goto (g := 194) d_61_190 (by decide) ?_
                  refine w_putI d_61_194 (by rfl) (by first | rfl | assumption) (by rfl) (fit_Z (by rfl) (by decide)) (by rfl) ?_
                  have hb : (cc.1 && decide (cc.2 ≠ -9223372036854775808)) = true := by rw [hb1, decide_eq_true (show cc.2 ≠ -9223372036854775808 from fun z => h186 ((lcm_eq _ _).mpr z))]; rfl
                  rw [nu_2 (z := 1) (b := true) rfl]
                  refine w_ld d_61_197 rfl rfl rfl ?_
                  refine w_ld d_61_198 rfl rfl rfl ?_
                  refine w_gJ d_61_199 (by rfl) (by first | rfl | assumption) (by rfl) (by first | exact nu_g1 | exact nu_g2 | exact nu_g0) ?_
                  refine w_lneg d_61_202 ?_
                  refine w_putJ d_61_203 (by rfl) (by first | rfl | assumption) (by rfl) (fit_J (by rfl)) (by rfl) ?_
                  refine w_con d_61_206 ?_
                  refine w_zret d_61_207 rfl (by decide) ?_
                  rw [nu_0, hb]
                  exact ⟨rfl, rfl⟩
          · refine w_ld d_61_85 rfl rfl rfl ?_
            refine w_stk d_61_86 rfl ?_
            refine w_gI d_61_87 (by rfl) (by first | rfl | assumption) (by rfl) (by first | exact nu_g1 | exact nu_g2 | exact nu_g0) ?_
            refine w_ld d_61_90 rfl rfl rfl ?_
            refine w_if_eq (g := 99) d_61_92 (by decide) (by decide) (fun h92 => ?_) (fun h92 => ?_)
            · refine w_con d_61_99 ?_
              refine w_iadd d_61_100 ?_
              refine w_putI d_61_101 (by rfl) (by first | rfl | assumption) (by rfl) (fit_I (by rfl)) (by rfl) ?_
              refine w_ld d_61_104 rfl rfl rfl ?_
              refine w_if_ne (g := 113) d_61_106 (by decide) (by decide) (fun h106 => ?_) (fun h106 => ?_)
              · exact absurd rfl h106
              · refine w_con d_61_109 ?_
                refine w_goto (g := 114) d_61_110 (by decide) ?_
                refine w_zret d_61_114 rfl (by decide) ?_
                rw [nu_1]
                have e : (scn (μ.2.2 (b + 1)) f to) = (true, f + 1, true, 0) := by
                  unfold scn
                  rw [if_neg hm, if_neg (by omega), if_pos (by omega)]
                rw [e]
                exact ⟨rfl, rfl⟩
            · exact absurd rfl h92
        · refine w_con d_61_70 ?_
          refine w_zret d_61_71 rfl (by decide) ?_
          have hnd : ¬ (48 ≤ μ.2.2 (b + 1) f ∧ μ.2.2 (b + 1) f ≤ 57) := fun z => by rw [if_pos z] at h67; cases h67
          have e : (scn (μ.2.2 (b + 1)) f to) = (false, f, true, 0) := by
            unfold scn
            rw [if_neg hm, if_neg (by omega), if_neg (by omega)]
          rw [e]
          exact ⟨rfl, rfl⟩
    · exact absurd rfl h25
  · refine w_ld d_61_5 rfl rfl rfl ?_
    refine w_ld d_61_6 rfl rfl rfl ?_
    refine w_cV1 (a := b) (as := [_]) (rest := _) rfl d_61_7 (by rfl) (by rfl) (by first | rfl | assumption) (by rfl) (by rfl) (Nat.le_of_ble_eq_true rfl) (by omega) (by omega) (pk _ _ (Or.inl rfl) (by omega) (by omega)) ?_
    refine w_bip d_61_10 (by decide) ?_
    refine w_icmp_ne (g := 19) d_61_12 (by decide) (by have := hch f; omega) (fun h12 => ?_) (fun h12 => ?_)
    · refine w_con d_61_19 ?_
      refine w_st1 (L' := [_, _, _, _, _]) d_61_20 rfl (by decide) rfl (by decide) rfl ?_
      refine w_ld d_61_22 rfl rfl rfl ?_
      refine w_ld d_61_23 rfl rfl rfl ?_
      refine w_if_eq (g := 34) d_61_25 (by decide) (by decide) (fun h25 => ?_) (fun h25 => ?_)
      · refine w_ld d_61_34 rfl rfl rfl ?_
        refine w_putI d_61_35 (by rfl) (by first | rfl | assumption) (by rfl) (fit_I (by rfl)) (by rfl) ?_
        refine w_ld d_61_38 rfl rfl rfl ?_
        refine w_lcon0 d_61_39 ?_
        refine w_putJ d_61_40 (by rfl) (by first | rfl | assumption) (by rfl) (fit_J (by rfl)) (by rfl) ?_
        refine w_ld d_61_43 rfl rfl rfl ?_
        refine w_con d_61_44 ?_
        refine w_putI d_61_45 (by rfl) (by first | rfl | assumption) (by rfl) (fit_Z (by rfl) (by omega)) (by rfl) ?_
        rw [nu_i (b := true) (z := 1) rfl]
        refine w_ld d_61_48 rfl rfl rfl ?_
        refine w_gI d_61_49 (by rfl) (by first | rfl | assumption) (by rfl) (by first | exact nu_g1 | exact nu_g2 | exact nu_g0) ?_
        refine w_ld d_61_52 rfl rfl rfl ?_
        refine w_icmp_ge (g := 70) d_61_53 (by decide) (by omega) (fun h53 => ?_) (fun h53 => ?_)
        · refine w_con d_61_70 ?_
          refine w_zret d_61_71 rfl (by decide) ?_
          have e : (scn (μ.2.2 (b + 1)) f to) = (false, f, true, 0) := by
            unfold scn
            rw [if_neg hm, if_neg (by omega), if_neg (by omega)]
          rw [e]
          exact ⟨rfl, rfl⟩
        · refine w_ld d_61_56 rfl rfl rfl ?_
          refine w_ld d_61_57 rfl rfl rfl ?_
          refine w_gI d_61_58 (by rfl) (by first | rfl | assumption) (by rfl) (by first | exact nu_g1 | exact nu_g2 | exact nu_g0) ?_
          refine w_cV1 (a := b) (as := [_]) (rest := _) rfl d_61_61 (by rfl) (by rfl) (by first | rfl | assumption) (by rfl) (by rfl) (Nat.le_of_ble_eq_true rfl) (by omega) (by omega) (pk _ _ (Or.inr ⟨_, _, rfl⟩) (by omega) (by omega)) ?_
          refine w_cS1 (as := [_]) (rest := _) rfl d_61_64 (by rfl) (by rfl) (by rfl) (by rfl) (Nat.le_of_ble_eq_true rfl) (by omega) (by omega) (t_isDigit (by have := hch f; omega)) ?_
          refine w_if_ne (g := 72) d_61_67 (by decide) (by split <;> omega) (fun h67 => ?_) (fun h67 => ?_)
          · have hdg : 48 ≤ μ.2.2 (b + 1) f ∧ μ.2.2 (b + 1) f ≤ 57 := Decidable.byContradiction (fun z => h67 (if_neg z))
            refine w_ld d_61_72 rfl rfl rfl ?_
            refine w_ld d_61_73 rfl rfl rfl ?_
            refine w_gI d_61_74 (by rfl) (by first | rfl | assumption) (by rfl) (by first | exact nu_g1 | exact nu_g2 | exact nu_g0) ?_
            refine w_cV1 (a := b) (as := [_]) (rest := _) rfl d_61_77 (by rfl) (by rfl) (by first | rfl | assumption) (by rfl) (by rfl) (Nat.le_of_ble_eq_true rfl) (by omega) (by omega) (pk _ _ (Or.inr ⟨_, _, rfl⟩) (by omega) (by omega)) ?_
            refine w_bip d_61_80 (by decide) ?_
            refine w_icmp_ne (g := 115) d_61_82 (by decide) (by omega) (fun h82 => ?_) (fun h82 => ?_)
            · refine t_scan_l hL hc hft hch hf hl (p0 := f) (c0 := (true, 0)) ?_ _ f (true, 0) rfl (by omega) ⟨by show (_ : Int) ≤ 0; decide, Int.le_refl 0⟩ rfl rfl
              have hin := dvl_dru_in (R := (μ.2.2 (b + 1))) (to := to) (p := f)
              obtain ⟨cc, hcc⟩ : ∃ cc, cc = (dvl (μ.2.2 (b + 1)) (dru (μ.2.2 (b + 1)) to f - f).toNat f (true, 0)) := ⟨_, rfl⟩
              rw [← hcc] at hin ⊢
              have e : (scn (μ.2.2 (b + 1)) f to) = (true, (dru (μ.2.2 (b + 1)) to f), cc.1 && decide (cc.2 ≠ -9223372036854775808), -cc.2) := by
                rw [hcc]
                unfold scn
                rw [if_neg hm, if_pos (by omega)]
              rw [e]
              refine w_ld d_61_165 rfl rfl rfl ?_
              refine w_if_ne (g := 206) d_61_167 (by decide) (by decide) (fun h167 => ?_) (fun h167 => ?_)
              · exact absurd rfl h167
              · refine w_ld d_61_170 rfl rfl rfl ?_
                refine w_ld d_61_171 rfl rfl rfl ?_
                refine w_gI d_61_172 (by rfl) (by first | rfl | assumption) (by rfl) (by first | exact nu_g1 | exact nu_g2 | exact nu_g0) ?_
                refine w_if_eq (g := 193) d_61_175 (by decide) (by have := bi_01 cc.1; omega) (fun h175 => ?_) (fun h175 => ?_)
                · refine w_con d_61_193 ?_
                  refine w_putI d_61_194 (by rfl) (by first | rfl | assumption) (by rfl) (fit_Z (by rfl) (by decide)) (by rfl) ?_
                  have hb : (cc.1 && decide (cc.2 ≠ -9223372036854775808)) = false := by rw [bi_f.mp h175]; rfl
                  rw [nu_2 (z := 0) (b := false) rfl]
                  refine w_ld d_61_197 rfl rfl rfl ?_
                  refine w_ld d_61_198 rfl rfl rfl ?_
                  refine w_gJ d_61_199 (by rfl) (by first | rfl | assumption) (by rfl) (by first | exact nu_g1 | exact nu_g2 | exact nu_g0) ?_
                  refine w_lneg d_61_202 ?_
                  refine w_putJ d_61_203 (by rfl) (by first | rfl | assumption) (by rfl) (fit_J (by rfl)) (by rfl) ?_
                  refine w_con d_61_206 ?_
                  refine w_zret d_61_207 rfl (by decide) ?_
                  rw [nu_0, hb]
                  exact ⟨rfl, rfl⟩
                · have hb1 : cc.1 = true := bi_t.mp (by have := bi_01 cc.1; omega)
                  refine w_ld d_61_178 rfl rfl rfl ?_
                  refine w_gJ d_61_179 (by rfl) (by first | rfl | assumption) (by rfl) (by first | exact nu_g1 | exact nu_g2 | exact nu_g0) ?_
                  refine w_ldl (x := (-9223372036854775808)) d_61_182 (by rfl) ?_
                  refine w_lcmp d_61_185 (by omega) ?_
                  refine w_if_eq (g := 193) d_61_186 (by decide) (by have := lcm_in cc.2 (-9223372036854775808); omega) (fun h186 => ?_) (fun h186 => ?_)
                  · refine w_con d_61_193 ?_
                    refine w_putI d_61_194 (by rfl) (by first | rfl | assumption) (by rfl) (fit_Z (by rfl) (by decide)) (by rfl) ?_
                    have hb : (cc.1 && decide (cc.2 ≠ -9223372036854775808)) = false := by rw [(lcm_eq _ _).mp h186]; simp
                    rw [nu_2 (z := 0) (b := false) rfl]
                    refine w_ld d_61_197 rfl rfl rfl ?_
                    refine w_ld d_61_198 rfl rfl rfl ?_
                    refine w_gJ d_61_199 (by rfl) (by first | rfl | assumption) (by rfl) (by first | exact nu_g1 | exact nu_g2 | exact nu_g0) ?_
                    refine w_lneg d_61_202 ?_
                    refine w_putJ d_61_203 (by rfl) (by first | rfl | assumption) (by rfl) (fit_J (by rfl)) (by rfl) ?_
                    refine w_con d_61_206 ?_
                    refine w_zret d_61_207 rfl (by decide) ?_
                    rw [nu_0, hb]
                    exact ⟨rfl, rfl⟩
                  · refine w_con d_61_189 ?_
                    refine w_goto (g := 194) d_61_190 (by decide) ?_
                    refine w_putI d_61_194 (by rfl) (by first | rfl | assumption) (by rfl) (fit_Z (by rfl) (by decide)) (by rfl) ?_
                    have hb : (cc.1 && decide (cc.2 ≠ -9223372036854775808)) = true := by rw [hb1, decide_eq_true (show cc.2 ≠ -9223372036854775808 from fun z => h186 ((lcm_eq _ _).mpr z))]; rfl
                    rw [nu_2 (z := 1) (b := true) rfl]
                    refine w_ld d_61_197 rfl rfl rfl ?_
                    refine w_ld d_61_198 rfl rfl rfl ?_
                    refine w_gJ d_61_199 (by rfl) (by first | rfl | assumption) (by rfl) (by first | exact nu_g1 | exact nu_g2 | exact nu_g0) ?_
                    refine w_lneg d_61_202 ?_
                    refine w_putJ d_61_203 (by rfl) (by first | rfl | assumption) (by rfl) (fit_J (by rfl)) (by rfl) ?_
                    refine w_con d_61_206 ?_
                    refine w_zret d_61_207 rfl (by decide) ?_
                    rw [nu_0, hb]
                    exact ⟨rfl, rfl⟩
            · refine w_ld d_61_85 rfl rfl rfl ?_
              refine w_stk d_61_86 rfl ?_
              refine w_gI d_61_87 (by rfl) (by first | rfl | assumption) (by rfl) (by first | exact nu_g1 | exact nu_g2 | exact nu_g0) ?_
              refine w_ld d_61_90 rfl rfl rfl ?_
              refine w_if_eq (g := 99) d_61_92 (by decide) (by decide) (fun h92 => ?_) (fun h92 => ?_)
              · refine w_con d_61_99 ?_
                refine w_iadd d_61_100 ?_
                refine w_putI d_61_101 (by rfl) (by first | rfl | assumption) (by rfl) (fit_I (by rfl)) (by rfl) ?_
                refine w_ld d_61_104 rfl rfl rfl ?_
                refine w_if_ne (g := 113) d_61_106 (by decide) (by decide) (fun h106 => ?_) (fun h106 => ?_)
                · exact absurd rfl h106
                · refine w_con d_61_109 ?_
                  refine w_goto (g := 114) d_61_110 (by decide) ?_
                  refine w_zret d_61_114 rfl (by decide) ?_
                  rw [nu_1]
                  have e : (scn (μ.2.2 (b + 1)) f to) = (true, f + 1, true, 0) := by
                    unfold scn
                    rw [if_neg hm, if_neg (by omega), if_pos (by omega)]
                  rw [e]
                  exact ⟨rfl, rfl⟩
              · exact absurd rfl h92
          · refine w_con d_61_70 ?_
            refine w_zret d_61_71 rfl (by decide) ?_
            have hnd : ¬ (48 ≤ μ.2.2 (b + 1) f ∧ μ.2.2 (b + 1) f ≤ 57) := fun z => by rw [if_pos z] at h67; cases h67
            have e : (scn (μ.2.2 (b + 1)) f to) = (false, f, true, 0) := by
              unfold scn
              rw [if_neg hm, if_neg (by omega), if_neg (by omega)]
            rw [e]
            exact ⟨rfl, rfl⟩
      · exact absurd rfl h25
    · exact absurd ⟨by omega, h12⟩ hm
theorem t_scan {sc : Nat × (Nat → Int32)} {fr lo : Nat} {μ : Mem} {ρ : Nat × Nat × Nat} {b n : Nat} (hL : isL b n) (hc : 0 ≤ μ.1 b 1 ∧ μ.1 b 1 ≤ n) {f to : Int} (hft : 0 ≤ f ∧ f ≤ to ∧ to ≤ μ.1 b 1) (hch : ∀ k, 0 ≤ μ.2.2 (b + 1) k ∧ μ.2.2 (b + 1) k < 65536) (hf : 6 ≤ fr) (hl : 200 ≤ lo) : w_E sc fr lo 61 [.ref 24, .ref b, .int (ji f), .int (ji to)] (hp μ, ρ) (.inl (some (.int (ji (bi (scn (μ.2.2 (b + 1)) f to).1))))) (hp (nu μ (scn (μ.2.2 (b + 1)) f to).2.1 ((scn (μ.2.2 (b + 1)) f to).2.2.1, (scn (μ.2.2 (b + 1)) f to).2.2.2)), ρ) := by
  by_cases hm : f < to ∧ (μ.2.2 (b + 1)) f = 45
  · exact t_scanM hL hc hft hch hf hl hm
  · exact t_scanP hL hc hft hch hf hl hm
