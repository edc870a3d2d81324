/-! THE PURE PART, 50: contracts: the reference's numbers -/
theorem num_rel {m : Bool} {R : Int → Int} {to p : Int} (hp : p < to) (hR : 49 ≤ R p ∧ R p ≤ 57) : nrl m (dvl R (dru R to p - p).toNat p (true, 0)) (mvl m R (dru R to p - p).toNat p (true, 0, 0)) ((dru R to p - p).toNat - 1) ∧ p < dru R to p := by
  have e1 : dru R to p = dru R to (p + 1) := by rw [dru_eq, if_pos ⟨hp, by omega, hR.2⟩]
  have e2 := (dru_ge R to _ (p + 1) rfl).1
  have e3 : (dru R to p - p).toNat = (dru R to p - (p + 1)).toNat + 1 := by omega
  refine ⟨?_, by omega⟩
  rw [e3, Nat.add_sub_cancel]
  have k := nrl_n (m := m) (R := R) (dru R to p - (p + 1)).toNat (p + 1) _ _ 0 (fun i h1 h2 => dru_d (to := to) _ (p + 1) rfl i h1 (by rw [← e1]; omega)) (nrl_1 (m := m) (d := R p - 48) (by omega))
  rw [Nat.zero_add] at k
  exact k
theorem mvl_false {m : Bool} {R : Int → Int} : ∀ (k : Nat) (p : Int) (s : Bool × Int × Int), s.1 = false → (mvl m R k p s).1 = false
  | 0, _, _, h => h
  | k + 1, p, s, h => mvl_false k (p + 1) _ (by
    unfold mkd
    rw [if_neg (fun z => by rw [h] at z; cases z.1)])
theorem mkd_in {m : Bool} {s : Bool × Int × Int} {d : Int} (hd : 0 ≤ d ∧ d ≤ 9) (h : -9223372036854775808 ≤ s.2.1 ∧ s.2.1 ≤ 0) : -9223372036854775808 ≤ (mkd m s d).2.1 ∧ (mkd m s d).2.1 ≤ 0 := by
  unfold mkd
  by_cases z : s.1 = true ∧ s.2.2 < 19 ∧ (-922337203685477580 < s.2.1 ∨ s.2.1 = -922337203685477580 ∧ d ≤ (if m = true then 8 else 7))
  · rw [if_pos z]
    have z2 := z.2.2
    have hm : (if m = true then (8 : Int) else 7) ≤ 8 := by split <;> decide
    show -9223372036854775808 ≤ 10 * s.2.1 - d ∧ 10 * s.2.1 - d ≤ 0
    omega
  · rw [if_neg z]
    exact h
theorem m_numeral_l {sc : Nat × (Nat → Int32)} {fr lo : Nat} {μ : Mem} {ρ : Nat × Nat × Nat} (hn : 0 ≤ μ.1 46 3 ∧ μ.1 46 3 ≤ 240) (hch : ∀ k, 0 ≤ μ.2.2 47 k ∧ μ.2.2 47 k < 65536) {b0 p0 : Int} {mi : Bool} {s1 : Bool × Int × Int} {Q : z_O → z_T → Prop} (hf : 8 ≤ fr) (hl : 200 ≤ lo) (kO : w_P sc fr lo 145 7 8 false ((some FieldType.long)) prog_9_method_20_code 210 [some (.ref 46), some (.int (ji b0)), some (.int (ji (bi mi))), some (.long (jl s1.2.1)), none, some (.int (ji (bi s1.1))), some (.int (ji s1.2.2)), none] [] (hp (stI μ 46 15 (dru (μ.2.2 47) (μ.1 46 3) p0)), ρ) Q) : ∀ (m : Nat) (p : Int) (s : Bool × Int × Int), (μ.1 46 3 - p).toNat = m → (0 ≤ p ∧ p ≤ (μ.1 46 3) ∧ 0 ≤ s.2.2 ∧ s.2.2 ≤ p) → (-9223372036854775808 ≤ s.2.1 ∧ s.2.1 ≤ 0) → dru (μ.2.2 47) (μ.1 46 3) p = dru (μ.2.2 47) (μ.1 46 3) p0 → mvl mi (μ.2.2 47) (dru (μ.2.2 47) (μ.1 46 3) p - p).toNat p s = s1 → w_P sc fr lo 145 7 8 false ((some FieldType.long)) prog_9_method_20_code 119 [some (.ref 46), some (.int (ji b0)), some (.int (ji (bi mi))), some (.long (jl s.2.1)), none, some (.int (ji (bi s.1))), some (.int (ji s.2.2)), none] [] (hp (stI μ 46 15 p), ρ) Q := by
  intro m
  induction m using Nat.strongRecOn with
  | ind m ih =>
    intro p s hm hp0 hs hd hv
    have lk : ∀ p k : Int, 0 ≤ k ∧ k ≤ 1000 → w_E sc (fr - 1) (lo - (19 + 2)) 119 [.ref 46, .int (ji k)] (hp (stI μ 46 15 p), ρ) (.inl (some (.int (ji (if k < μ.1 46 3 then μ.2.2 47 k else 0))))) (hp (stI μ 46 15 p), ρ) := fun p k hk => by
      have e := m_look (sc := sc) (fr := fr - 1) (lo := lo - (19 + 2)) (μ := stI μ 46 15 p) (ρ := ρ) hn (k := k) (by omega) hk.1
      exact e
    refine w_ld d_145_119 rfl rfl rfl ?_
    refine w_ld d_145_120 rfl rfl rfl ?_
    refine w_gI d_145_121 (by rfl) (by first | rfl | assumption) (by rfl) (show _ = p from stI_at _ _ _ _) ?_
    refine w_cV1 (a := 46) (as := [_]) (rest := _) rfl d_145_124 (by rfl) (by rfl) (by first | rfl | assumption) (by rfl) (by rfl) (Nat.le_of_ble_eq_true rfl) (by omega) (by omega) (lk p p (by omega)) ?_
    refine w_cS1 (as := [_]) (rest := _) rfl d_145_127 (by rfl) (by rfl) (by rfl) (by rfl) (Nat.le_of_ble_eq_true rfl) (by omega) (by omega) (m_digit (by have := hch p; split <;> omega)) ?_
    refine w_if_eq (g := 210) d_145_130 (by decide) (by split <;> split <;> omega) (fun h130 => ?_) (fun h130 => ?_)
    · have e1 : dru (μ.2.2 47) (μ.1 46 3) p = p := by rw [dru_eq, if_neg (fun z => by rw [if_pos z.1, if_pos z.2] at h130; cases h130)]
      rw [e1, show (p - p).toNat = 0 by omega] at hv
      rw [e1] at hd
      rw [hd]
      have hs1 : s = s1 := hv
      rw [hs1]
      exact kO
    · have hlt : p < μ.1 46 3 := Decidable.byContradiction (fun z => h130 (by rw [if_neg z]; decide))
      have hdg : 48 ≤ μ.2.2 47 p ∧ μ.2.2 47 p ≤ 57 := Decidable.byContradiction (fun z => h130 (by rw [if_pos hlt]; exact if_neg z))
      have hb := bi_01 s.1
      refine w_ld d_145_133 rfl rfl rfl ?_
      refine w_ld d_145_134 rfl rfl rfl ?_
      refine w_gI d_145_135 (by rfl) (by first | rfl | assumption) (by rfl) (show _ = p from stI_at _ _ _ _) ?_
      refine w_cV1 (a := 46) (as := [_]) (rest := _) rfl d_145_138 (by rfl) (by rfl) (by first | rfl | assumption) (by rfl) (by rfl) (Nat.le_of_ble_eq_true rfl) (by omega) (by omega) (lk p p (by omega)) ?_
      rw [if_pos hlt]
      refine w_bip d_145_141 (by decide) ?_
      refine w_isub d_145_143 ?_
      refine w_st1 (L' := [_, _, _, _, _, _, _, _]) d_145_144 rfl (by decide) rfl (by decide) rfl ?_
      refine w_ld d_145_146 rfl rfl rfl ?_
      refine w_if_eq (g := 172) d_145_148 (by decide) (by omega) (fun h148 => ?_) (fun h148 => ?_)
      · refine w_con d_145_172 ?_
        refine w_st1 (L' := [_, _, _, _, _, _, _, _]) d_145_173 rfl (by decide) rfl (by decide) rfl ?_
        refine w_ld d_145_175 rfl rfl rfl ?_
        refine w_if_eq (g := 192) d_145_177 (by decide) (by decide) (fun h177 => ?_) (fun h177 => ?_)
        · refine w_ld d_145_192 rfl rfl rfl ?_
          refine w_st2 (L' := [_, _, _, _, _, _, _, _]) d_145_193 rfl rfl (by decide) rfl ?_
          refine w_inc (L' := [_, _, _, _, _, _, _, _]) d_145_194 rfl (by decide) rfl ?_
          refine w_ld d_145_197 rfl rfl rfl ?_
          refine w_stk d_145_198 rfl ?_
          refine w_gI d_145_199 (by rfl) (by first | rfl | assumption) (by rfl) (show _ = p from stI_at _ _ _ _) ?_
          refine w_con d_145_202 ?_
          refine w_iadd d_145_203 ?_
          refine w_putI d_145_204 (by rfl) (by first | rfl | assumption) (by rfl) (fit_I (by rfl)) (by rfl) ?_
          refine w_goto (g := 119) d_145_207 (by decide) ?_
          have e1 : dru (μ.2.2 47) (μ.1 46 3) p = dru (μ.2.2 47) (μ.1 46 3) (p + 1) := by rw [dru_eq, if_pos ⟨hlt, hdg⟩]
          have e2 := (dru_ge (μ.2.2 47) (μ.1 46 3) _ (p + 1) rfl).1
          have hmk : mkd mi s (μ.2.2 47 p - 48) = (false, s.2.1, s.2.2 + 1) := by
            unfold mkd
            rw [if_neg (fun z => by rw [bi_f.mp h148] at z; cases z.1)]
          rw [stI_stI]
          refine w_P.le (ih _ (by omega) (p + 1) (false, s.2.1, s.2.2 + 1) rfl (by show 0 ≤ p + 1 ∧ p + 1 ≤ μ.1 46 3 ∧ 0 ≤ s.2.2 + 1 ∧ s.2.2 + 1 ≤ p + 1; omega) ?_ (by rw [← e1]; exact hd) ?_) ⟨rfl, rfl, rfl, rfl, rfl, rfl, trivial⟩
          · rw [← hmk]
            exact mkd_in (by omega) hs
          · rw [← hv, e1, show (dru (μ.2.2 47) (μ.1 46 3) (p + 1) - p).toNat = (dru (μ.2.2 47) (μ.1 46 3) (p + 1) - (p + 1)).toNat + 1 by omega, ← hmk]
            rfl
        · exact absurd rfl h177
      · refine w_ld d_145_151 rfl rfl rfl ?_
        refine w_bip d_145_153 (by decide) ?_
        refine w_icmp_ge (g := 172) d_145_155 (by decide) (by omega) (fun h155 => ?_) (fun h155 => ?_)
        · refine w_con d_145_172 ?_
          refine w_st1 (L' := [_, _, _, _, _, _, _, _]) d_145_173 rfl (by decide) rfl (by decide) rfl ?_
          refine w_ld d_145_175 rfl rfl rfl ?_
          refine w_if_eq (g := 192) d_145_177 (by decide) (by decide) (fun h177 => ?_) (fun h177 => ?_)
          · refine w_ld d_145_192 rfl rfl rfl ?_
            refine w_st2 (L' := [_, _, _, _, _, _, _, _]) d_145_193 rfl rfl (by decide) rfl ?_
            refine w_inc (L' := [_, _, _, _, _, _, _, _]) d_145_194 rfl (by decide) rfl ?_
            refine w_ld d_145_197 rfl rfl rfl ?_
            refine w_stk d_145_198 rfl ?_
            refine w_gI d_145_199 (by rfl) (by first | rfl | assumption) (by rfl) (show _ = p from stI_at _ _ _ _) ?_
            refine w_con d_145_202 ?_
            refine w_iadd d_145_203 ?_
            refine w_putI d_145_204 (by rfl) (by first | rfl | assumption) (by rfl) (fit_I (by rfl)) (by rfl) ?_
            refine w_goto (g := 119) d_145_207 (by decide) ?_
            have e1 : dru (μ.2.2 47) (μ.1 46 3) p = dru (μ.2.2 47) (μ.1 46 3) (p + 1) := by rw [dru_eq, if_pos ⟨hlt, hdg⟩]
            have e2 := (dru_ge (μ.2.2 47) (μ.1 46 3) _ (p + 1) rfl).1
            have hmk : mkd mi s (μ.2.2 47 p - 48) = (false, s.2.1, s.2.2 + 1) := by
              unfold mkd
              rw [if_neg (fun z => by omega)]
            rw [stI_stI]
            refine w_P.le (ih _ (by omega) (p + 1) (false, s.2.1, s.2.2 + 1) rfl (by show 0 ≤ p + 1 ∧ p + 1 ≤ μ.1 46 3 ∧ 0 ≤ s.2.2 + 1 ∧ s.2.2 + 1 ≤ p + 1; omega) ?_ (by rw [← e1]; exact hd) ?_) ⟨rfl, rfl, rfl, rfl, rfl, rfl, trivial⟩
            · rw [← hmk]
              exact mkd_in (by omega) hs
            · rw [← hv, e1, show (dru (μ.2.2 47) (μ.1 46 3) (p + 1) - p).toNat = (dru (μ.2.2 47) (μ.1 46 3) (p + 1) - (p + 1)).toNat + 1 by omega, ← hmk]
              rfl
          · exact absurd rfl h177
        · refine w_ld d_145_158 rfl rfl rfl ?_
          refine w_ld d_145_159 rfl rfl rfl ?_
          refine w_ld d_145_161 rfl rfl rfl ?_
          refine w_cS1 (as := [_, _, _]) (rest := _) rfl d_145_162 (by rfl) (by rfl) (by rfl) (by rfl) (Nat.le_of_ble_eq_true rfl) (by omega) (by omega) (m_fits (by omega) (by omega)) ?_
          refine w_if_eq (g := 172) d_145_165 (by decide) (by split <;> omega) (fun h165 => ?_) (fun h165 => ?_)
          · refine w_con d_145_172 ?_
            refine w_st1 (L' := [_, _, _, _, _, _, _, _]) d_145_173 rfl (by decide) rfl (by decide) rfl ?_
            refine w_ld d_145_175 rfl rfl rfl ?_
            refine w_if_eq (g := 192) d_145_177 (by decide) (by decide) (fun h177 => ?_) (fun h177 => ?_)
            · refine w_ld d_145_192 rfl rfl rfl ?_
              refine w_st2 (L' := [_, _, _, _, _, _, _, _]) d_145_193 rfl rfl (by decide) rfl ?_
              refine w_inc (L' := [_, _, _, _, _, _, _, _]) d_145_194 rfl (by decide) rfl ?_
              refine w_ld d_145_197 rfl rfl rfl ?_
              refine w_stk d_145_198 rfl ?_
              refine w_gI d_145_199 (by rfl) (by first | rfl | assumption) (by rfl) (show _ = p from stI_at _ _ _ _) ?_
              refine w_con d_145_202 ?_
              refine w_iadd d_145_203 ?_
              refine w_putI d_145_204 (by rfl) (by first | rfl | assumption) (by rfl) (fit_I (by rfl)) (by rfl) ?_
              refine w_goto (g := 119) d_145_207 (by decide) ?_
              have e1 : dru (μ.2.2 47) (μ.1 46 3) p = dru (μ.2.2 47) (μ.1 46 3) (p + 1) := by rw [dru_eq, if_pos ⟨hlt, hdg⟩]
              have e2 := (dru_ge (μ.2.2 47) (μ.1 46 3) _ (p + 1) rfl).1
              have hmk : mkd mi s (μ.2.2 47 p - 48) = (false, s.2.1, s.2.2 + 1) := by
                unfold mkd
                rw [if_neg (fun z => by rw [if_pos z.2.2] at h165; cases h165)]
              rw [stI_stI]
              refine w_P.le (ih _ (by omega) (p + 1) (false, s.2.1, s.2.2 + 1) rfl (by show 0 ≤ p + 1 ∧ p + 1 ≤ μ.1 46 3 ∧ 0 ≤ s.2.2 + 1 ∧ s.2.2 + 1 ≤ p + 1; omega) ?_ (by rw [← e1]; exact hd) ?_) ⟨rfl, rfl, rfl, rfl, rfl, rfl, trivial⟩
              · rw [← hmk]
                exact mkd_in (by omega) hs
              · rw [← hv, e1, show (dru (μ.2.2 47) (μ.1 46 3) (p + 1) - p).toNat = (dru (μ.2.2 47) (μ.1 46 3) (p + 1) - (p + 1)).toNat + 1 by omega, ← hmk]
                rfl
            · exact absurd rfl h177
          · refine w_con d_145_168 ?_
            refine w_goto (g := 173) d_145_169 (by decide) ?_
            refine w_st1 (L' := [_, _, _, _, _, _, _, _]) d_145_173 rfl (by decide) rfl (by decide) rfl ?_
            refine w_ld d_145_175 rfl rfl rfl ?_
            refine w_if_eq (g := 192) d_145_177 (by decide) (by decide) (fun h177 => ?_) (fun h177 => ?_)
            · exact absurd h177 (by decide)
            · refine w_ldl (x := 10) d_145_180 (by rfl) ?_
              refine w_ld d_145_183 rfl rfl rfl ?_
              refine w_lmul d_145_184 ?_
              refine w_ld d_145_185 rfl rfl rfl ?_
              refine w_i2l d_145_187 (by omega) ?_
              refine w_lsub d_145_188 ?_
              refine w_goto (g := 193) d_145_189 (by decide) ?_
              refine w_st2 (L' := [_, _, _, _, _, _, _, _]) d_145_193 rfl rfl (by decide) rfl ?_
              refine w_inc (L' := [_, _, _, _, _, _, _, _]) d_145_194 rfl (by decide) rfl ?_
              refine w_ld d_145_197 rfl rfl rfl ?_
              refine w_stk d_145_198 rfl ?_
              refine w_gI d_145_199 (by rfl) (by first | rfl | assumption) (by rfl) (show _ = p from stI_at _ _ _ _) ?_
              refine w_con d_145_202 ?_
              refine w_iadd d_145_203 ?_
              refine w_putI d_145_204 (by rfl) (by first | rfl | assumption) (by rfl) (fit_I (by rfl)) (by rfl) ?_
              refine w_goto (g := 119) d_145_207 (by decide) ?_
              have e1 : dru (μ.2.2 47) (μ.1 46 3) p = dru (μ.2.2 47) (μ.1 46 3) (p + 1) := by rw [dru_eq, if_pos ⟨hlt, hdg⟩]
              have e2 := (dru_ge (μ.2.2 47) (μ.1 46 3) _ (p + 1) rfl).1
              have hmk : mkd mi s (μ.2.2 47 p - 48) = (true, 10 * s.2.1 - (μ.2.2 47 p - 48), s.2.2 + 1) := by
                unfold mkd
                rw [if_pos ⟨bi_t.mp (by omega), by omega, Decidable.byContradiction (fun z => h165 (if_neg z))⟩]
              rw [stI_stI]
              refine w_P.le (ih _ (by omega) (p + 1) (true, 10 * s.2.1 - (μ.2.2 47 p - 48), s.2.2 + 1) rfl (by show 0 ≤ p + 1 ∧ p + 1 ≤ μ.1 46 3 ∧ 0 ≤ s.2.2 + 1 ∧ s.2.2 + 1 ≤ p + 1; omega) ?_ (by rw [← e1]; exact hd) ?_) ⟨rfl, rfl, rfl, rfl, rfl, rfl, trivial⟩
              · rw [← hmk]
                exact mkd_in (by omega) hs
              · rw [← hv, e1, show (dru (μ.2.2 47) (μ.1 46 3) (p + 1) - p).toNat = (dru (μ.2.2 47) (μ.1 46 3) (p + 1) - (p + 1)).toNat + 1 by omega, ← hmk]
                rfl
theorem m_numeralM {sc : Nat × (Nat → Int32)} {fr lo : Nat} {μ : Mem} {ρ : Nat × Nat × Nat} (hn : 0 ≤ μ.1 46 3 ∧ μ.1 46 3 ≤ 240) (hch : ∀ k, 0 ≤ μ.2.2 47 k ∧ μ.2.2 47 k < 65536) (h32 : ∀ k, 0 ≤ k → k < μ.1 46 3 → 32 ≤ μ.2.2 47 k) (hpl : 0 ≤ μ.1 46 15 ∧ μ.1 46 15 ≤ μ.1 46 3) (h16 : μ.1 46 16 = -1) (hf : 10 ≤ fr) (hl : 300 ≤ lo) (hm : (μ.1 46 15) < (μ.1 46 3) ∧ (μ.2.2 47) (μ.1 46 15) = 45) : w_S sc fr lo 145 [.ref 46] (hp μ, ρ) (fun o t' => ∃ (v : Int) (μ' : Mem), o = .inl (some (.long (jl v))) ∧ (-9223372036854775808 ≤ v ∧ v ≤ 9223372036854775808) ∧ t' = (hp μ', ρ) ∧ ((scn (μ.2.2 47) (μ.1 46 15) (μ.1 46 3)).1 = true ∧ (scn (μ.2.2 47) (μ.1 46 15) (μ.1 46 3)).2.2.1 = true → v = (scn (μ.2.2 47) (μ.1 46 15) (μ.1 46 3)).2.2.2 ∧ μ' = stI μ 46 15 (scn (μ.2.2 47) (μ.1 46 15) (μ.1 46 3)).2.1) ∧ ((scn (μ.2.2 47) (μ.1 46 15) (μ.1 46 3)).1 = false → μ' = stI (stI μ 46 15 (scn (μ.2.2 47) (μ.1 46 15) (μ.1 46 3)).2.1) 46 16 (scn (μ.2.2 47) (μ.1 46 15) (μ.1 46 3)).2.1) ∧ ((scn (μ.2.2 47) (μ.1 46 15) (μ.1 46 3)).1 = true ∧ (scn (μ.2.2 47) (μ.1 46 15) (μ.1 46 3)).2.2.1 = false → μ' = stI (stI μ 46 15 (scn (μ.2.2 47) (μ.1 46 15) (μ.1 46 3)).2.1) 46 16 (μ.1 46 15))) := by
  have lk0 : w_E sc (fr - 1) (lo - (19 + 2)) 119 [.ref 46, .int (ji (μ.1 46 15))] (hp μ, ρ) (.inl (some (.int (ji (if μ.1 46 15 < μ.1 46 3 then μ.2.2 47 (μ.1 46 15) else 0))))) (hp μ, ρ) := m_look hn (by omega) hpl.1
  have lk : ∀ p k : Int, 0 ≤ k ∧ k ≤ 1000 → w_E sc (fr - 1) (lo - (19 + 2)) 119 [.ref 46, .int (ji k)] (hp (stI μ 46 15 p), ρ) (.inl (some (.int (ji (if k < μ.1 46 3 then μ.2.2 47 k else 0))))) (hp (stI μ 46 15 p), ρ) := fun p k hk => by
    have e := m_look (sc := sc) (fr := fr - 1) (lo := lo - (19 + 2)) (μ := stI μ 46 15 p) (ρ := ρ) hn (k := k) (by omega) hk.1
    exact e
  refine w_S.of (L0 := [some (.ref 46), none, none, none, none, none, none, none]) rfl rfl (Nat.le_of_ble_eq_true rfl) (by rfl) ?_
  refine w_ld d_145_0 rfl rfl rfl ?_
  refine w_gI d_145_1 (by rfl) (by first | rfl | assumption) (by rfl) rfl ?_
  refine w_st1 (L' := [_, _, _, _, _, _, _, _]) d_145_4 rfl (by decide) rfl (by decide) rfl ?_
  refine w_ld d_145_5 rfl rfl rfl ?_
  refine w_ld d_145_6 rfl rfl rfl ?_
  refine w_gI d_145_7 (by rfl) (by first | rfl | assumption) (by rfl) rfl ?_
  refine w_cV1 (a := 46) (as := [_]) (rest := _) rfl d_145_10 (by rfl) (by rfl) (by first | rfl | assumption) (by rfl) (by rfl) (Nat.le_of_ble_eq_true rfl) (by omega) (by omega) lk0 ?_
  rw [if_pos hm.1]
  refine w_bip d_145_13 (by decide) ?_
  refine w_icmp_ne (g := 22) d_145_15 (by decide) (by have := hch (μ.1 46 15); omega) (fun h15 => ?_) (fun h15 => ?_)
  · exact absurd hm.2 h15
  · refine w_con d_145_18 ?_
    refine w_goto (g := 23) d_145_19 (by decide) ?_
    refine w_st1 (L' := [_, _, _, _, _, _, _, _]) d_145_23 rfl (by decide) rfl (by decide) rfl ?_
    refine w_ld d_145_24 rfl rfl rfl ?_
    refine w_ld d_145_25 rfl rfl rfl ?_
    refine w_if_eq (g := 38) d_145_26 (by decide) (by decide) (fun h26 => ?_) (fun h26 => ?_)
    · exact absurd h26 (by decide)
    · refine w_ld d_145_29 rfl rfl rfl ?_
      refine w_gI d_145_30 (by rfl) (by first | rfl | assumption) (by rfl) rfl ?_
      refine w_con d_145_33 ?_
      refine w_iadd d_145_34 ?_
      refine w_goto (g := 42) d_145_35 (by decide) ?_
      refine w_putI d_145_42 (by rfl) (by first | rfl | assumption) (by rfl) (fit_I (by rfl)) (by rfl) ?_
      refine w_ld d_145_45 rfl rfl rfl ?_
      refine w_if_ne (g := 74) d_145_46 (by decide) (by decide) (fun h46 => ?_) (fun h46 => ?_)
      · refine w_ld d_145_74 rfl rfl rfl ?_
        refine w_ld d_145_75 rfl rfl rfl ?_
        refine w_gI d_145_76 (by rfl) (by first | rfl | assumption) (by rfl) (show _ = μ.1 46 15 + 1 from rfl) ?_
        refine w_cV1 (a := 46) (as := [_]) (rest := _) rfl d_145_79 (by rfl) (by rfl) (by first | rfl | assumption) (by rfl) (by rfl) (Nat.le_of_ble_eq_true rfl) (by omega) (by omega) (lk _ (μ.1 46 15 + 1) (by omega)) ?_
        refine w_cS1 (as := [_]) (rest := _) rfl d_145_82 (by rfl) (by rfl) (by rfl) (by rfl) (Nat.le_of_ble_eq_true rfl) (by omega) (by omega) (m_digit (by have := hch (μ.1 46 15 + 1); split <;> omega)) ?_
        refine w_if_eq (g := 101) d_145_85 (by decide) (by split <;> split <;> omega) (fun h85 => ?_) (fun h85 => ?_)
        · refine w_ld d_145_101 rfl rfl rfl ?_
          refine w_ld d_145_102 rfl rfl rfl ?_
          refine w_gI d_145_103 (by rfl) (by first | rfl | assumption) (by rfl) (show _ = μ.1 46 15 + 1 from rfl) ?_
          refine w_cV0 (a := 46) (as := [_]) (rest := _) rfl d_145_106 (by rfl) (by rfl) (by first | rfl | assumption) (by rfl) (by rfl) (Nat.le_of_ble_eq_true rfl) (by omega) (by omega) (by have e := m_fail (sc := sc) (fr := fr - 1) (lo := lo - (19 + 2)) (μ := stI μ 46 15 (μ.1 46 15 + 1)) (ρ := ρ) (by rw [show (stI μ 46 15 (μ.1 46 15 + 1)).1 46 16 = -1 from h16]; decide) (k := μ.1 46 15 + 1); rw [show (stI μ 46 15 (μ.1 46 15 + 1)).1 46 16 = -1 from h16, if_pos (by decide)] at e; exact e) ?_
          refine w_lcon0 d_145_109 ?_
          refine w_ret d_145_110 rfl ?_
          have hnd : ¬ (μ.1 46 15 + 1 < μ.1 46 3 ∧ 49 ≤ μ.2.2 47 (μ.1 46 15 + 1) ∧ μ.2.2 47 (μ.1 46 15 + 1) ≤ 57) := fun z => by
            rw [if_pos z.1, if_pos ⟨by omega, z.2.2⟩] at h85
            cases h85
          have e : (scn (μ.2.2 47) (μ.1 46 15) (μ.1 46 3)) = (false, μ.1 46 15 + 1, true, 0) := by
            unfold scn
            rw [if_pos hm, if_neg hnd]
          rw [e]
          exact ⟨0, _, rfl, by decide, rfl, (fun z => by cases z.1), (fun _ => rfl), (fun z => by cases z.1)⟩
        · have hlt : μ.1 46 15 + 1 < μ.1 46 3 := Decidable.byContradiction (fun z => h85 (by rw [if_neg z]; decide))
          have hdg : 48 ≤ μ.2.2 47 (μ.1 46 15 + 1) ∧ μ.2.2 47 (μ.1 46 15 + 1) ≤ 57 := Decidable.byContradiction (fun z => h85 (by rw [if_pos hlt]; exact if_neg z))
          refine w_ld d_145_88 rfl rfl rfl ?_
          refine w_ld d_145_89 rfl rfl rfl ?_
          refine w_gI d_145_90 (by rfl) (by first | rfl | assumption) (by rfl) (show _ = μ.1 46 15 + 1 from rfl) ?_
          refine w_cV1 (a := 46) (as := [_]) (rest := _) rfl d_145_93 (by rfl) (by rfl) (by first | rfl | assumption) (by rfl) (by rfl) (Nat.le_of_ble_eq_true rfl) (by omega) (by omega) (lk _ (μ.1 46 15 + 1) (by omega)) ?_
          rw [if_pos hlt]
          refine w_bip d_145_96 (by decide) ?_
          refine w_icmp_ne (g := 111) d_145_98 (by decide) (by omega) (fun h98 => ?_) (fun h98 => ?_)
          · refine w_lcon0 d_145_111 ?_
            refine w_st2 (L' := [_, _, _, _, _, _, _, _]) d_145_112 rfl rfl (by decide) rfl ?_
            refine w_con d_145_113 ?_
            refine w_st1 (L' := [_, _, _, _, _, _, _, _]) d_145_114 rfl (by decide) rfl (by decide) rfl ?_
            refine w_con d_145_116 ?_
            refine w_st1 (L' := [_, _, _, _, _, _, _, _]) d_145_117 rfl (by decide) rfl (by decide) rfl ?_
            have hge := (dru_ge (μ.2.2 47) (μ.1 46 3) _ (μ.1 46 15 + 1) rfl)
            have nr := (num_rel (m := true) (R := (μ.2.2 47)) (to := (μ.1 46 3)) (p := μ.1 46 15 + 1) (by omega) (by omega)).1
            have din := dvl_dru_in (R := (μ.2.2 47)) (to := (μ.1 46 3)) (p := μ.1 46 15 + 1)
            have e : (scn (μ.2.2 47) (μ.1 46 15) (μ.1 46 3)) = (true, (dru (μ.2.2 47) (μ.1 46 3) (μ.1 46 15 + 1)), (dvl (μ.2.2 47) (dru (μ.2.2 47) (μ.1 46 3) (μ.1 46 15 + 1) - (μ.1 46 15 + 1)).toNat (μ.1 46 15 + 1) (true, 0)).1, (dvl (μ.2.2 47) (dru (μ.2.2 47) (μ.1 46 3) (μ.1 46 15 + 1) - (μ.1 46 15 + 1)).toNat (μ.1 46 15 + 1) (true, 0)).2) := by
              unfold scn
              rw [if_pos hm, if_pos (by omega)]
            rw [e]
            obtain ⟨c, hc⟩ : ∃ c, c = (dvl (μ.2.2 47) (dru (μ.2.2 47) (μ.1 46 3) (μ.1 46 15 + 1) - (μ.1 46 15 + 1)).toNat (μ.1 46 15 + 1) (true, 0)) := ⟨_, rfl⟩
            rw [← hc] at nr din ⊢
            refine m_numeral_l hn hch (b0 := μ.1 46 15) (p0 := μ.1 46 15 + 1) (mi := true) (s1 := (mvl true (μ.2.2 47) (dru (μ.2.2 47) (μ.1 46 3) (μ.1 46 15 + 1) - (μ.1 46 15 + 1)).toNat (μ.1 46 15 + 1) (true, 0, 0))) (by omega) (by omega) ?_ _ (μ.1 46 15 + 1) (true, 0, 0) rfl (by show 0 ≤ μ.1 46 15 + 1 ∧ μ.1 46 15 + 1 ≤ μ.1 46 3 ∧ (0 : Int) ≤ 0 ∧ (0 : Int) ≤ μ.1 46 15 + 1; omega) ⟨by show (_ : Int) ≤ 0; decide, Int.le_refl 0⟩ rfl rfl
            obtain ⟨s1, hs⟩ : ∃ s1, s1 = (mvl true (μ.2.2 47) (dru (μ.2.2 47) (μ.1 46 3) (μ.1 46 15 + 1) - (μ.1 46 15 + 1)).toNat (μ.1 46 15 + 1) (true, 0, 0)) := ⟨_, rfl⟩
            rw [← hs] at nr ⊢
            have hb := bi_01 s1.1
            have hs5 := nr.2.2.2.2.1
            refine w_ld d_145_210 rfl rfl rfl ?_
            refine w_if_ne (g := 220) d_145_212 (by decide) (by omega) (fun h212 => ?_) (fun h212 => ?_)
            · refine w_ld d_145_220 rfl rfl rfl ?_
              refine w_if_eq (g := 228) d_145_221 (by decide) (by decide) (fun h221 => ?_) (fun h221 => ?_)
              · exact absurd h221 (by decide)
              · refine w_ld d_145_224 rfl rfl rfl ?_
                refine w_goto (g := 230) d_145_225 (by decide) ?_
                refine w_ret d_145_230 rfl ?_
                have hs1 : s1.1 = true := bi_t.mp (by omega)
                have hc1 := nr.2.1.mp hs1
                have hc2 := nr.2.2.1 hs1
                rw [hc2]
                exact ⟨_, _, rfl, (by omega), rfl, (fun _ => ⟨rfl, rfl⟩), (fun z => by cases z), (fun z => absurd z.2 (by show ¬ (c.1 = false); rw [hc1.1]; decide))⟩
            · refine w_ld d_145_215 rfl rfl rfl ?_
              refine w_ld d_145_216 rfl rfl rfl ?_
              refine w_cV0 (a := 46) (as := [_]) (rest := _) rfl d_145_217 (by rfl) (by rfl) (by first | rfl | assumption) (by rfl) (by rfl) (Nat.le_of_ble_eq_true rfl) (by omega) (by omega) (by have e := m_fail (sc := sc) (fr := fr - 1) (lo := lo - (19 + 2)) (μ := stI μ 46 15 ((dru (μ.2.2 47) (μ.1 46 3) (μ.1 46 15 + 1)))) (ρ := ρ) (by rw [show (stI μ 46 15 ((dru (μ.2.2 47) (μ.1 46 3) (μ.1 46 15 + 1)))).1 46 16 = -1 from h16]; decide) (k := μ.1 46 15); rw [show (stI μ 46 15 ((dru (μ.2.2 47) (μ.1 46 3) (μ.1 46 15 + 1)))).1 46 16 = -1 from h16, if_pos (by decide)] at e; exact e) ?_
              refine w_ld d_145_220 rfl rfl rfl ?_
              refine w_if_eq (g := 228) d_145_221 (by decide) (by decide) (fun h221 => ?_) (fun h221 => ?_)
              · exact absurd h221 (by decide)
              · refine w_ld d_145_224 rfl rfl rfl ?_
                refine w_goto (g := 230) d_145_225 (by decide) ?_
                refine w_ret d_145_230 rfl ?_
                have hs1 : s1.1 ≠ true := fun z => by have := bi_t.mpr z; omega
                exact ⟨_, _, rfl, (by omega), rfl, (fun z => absurd z.2 (by intro z2; exact hs1 (nr.2.1.mpr ⟨z2, Or.inl rfl⟩))), (fun z => by cases z), (fun _ => rfl)⟩
          · refine w_ld d_145_101 rfl rfl rfl ?_
            refine w_ld d_145_102 rfl rfl rfl ?_
            refine w_gI d_145_103 (by rfl) (by first | rfl | assumption) (by rfl) (show _ = μ.1 46 15 + 1 from rfl) ?_
            refine w_cV0 (a := 46) (as := [_]) (rest := _) rfl d_145_106 (by rfl) (by rfl) (by first | rfl | assumption) (by rfl) (by rfl) (Nat.le_of_ble_eq_true rfl) (by omega) (by omega) (by have e := m_fail (sc := sc) (fr := fr - 1) (lo := lo - (19 + 2)) (μ := stI μ 46 15 (μ.1 46 15 + 1)) (ρ := ρ) (by rw [show (stI μ 46 15 (μ.1 46 15 + 1)).1 46 16 = -1 from h16]; decide) (k := μ.1 46 15 + 1); rw [show (stI μ 46 15 (μ.1 46 15 + 1)).1 46 16 = -1 from h16, if_pos (by decide)] at e; exact e) ?_
            refine w_lcon0 d_145_109 ?_
            refine w_ret d_145_110 rfl ?_
            have e : (scn (μ.2.2 47) (μ.1 46 15) (μ.1 46 3)) = (false, μ.1 46 15 + 1, true, 0) := by
              unfold scn
              rw [if_pos hm, if_neg (by omega)]
            rw [e]
            exact ⟨0, _, rfl, by decide, rfl, (fun z => by cases z.1), (fun _ => rfl), (fun z => by cases z.1)⟩
      · exact absurd h46 (by decide)
theorem m_numeralP {sc : Nat × (Nat → Int32)} {fr lo : Nat} {μ : Mem} {ρ : Nat × Nat × Nat} (hn : 0 ≤ μ.1 46 3 ∧ μ.1 46 3 ≤ 240) (hch : ∀ k, 0 ≤ μ.2.2 47 k ∧ μ.2.2 47 k < 65536) (h32 : ∀ k, 0 ≤ k → k < μ.1 46 3 → 32 ≤ μ.2.2 47 k) (hpl : 0 ≤ μ.1 46 15 ∧ μ.1 46 15 ≤ μ.1 46 3) (h16 : μ.1 46 16 = -1) (hf : 10 ≤ fr) (hl : 300 ≤ lo) (hm : ¬ ((μ.1 46 15) < (μ.1 46 3) ∧ (μ.2.2 47) (μ.1 46 15) = 45)) : w_S sc fr lo 145 [.ref 46] (hp μ, ρ) (fun o t' => ∃ (v : Int) (μ' : Mem), o = .inl (some (.long (jl v))) ∧ (-9223372036854775808 ≤ v ∧ v ≤ 9223372036854775808) ∧ t' = (hp μ', ρ) ∧ ((scn (μ.2.2 47) (μ.1 46 15) (μ.1 46 3)).1 = true ∧ (scn (μ.2.2 47) (μ.1 46 15) (μ.1 46 3)).2.2.1 = true → v = (scn (μ.2.2 47) (μ.1 46 15) (μ.1 46 3)).2.2.2 ∧ μ' = stI μ 46 15 (scn (μ.2.2 47) (μ.1 46 15) (μ.1 46 3)).2.1) ∧ ((scn (μ.2.2 47) (μ.1 46 15) (μ.1 46 3)).1 = false → μ' = stI (stI μ 46 15 (scn (μ.2.2 47) (μ.1 46 15) (μ.1 46 3)).2.1) 46 16 (scn (μ.2.2 47) (μ.1 46 15) (μ.1 46 3)).2.1) ∧ ((scn (μ.2.2 47) (μ.1 46 15) (μ.1 46 3)).1 = true ∧ (scn (μ.2.2 47) (μ.1 46 15) (μ.1 46 3)).2.2.1 = false → μ' = stI (stI μ 46 15 (scn (μ.2.2 47) (μ.1 46 15) (μ.1 46 3)).2.1) 46 16 (μ.1 46 15))) := by
  have lk0 : w_E sc (fr - 1) (lo - (19 + 2)) 119 [.ref 46, .int (ji (μ.1 46 15))] (hp μ, ρ) (.inl (some (.int (ji (if μ.1 46 15 < μ.1 46 3 then μ.2.2 47 (μ.1 46 15) else 0))))) (hp μ, ρ) := m_look hn (by omega) hpl.1
  have lk : ∀ p k : Int, 0 ≤ k ∧ k ≤ 1000 → w_E sc (fr - 1) (lo - (19 + 2)) 119 [.ref 46, .int (ji k)] (hp (stI μ 46 15 p), ρ) (.inl (some (.int (ji (if k < μ.1 46 3 then μ.2.2 47 k else 0))))) (hp (stI μ 46 15 p), ρ) := fun p k hk => by
    have e := m_look (sc := sc) (fr := fr - 1) (lo := lo - (19 + 2)) (μ := stI μ 46 15 p) (ρ := ρ) hn (k := k) (by omega) hk.1
    exact e
  refine w_S.of (L0 := [some (.ref 46), none, none, none, none, none, none, none]) rfl rfl (Nat.le_of_ble_eq_true rfl) (by rfl) ?_
  refine w_ld d_145_0 rfl rfl rfl ?_
  refine w_gI d_145_1 (by rfl) (by first | rfl | assumption) (by rfl) rfl ?_
  refine w_st1 (L' := [_, _, _, _, _, _, _, _]) d_145_4 rfl (by decide) rfl (by decide) rfl ?_
  refine w_ld d_145_5 rfl rfl rfl ?_
  refine w_ld d_145_6 rfl rfl rfl ?_
  refine w_gI d_145_7 (by rfl) (by first | rfl | assumption) (by rfl) rfl ?_
  refine w_cV1 (a := 46) (as := [_]) (rest := _) rfl d_145_10 (by rfl) (by rfl) (by first | rfl | assumption) (by rfl) (by rfl) (Nat.le_of_ble_eq_true rfl) (by omega) (by omega) lk0 ?_
  refine w_bip d_145_13 (by decide) ?_
  refine w_icmp_ne (g := 22) d_145_15 (by decide) (by have := hch (μ.1 46 15); split <;> omega) (fun h15 => ?_) (fun h15 => ?_)
  · refine w_con d_145_22 ?_
    refine w_st1 (L' := [_, _, _, _, _, _, _, _]) d_145_23 rfl (by decide) rfl (by decide) rfl ?_
    refine w_ld d_145_24 rfl rfl rfl ?_
    refine w_ld d_145_25 rfl rfl rfl ?_
    refine w_if_eq (g := 38) d_145_26 (by decide) (by decide) (fun h26 => ?_) (fun h26 => ?_)
    · refine w_ld d_145_38 rfl rfl rfl ?_
      refine w_gI d_145_39 (by rfl) (by first | rfl | assumption) (by rfl) rfl ?_
      refine w_putI d_145_42 (by rfl) (by first | rfl | assumption) (by rfl) (fit_I (by rfl)) (by rfl) ?_
      refine w_ld d_145_45 rfl rfl rfl ?_
      refine w_if_ne (g := 74) d_145_46 (by decide) (by decide) (fun h46 => ?_) (fun h46 => ?_)
      · exact absurd rfl h46
      · refine w_ld d_145_49 rfl rfl rfl ?_
        refine w_ld d_145_50 rfl rfl rfl ?_
        refine w_gI d_145_51 (by rfl) (by first | rfl | assumption) (by rfl) (show _ = μ.1 46 15 from rfl) ?_
        refine w_cV1 (a := 46) (as := [_]) (rest := _) rfl d_145_54 (by rfl) (by rfl) (by first | rfl | assumption) (by rfl) (by rfl) (Nat.le_of_ble_eq_true rfl) (by omega) (by omega) (lk _ (μ.1 46 15) (by omega)) ?_
        refine w_bip d_145_57 (by decide) ?_
        refine w_icmp_ne (g := 74) d_145_59 (by decide) (by have := hch (μ.1 46 15); split <;> omega) (fun h59 => ?_) (fun h59 => ?_)
        · refine w_ld d_145_74 rfl rfl rfl ?_
          refine w_ld d_145_75 rfl rfl rfl ?_
          refine w_gI d_145_76 (by rfl) (by first | rfl | assumption) (by rfl) (show _ = μ.1 46 15 from rfl) ?_
          refine w_cV1 (a := 46) (as := [_]) (rest := _) rfl d_145_79 (by rfl) (by rfl) (by first | rfl | assumption) (by rfl) (by rfl) (Nat.le_of_ble_eq_true rfl) (by omega) (by omega) (lk _ (μ.1 46 15) (by omega)) ?_
          refine w_cS1 (as := [_]) (rest := _) rfl d_145_82 (by rfl) (by rfl) (by rfl) (by rfl) (Nat.le_of_ble_eq_true rfl) (by omega) (by omega) (m_digit (by have := hch (μ.1 46 15); split <;> omega)) ?_
          refine w_if_eq (g := 101) d_145_85 (by decide) (by split <;> split <;> omega) (fun h85 => ?_) (fun h85 => ?_)
          · refine w_ld d_145_101 rfl rfl rfl ?_
            refine w_ld d_145_102 rfl rfl rfl ?_
            refine w_gI d_145_103 (by rfl) (by first | rfl | assumption) (by rfl) (show _ = μ.1 46 15 from rfl) ?_
            refine w_cV0 (a := 46) (as := [_]) (rest := _) rfl d_145_106 (by rfl) (by rfl) (by first | rfl | assumption) (by rfl) (by rfl) (Nat.le_of_ble_eq_true rfl) (by omega) (by omega) (by have e := m_fail (sc := sc) (fr := fr - 1) (lo := lo - (19 + 2)) (μ := stI μ 46 15 (μ.1 46 15)) (ρ := ρ) (by rw [show (stI μ 46 15 (μ.1 46 15)).1 46 16 = -1 from h16]; decide) (k := μ.1 46 15); rw [show (stI μ 46 15 (μ.1 46 15)).1 46 16 = -1 from h16, if_pos (by decide)] at e; exact e) ?_
            refine w_lcon0 d_145_109 ?_
            refine w_ret d_145_110 rfl ?_
            have hnd : ¬ (μ.1 46 15 < μ.1 46 3 ∧ 48 ≤ μ.2.2 47 (μ.1 46 15) ∧ μ.2.2 47 (μ.1 46 15) ≤ 57) := fun z => by
              rw [if_pos z.1, if_pos z.2] at h85
              cases h85
            have e : (scn (μ.2.2 47) (μ.1 46 15) (μ.1 46 3)) = (false, μ.1 46 15, true, 0) := by
              unfold scn
              rw [if_neg hm, if_neg (by omega), if_neg (by omega)]
            rw [e]
            exact ⟨0, _, rfl, by decide, rfl, (fun z => by cases z.1), (fun _ => rfl), (fun z => by cases z.1)⟩
          · have hlt : μ.1 46 15 < μ.1 46 3 := Decidable.byContradiction (fun z => h85 (by rw [if_neg z]; decide))
            have hdg : 48 ≤ μ.2.2 47 (μ.1 46 15) ∧ μ.2.2 47 (μ.1 46 15) ≤ 57 := Decidable.byContradiction (fun z => h85 (by rw [if_pos hlt]; exact if_neg z))
            rw [if_pos hlt] at h59
            refine w_ld d_145_88 rfl rfl rfl ?_
            refine w_ld d_145_89 rfl rfl rfl ?_
            refine w_gI d_145_90 (by rfl) (by first | rfl | assumption) (by rfl) (show _ = μ.1 46 15 from rfl) ?_
            refine w_cV1 (a := 46) (as := [_]) (rest := _) rfl d_145_93 (by rfl) (by rfl) (by first | rfl | assumption) (by rfl) (by rfl) (Nat.le_of_ble_eq_true rfl) (by omega) (by omega) (lk _ (μ.1 46 15) (by omega)) ?_
            rw [if_pos hlt]
            refine w_bip d_145_96 (by decide) ?_
            refine w_icmp_ne (g := 111) d_145_98 (by decide) (by omega) (fun h98 => ?_) (fun h98 => ?_)
            · refine w_lcon0 d_145_111 ?_
              refine w_st2 (L' := [_, _, _, _, _, _, _, _]) d_145_112 rfl rfl (by decide) rfl ?_
              refine w_con d_145_113 ?_
              refine w_st1 (L' := [_, _, _, _, _, _, _, _]) d_145_114 rfl (by decide) rfl (by decide) rfl ?_
              refine w_con d_145_116 ?_
              refine w_st1 (L' := [_, _, _, _, _, _, _, _]) d_145_117 rfl (by decide) rfl (by decide) rfl ?_
              have hge := (dru_ge (μ.2.2 47) (μ.1 46 3) _ (μ.1 46 15) rfl)
              have nr := (num_rel (m := false) (R := (μ.2.2 47)) (to := (μ.1 46 3)) (p := μ.1 46 15) (by omega) (by omega)).1
              have din := dvl_dru_in (R := (μ.2.2 47)) (to := (μ.1 46 3)) (p := μ.1 46 15)
              have e : (scn (μ.2.2 47) (μ.1 46 15) (μ.1 46 3)) = (true, (dru (μ.2.2 47) (μ.1 46 3) (μ.1 46 15)), (dvl (μ.2.2 47) (dru (μ.2.2 47) (μ.1 46 3) (μ.1 46 15) - (μ.1 46 15)).toNat (μ.1 46 15) (true, 0)).1 && decide ((dvl (μ.2.2 47) (dru (μ.2.2 47) (μ.1 46 3) (μ.1 46 15) - (μ.1 46 15)).toNat (μ.1 46 15) (true, 0)).2 ≠ -9223372036854775808), -(dvl (μ.2.2 47) (dru (μ.2.2 47) (μ.1 46 3) (μ.1 46 15) - (μ.1 46 15)).toNat (μ.1 46 15) (true, 0)).2) := by
                unfold scn
                rw [if_neg hm, if_pos (by omega)]
              rw [e]
              obtain ⟨c, hc⟩ : ∃ c, c = (dvl (μ.2.2 47) (dru (μ.2.2 47) (μ.1 46 3) (μ.1 46 15) - (μ.1 46 15)).toNat (μ.1 46 15) (true, 0)) := ⟨_, rfl⟩
              rw [← hc] at nr din ⊢
              refine m_numeral_l hn hch (b0 := μ.1 46 15) (p0 := μ.1 46 15) (mi := false) (s1 := (mvl false (μ.2.2 47) (dru (μ.2.2 47) (μ.1 46 3) (μ.1 46 15) - (μ.1 46 15)).toNat (μ.1 46 15) (true, 0, 0))) (by omega) (by omega) ?_ _ (μ.1 46 15) (true, 0, 0) rfl (by show 0 ≤ μ.1 46 15 ∧ μ.1 46 15 ≤ μ.1 46 3 ∧ (0 : Int) ≤ 0 ∧ (0 : Int) ≤ μ.1 46 15; omega) ⟨by show (_ : Int) ≤ 0; decide, Int.le_refl 0⟩ rfl rfl
              obtain ⟨s1, hs⟩ : ∃ s1, s1 = (mvl false (μ.2.2 47) (dru (μ.2.2 47) (μ.1 46 3) (μ.1 46 15) - (μ.1 46 15)).toNat (μ.1 46 15) (true, 0, 0)) := ⟨_, rfl⟩
              rw [← hs] at nr ⊢
              have hb := bi_01 s1.1
              have hs5 := nr.2.2.2.2.1
              refine w_ld d_145_210 rfl rfl rfl ?_
              refine w_if_ne (g := 220) d_145_212 (by decide) (by omega) (fun h212 => ?_) (fun h212 => ?_)
              · refine w_ld d_145_220 rfl rfl rfl ?_
                refine w_if_eq (g := 228) d_145_221 (by decide) (by decide) (fun h221 => ?_) (fun h221 => ?_)
                · refine w_ld d_145_228 rfl rfl rfl ?_
                  refine w_lneg d_145_229 ?_
                  refine w_ret d_145_230 rfl ?_
                  have hs1 : s1.1 = true := bi_t.mp (by omega)
                  have hc1 := nr.2.1.mp hs1
                  have hc2 := nr.2.2.1 hs1
                  rw [hc2]
                  exact ⟨_, _, rfl, (by omega), rfl, (fun _ => ⟨rfl, rfl⟩), (fun z => by cases z), (fun z => absurd z.2 (by show ¬ ((c.1 && decide (c.2 ≠ -9223372036854775808)) = false); rw [hc1.1, decide_eq_true (show c.2 ≠ -9223372036854775808 from hc1.2.resolve_left (by decide))]; decide))⟩
                · exact absurd rfl h221
              · refine w_ld d_145_215 rfl rfl rfl ?_
                refine w_ld d_145_216 rfl rfl rfl ?_
                refine w_cV0 (a := 46) (as := [_]) (rest := _) rfl d_145_217 (by rfl) (by rfl) (by first | rfl | assumption) (by rfl) (by rfl) (Nat.le_of_ble_eq_true rfl) (by omega) (by omega) (by have e := m_fail (sc := sc) (fr := fr - 1) (lo := lo - (19 + 2)) (μ := stI μ 46 15 ((dru (μ.2.2 47) (μ.1 46 3) (μ.1 46 15)))) (ρ := ρ) (by rw [show (stI μ 46 15 ((dru (μ.2.2 47) (μ.1 46 3) (μ.1 46 15)))).1 46 16 = -1 from h16]; decide) (k := μ.1 46 15); rw [show (stI μ 46 15 ((dru (μ.2.2 47) (μ.1 46 3) (μ.1 46 15)))).1 46 16 = -1 from h16, if_pos (by decide)] at e; exact e) ?_
                refine w_ld d_145_220 rfl rfl rfl ?_
                refine w_if_eq (g := 228) d_145_221 (by decide) (by decide) (fun h221 => ?_) (fun h221 => ?_)
                · refine w_ld d_145_228 rfl rfl rfl ?_
                  refine w_lneg d_145_229 ?_
                  refine w_ret d_145_230 rfl ?_
                  have hs1 : s1.1 ≠ true := fun z => by have := bi_t.mpr z; omega
                  exact ⟨_, _, rfl, (by omega), rfl, (fun z => absurd z.2 (by intro z2; have z3 := (Bool.and_eq_true _ _ ▸ z2 : _ ∧ _); exact hs1 (nr.2.1.mpr ⟨z3.1, Or.inr (of_decide_eq_true z3.2)⟩))), (fun z => by cases z), (fun _ => rfl)⟩
                · exact absurd rfl h221
            · exact absurd h98 h59
        · refine w_ld d_145_62 rfl rfl rfl ?_
          refine w_stk d_145_63 rfl ?_
          refine w_gI d_145_64 (by rfl) (by first | rfl | assumption) (by rfl) (show _ = μ.1 46 15 from rfl) ?_
          refine w_con d_145_67 ?_
          refine w_iadd d_145_68 ?_
          refine w_putI d_145_69 (by rfl) (by first | rfl | assumption) (by rfl) (fit_I (by rfl)) (by rfl) ?_
          refine w_lcon0 d_145_72 ?_
          refine w_ret d_145_73 rfl ?_
          have hlt : μ.1 46 15 < μ.1 46 3 := Decidable.byContradiction (fun z => by rw [if_neg z] at h59; cases h59)
          rw [if_pos hlt] at h59
          have e : (scn (μ.2.2 47) (μ.1 46 15) (μ.1 46 3)) = (true, μ.1 46 15 + 1, true, 0) := by
            unfold scn
            rw [if_neg hm, if_neg (by omega), if_pos ⟨hlt, h59⟩]
          rw [e, stI_stI]
          exact ⟨0, _, rfl, by decide, rfl, (fun _ => ⟨rfl, rfl⟩), (fun z => by cases z), (fun z => by cases z.2)⟩
    · exact absurd rfl h26
  · exact absurd (by
  by_cases z : μ.1 46 15 < μ.1 46 3
  · rw [if_pos z] at h15; exact ⟨z, h15⟩
  · rw [if_neg z] at h15; cases h15) hm
theorem m_numeral {sc : Nat × (Nat → Int32)} {fr lo : Nat} {μ : Mem} {ρ : Nat × Nat × Nat} (hn : 0 ≤ μ.1 46 3 ∧ μ.1 46 3 ≤ 240) (hch : ∀ k, 0 ≤ μ.2.2 47 k ∧ μ.2.2 47 k < 65536) (h32 : ∀ k, 0 ≤ k → k < μ.1 46 3 → 32 ≤ μ.2.2 47 k) (hpl : 0 ≤ μ.1 46 15 ∧ μ.1 46 15 ≤ μ.1 46 3) (h16 : μ.1 46 16 = -1) (hf : 10 ≤ fr) (hl : 300 ≤ lo) : w_S sc fr lo 145 [.ref 46] (hp μ, ρ) (fun o t' => ∃ (v : Int) (μ' : Mem), o = .inl (some (.long (jl v))) ∧ (-9223372036854775808 ≤ v ∧ v ≤ 9223372036854775808) ∧ t' = (hp μ', ρ) ∧ ((scn (μ.2.2 47) (μ.1 46 15) (μ.1 46 3)).1 = true ∧ (scn (μ.2.2 47) (μ.1 46 15) (μ.1 46 3)).2.2.1 = true → v = (scn (μ.2.2 47) (μ.1 46 15) (μ.1 46 3)).2.2.2 ∧ μ' = stI μ 46 15 (scn (μ.2.2 47) (μ.1 46 15) (μ.1 46 3)).2.1) ∧ ((scn (μ.2.2 47) (μ.1 46 15) (μ.1 46 3)).1 = false → μ' = stI (stI μ 46 15 (scn (μ.2.2 47) (μ.1 46 15) (μ.1 46 3)).2.1) 46 16 (scn (μ.2.2 47) (μ.1 46 15) (μ.1 46 3)).2.1) ∧ ((scn (μ.2.2 47) (μ.1 46 15) (μ.1 46 3)).1 = true ∧ (scn (μ.2.2 47) (μ.1 46 15) (μ.1 46 3)).2.2.1 = false → μ' = stI (stI μ 46 15 (scn (μ.2.2 47) (μ.1 46 15) (μ.1 46 3)).2.1) 46 16 (μ.1 46 15))) := by
  by_cases hm : (μ.1 46 15) < (μ.1 46 3) ∧ (μ.2.2 47) (μ.1 46 15) = 45
  · exact m_numeralM hn hch h32 hpl h16 hf hl hm
  · exact m_numeralP hn hch h32 hpl h16 hf hl hm
