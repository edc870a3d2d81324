/-! THE PURE PART, 99d: contracts: the reference writes simple values -/
theorem wrd_0 {A : View} {k : Int} (h : A.2.2.2.2.1 k = 0) : wrd A k = [] := by
  unfold wrd
  rw [h]
  rfl
theorem wap_nil {s : Option (List Int × List (List Int))} {μ : Mem} (h : MS s μ) : wap s [] = s := by
  cases s with
  | none => rfl
  | some p =>
    obtain ⟨D, N⟩ := p
    rw [wap_s (by have := h.2.1.2; simpa using this), List.append_nil]
/-- the rows C are such as are written, their parts are rows C -/
def MRg (C : Int → Prop) (μ : Mem) : Prop := (∀ v, C v → mrw v μ) ∧ reg (vM μ) C ∧ ∀ k, 0 ≤ μ.2.2 57 k ∧ μ.2.2 57 k < 65536
theorem MRg_mw {C : Int → Prop} {μ μ' : Mem} (h : mw1 μ μ') (g : MRg C μ) : MRg C μ' :=
  ⟨fun v hv => mrw_mw h (g.1 v hv), by rw [vM_mw h]; exact g.2.1, by rw [h.2.2 57 (by omega)]; exact g.2.2⟩
theorem m_rawOf0 {sc : Nat × (Nat → Int32)} {fr lo : Nat} {μ : Mem} {ρ : Nat × Nat × Nat} {v : Int} (hv : mrw v μ) (hch : ∀ k, 0 ≤ μ.2.2 57 k ∧ μ.2.2 57 k < 65536) (hk : μ.2.2 49 v = 0) (hf : 6 ≤ fr) (hl : 300 ≤ lo) : w_S sc fr lo 168 [.ref 46, .int (ji v)] (hp μ, ρ) (fun o τ => o = .inl none ∧ ∃ μ', τ = (hp μ', ρ) ∧ RW (rwo (vM μ) v) μ' ∧ rfr μ μ') := by
  obtain ⟨v1, v2, v3, v4, v5, v6, v7, v8, v9⟩ := hv
  have hv : mrw v μ := ⟨v1, v2, v3, v4, v5, v6, v7, v8, v9⟩
  refine w_S.of (L0 := [some (.ref 46), some (.int (ji v)), none, none]) rfl rfl (Nat.le_of_ble_eq_true rfl) (by rfl) ?_
  refine w_ld d_168_0 rfl rfl rfl ?_
  refine w_getF d_168_1 (by rfl) (by first | rfl | assumption) (by rfl) (by rfl) ?_
  refine w_ld d_168_4 rfl rfl rfl ?_
  refine w_aI d_168_5 (by first | rfl | assumption) (by omega) hk ?_
  refine w_st1 (L' := [_, _, _, _]) d_168_6 rfl (by decide) rfl (by decide) rfl ?_
  refine w_ld d_168_7 rfl rfl rfl ?_
  refine w_con d_168_8 ?_
  refine w_icmp_ne (g := 72) d_168_9 (by decide) (by omega) (fun h9 => ?_) (fun h9 => ?_)
  · refine w_ld d_168_72 rfl rfl rfl ?_
    refine w_bip d_168_73 (by decide) ?_
    refine w_ld d_168_75 rfl rfl rfl ?_
    refine w_if_ne (g := 84) d_168_76 (by decide) (by omega) (fun h76 => ?_) (fun h76 => ?_)
    · exact absurd h76 (by omega)
    · refine w_bip d_168_79 (by decide) ?_
      refine w_goto (g := 137) d_168_81 (by decide) ?_
      refine w_cVq (a := 46) (as := [_, _]) (rest := _) rfl d_168_137 (by rfl) (by rfl) (by first | rfl | assumption) (by rfl) (by rfl) (Nat.le_of_ble_eq_true rfl) (by omega) (by omega) (m_rawBegin (by decide) (by decide) (by omega) (by omega)) ?_ ?_
      rotate_left
      · rintro r τ ⟨hv9, _⟩
        cases hv9
      rintro vv1 τ1 ⟨hv1, μ1, rfl, hR1, hf1⟩
      obtain rfl := Sum.inl.inj hv1
      refine w_ld d_168_140 rfl rfl rfl ?_
      refine w_con d_168_141 ?_
      refine w_icmp_ne (g := 167) d_168_142 (by decide) (by omega) (fun h142 => ?_) (fun h142 => ?_)
      · refine w_ld d_168_167 rfl rfl rfl ?_
        refine w_con d_168_168 ?_
        refine w_icmp_eq (g := 177) d_168_169 (by decide) (by omega) (fun h169 => ?_) (fun h169 => ?_)
        · exact absurd h169 (by omega)
        · refine w_ld d_168_172 rfl rfl rfl ?_
          refine w_con d_168_173 ?_
          refine w_icmp_ne (g := 187) d_168_174 (by decide) (by omega) (fun h174 => ?_) (fun h174 => ?_)
          · refine w_ld d_168_187 rfl rfl rfl ?_
            refine w_bip d_168_188 (by decide) ?_
            refine w_icmp_ne (g := 204) d_168_190 (by decide) (by omega) (fun h190 => ?_) (fun h190 => ?_)
            · refine w_ld d_168_204 rfl rfl rfl ?_
              refine w_ld d_168_205 rfl rfl rfl ?_
              refine w_cVq (a := 46) (as := [_]) (rest := _) rfl d_168_206 (by rfl) (by rfl) (by first | rfl | assumption) (by rfl) (by rfl) (Nat.le_of_ble_eq_true rfl) (by omega) (by omega) (m_rawWord hR1 (mrw_mw (hf1 : rfr μ μ1).mw.mw hv) (fun k => by rw [(hf1 : rfr μ μ1).2.2 57 (by omega)]; exact hch k) (by rw [(hf1 : rfr μ μ1).2.2 52 (by omega)]; show (2 : Int) + μ.2.2 52 v ≤ 300; omega) (by omega) (by omega)) ?_ ?_
              rotate_left
              · rintro r τ ⟨hv9, _⟩
                cases hv9
              rintro vv2 τ2 ⟨hv2, μ2, rfl, hR2, hf2⟩
              obtain rfl := Sum.inl.inj hv2
              rw [vM_mw (hf1 : rfr μ μ1).mw.mw] at hR2
              refine w_ret d_168_209 rfl ?_
              have hz : (vM μ).2.2.2.2.1 v = 0 := by show μ.2.2 52 v = 0; omega
              have e : rwo (vM μ) v = [126, 95] := by
                unfold rwo
                rw [show (vM μ).1 v = 0 from hk]
                rfl
              rw [wrd_0 hz, List.append_nil] at hR2
              rw [e]
              exact ⟨rfl, _, rfl, hR2, rfr_trans (hf1) hf2⟩
            · exact absurd h190 (by omega)
          · exact absurd h174 (by omega)
      · exact absurd h142 (by omega)
  · exact absurd h9 (by omega)
theorem m_rawOf1 {sc : Nat × (Nat → Int32)} {fr lo : Nat} {μ : Mem} {ρ : Nat × Nat × Nat} {v : Int} (hv : mrw v μ) (hch : ∀ k, 0 ≤ μ.2.2 57 k ∧ μ.2.2 57 k < 65536) (hk : μ.2.2 49 v = 1) (hf : 6 ≤ fr) (hl : 300 ≤ lo) : w_S sc fr lo 168 [.ref 46, .int (ji v)] (hp μ, ρ) (fun o τ => o = .inl none ∧ ∃ μ', τ = (hp μ', ρ) ∧ RW (rwo (vM μ) v) μ' ∧ rfr μ μ') := by
  obtain ⟨v1, v2, v3, v4, v5, v6, v7, v8, v9⟩ := hv
  have hv : mrw v μ := ⟨v1, v2, v3, v4, v5, v6, v7, v8, v9⟩
  refine w_S.of (L0 := [some (.ref 46), some (.int (ji v)), none, none]) rfl rfl (Nat.le_of_ble_eq_true rfl) (by rfl) ?_
  refine w_ld d_168_0 rfl rfl rfl ?_
  refine w_getF d_168_1 (by rfl) (by first | rfl | assumption) (by rfl) (by rfl) ?_
  refine w_ld d_168_4 rfl rfl rfl ?_
  refine w_aI d_168_5 (by first | rfl | assumption) (by omega) hk ?_
  refine w_st1 (L' := [_, _, _, _]) d_168_6 rfl (by decide) rfl (by decide) rfl ?_
  refine w_ld d_168_7 rfl rfl rfl ?_
  refine w_con d_168_8 ?_
  refine w_icmp_ne (g := 72) d_168_9 (by decide) (by omega) (fun h9 => ?_) (fun h9 => ?_)
  · refine w_ld d_168_72 rfl rfl rfl ?_
    refine w_bip d_168_73 (by decide) ?_
    refine w_ld d_168_75 rfl rfl rfl ?_
    refine w_if_ne (g := 84) d_168_76 (by decide) (by omega) (fun h76 => ?_) (fun h76 => ?_)
    · refine w_ld d_168_84 rfl rfl rfl ?_
      refine w_con d_168_85 ?_
      refine w_icmp_ne (g := 94) d_168_86 (by decide) (by omega) (fun h86 => ?_) (fun h86 => ?_)
      · exact absurd h86 (by omega)
      · refine w_bip d_168_89 (by decide) ?_
        refine w_goto (g := 137) d_168_91 (by decide) ?_
        refine w_cVq (a := 46) (as := [_, _]) (rest := _) rfl d_168_137 (by rfl) (by rfl) (by first | rfl | assumption) (by rfl) (by rfl) (Nat.le_of_ble_eq_true rfl) (by omega) (by omega) (m_rawBegin (by decide) (by decide) (by omega) (by omega)) ?_ ?_
        rotate_left
        · rintro r τ ⟨hv9, _⟩
          cases hv9
        rintro vv1 τ1 ⟨hv1, μ1, rfl, hR1, hf1⟩
        obtain rfl := Sum.inl.inj hv1
        refine w_ld d_168_140 rfl rfl rfl ?_
        refine w_con d_168_141 ?_
        refine w_icmp_ne (g := 167) d_168_142 (by decide) (by omega) (fun h142 => ?_) (fun h142 => ?_)
        · exact absurd h142 (by omega)
        · refine w_ld d_168_145 rfl rfl rfl ?_
          refine w_ld d_168_146 rfl rfl rfl ?_
          refine w_getF d_168_147 (by rfl) (by first | rfl | assumption) (by rfl) (by rfl) ?_
          refine w_ld d_168_150 rfl rfl rfl ?_
          refine w_aL d_168_151 (by first | rfl | assumption) (by omega) (show _ = μ.2.2 50 v by rw [hf1.2.2 50 (by omega)]) ?_
          refine w_lcon1 d_168_152 ?_
          refine w_lcmp d_168_153 (by omega) ?_
          refine w_if_ne (g := 162) d_168_154 (by decide) (by have := lcm_in (μ.2.2 50 v) 1; omega) (fun h154 => ?_) (fun h154 => ?_)
          · refine w_bip d_168_162 (by decide) ?_
            refine w_cVq (a := 46) (as := [_]) (rest := _) rfl d_168_164 (by rfl) (by rfl) (by first | rfl | assumption) (by rfl) (by rfl) (Nat.le_of_ble_eq_true rfl) (by omega) (by omega) (m_rpu hR1 (by decide) (by decide)) ?_ ?_
            rotate_left
            · rintro r τ ⟨hv9, _⟩
              cases hv9
            rintro vv2 τ2 ⟨hv2, μ2, rfl, hR2, hf2⟩
            obtain rfl := Sum.inl.inj hv2
            refine w_ld d_168_167 rfl rfl rfl ?_
            refine w_con d_168_168 ?_
            refine w_icmp_eq (g := 177) d_168_169 (by decide) (by omega) (fun h169 => ?_) (fun h169 => ?_)
            · exact absurd h169 (by omega)
            · refine w_ld d_168_172 rfl rfl rfl ?_
              refine w_con d_168_173 ?_
              refine w_icmp_ne (g := 187) d_168_174 (by decide) (by omega) (fun h174 => ?_) (fun h174 => ?_)
              · refine w_ld d_168_187 rfl rfl rfl ?_
                refine w_bip d_168_188 (by decide) ?_
                refine w_icmp_ne (g := 204) d_168_190 (by decide) (by omega) (fun h190 => ?_) (fun h190 => ?_)
                · refine w_ld d_168_204 rfl rfl rfl ?_
                  refine w_ld d_168_205 rfl rfl rfl ?_
                  refine w_cVq (a := 46) (as := [_]) (rest := _) rfl d_168_206 (by rfl) (by rfl) (by first | rfl | assumption) (by rfl) (by rfl) (Nat.le_of_ble_eq_true rfl) (by omega) (by omega) (m_rawWord hR2 (mrw_mw (rfr_trans (hf1) hf2 : rfr μ μ2).mw.mw hv) (fun k => by rw [(rfr_trans (hf1) hf2 : rfr μ μ2).2.2 57 (by omega)]; exact hch k) (by rw [(rfr_trans (hf1) hf2 : rfr μ μ2).2.2 52 (by omega)]; show (3 : Int) + μ.2.2 52 v ≤ 300; omega) (by omega) (by omega)) ?_ ?_
                  rotate_left
                  · rintro r τ ⟨hv9, _⟩
                    cases hv9
                  rintro vv3 τ3 ⟨hv3, μ3, rfl, hR3, hf3⟩
                  obtain rfl := Sum.inl.inj hv3
                  rw [vM_mw (rfr_trans (hf1) hf2 : rfr μ μ2).mw.mw] at hR3
                  refine w_ret d_168_209 rfl ?_
                  have hz : (vM μ).2.2.2.2.1 v = 0 := by show μ.2.2 52 v = 0; omega
                  have e : rwo (vM μ) v = [126, 63, 102] := by
                    unfold rwo
                    rw [show (vM μ).1 v = 1 from hk]
                    rw [if_neg (by decide), if_pos rfl, if_neg (show ¬ (vM μ).2.1 v = 1 from fun z => h154 ((lcm_eq _ _).mpr z))]
                  rw [wrd_0 hz, List.append_nil] at hR3
                  rw [e]
                  exact ⟨rfl, _, rfl, hR3, rfr_trans (rfr_trans (hf1) hf2) hf3⟩
                · exact absurd h190 (by omega)
              · exact absurd h174 (by omega)
          · refine w_bip d_168_157 (by decide) ?_
            refine w_goto (g := 164) d_168_159 (by decide) ?_
            refine w_cVq (a := 46) (as := [_]) (rest := _) rfl d_168_164 (by rfl) (by rfl) (by first | rfl | assumption) (by rfl) (by rfl) (Nat.le_of_ble_eq_true rfl) (by omega) (by omega) (m_rpu hR1 (by decide) (by decide)) ?_ ?_
            rotate_left
            · rintro r τ ⟨hv9, _⟩
              cases hv9
            rintro vv2 τ2 ⟨hv2, μ2, rfl, hR2, hf2⟩
            obtain rfl := Sum.inl.inj hv2
            refine w_ld d_168_167 rfl rfl rfl ?_
            refine w_con d_168_168 ?_
            refine w_icmp_eq (g := 177) d_168_169 (by decide) (by omega) (fun h169 => ?_) (fun h169 => ?_)
            · exact absurd h169 (by omega)
            · refine w_ld d_168_172 rfl rfl rfl ?_
              refine w_con d_168_173 ?_
              refine w_icmp_ne (g := 187) d_168_174 (by decide) (by omega) (fun h174 => ?_) (fun h174 => ?_)
              · refine w_ld d_168_187 rfl rfl rfl ?_
                refine w_bip d_168_188 (by decide) ?_
                refine w_icmp_ne (g := 204) d_168_190 (by decide) (by omega) (fun h190 => ?_) (fun h190 => ?_)
                · refine w_ld d_168_204 rfl rfl rfl ?_
                  refine w_ld d_168_205 rfl rfl rfl ?_
                  refine w_cVq (a := 46) (as := [_]) (rest := _) rfl d_168_206 (by rfl) (by rfl) (by first | rfl | assumption) (by rfl) (by rfl) (Nat.le_of_ble_eq_true rfl) (by omega) (by omega) (m_rawWord hR2 (mrw_mw (rfr_trans (hf1) hf2 : rfr μ μ2).mw.mw hv) (fun k => by rw [(rfr_trans (hf1) hf2 : rfr μ μ2).2.2 57 (by omega)]; exact hch k) (by rw [(rfr_trans (hf1) hf2 : rfr μ μ2).2.2 52 (by omega)]; show (3 : Int) + μ.2.2 52 v ≤ 300; omega) (by omega) (by omega)) ?_ ?_
                  rotate_left
                  · rintro r τ ⟨hv9, _⟩
                    cases hv9
                  rintro vv3 τ3 ⟨hv3, μ3, rfl, hR3, hf3⟩
                  obtain rfl := Sum.inl.inj hv3
                  rw [vM_mw (rfr_trans (hf1) hf2 : rfr μ μ2).mw.mw] at hR3
                  refine w_ret d_168_209 rfl ?_
                  have hz : (vM μ).2.2.2.2.1 v = 0 := by show μ.2.2 52 v = 0; omega
                  have e : rwo (vM μ) v = [126, 63, 116] := by
                    unfold rwo
                    rw [show (vM μ).1 v = 1 from hk]
                    rw [if_neg (by decide), if_pos rfl, if_pos (show (vM μ).2.1 v = 1 from (lcm_eq _ _).mp h154)]
                  rw [wrd_0 hz, List.append_nil] at hR3
                  rw [e]
                  exact ⟨rfl, _, rfl, hR3, rfr_trans (rfr_trans (hf1) hf2) hf3⟩
                · exact absurd h190 (by omega)
              · exact absurd h174 (by omega)
    · exact absurd h76 (by omega)
  · exact absurd h9 (by omega)
theorem m_rawOf2 {sc : Nat × (Nat → Int32)} {fr lo : Nat} {μ : Mem} {ρ : Nat × Nat × Nat} {v : Int} (hv : mrw v μ) (hch : ∀ k, 0 ≤ μ.2.2 57 k ∧ μ.2.2 57 k < 65536) (hk : μ.2.2 49 v = 2) (hf : 6 ≤ fr) (hl : 300 ≤ lo) : w_S sc fr lo 168 [.ref 46, .int (ji v)] (hp μ, ρ) (fun o τ => o = .inl none ∧ ∃ μ', τ = (hp μ', ρ) ∧ RW (rwo (vM μ) v) μ' ∧ rfr μ μ') := by
  obtain ⟨v1, v2, v3, v4, v5, v6, v7, v8, v9⟩ := hv
  have hv : mrw v μ := ⟨v1, v2, v3, v4, v5, v6, v7, v8, v9⟩
  refine w_S.of (L0 := [some (.ref 46), some (.int (ji v)), none, none]) rfl rfl (Nat.le_of_ble_eq_true rfl) (by rfl) ?_
  refine w_ld d_168_0 rfl rfl rfl ?_
  refine w_getF d_168_1 (by rfl) (by first | rfl | assumption) (by rfl) (by rfl) ?_
  refine w_ld d_168_4 rfl rfl rfl ?_
  refine w_aI d_168_5 (by first | rfl | assumption) (by omega) hk ?_
  refine w_st1 (L' := [_, _, _, _]) d_168_6 rfl (by decide) rfl (by decide) rfl ?_
  refine w_ld d_168_7 rfl rfl rfl ?_
  refine w_con d_168_8 ?_
  refine w_icmp_ne (g := 72) d_168_9 (by decide) (by omega) (fun h9 => ?_) (fun h9 => ?_)
  · refine w_ld d_168_72 rfl rfl rfl ?_
    refine w_bip d_168_73 (by decide) ?_
    refine w_ld d_168_75 rfl rfl rfl ?_
    refine w_if_ne (g := 84) d_168_76 (by decide) (by omega) (fun h76 => ?_) (fun h76 => ?_)
    · refine w_ld d_168_84 rfl rfl rfl ?_
      refine w_con d_168_85 ?_
      refine w_icmp_ne (g := 94) d_168_86 (by decide) (by omega) (fun h86 => ?_) (fun h86 => ?_)
      · refine w_ld d_168_94 rfl rfl rfl ?_
        refine w_con d_168_95 ?_
        refine w_icmp_ne (g := 104) d_168_96 (by decide) (by omega) (fun h96 => ?_) (fun h96 => ?_)
        · exact absurd h96 (by omega)
        · refine w_bip d_168_99 (by decide) ?_
          refine w_goto (g := 137) d_168_101 (by decide) ?_
          refine w_cVq (a := 46) (as := [_, _]) (rest := _) rfl d_168_137 (by rfl) (by rfl) (by first | rfl | assumption) (by rfl) (by rfl) (Nat.le_of_ble_eq_true rfl) (by omega) (by omega) (m_rawBegin (by decide) (by decide) (by omega) (by omega)) ?_ ?_
          rotate_left
          · rintro r τ ⟨hv9, _⟩
            cases hv9
          rintro vv1 τ1 ⟨hv1, μ1, rfl, hR1, hf1⟩
          obtain rfl := Sum.inl.inj hv1
          refine w_ld d_168_140 rfl rfl rfl ?_
          refine w_con d_168_141 ?_
          refine w_icmp_ne (g := 167) d_168_142 (by decide) (by omega) (fun h142 => ?_) (fun h142 => ?_)
          · refine w_ld d_168_167 rfl rfl rfl ?_
            refine w_con d_168_168 ?_
            refine w_icmp_eq (g := 177) d_168_169 (by decide) (by omega) (fun h169 => ?_) (fun h169 => ?_)
            · refine w_ld d_168_177 rfl rfl rfl ?_
              refine w_ld d_168_178 rfl rfl rfl ?_
              refine w_getF d_168_179 (by rfl) (by first | rfl | assumption) (by rfl) (by rfl) ?_
              refine w_ld d_168_182 rfl rfl rfl ?_
              refine w_aL d_168_183 (by first | rfl | assumption) (by omega) (show _ = μ.2.2 50 v by rw [hf1.2.2 50 (by omega)]) ?_
              refine w_cVq (a := 46) (as := [_]) (rest := _) rfl d_168_184 (by rfl) (by rfl) (by first | rfl | assumption) (by rfl) (by rfl) (Nat.le_of_ble_eq_true rfl) (by omega) (by omega) (m_rawNumber hR1 v3 (by decide) (by omega) (by omega)) ?_ ?_
              rotate_left
              · rintro r τ ⟨hv9, _⟩
                cases hv9
              rintro vv2 τ2 ⟨hv2, μ2, rfl, hR2, hf2⟩
              obtain rfl := Sum.inl.inj hv2
              have hdl := dec_len v3
              refine w_ld d_168_187 rfl rfl rfl ?_
              refine w_bip d_168_188 (by decide) ?_
              refine w_icmp_ne (g := 204) d_168_190 (by decide) (by omega) (fun h190 => ?_) (fun h190 => ?_)
              · refine w_ld d_168_204 rfl rfl rfl ?_
                refine w_ld d_168_205 rfl rfl rfl ?_
                refine w_cVq (a := 46) (as := [_]) (rest := _) rfl d_168_206 (by rfl) (by rfl) (by first | rfl | assumption) (by rfl) (by rfl) (Nat.le_of_ble_eq_true rfl) (by omega) (by omega) (m_rawWord hR2 (mrw_mw (rfr_trans (hf1) hf2 : rfr μ μ2).mw.mw hv) (fun k => by rw [(rfr_trans (hf1) hf2 : rfr μ μ2).2.2 57 (by omega)]; exact hch k) (by rw [(rfr_trans (hf1) hf2 : rfr μ μ2).2.2 52 (by omega)]; rw [List.length_append]; show ((2 + (dec (μ.2.2 50 v)).length : Nat) : Int) + μ.2.2 52 v ≤ 300; omega) (by omega) (by omega)) ?_ ?_
                rotate_left
                · rintro r τ ⟨hv9, _⟩
                  cases hv9
                rintro vv3 τ3 ⟨hv3, μ3, rfl, hR3, hf3⟩
                obtain rfl := Sum.inl.inj hv3
                rw [vM_mw (rfr_trans (hf1) hf2 : rfr μ μ2).mw.mw] at hR3
                refine w_ret d_168_209 rfl ?_
                have hz : (vM μ).2.2.2.2.1 v = 0 := by show μ.2.2 52 v = 0; omega
                have e : rwo (vM μ) v = [126, 105] ++ dec (μ.2.2 50 v) := by
                  unfold rwo
                  rw [show (vM μ).1 v = 2 from hk]
                  rw [if_neg (by decide), if_neg (by decide), if_pos rfl]
                  rfl
                rw [wrd_0 hz, List.append_nil] at hR3
                rw [e]
                exact ⟨rfl, _, rfl, hR3, rfr_trans (rfr_trans (hf1) hf2) hf3⟩
              · exact absurd h190 (by omega)
            · exact absurd h169 (by omega)
          · exact absurd h142 (by omega)
      · exact absurd h86 (by omega)
    · exact absurd h76 (by omega)
  · exact absurd h9 (by omega)
theorem m_rawOf3 {sc : Nat × (Nat → Int32)} {fr lo : Nat} {μ : Mem} {ρ : Nat × Nat × Nat} {v : Int} (hv : mrw v μ) (hch : ∀ k, 0 ≤ μ.2.2 57 k ∧ μ.2.2 57 k < 65536) (hk : μ.2.2 49 v = 3) (hf : 6 ≤ fr) (hl : 300 ≤ lo) : w_S sc fr lo 168 [.ref 46, .int (ji v)] (hp μ, ρ) (fun o τ => o = .inl none ∧ ∃ μ', τ = (hp μ', ρ) ∧ RW (rwo (vM μ) v) μ' ∧ rfr μ μ') := by
  obtain ⟨v1, v2, v3, v4, v5, v6, v7, v8, v9⟩ := hv
  have hv : mrw v μ := ⟨v1, v2, v3, v4, v5, v6, v7, v8, v9⟩
  refine w_S.of (L0 := [some (.ref 46), some (.int (ji v)), none, none]) rfl rfl (Nat.le_of_ble_eq_true rfl) (by rfl) ?_
  refine w_ld d_168_0 rfl rfl rfl ?_
  refine w_getF d_168_1 (by rfl) (by first | rfl | assumption) (by rfl) (by rfl) ?_
  refine w_ld d_168_4 rfl rfl rfl ?_
  refine w_aI d_168_5 (by first | rfl | assumption) (by omega) hk ?_
  refine w_st1 (L' := [_, _, _, _]) d_168_6 rfl (by decide) rfl (by decide) rfl ?_
  refine w_ld d_168_7 rfl rfl rfl ?_
  refine w_con d_168_8 ?_
  refine w_icmp_ne (g := 72) d_168_9 (by decide) (by omega) (fun h9 => ?_) (fun h9 => ?_)
  · refine w_ld d_168_72 rfl rfl rfl ?_
    refine w_bip d_168_73 (by decide) ?_
    refine w_ld d_168_75 rfl rfl rfl ?_
    refine w_if_ne (g := 84) d_168_76 (by decide) (by omega) (fun h76 => ?_) (fun h76 => ?_)
    · refine w_ld d_168_84 rfl rfl rfl ?_
      refine w_con d_168_85 ?_
      refine w_icmp_ne (g := 94) d_168_86 (by decide) (by omega) (fun h86 => ?_) (fun h86 => ?_)
      · refine w_ld d_168_94 rfl rfl rfl ?_
        refine w_con d_168_95 ?_
        refine w_icmp_ne (g := 104) d_168_96 (by decide) (by omega) (fun h96 => ?_) (fun h96 => ?_)
        · refine w_ld d_168_104 rfl rfl rfl ?_
          refine w_con d_168_105 ?_
          refine w_icmp_ne (g := 114) d_168_106 (by decide) (by omega) (fun h106 => ?_) (fun h106 => ?_)
          · exact absurd h106 (by omega)
          · refine w_bip d_168_109 (by decide) ?_
            refine w_goto (g := 137) d_168_111 (by decide) ?_
            refine w_cVq (a := 46) (as := [_, _]) (rest := _) rfl d_168_137 (by rfl) (by rfl) (by first | rfl | assumption) (by rfl) (by rfl) (Nat.le_of_ble_eq_true rfl) (by omega) (by omega) (m_rawBegin (by decide) (by decide) (by omega) (by omega)) ?_ ?_
            rotate_left
            · rintro r τ ⟨hv9, _⟩
              cases hv9
            rintro vv1 τ1 ⟨hv1, μ1, rfl, hR1, hf1⟩
            obtain rfl := Sum.inl.inj hv1
            refine w_ld d_168_140 rfl rfl rfl ?_
            refine w_con d_168_141 ?_
            refine w_icmp_ne (g := 167) d_168_142 (by decide) (by omega) (fun h142 => ?_) (fun h142 => ?_)
            · refine w_ld d_168_167 rfl rfl rfl ?_
              refine w_con d_168_168 ?_
              refine w_icmp_eq (g := 177) d_168_169 (by decide) (by omega) (fun h169 => ?_) (fun h169 => ?_)
              · exact absurd h169 (by omega)
              · refine w_ld d_168_172 rfl rfl rfl ?_
                refine w_con d_168_173 ?_
                refine w_icmp_ne (g := 187) d_168_174 (by decide) (by omega) (fun h174 => ?_) (fun h174 => ?_)
                · exact absurd h174 (by omega)
                · refine w_ld d_168_177 rfl rfl rfl ?_
                  refine w_ld d_168_178 rfl rfl rfl ?_
                  refine w_getF d_168_179 (by rfl) (by first | rfl | assumption) (by rfl) (by rfl) ?_
                  refine w_ld d_168_182 rfl rfl rfl ?_
                  refine w_aL d_168_183 (by first | rfl | assumption) (by omega) (show _ = μ.2.2 50 v by rw [hf1.2.2 50 (by omega)]) ?_
                  refine w_cVq (a := 46) (as := [_]) (rest := _) rfl d_168_184 (by rfl) (by rfl) (by first | rfl | assumption) (by rfl) (by rfl) (Nat.le_of_ble_eq_true rfl) (by omega) (by omega) (m_rawNumber hR1 v3 (by decide) (by omega) (by omega)) ?_ ?_
                  rotate_left
                  · rintro r τ ⟨hv9, _⟩
                    cases hv9
                  rintro vv2 τ2 ⟨hv2, μ2, rfl, hR2, hf2⟩
                  obtain rfl := Sum.inl.inj hv2
                  have hdl := dec_len v3
                  refine w_ld d_168_187 rfl rfl rfl ?_
                  refine w_bip d_168_188 (by decide) ?_
                  refine w_icmp_ne (g := 204) d_168_190 (by decide) (by omega) (fun h190 => ?_) (fun h190 => ?_)
                  · refine w_ld d_168_204 rfl rfl rfl ?_
                    refine w_ld d_168_205 rfl rfl rfl ?_
                    refine w_cVq (a := 46) (as := [_]) (rest := _) rfl d_168_206 (by rfl) (by rfl) (by first | rfl | assumption) (by rfl) (by rfl) (Nat.le_of_ble_eq_true rfl) (by omega) (by omega) (m_rawWord hR2 (mrw_mw (rfr_trans (hf1) hf2 : rfr μ μ2).mw.mw hv) (fun k => by rw [(rfr_trans (hf1) hf2 : rfr μ μ2).2.2 57 (by omega)]; exact hch k) (by rw [(rfr_trans (hf1) hf2 : rfr μ μ2).2.2 52 (by omega)]; rw [List.length_append]; show ((2 + (dec (μ.2.2 50 v)).length : Nat) : Int) + μ.2.2 52 v ≤ 300; omega) (by omega) (by omega)) ?_ ?_
                    rotate_left
                    · rintro r τ ⟨hv9, _⟩
                      cases hv9
                    rintro vv3 τ3 ⟨hv3, μ3, rfl, hR3, hf3⟩
                    obtain rfl := Sum.inl.inj hv3
                    rw [vM_mw (rfr_trans (hf1) hf2 : rfr μ μ2).mw.mw] at hR3
                    refine w_ret d_168_209 rfl ?_
                    have hz : (vM μ).2.2.2.2.1 v = 0 := by show μ.2.2 52 v = 0; omega
                    have e : rwo (vM μ) v = [126, 109] ++ dec (μ.2.2 50 v) := by
                      unfold rwo
                      rw [show (vM μ).1 v = 3 from hk]
                      rw [if_neg (by decide), if_neg (by decide), if_neg (by decide), if_pos rfl]
                      rfl
                    rw [wrd_0 hz, List.append_nil] at hR3
                    rw [e]
                    exact ⟨rfl, _, rfl, hR3, rfr_trans (rfr_trans (hf1) hf2) hf3⟩
                  · exact absurd h190 (by omega)
            · exact absurd h142 (by omega)
        · exact absurd h96 (by omega)
      · exact absurd h86 (by omega)
    · exact absurd h76 (by omega)
  · exact absurd h9 (by omega)
theorem m_rawOf5 {sc : Nat × (Nat → Int32)} {fr lo : Nat} {μ : Mem} {ρ : Nat × Nat × Nat} {v : Int} (hv : mrw v μ) (hch : ∀ k, 0 ≤ μ.2.2 57 k ∧ μ.2.2 57 k < 65536) (hk : μ.2.2 49 v = 5) (hf : 6 ≤ fr) (hl : 300 ≤ lo) : w_S sc fr lo 168 [.ref 46, .int (ji v)] (hp μ, ρ) (fun o τ => o = .inl none ∧ ∃ μ', τ = (hp μ', ρ) ∧ RW (rwo (vM μ) v) μ' ∧ rfr μ μ') := by
  obtain ⟨v1, v2, v3, v4, v5, v6, v7, v8, v9⟩ := hv
  have hv : mrw v μ := ⟨v1, v2, v3, v4, v5, v6, v7, v8, v9⟩
  refine w_S.of (L0 := [some (.ref 46), some (.int (ji v)), none, none]) rfl rfl (Nat.le_of_ble_eq_true rfl) (by rfl) ?_
  refine w_ld d_168_0 rfl rfl rfl ?_
  refine w_getF d_168_1 (by rfl) (by first | rfl | assumption) (by rfl) (by rfl) ?_
  refine w_ld d_168_4 rfl rfl rfl ?_
  refine w_aI d_168_5 (by first | rfl | assumption) (by omega) hk ?_
  refine w_st1 (L' := [_, _, _, _]) d_168_6 rfl (by decide) rfl (by decide) rfl ?_
  refine w_ld d_168_7 rfl rfl rfl ?_
  refine w_con d_168_8 ?_
  refine w_icmp_ne (g := 72) d_168_9 (by decide) (by omega) (fun h9 => ?_) (fun h9 => ?_)
  · refine w_ld d_168_72 rfl rfl rfl ?_
    refine w_bip d_168_73 (by decide) ?_
    refine w_ld d_168_75 rfl rfl rfl ?_
    refine w_if_ne (g := 84) d_168_76 (by decide) (by omega) (fun h76 => ?_) (fun h76 => ?_)
    · refine w_ld d_168_84 rfl rfl rfl ?_
      refine w_con d_168_85 ?_
      refine w_icmp_ne (g := 94) d_168_86 (by decide) (by omega) (fun h86 => ?_) (fun h86 => ?_)
      · refine w_ld d_168_94 rfl rfl rfl ?_
        refine w_con d_168_95 ?_
        refine w_icmp_ne (g := 104) d_168_96 (by decide) (by omega) (fun h96 => ?_) (fun h96 => ?_)
        · refine w_ld d_168_104 rfl rfl rfl ?_
          refine w_con d_168_105 ?_
          refine w_icmp_ne (g := 114) d_168_106 (by decide) (by omega) (fun h106 => ?_) (fun h106 => ?_)
          · refine w_ld d_168_114 rfl rfl rfl ?_
            refine w_con d_168_115 ?_
            refine w_icmp_ne (g := 124) d_168_116 (by decide) (by omega) (fun h116 => ?_) (fun h116 => ?_)
            · exact absurd h116 (by omega)
            · refine w_bip d_168_119 (by decide) ?_
              refine w_goto (g := 137) d_168_121 (by decide) ?_
              refine w_cVq (a := 46) (as := [_, _]) (rest := _) rfl d_168_137 (by rfl) (by rfl) (by first | rfl | assumption) (by rfl) (by rfl) (Nat.le_of_ble_eq_true rfl) (by omega) (by omega) (m_rawBegin (by decide) (by decide) (by omega) (by omega)) ?_ ?_
              rotate_left
              · rintro r τ ⟨hv9, _⟩
                cases hv9
              rintro vv1 τ1 ⟨hv1, μ1, rfl, hR1, hf1⟩
              obtain rfl := Sum.inl.inj hv1
              refine w_ld d_168_140 rfl rfl rfl ?_
              refine w_con d_168_141 ?_
              refine w_icmp_ne (g := 167) d_168_142 (by decide) (by omega) (fun h142 => ?_) (fun h142 => ?_)
              · refine w_ld d_168_167 rfl rfl rfl ?_
                refine w_con d_168_168 ?_
                refine w_icmp_eq (g := 177) d_168_169 (by decide) (by omega) (fun h169 => ?_) (fun h169 => ?_)
                · exact absurd h169 (by omega)
                · refine w_ld d_168_172 rfl rfl rfl ?_
                  refine w_con d_168_173 ?_
                  refine w_icmp_ne (g := 187) d_168_174 (by decide) (by omega) (fun h174 => ?_) (fun h174 => ?_)
                  · refine w_ld d_168_187 rfl rfl rfl ?_
                    refine w_bip d_168_188 (by decide) ?_
                    refine w_icmp_ne (g := 204) d_168_190 (by decide) (by omega) (fun h190 => ?_) (fun h190 => ?_)
                    · refine w_ld d_168_204 rfl rfl rfl ?_
                      refine w_ld d_168_205 rfl rfl rfl ?_
                      refine w_cVq (a := 46) (as := [_]) (rest := _) rfl d_168_206 (by rfl) (by rfl) (by first | rfl | assumption) (by rfl) (by rfl) (Nat.le_of_ble_eq_true rfl) (by omega) (by omega) (m_rawWord hR1 (mrw_mw (hf1 : rfr μ μ1).mw.mw hv) (fun k => by rw [(hf1 : rfr μ μ1).2.2 57 (by omega)]; exact hch k) (by rw [(hf1 : rfr μ μ1).2.2 52 (by omega)]; show (2 : Int) + μ.2.2 52 v ≤ 300; omega) (by omega) (by omega)) ?_ ?_
                      rotate_left
                      · rintro r τ ⟨hv9, _⟩
                        cases hv9
                      rintro vv2 τ2 ⟨hv2, μ2, rfl, hR2, hf2⟩
                      obtain rfl := Sum.inl.inj hv2
                      rw [vM_mw (hf1 : rfr μ μ1).mw.mw] at hR2
                      refine w_ret d_168_209 rfl ?_
                      have e : rwo (vM μ) v = [126, 58] ++ wrd (vM μ) v := by
                        unfold rwo
                        rw [show (vM μ).1 v = 5 from hk]
                        rfl
                      rw [e]
                      exact ⟨rfl, _, rfl, hR2, rfr_trans (hf1) hf2⟩
                    · exact absurd h190 (by omega)
                  · exact absurd h174 (by omega)
              · exact absurd h142 (by omega)
          · exact absurd h106 (by omega)
        · exact absurd h96 (by omega)
      · exact absurd h86 (by omega)
    · exact absurd h76 (by omega)
  · exact absurd h9 (by omega)
theorem m_rawOf6 {sc : Nat × (Nat → Int32)} {fr lo : Nat} {μ : Mem} {ρ : Nat × Nat × Nat} {v : Int} (hv : mrw v μ) (hch : ∀ k, 0 ≤ μ.2.2 57 k ∧ μ.2.2 57 k < 65536) (hk : μ.2.2 49 v = 6) (hf : 6 ≤ fr) (hl : 300 ≤ lo) : w_S sc fr lo 168 [.ref 46, .int (ji v)] (hp μ, ρ) (fun o τ => o = .inl none ∧ ∃ μ', τ = (hp μ', ρ) ∧ RW (rwo (vM μ) v) μ' ∧ rfr μ μ') := by
  obtain ⟨v1, v2, v3, v4, v5, v6, v7, v8, v9⟩ := hv
  have hv : mrw v μ := ⟨v1, v2, v3, v4, v5, v6, v7, v8, v9⟩
  refine w_S.of (L0 := [some (.ref 46), some (.int (ji v)), none, none]) rfl rfl (Nat.le_of_ble_eq_true rfl) (by rfl) ?_
  refine w_ld d_168_0 rfl rfl rfl ?_
  refine w_getF d_168_1 (by rfl) (by first | rfl | assumption) (by rfl) (by rfl) ?_
  refine w_ld d_168_4 rfl rfl rfl ?_
  refine w_aI d_168_5 (by first | rfl | assumption) (by omega) hk ?_
  refine w_st1 (L' := [_, _, _, _]) d_168_6 rfl (by decide) rfl (by decide) rfl ?_
  refine w_ld d_168_7 rfl rfl rfl ?_
  refine w_con d_168_8 ?_
  refine w_icmp_ne (g := 72) d_168_9 (by decide) (by omega) (fun h9 => ?_) (fun h9 => ?_)
  · refine w_ld d_168_72 rfl rfl rfl ?_
    refine w_bip d_168_73 (by decide) ?_
    refine w_ld d_168_75 rfl rfl rfl ?_
    refine w_if_ne (g := 84) d_168_76 (by decide) (by omega) (fun h76 => ?_) (fun h76 => ?_)
    · refine w_ld d_168_84 rfl rfl rfl ?_
      refine w_con d_168_85 ?_
      refine w_icmp_ne (g := 94) d_168_86 (by decide) (by omega) (fun h86 => ?_) (fun h86 => ?_)
      · refine w_ld d_168_94 rfl rfl rfl ?_
        refine w_con d_168_95 ?_
        refine w_icmp_ne (g := 104) d_168_96 (by decide) (by omega) (fun h96 => ?_) (fun h96 => ?_)
        · refine w_ld d_168_104 rfl rfl rfl ?_
          refine w_con d_168_105 ?_
          refine w_icmp_ne (g := 114) d_168_106 (by decide) (by omega) (fun h106 => ?_) (fun h106 => ?_)
          · refine w_ld d_168_114 rfl rfl rfl ?_
            refine w_con d_168_115 ?_
            refine w_icmp_ne (g := 124) d_168_116 (by decide) (by omega) (fun h116 => ?_) (fun h116 => ?_)
            · refine w_ld d_168_124 rfl rfl rfl ?_
              refine w_bip d_168_125 (by decide) ?_
              refine w_icmp_ne (g := 135) d_168_127 (by decide) (by omega) (fun h127 => ?_) (fun h127 => ?_)
              · exact absurd h127 (by omega)
              · refine w_bip d_168_130 (by decide) ?_
                refine w_goto (g := 137) d_168_132 (by decide) ?_
                refine w_cVq (a := 46) (as := [_, _]) (rest := _) rfl d_168_137 (by rfl) (by rfl) (by first | rfl | assumption) (by rfl) (by rfl) (Nat.le_of_ble_eq_true rfl) (by omega) (by omega) (m_rawBegin (by decide) (by decide) (by omega) (by omega)) ?_ ?_
                rotate_left
                · rintro r τ ⟨hv9, _⟩
                  cases hv9
                rintro vv1 τ1 ⟨hv1, μ1, rfl, hR1, hf1⟩
                obtain rfl := Sum.inl.inj hv1
                refine w_ld d_168_140 rfl rfl rfl ?_
                refine w_con d_168_141 ?_
                refine w_icmp_ne (g := 167) d_168_142 (by decide) (by omega) (fun h142 => ?_) (fun h142 => ?_)
                · refine w_ld d_168_167 rfl rfl rfl ?_
                  refine w_con d_168_168 ?_
                  refine w_icmp_eq (g := 177) d_168_169 (by decide) (by omega) (fun h169 => ?_) (fun h169 => ?_)
                  · exact absurd h169 (by omega)
                  · refine w_ld d_168_172 rfl rfl rfl ?_
                    refine w_con d_168_173 ?_
                    refine w_icmp_ne (g := 187) d_168_174 (by decide) (by omega) (fun h174 => ?_) (fun h174 => ?_)
                    · refine w_ld d_168_187 rfl rfl rfl ?_
                      refine w_bip d_168_188 (by decide) ?_
                      refine w_icmp_ne (g := 204) d_168_190 (by decide) (by omega) (fun h190 => ?_) (fun h190 => ?_)
                      · refine w_ld d_168_204 rfl rfl rfl ?_
                        refine w_ld d_168_205 rfl rfl rfl ?_
                        refine w_cVq (a := 46) (as := [_]) (rest := _) rfl d_168_206 (by rfl) (by rfl) (by first | rfl | assumption) (by rfl) (by rfl) (Nat.le_of_ble_eq_true rfl) (by omega) (by omega) (m_rawWord hR1 (mrw_mw (hf1 : rfr μ μ1).mw.mw hv) (fun k => by rw [(hf1 : rfr μ μ1).2.2 57 (by omega)]; exact hch k) (by rw [(hf1 : rfr μ μ1).2.2 52 (by omega)]; show (2 : Int) + μ.2.2 52 v ≤ 300; omega) (by omega) (by omega)) ?_ ?_
                        rotate_left
                        · rintro r τ ⟨hv9, _⟩
                          cases hv9
                        rintro vv2 τ2 ⟨hv2, μ2, rfl, hR2, hf2⟩
                        obtain rfl := Sum.inl.inj hv2
                        rw [vM_mw (hf1 : rfr μ μ1).mw.mw] at hR2
                        refine w_ret d_168_209 rfl ?_
                        have e : rwo (vM μ) v = [126, 36] ++ wrd (vM μ) v := by
                          unfold rwo
                          rw [show (vM μ).1 v = 6 from hk]
                          rfl
                        rw [e]
                        exact ⟨rfl, _, rfl, hR2, rfr_trans (hf1) hf2⟩
                      · exact absurd h190 (by omega)
                    · exact absurd h174 (by omega)
                · exact absurd h142 (by omega)
            · exact absurd h116 (by omega)
          · exact absurd h106 (by omega)
        · exact absurd h96 (by omega)
      · exact absurd h86 (by omega)
    · exact absurd h76 (by omega)
  · exact absurd h9 (by omega)
theorem m_rawOf7 {sc : Nat × (Nat → Int32)} {fr lo : Nat} {μ : Mem} {ρ : Nat × Nat × Nat} {v : Int} (hv : mrw v μ) (hch : ∀ k, 0 ≤ μ.2.2 57 k ∧ μ.2.2 57 k < 65536) (hk : μ.2.2 49 v = 7) (hf : 6 ≤ fr) (hl : 300 ≤ lo) : w_S sc fr lo 168 [.ref 46, .int (ji v)] (hp μ, ρ) (fun o τ => o = .inl none ∧ ∃ μ', τ = (hp μ', ρ) ∧ RW (rwo (vM μ) v) μ' ∧ rfr μ μ') := by
  obtain ⟨v1, v2, v3, v4, v5, v6, v7, v8, v9⟩ := hv
  have hv : mrw v μ := ⟨v1, v2, v3, v4, v5, v6, v7, v8, v9⟩
  refine w_S.of (L0 := [some (.ref 46), some (.int (ji v)), none, none]) rfl rfl (Nat.le_of_ble_eq_true rfl) (by rfl) ?_
  refine w_ld d_168_0 rfl rfl rfl ?_
  refine w_getF d_168_1 (by rfl) (by first | rfl | assumption) (by rfl) (by rfl) ?_
  refine w_ld d_168_4 rfl rfl rfl ?_
  refine w_aI d_168_5 (by first | rfl | assumption) (by omega) hk ?_
  refine w_st1 (L' := [_, _, _, _]) d_168_6 rfl (by decide) rfl (by decide) rfl ?_
  refine w_ld d_168_7 rfl rfl rfl ?_
  refine w_con d_168_8 ?_
  refine w_icmp_ne (g := 72) d_168_9 (by decide) (by omega) (fun h9 => ?_) (fun h9 => ?_)
  · refine w_ld d_168_72 rfl rfl rfl ?_
    refine w_bip d_168_73 (by decide) ?_
    refine w_ld d_168_75 rfl rfl rfl ?_
    refine w_if_ne (g := 84) d_168_76 (by decide) (by omega) (fun h76 => ?_) (fun h76 => ?_)
    · refine w_ld d_168_84 rfl rfl rfl ?_
      refine w_con d_168_85 ?_
      refine w_icmp_ne (g := 94) d_168_86 (by decide) (by omega) (fun h86 => ?_) (fun h86 => ?_)
      · refine w_ld d_168_94 rfl rfl rfl ?_
        refine w_con d_168_95 ?_
        refine w_icmp_ne (g := 104) d_168_96 (by decide) (by omega) (fun h96 => ?_) (fun h96 => ?_)
        · refine w_ld d_168_104 rfl rfl rfl ?_
          refine w_con d_168_105 ?_
          refine w_icmp_ne (g := 114) d_168_106 (by decide) (by omega) (fun h106 => ?_) (fun h106 => ?_)
          · refine w_ld d_168_114 rfl rfl rfl ?_
            refine w_con d_168_115 ?_
            refine w_icmp_ne (g := 124) d_168_116 (by decide) (by omega) (fun h116 => ?_) (fun h116 => ?_)
            · refine w_ld d_168_124 rfl rfl rfl ?_
              refine w_bip d_168_125 (by decide) ?_
              refine w_icmp_ne (g := 135) d_168_127 (by decide) (by omega) (fun h127 => ?_) (fun h127 => ?_)
              · refine w_bip d_168_135 (by decide) ?_
                refine w_cVq (a := 46) (as := [_, _]) (rest := _) rfl d_168_137 (by rfl) (by rfl) (by first | rfl | assumption) (by rfl) (by rfl) (Nat.le_of_ble_eq_true rfl) (by omega) (by omega) (m_rawBegin (by decide) (by decide) (by omega) (by omega)) ?_ ?_
                rotate_left
                · rintro r τ ⟨hv9, _⟩
                  cases hv9
                rintro vv1 τ1 ⟨hv1, μ1, rfl, hR1, hf1⟩
                obtain rfl := Sum.inl.inj hv1
                refine w_ld d_168_140 rfl rfl rfl ?_
                refine w_con d_168_141 ?_
                refine w_icmp_ne (g := 167) d_168_142 (by decide) (by omega) (fun h142 => ?_) (fun h142 => ?_)
                · refine w_ld d_168_167 rfl rfl rfl ?_
                  refine w_con d_168_168 ?_
                  refine w_icmp_eq (g := 177) d_168_169 (by decide) (by omega) (fun h169 => ?_) (fun h169 => ?_)
                  · exact absurd h169 (by omega)
                  · refine w_ld d_168_172 rfl rfl rfl ?_
                    refine w_con d_168_173 ?_
                    refine w_icmp_ne (g := 187) d_168_174 (by decide) (by omega) (fun h174 => ?_) (fun h174 => ?_)
                    · refine w_ld d_168_187 rfl rfl rfl ?_
                      refine w_bip d_168_188 (by decide) ?_
                      refine w_icmp_ne (g := 204) d_168_190 (by decide) (by omega) (fun h190 => ?_) (fun h190 => ?_)
                      · exact absurd h190 (by omega)
                      · refine w_ld d_168_193 rfl rfl rfl ?_
                        refine w_ld d_168_194 rfl rfl rfl ?_
                        refine w_getF d_168_195 (by rfl) (by first | rfl | assumption) (by rfl) (by rfl) ?_
                        refine w_ld d_168_198 rfl rfl rfl ?_
                        refine w_aL d_168_199 (by first | rfl | assumption) (by omega) (show _ = μ.2.2 50 v by rw [hf1.2.2 50 (by omega)]) ?_
                        refine w_l2i d_168_200 (by omega) ?_
                        refine w_cVq (a := 46) (as := [_]) (rest := _) rfl d_168_201 (by rfl) (by rfl) (by first | rfl | assumption) (by rfl) (by rfl) (Nat.le_of_ble_eq_true rfl) (by omega) (by omega) (m_rpu hR1 (by omega) (by decide)) ?_ ?_
                        rotate_left
                        · rintro r τ ⟨hv9, _⟩
                          cases hv9
                        rintro vv2 τ2 ⟨hv2, μ2, rfl, hR2, hf2⟩
                        obtain rfl := Sum.inl.inj hv2
                        refine w_ld d_168_204 rfl rfl rfl ?_
                        refine w_ld d_168_205 rfl rfl rfl ?_
                        refine w_cVq (a := 46) (as := [_]) (rest := _) rfl d_168_206 (by rfl) (by rfl) (by first | rfl | assumption) (by rfl) (by rfl) (Nat.le_of_ble_eq_true rfl) (by omega) (by omega) (m_rawWord hR2 (mrw_mw (rfr_trans (hf1) hf2 : rfr μ μ2).mw.mw hv) (fun k => by rw [(rfr_trans (hf1) hf2 : rfr μ μ2).2.2 57 (by omega)]; exact hch k) (by rw [(rfr_trans (hf1) hf2 : rfr μ μ2).2.2 52 (by omega)]; show (3 : Int) + μ.2.2 52 v ≤ 300; omega) (by omega) (by omega)) ?_ ?_
                        rotate_left
                        · rintro r τ ⟨hv9, _⟩
                          cases hv9
                        rintro vv3 τ3 ⟨hv3, μ3, rfl, hR3, hf3⟩
                        obtain rfl := Sum.inl.inj hv3
                        rw [vM_mw (rfr_trans (hf1) hf2 : rfr μ μ2).mw.mw] at hR3
                        refine w_ret d_168_209 rfl ?_
                        have hz : (vM μ).2.2.2.2.1 v = 0 := by show μ.2.2 52 v = 0; omega
                        have e : rwo (vM μ) v = [126, 99, μ.2.2 50 v] := by
                          unfold rwo
                          rw [show (vM μ).1 v = 7 from hk]
                          rfl
                        rw [wrd_0 hz, List.append_nil] at hR3
                        rw [e]
                        exact ⟨rfl, _, rfl, hR3, rfr_trans (rfr_trans (hf1) hf2) hf3⟩
                    · exact absurd h174 (by omega)
                · exact absurd h142 (by omega)
              · exact absurd h127 (by omega)
            · exact absurd h116 (by omega)
          · exact absurd h106 (by omega)
        · exact absurd h96 (by omega)
      · exact absurd h86 (by omega)
    · exact absurd h76 (by omega)
  · exact absurd h9 (by omega)
theorem m_rawOf4 {sc : Nat × (Nat → Int32)} {fr lo : Nat} {μ : Mem} {ρ : Nat × Nat × Nat} {v : Int} (hv : mrw v μ) (hch : ∀ k, 0 ≤ μ.2.2 57 k ∧ μ.2.2 57 k < 65536) (hk : μ.2.2 49 v = 4) (hf : 6 ≤ fr) (hl : 300 ≤ lo) : w_S sc fr lo 168 [.ref 46, .int (ji v)] (hp μ, ρ) (fun o τ => o = .inl none ∧ ∃ μ', τ = (hp μ', ρ) ∧ RW (rwo (vM μ) v) μ' ∧ rfr μ μ') := by
  obtain ⟨v1, v2, v3, v4, v5, v6, v7, v8, v9⟩ := hv
  have hv : mrw v μ := ⟨v1, v2, v3, v4, v5, v6, v7, v8, v9⟩
  refine w_S.of (L0 := [some (.ref 46), some (.int (ji v)), none, none]) rfl rfl (Nat.le_of_ble_eq_true rfl) (by rfl) ?_
  refine w_ld d_168_0 rfl rfl rfl ?_
  refine w_getF d_168_1 (by rfl) (by first | rfl | assumption) (by rfl) (by rfl) ?_
  refine w_ld d_168_4 rfl rfl rfl ?_
  refine w_aI d_168_5 (by first | rfl | assumption) (by omega) hk ?_
  refine w_st1 (L' := [_, _, _, _]) d_168_6 rfl (by decide) rfl (by decide) rfl ?_
  refine w_ld d_168_7 rfl rfl rfl ?_
  refine w_con d_168_8 ?_
  refine w_icmp_ne (g := 72) d_168_9 (by decide) (by omega) (fun h9 => ?_) (fun h9 => ?_)
  · exact absurd h9 (by omega)
  · refine w_ld d_168_12 rfl rfl rfl ?_
    refine w_getF d_168_13 (by rfl) (by first | rfl | assumption) (by rfl) (by rfl) ?_
    refine w_ld d_168_16 rfl rfl rfl ?_
    refine w_aI d_168_17 (by first | rfl | assumption) (by omega) (show _ = μ.2.2 52 v from rfl) ?_
    refine w_if_le (g := 35) d_168_18 (by decide) (by omega) (fun h18 => ?_) (fun h18 => ?_)
    · refine w_con d_168_35 ?_
      refine w_st1 (L' := [_, _, _, _]) d_168_36 rfl (by decide) rfl (by decide) rfl ?_
      refine w_ld d_168_37 rfl rfl rfl ?_
      refine w_con d_168_38 ?_
      refine w_putI d_168_39 (by rfl) (by first | rfl | assumption) (by rfl) (fit_I (by rfl)) (by rfl) ?_
      refine w_ld d_168_42 rfl rfl rfl ?_
      refine w_bip d_168_43 (by decide) ?_
      refine w_icmp_eq (g := 60) d_168_45 (by decide) (by omega) (fun h45 => ?_) (fun h45 => ?_)
      · exact absurd h45 (by omega)
      · refine w_ld d_168_48 rfl rfl rfl ?_
        refine w_bip d_168_49 (by decide) ?_
        refine w_icmp_eq (g := 60) d_168_51 (by decide) (by omega) (fun h51 => ?_) (fun h51 => ?_)
        · exact absurd h51 (by omega)
        · refine w_ld d_168_54 rfl rfl rfl ?_
          refine w_bip d_168_55 (by decide) ?_
          refine w_icmp_ne (g := 66) d_168_57 (by decide) (by omega) (fun h57 => ?_) (fun h57 => ?_)
          · have hR2 := (RW_0 μ).1
            have hf2 := (RW_0 μ).2
            refine w_ld d_168_66 rfl rfl rfl ?_
            refine w_ld d_168_67 rfl rfl rfl ?_
            refine w_cVq (a := 46) (as := [_]) (rest := _) rfl d_168_68 (by rfl) (by rfl) (by first | rfl | assumption) (by rfl) (by rfl) (Nat.le_of_ble_eq_true rfl) (by omega) (by omega) (m_rawWord hR2 (mrw_mw (hf2 : rfr μ (stI μ 46 41 0)).mw.mw hv) (fun k => by rw [(hf2 : rfr μ (stI μ 46 41 0)).2.2 57 (by omega)]; exact hch k) (by rw [(hf2 : rfr μ (stI μ 46 41 0)).2.2 52 (by omega)]; show (0 : Int) + μ.2.2 52 v ≤ 300; omega) (by omega) (by omega)) ?_ ?_
            rotate_left
            · rintro r τ ⟨hv9, _⟩
              cases hv9
            rintro vv3 τ3 ⟨hv3, μ3, rfl, hR3, hf3⟩
            obtain rfl := Sum.inl.inj hv3
            rw [vM_mw (hf2 : rfr μ (stI μ 46 41 0)).mw.mw] at hR3
            refine w_ret d_168_71 rfl ?_
            have hno : ¬ (0 < μ.2.2 52 v ∧ (μ.2.2 57 (μ.2.2 51 v + 0) = 126 ∨ μ.2.2 57 (μ.2.2 51 v + 0) = 94 ∨ μ.2.2 57 (μ.2.2 51 v + 0) = 96)) := by
              rw [Int.add_zero]
              omega
            have e : rwo (vM μ) v = wrd (vM μ) v := by
              unfold rwo
              rw [show (vM μ).1 v = 4 from hk]
              show (if 0 < (vM μ).2.2.2.2.1 v ∧ ((vM μ).2.2.2.2.2 v 0 = 126 ∨ (vM μ).2.2.2.2.2 v 0 = 94 ∨ (vM μ).2.2.2.2.2 v 0 = 96) then [126] else []) ++ wrd (vM μ) v = _
              rw [if_neg (show ¬ (0 < (vM μ).2.2.2.2.1 v ∧ ((vM μ).2.2.2.2.2 v 0 = 126 ∨ (vM μ).2.2.2.2.2 v 0 = 94 ∨ (vM μ).2.2.2.2.2 v 0 = 96)) from hno)]
              rfl
            rw [e]
            exact ⟨rfl, _, rfl, hR3, rfr_trans hf2 hf3⟩
          · exact absurd h57 (by omega)
    · have hc := hch (μ.2.2 51 v)
      refine w_ld d_168_21 rfl rfl rfl ?_
      refine w_getF d_168_22 (by rfl) (by first | rfl | assumption) (by rfl) (by rfl) ?_
      refine w_ld d_168_25 rfl rfl rfl ?_
      refine w_getF d_168_26 (by rfl) (by first | rfl | assumption) (by rfl) (by rfl) ?_
      refine w_ld d_168_29 rfl rfl rfl ?_
      refine w_aI d_168_30 (by first | rfl | assumption) (by omega) (show _ = μ.2.2 51 v from rfl) ?_
      refine w_aI d_168_31 (by first | rfl | assumption) (by omega) (show _ = μ.2.2 57 (μ.2.2 51 v) from rfl) ?_
      refine w_goto (g := 36) d_168_32 (by decide) ?_
      refine w_st1 (L' := [_, _, _, _]) d_168_36 rfl (by decide) rfl (by decide) rfl ?_
      refine w_ld d_168_37 rfl rfl rfl ?_
      refine w_con d_168_38 ?_
      refine w_putI d_168_39 (by rfl) (by first | rfl | assumption) (by rfl) (fit_I (by rfl)) (by rfl) ?_
      refine w_ld d_168_42 rfl rfl rfl ?_
      refine w_bip d_168_43 (by decide) ?_
      refine w_icmp_eq (g := 60) d_168_45 (by decide) (by omega) (fun h45 => ?_) (fun h45 => ?_)
      · have hR1 := (RW_0 μ).1
        have hf1 := (RW_0 μ).2
        refine w_ld d_168_60 rfl rfl rfl ?_
        refine w_bip d_168_61 (by decide) ?_
        refine w_cVq (a := 46) (as := [_]) (rest := _) rfl d_168_63 (by rfl) (by rfl) (by first | rfl | assumption) (by rfl) (by rfl) (Nat.le_of_ble_eq_true rfl) (by omega) (by omega) (m_rpu hR1 (by decide) (by decide)) ?_ ?_
        rotate_left
        · rintro r τ ⟨hv9, _⟩
          cases hv9
        rintro vv2 τ2 ⟨hv2, μ2, rfl, hR2, hf2⟩
        obtain rfl := Sum.inl.inj hv2
        refine w_ld d_168_66 rfl rfl rfl ?_
        refine w_ld d_168_67 rfl rfl rfl ?_
        refine w_cVq (a := 46) (as := [_]) (rest := _) rfl d_168_68 (by rfl) (by rfl) (by first | rfl | assumption) (by rfl) (by rfl) (Nat.le_of_ble_eq_true rfl) (by omega) (by omega) (m_rawWord hR2 (mrw_mw (rfr_trans hf1 hf2 : rfr μ μ2).mw.mw hv) (fun k => by rw [(rfr_trans hf1 hf2 : rfr μ μ2).2.2 57 (by omega)]; exact hch k) (by rw [(rfr_trans hf1 hf2 : rfr μ μ2).2.2 52 (by omega)]; show (1 : Int) + μ.2.2 52 v ≤ 300; omega) (by omega) (by omega)) ?_ ?_
        rotate_left
        · rintro r τ ⟨hv9, _⟩
          cases hv9
        rintro vv3 τ3 ⟨hv3, μ3, rfl, hR3, hf3⟩
        obtain rfl := Sum.inl.inj hv3
        rw [vM_mw (rfr_trans hf1 hf2 : rfr μ μ2).mw.mw] at hR3
        refine w_ret d_168_71 rfl ?_
        have e : rwo (vM μ) v = [126] ++ wrd (vM μ) v := by
          unfold rwo
          rw [show (vM μ).1 v = 4 from hk]
          show (if 0 < (vM μ).2.2.2.2.1 v ∧ ((vM μ).2.2.2.2.2 v 0 = 126 ∨ (vM μ).2.2.2.2.2 v 0 = 94 ∨ (vM μ).2.2.2.2.2 v 0 = 96) then [126] else []) ++ wrd (vM μ) v = _
          rw [if_pos ⟨by show 0 < μ.2.2 52 v; omega, by show μ.2.2 57 (μ.2.2 51 v + 0) = 126 ∨ μ.2.2 57 (μ.2.2 51 v + 0) = 94 ∨ μ.2.2 57 (μ.2.2 51 v + 0) = 96; rw [Int.add_zero]; omega⟩]
        rw [e]
        exact ⟨rfl, _, rfl, hR3, rfr_trans (rfr_trans hf1 hf2) hf3⟩
      · refine w_ld d_168_48 rfl rfl rfl ?_
        refine w_bip d_168_49 (by decide) ?_
        refine w_icmp_eq (g := 60) d_168_51 (by decide) (by omega) (fun h51 => ?_) (fun h51 => ?_)
        · have hR1 := (RW_0 μ).1
          have hf1 := (RW_0 μ).2
          refine w_ld d_168_60 rfl rfl rfl ?_
          refine w_bip d_168_61 (by decide) ?_
          refine w_cVq (a := 46) (as := [_]) (rest := _) rfl d_168_63 (by rfl) (by rfl) (by first | rfl | assumption) (by rfl) (by rfl) (Nat.le_of_ble_eq_true rfl) (by omega) (by omega) (m_rpu hR1 (by decide) (by decide)) ?_ ?_
          rotate_left
          · rintro r τ ⟨hv9, _⟩
            cases hv9
          rintro vv2 τ2 ⟨hv2, μ2, rfl, hR2, hf2⟩
          obtain rfl := Sum.inl.inj hv2
          refine w_ld d_168_66 rfl rfl rfl ?_
          refine w_ld d_168_67 rfl rfl rfl ?_
          refine w_cVq (a := 46) (as := [_]) (rest := _) rfl d_168_68 (by rfl) (by rfl) (by first | rfl | assumption) (by rfl) (by rfl) (Nat.le_of_ble_eq_true rfl) (by omega) (by omega) (m_rawWord hR2 (mrw_mw (rfr_trans hf1 hf2 : rfr μ μ2).mw.mw hv) (fun k => by rw [(rfr_trans hf1 hf2 : rfr μ μ2).2.2 57 (by omega)]; exact hch k) (by rw [(rfr_trans hf1 hf2 : rfr μ μ2).2.2 52 (by omega)]; show (1 : Int) + μ.2.2 52 v ≤ 300; omega) (by omega) (by omega)) ?_ ?_
          rotate_left
          · rintro r τ ⟨hv9, _⟩
            cases hv9
          rintro vv3 τ3 ⟨hv3, μ3, rfl, hR3, hf3⟩
          obtain rfl := Sum.inl.inj hv3
          rw [vM_mw (rfr_trans hf1 hf2 : rfr μ μ2).mw.mw] at hR3
          refine w_ret d_168_71 rfl ?_
          have e : rwo (vM μ) v = [126] ++ wrd (vM μ) v := by
            unfold rwo
            rw [show (vM μ).1 v = 4 from hk]
            show (if 0 < (vM μ).2.2.2.2.1 v ∧ ((vM μ).2.2.2.2.2 v 0 = 126 ∨ (vM μ).2.2.2.2.2 v 0 = 94 ∨ (vM μ).2.2.2.2.2 v 0 = 96) then [126] else []) ++ wrd (vM μ) v = _
            rw [if_pos ⟨by show 0 < μ.2.2 52 v; omega, by show μ.2.2 57 (μ.2.2 51 v + 0) = 126 ∨ μ.2.2 57 (μ.2.2 51 v + 0) = 94 ∨ μ.2.2 57 (μ.2.2 51 v + 0) = 96; rw [Int.add_zero]; omega⟩]
          rw [e]
          exact ⟨rfl, _, rfl, hR3, rfr_trans (rfr_trans hf1 hf2) hf3⟩
        · refine w_ld d_168_54 rfl rfl rfl ?_
          refine w_bip d_168_55 (by decide) ?_
          refine w_icmp_ne (g := 66) d_168_57 (by decide) (by omega) (fun h57 => ?_) (fun h57 => ?_)
          · have hR2 := (RW_0 μ).1
            have hf2 := (RW_0 μ).2
            refine w_ld d_168_66 rfl rfl rfl ?_
            refine w_ld d_168_67 rfl rfl rfl ?_
            refine w_cVq (a := 46) (as := [_]) (rest := _) rfl d_168_68 (by rfl) (by rfl) (by first | rfl | assumption) (by rfl) (by rfl) (Nat.le_of_ble_eq_true rfl) (by omega) (by omega) (m_rawWord hR2 (mrw_mw (hf2 : rfr μ (stI μ 46 41 0)).mw.mw hv) (fun k => by rw [(hf2 : rfr μ (stI μ 46 41 0)).2.2 57 (by omega)]; exact hch k) (by rw [(hf2 : rfr μ (stI μ 46 41 0)).2.2 52 (by omega)]; show (0 : Int) + μ.2.2 52 v ≤ 300; omega) (by omega) (by omega)) ?_ ?_
            rotate_left
            · rintro r τ ⟨hv9, _⟩
              cases hv9
            rintro vv3 τ3 ⟨hv3, μ3, rfl, hR3, hf3⟩
            obtain rfl := Sum.inl.inj hv3
            rw [vM_mw (hf2 : rfr μ (stI μ 46 41 0)).mw.mw] at hR3
            refine w_ret d_168_71 rfl ?_
            have hno : ¬ (0 < μ.2.2 52 v ∧ (μ.2.2 57 (μ.2.2 51 v + 0) = 126 ∨ μ.2.2 57 (μ.2.2 51 v + 0) = 94 ∨ μ.2.2 57 (μ.2.2 51 v + 0) = 96)) := by
              rw [Int.add_zero]
              omega
            have e : rwo (vM μ) v = wrd (vM μ) v := by
              unfold rwo
              rw [show (vM μ).1 v = 4 from hk]
              show (if 0 < (vM μ).2.2.2.2.1 v ∧ ((vM μ).2.2.2.2.2 v 0 = 126 ∨ (vM μ).2.2.2.2.2 v 0 = 94 ∨ (vM μ).2.2.2.2.2 v 0 = 96) then [126] else []) ++ wrd (vM μ) v = _
              rw [if_neg (show ¬ (0 < (vM μ).2.2.2.2.1 v ∧ ((vM μ).2.2.2.2.2 v 0 = 126 ∨ (vM μ).2.2.2.2.2 v 0 = 94 ∨ (vM μ).2.2.2.2.2 v 0 = 96)) from hno)]
              rfl
            rw [e]
            exact ⟨rfl, _, rfl, hR3, rfr_trans hf2 hf3⟩
          · have hR1 := (RW_0 μ).1
            have hf1 := (RW_0 μ).2
            refine w_ld d_168_60 rfl rfl rfl ?_
            refine w_bip d_168_61 (by decide) ?_
            refine w_cVq (a := 46) (as := [_]) (rest := _) rfl d_168_63 (by rfl) (by rfl) (by first | rfl | assumption) (by rfl) (by rfl) (Nat.le_of_ble_eq_true rfl) (by omega) (by omega) (m_rpu hR1 (by decide) (by decide)) ?_ ?_
            rotate_left
            · rintro r τ ⟨hv9, _⟩
              cases hv9
            rintro vv2 τ2 ⟨hv2, μ2, rfl, hR2, hf2⟩
            obtain rfl := Sum.inl.inj hv2
            refine w_ld d_168_66 rfl rfl rfl ?_
            refine w_ld d_168_67 rfl rfl rfl ?_
            refine w_cVq (a := 46) (as := [_]) (rest := _) rfl d_168_68 (by rfl) (by rfl) (by first | rfl | assumption) (by rfl) (by rfl) (Nat.le_of_ble_eq_true rfl) (by omega) (by omega) (m_rawWord hR2 (mrw_mw (rfr_trans hf1 hf2 : rfr μ μ2).mw.mw hv) (fun k => by rw [(rfr_trans hf1 hf2 : rfr μ μ2).2.2 57 (by omega)]; exact hch k) (by rw [(rfr_trans hf1 hf2 : rfr μ μ2).2.2 52 (by omega)]; show (1 : Int) + μ.2.2 52 v ≤ 300; omega) (by omega) (by omega)) ?_ ?_
            rotate_left
            · rintro r τ ⟨hv9, _⟩
              cases hv9
            rintro vv3 τ3 ⟨hv3, μ3, rfl, hR3, hf3⟩
            obtain rfl := Sum.inl.inj hv3
            rw [vM_mw (rfr_trans hf1 hf2 : rfr μ μ2).mw.mw] at hR3
            refine w_ret d_168_71 rfl ?_
            have e : rwo (vM μ) v = [126] ++ wrd (vM μ) v := by
              unfold rwo
              rw [show (vM μ).1 v = 4 from hk]
              show (if 0 < (vM μ).2.2.2.2.1 v ∧ ((vM μ).2.2.2.2.2 v 0 = 126 ∨ (vM μ).2.2.2.2.2 v 0 = 94 ∨ (vM μ).2.2.2.2.2 v 0 = 96) then [126] else []) ++ wrd (vM μ) v = _
              rw [if_pos ⟨by show 0 < μ.2.2 52 v; omega, by show μ.2.2 57 (μ.2.2 51 v + 0) = 126 ∨ μ.2.2 57 (μ.2.2 51 v + 0) = 94 ∨ μ.2.2 57 (μ.2.2 51 v + 0) = 96; rw [Int.add_zero]; omega⟩]
            rw [e]
            exact ⟨rfl, _, rfl, hR3, rfr_trans (rfr_trans hf1 hf2) hf3⟩
theorem m_rawOf {sc : Nat × (Nat → Int32)} {fr lo : Nat} {μ : Mem} {ρ : Nat × Nat × Nat} {v : Int} (hv : mrw v μ) (hch : ∀ k, 0 ≤ μ.2.2 57 k ∧ μ.2.2 57 k < 65536) (hk : μ.2.2 49 v < 8) (hf : 6 ≤ fr) (hl : 300 ≤ lo) : w_S sc fr lo 168 [.ref 46, .int (ji v)] (hp μ, ρ) (fun o τ => o = .inl none ∧ ∃ μ', τ = (hp μ', ρ) ∧ RW (rwo (vM μ) v) μ' ∧ rfr μ μ') := by
  have h2 := hv.2.1
  rcases (show μ.2.2 49 v = 0 ∨ μ.2.2 49 v = 1 ∨ μ.2.2 49 v = 2 ∨ μ.2.2 49 v = 3 ∨ μ.2.2 49 v = 4 ∨ μ.2.2 49 v = 5 ∨ μ.2.2 49 v = 6 ∨ μ.2.2 49 v = 7 by omega) with h | h | h | h | h | h | h | h
  · exact m_rawOf0 hv hch h hf hl
  · exact m_rawOf1 hv hch h hf hl
  · exact m_rawOf2 hv hch h hf hl
  · exact m_rawOf3 hv hch h hf hl
  · exact m_rawOf4 hv hch h hf hl
  · exact m_rawOf5 hv hch h hf hl
  · exact m_rawOf6 hv hch h hf hl
  · exact m_rawOf7 hv hch h hf hl
theorem m_ws187 {sc : Nat × (Nat → Int32)} {fr lo : Nat} {ρ : Nat × Nat × Nat} {μ : Mem} {s : Option (List Int × List (List Int))} (hS : MS s μ) {v : Int} (hv : mrw v μ) (hch : ∀ k, 0 ≤ μ.2.2 57 k ∧ μ.2.2 57 k < 65536) (hk : μ.2.2 49 v < 8) {key : Int} (hkey : key = 0 ∨ key = 1) (hf : 9 ≤ fr) (hl : 400 ≤ lo) : w_P sc fr lo 163 7 6 false (none) prog_9_method_59_code 187 [some (.ref 46), some (.int (ji v)), some (.int (ji key)), none, none, none] [] (hp (μ), ρ) (fun o τ => o = .inl none ∧ ∃ μ', τ = (hp μ', ρ) ∧ MS (wrn (fun N => some (txt N (rwo (vM μ) v) key, nts N (rwo (vM μ) v) key)) s) μ' ∧ mw0 μ μ') := by
  refine w_ld d_163_187 rfl rfl rfl ?_
  refine w_ld d_163_188 rfl rfl rfl ?_
  refine w_cVq (a := 46) (as := [_]) (rest := _) rfl d_163_189 (by rfl) (by rfl) (by first | rfl | assumption) (by rfl) (by rfl) (Nat.le_of_ble_eq_true rfl) (by omega) (by omega) (m_rawOf hv hch hk (by omega) (by omega)) ?_ ?_
  rotate_left
  · rintro r τ ⟨hv9, _⟩
    cases hv9
  rintro vv1 τ1 ⟨hv1, μ1, rfl, hR1, hf1⟩
  obtain rfl := Sum.inl.inj hv1
  refine w_ld d_163_192 rfl rfl rfl ?_
  refine w_ld d_163_193 rfl rfl rfl ?_
  refine w_cVq (a := 46) (as := [_]) (rest := _) rfl d_163_194 (by rfl) (by rfl) (by first | rfl | assumption) (by rfl) (by rfl) (Nat.le_of_ble_eq_true rfl) (by omega) (by omega) (m_writeRaw (MS_r hS hf1) hR1 hkey (by omega) (by omega)) ?_ ?_
  rotate_left
  · rintro r τ ⟨hv9, _⟩
    cases hv9
  rintro vv2 τ2 ⟨hv2, μ2, rfl, hS2, hf2⟩
  obtain rfl := Sum.inl.inj hv2
  refine w_ret d_163_197 rfl ?_
  exact ⟨rfl, _, rfl, hS2, mw0_trans hf1.mw hf2⟩
theorem m_wsN_l {sc : Nat × (Nat → Int32)} {fr lo : Nat} {ρ : Nat × Nat × Nat} {μ : Mem} {s : Option (List Int × List (List Int))} {v : Int} {u : List Int} (hf : 9 ≤ fr) (hl : 400 ≤ lo) : ∀ (m : Nat) (j : Nat) (μ1 : Mem), ((u.length : Int) - j).toNat = m → j ≤ u.length → MS (wap s (u.take j)) μ1 → RW u μ1 → mw0 μ μ1 → w_P sc fr lo 163 7 6 false (none) prog_9_method_59_code 158 [some (.ref 46), some (.int (ji v)), some (.int (ji 0)), some (.int (ji 2)), some (.int (ji 1)), some (.int (ji (j : Int)))] [] (hp (μ1), ρ) (fun o τ => o = .inl none ∧ ∃ μ', τ = (hp μ', ρ) ∧ MS (wap s u) μ' ∧ mw0 μ μ') := by
  intro m
  induction m using Nat.strongRecOn with
  | ind m ih =>
    intro j μ1 hm hj hS1 hR1 hm1
    have hw3 := hR1.1.2
    have hcc := hR1.2.1 j
    refine w_ld d_163_158 rfl rfl rfl ?_
    refine w_ld d_163_160 rfl rfl rfl ?_
    refine w_gI d_163_161 (by rfl) (by first | rfl | assumption) (by rfl) hR1.1.1 ?_
    refine w_icmp_ge (g := 184) d_163_164 (by decide) (by omega) (fun h164 => ?_) (fun h164 => ?_)
    · refine w_goto (g := 197) d_163_184 (by decide) ?_
      refine w_ret d_163_197 rfl ?_
      rw [List.take_of_length_le (by omega)] at hS1
      exact ⟨rfl, _, rfl, hS1, hm1⟩
    · refine w_ld d_163_167 rfl rfl rfl ?_
      refine w_ld d_163_168 rfl rfl rfl ?_
      refine w_getF d_163_169 (by rfl) (by first | rfl | assumption) (by rfl) (by rfl) ?_
      refine w_ld d_163_172 rfl rfl rfl ?_
      refine w_aI d_163_174 (by first | rfl | assumption) (by omega) (hR1.2.2 j (by omega)) ?_
      refine w_cVq (a := 46) (as := [_]) (rest := _) rfl d_163_175 (by rfl) (by rfl) (by first | rfl | assumption) (by rfl) (by rfl) (Nat.le_of_ble_eq_true rfl) (by omega) (by omega) (m_pu hS1) ?_ ?_
      rotate_left
      · rintro r τ ⟨hv9, _⟩
        cases hv9
      rintro vv2 τ2 ⟨hv2, μ2, rfl, hS2, hf2⟩
      obtain rfl := Sum.inl.inj hv2
      refine w_inc (L' := [_, _, _, _, _, _]) d_163_178 rfl (by decide) rfl ?_
      refine w_goto (g := 158) d_163_181 (by decide) ?_
      rw [wap_wap] at hS2
      exact ih _ (by omega) (j + 1) μ2 rfl (by omega) (by rw [take_getD (by omega)]; exact hS2) (RW_p hR1 hf2) (mw0_trans hm1 hf2.mw)
theorem m_ws0 {sc : Nat × (Nat → Int32)} {fr lo : Nat} {μ : Mem} {ρ : Nat × Nat × Nat} {s : Option (List Int × List (List Int))} (hS : MS s μ) {v : Int} (hv : mrw v μ) (hch : ∀ k, 0 ≤ μ.2.2 57 k ∧ μ.2.2 57 k < 65536) (hk : μ.2.2 49 v = 0) (hf : 9 ≤ fr) (hl : 400 ≤ lo) : w_S sc fr lo 163 [.ref 46, .int (ji v), .int (ji 0)] (hp μ, ρ) (fun o τ => o = .inl none ∧ ∃ μ', τ = (hp μ', ρ) ∧ MS (wrn (fun N => some (smp (vM μ) v 0 N)) s) μ' ∧ mw0 μ μ') := by
  obtain ⟨v1, v2, v3, v4, v5, v6, v7, v8, v9⟩ := hv
  have hv : mrw v μ := ⟨v1, v2, v3, v4, v5, v6, v7, v8, v9⟩
  refine w_S.of (L0 := [some (.ref 46), some (.int (ji v)), some (.int (ji 0)), none, none, none]) rfl rfl (Nat.le_of_ble_eq_true rfl) (by rfl) ?_
  refine w_ld d_163_0 rfl rfl rfl ?_
  refine w_getF d_163_1 (by rfl) (by first | rfl | assumption) (by rfl) (by rfl) ?_
  refine w_ld d_163_4 rfl rfl rfl ?_
  refine w_aI d_163_5 (by first | rfl | assumption) (by omega) hk ?_
  refine w_st1 (L' := [_, _, _, _, _, _]) d_163_6 rfl (by decide) rfl (by decide) rfl ?_
  refine w_ld d_163_7 rfl rfl rfl ?_
  refine w_con d_163_8 ?_
  refine w_icmp_ne (g := 42) d_163_9 (by decide) (by omega) (fun h9 => ?_) (fun h9 => ?_)
  · refine w_con d_163_42 ?_
    refine w_st1 (L' := [_, _, _, _, _, _]) d_163_43 rfl (by decide) rfl (by decide) rfl ?_
    refine w_ld d_163_45 rfl rfl rfl ?_
    refine w_if_ne (g := 69) d_163_46 (by decide) (by omega) (fun h46 => ?_) (fun h46 => ?_)
    · exact absurd h46 (by omega)
    · refine w_ld d_163_49 rfl rfl rfl ?_
      refine w_if_ne (g := 69) d_163_50 (by decide) (by omega) (fun h50 => ?_) (fun h50 => ?_)
      · exact absurd h50 (by omega)
      · refine w_ld d_163_53 rfl rfl rfl ?_
        refine w_bip d_163_54 (by decide) ?_
        refine w_bip d_163_56 (by decide) ?_
        refine w_bip d_163_58 (by decide) ?_
        refine w_bip d_163_60 (by decide) ?_
        refine w_con d_163_62 ?_
        refine w_cVq (a := 46) (as := [_, _, _, _, _]) (rest := _) rfl d_163_63 (by rfl) (by rfl) (by first | rfl | assumption) (by rfl) (by rfl) (Nat.le_of_ble_eq_true rfl) (by omega) (by omega) (m_let4 hS rfl (by omega) (by omega)) ?_ ?_
        rotate_left
        · rintro r τ ⟨hv9, _⟩
          cases hv9
        rintro vv1 τ1 ⟨hv1, μ1, rfl, hS1, hf1⟩
        obtain rfl := Sum.inl.inj hv1
        refine w_goto (g := 197) d_163_66 (by decide) ?_
        refine w_ret d_163_197 rfl ?_
        have e : (fun N => some (smp (vM μ) v 0 N)) = fun N => some ([110, 117, 108, 108], N) := funext fun N => by
          unfold smp
          rw [if_pos ⟨show (vM μ).1 v = 0 from hk, rfl⟩]
        rw [e]
        exact ⟨rfl, _, rfl, hS1, hf1.mw⟩
  · exact absurd h9 (by omega)
theorem m_ws1 {sc : Nat × (Nat → Int32)} {fr lo : Nat} {μ : Mem} {ρ : Nat × Nat × Nat} {s : Option (List Int × List (List Int))} (hS : MS s μ) {v : Int} (hv : mrw v μ) (hch : ∀ k, 0 ≤ μ.2.2 57 k ∧ μ.2.2 57 k < 65536) (hk : μ.2.2 49 v = 1) (hf : 9 ≤ fr) (hl : 400 ≤ lo) : w_S sc fr lo 163 [.ref 46, .int (ji v), .int (ji 0)] (hp μ, ρ) (fun o τ => o = .inl none ∧ ∃ μ', τ = (hp μ', ρ) ∧ MS (wrn (fun N => some (smp (vM μ) v 0 N)) s) μ' ∧ mw0 μ μ') := by
  obtain ⟨v1, v2, v3, v4, v5, v6, v7, v8, v9⟩ := hv
  have hv : mrw v μ := ⟨v1, v2, v3, v4, v5, v6, v7, v8, v9⟩
  refine w_S.of (L0 := [some (.ref 46), some (.int (ji v)), some (.int (ji 0)), none, none, none]) rfl rfl (Nat.le_of_ble_eq_true rfl) (by rfl) ?_
  refine w_ld d_163_0 rfl rfl rfl ?_
  refine w_getF d_163_1 (by rfl) (by first | rfl | assumption) (by rfl) (by rfl) ?_
  refine w_ld d_163_4 rfl rfl rfl ?_
  refine w_aI d_163_5 (by first | rfl | assumption) (by omega) hk ?_
  refine w_st1 (L' := [_, _, _, _, _, _]) d_163_6 rfl (by decide) rfl (by decide) rfl ?_
  refine w_ld d_163_7 rfl rfl rfl ?_
  refine w_con d_163_8 ?_
  refine w_icmp_ne (g := 42) d_163_9 (by decide) (by omega) (fun h9 => ?_) (fun h9 => ?_)
  · refine w_con d_163_42 ?_
    refine w_st1 (L' := [_, _, _, _, _, _]) d_163_43 rfl (by decide) rfl (by decide) rfl ?_
    refine w_ld d_163_45 rfl rfl rfl ?_
    refine w_if_ne (g := 69) d_163_46 (by decide) (by omega) (fun h46 => ?_) (fun h46 => ?_)
    · exact absurd h46 (by omega)
    · refine w_ld d_163_49 rfl rfl rfl ?_
      refine w_if_ne (g := 69) d_163_50 (by decide) (by omega) (fun h50 => ?_) (fun h50 => ?_)
      · refine w_ld d_163_69 rfl rfl rfl ?_
        refine w_if_ne (g := 105) d_163_70 (by decide) (by omega) (fun h70 => ?_) (fun h70 => ?_)
        · exact absurd h70 (by omega)
        · refine w_ld d_163_73 rfl rfl rfl ?_
          refine w_con d_163_74 ?_
          refine w_icmp_ne (g := 105) d_163_75 (by decide) (by omega) (fun h75 => ?_) (fun h75 => ?_)
          · exact absurd h75 (by omega)
          · refine w_ld d_163_78 rfl rfl rfl ?_
            refine w_getF d_163_79 (by rfl) (by first | rfl | assumption) (by rfl) (by rfl) ?_
            refine w_ld d_163_82 rfl rfl rfl ?_
            refine w_aL d_163_83 (by first | rfl | assumption) (by omega) (show _ = μ.2.2 50 v from rfl) ?_
            refine w_lcon1 d_163_84 ?_
            refine w_lcmp d_163_85 (by omega) ?_
            refine w_if_ne (g := 105) d_163_86 (by decide) (by have := lcm_in (μ.2.2 50 v) 1; omega) (fun h86 => ?_) (fun h86 => ?_)
            · refine w_ld d_163_105 rfl rfl rfl ?_
              refine w_if_ne (g := 131) d_163_106 (by decide) (by omega) (fun h106 => ?_) (fun h106 => ?_)
              · exact absurd h106 (by omega)
              · refine w_ld d_163_109 rfl rfl rfl ?_
                refine w_con d_163_110 ?_
                refine w_icmp_ne (g := 131) d_163_111 (by decide) (by omega) (fun h111 => ?_) (fun h111 => ?_)
                · exact absurd h111 (by omega)
                · refine w_ld d_163_114 rfl rfl rfl ?_
                  refine w_bip d_163_115 (by decide) ?_
                  refine w_bip d_163_117 (by decide) ?_
                  refine w_bip d_163_119 (by decide) ?_
                  refine w_bip d_163_121 (by decide) ?_
                  refine w_bip d_163_123 (by decide) ?_
                  refine w_cVq (a := 46) (as := [_, _, _, _, _]) (rest := _) rfl d_163_125 (by rfl) (by rfl) (by first | rfl | assumption) (by rfl) (by rfl) (Nat.le_of_ble_eq_true rfl) (by omega) (by omega) (m_let5 hS (by decide) (by omega) (by omega)) ?_ ?_
                  rotate_left
                  · rintro r τ ⟨hv9, _⟩
                    cases hv9
                  rintro vv1 τ1 ⟨hv1, μ1, rfl, hS1, hf1⟩
                  obtain rfl := Sum.inl.inj hv1
                  refine w_goto (g := 197) d_163_128 (by decide) ?_
                  refine w_ret d_163_197 rfl ?_
                  have e : (fun N => some (smp (vM μ) v 0 N)) = fun N => some ([102, 97, 108, 115, 101], N) := funext fun N => by
                    unfold smp
                    rw [if_neg (fun z => by have : μ.2.2 49 v = 0 := z.1; omega), if_pos ⟨show (vM μ).1 v = 1 from hk, rfl⟩, if_neg (show ¬ (vM μ).2.1 v = 1 from fun z => h86 ((lcm_eq _ _).mpr z))]
                  rw [e]
                  exact ⟨rfl, _, rfl, hS1, hf1.mw⟩
            · refine w_ld d_163_89 rfl rfl rfl ?_
              refine w_bip d_163_90 (by decide) ?_
              refine w_bip d_163_92 (by decide) ?_
              refine w_bip d_163_94 (by decide) ?_
              refine w_bip d_163_96 (by decide) ?_
              refine w_con d_163_98 ?_
              refine w_cVq (a := 46) (as := [_, _, _, _, _]) (rest := _) rfl d_163_99 (by rfl) (by rfl) (by first | rfl | assumption) (by rfl) (by rfl) (Nat.le_of_ble_eq_true rfl) (by omega) (by omega) (m_let4 hS rfl (by omega) (by omega)) ?_ ?_
              rotate_left
              · rintro r τ ⟨hv9, _⟩
                cases hv9
              rintro vv1 τ1 ⟨hv1, μ1, rfl, hS1, hf1⟩
              obtain rfl := Sum.inl.inj hv1
              refine w_goto (g := 197) d_163_102 (by decide) ?_
              refine w_ret d_163_197 rfl ?_
              have e : (fun N => some (smp (vM μ) v 0 N)) = fun N => some ([116, 114, 117, 101], N) := funext fun N => by
                unfold smp
                rw [if_neg (fun z => by have : μ.2.2 49 v = 0 := z.1; omega), if_pos ⟨show (vM μ).1 v = 1 from hk, rfl⟩, if_pos (show (vM μ).2.1 v = 1 from (lcm_eq _ _).mp h86)]
              rw [e]
              exact ⟨rfl, _, rfl, hS1, hf1.mw⟩
      · exact absurd h50 (by omega)
  · exact absurd h9 (by omega)
theorem m_ws2 {sc : Nat × (Nat → Int32)} {fr lo : Nat} {μ : Mem} {ρ : Nat × Nat × Nat} {s : Option (List Int × List (List Int))} (hS : MS s μ) {v : Int} (hv : mrw v μ) (hch : ∀ k, 0 ≤ μ.2.2 57 k ∧ μ.2.2 57 k < 65536) (hk : μ.2.2 49 v = 2) (hf : 9 ≤ fr) (hl : 400 ≤ lo) : w_S sc fr lo 163 [.ref 46, .int (ji v), .int (ji 0)] (hp μ, ρ) (fun o τ => o = .inl none ∧ ∃ μ', τ = (hp μ', ρ) ∧ MS (wrn (fun N => some (smp (vM μ) v 0 N)) s) μ' ∧ mw0 μ μ') := by
  obtain ⟨v1, v2, v3, v4, v5, v6, v7, v8, v9⟩ := hv
  have hv : mrw v μ := ⟨v1, v2, v3, v4, v5, v6, v7, v8, v9⟩
  refine w_S.of (L0 := [some (.ref 46), some (.int (ji v)), some (.int (ji 0)), none, none, none]) rfl rfl (Nat.le_of_ble_eq_true rfl) (by rfl) ?_
  refine w_ld d_163_0 rfl rfl rfl ?_
  refine w_getF d_163_1 (by rfl) (by first | rfl | assumption) (by rfl) (by rfl) ?_
  refine w_ld d_163_4 rfl rfl rfl ?_
  refine w_aI d_163_5 (by first | rfl | assumption) (by omega) hk ?_
  refine w_st1 (L' := [_, _, _, _, _, _]) d_163_6 rfl (by decide) rfl (by decide) rfl ?_
  refine w_ld d_163_7 rfl rfl rfl ?_
  refine w_con d_163_8 ?_
  refine w_icmp_ne (g := 42) d_163_9 (by decide) (by omega) (fun h9 => ?_) (fun h9 => ?_)
  · exact absurd h9 (by omega)
  · refine w_ld d_163_12 rfl rfl rfl ?_
    refine w_getF d_163_13 (by rfl) (by first | rfl | assumption) (by rfl) (by rfl) ?_
    refine w_ld d_163_16 rfl rfl rfl ?_
    refine w_aL d_163_17 (by first | rfl | assumption) (by omega) (show _ = μ.2.2 50 v from rfl) ?_
    refine w_ldl (x := (-9007199254740992)) d_163_18 (by rfl) ?_
    refine w_lcmp d_163_21 (by omega) ?_
    refine w_if_lt (g := 42) d_163_22 (by decide) (by have := lcm_in (μ.2.2 50 v) (-9007199254740992); omega) (fun h22 => ?_) (fun h22 => ?_)
    · refine w_con d_163_42 ?_
      refine w_st1 (L' := [_, _, _, _, _, _]) d_163_43 rfl (by decide) rfl (by decide) rfl ?_
      refine w_ld d_163_45 rfl rfl rfl ?_
      refine w_if_ne (g := 69) d_163_46 (by decide) (by omega) (fun h46 => ?_) (fun h46 => ?_)
      · exact absurd h46 (by omega)
      · refine w_ld d_163_49 rfl rfl rfl ?_
        refine w_if_ne (g := 69) d_163_50 (by decide) (by omega) (fun h50 => ?_) (fun h50 => ?_)
        · refine w_ld d_163_69 rfl rfl rfl ?_
          refine w_if_ne (g := 105) d_163_70 (by decide) (by omega) (fun h70 => ?_) (fun h70 => ?_)
          · exact absurd h70 (by omega)
          · refine w_ld d_163_73 rfl rfl rfl ?_
            refine w_con d_163_74 ?_
            refine w_icmp_ne (g := 105) d_163_75 (by decide) (by omega) (fun h75 => ?_) (fun h75 => ?_)
            · refine w_ld d_163_105 rfl rfl rfl ?_
              refine w_if_ne (g := 131) d_163_106 (by decide) (by omega) (fun h106 => ?_) (fun h106 => ?_)
              · exact absurd h106 (by omega)
              · refine w_ld d_163_109 rfl rfl rfl ?_
                refine w_con d_163_110 ?_
                refine w_icmp_ne (g := 131) d_163_111 (by decide) (by omega) (fun h111 => ?_) (fun h111 => ?_)
                · refine w_ld d_163_131 rfl rfl rfl ?_
                  refine w_if_ne (g := 187) d_163_132 (by decide) (by omega) (fun h132 => ?_) (fun h132 => ?_)
                  · exact absurd h132 (by omega)
                  · refine w_ld d_163_135 rfl rfl rfl ?_
                    refine w_if_eq (g := 187) d_163_137 (by decide) (by omega) (fun h137 => ?_) (fun h137 => ?_)
                    · have e : (fun N => some (smp (vM μ) v 0 N)) = fun N => some (txt N (rwo (vM μ) v) 0, nts N (rwo (vM μ) v) 0) := funext fun N => by
                        unfold smp
                        rw [if_neg (fun z => by have : μ.2.2 49 v = 0 := z.1; omega), if_neg (fun z => by have : μ.2.2 49 v = 1 := z.1; omega), if_neg (fun z => by have h1 : -9007199254740992 ≤ μ.2.2 50 v := z.2.2.1; have h2 : μ.2.2 50 v ≤ 9007199254740992 := z.2.2.2; have := (lcm_ge (μ.2.2 50 v) (-9007199254740992)).mpr h1; omega)]
                      rw [e]
                      exact w_P.le (m_ws187 hS hv hch (by omega) (key := 0) (by decide) hf hl) ⟨rfl, rfl, rfl, trivial⟩
                    · exact absurd h137 (by omega)
                · exact absurd h111 (by omega)
            · exact absurd h75 (by omega)
        · exact absurd h50 (by omega)
    · refine w_ld d_163_25 rfl rfl rfl ?_
      refine w_getF d_163_26 (by rfl) (by first | rfl | assumption) (by rfl) (by rfl) ?_
      refine w_ld d_163_29 rfl rfl rfl ?_
      refine w_aL d_163_30 (by first | rfl | assumption) (by omega) (by (try simp [stI, stA, stR]) <;> rfl) ?_
      refine w_ldl (x := 9007199254740992) d_163_31 (by rfl) ?_
      refine w_lcmp d_163_34 (by omega) ?_
      refine w_if_gt (g := 42) d_163_35 (by decide) (by have := lcm_in (μ.2.2 50 v) 9007199254740992; omega) (fun h35 => ?_) (fun h35 => ?_)
      · refine w_con d_163_42 ?_
        refine w_st1 (L' := [_, _, _, _, _, _]) d_163_43 rfl (by decide) rfl (by decide) rfl ?_
        refine w_ld d_163_45 rfl rfl rfl ?_
        refine w_if_ne (g := 69) d_163_46 (by decide) (by omega) (fun h46 => ?_) (fun h46 => ?_)
        · exact absurd h46 (by omega)
        · refine w_ld d_163_49 rfl rfl rfl ?_
          refine w_if_ne (g := 69) d_163_50 (by decide) (by omega) (fun h50 => ?_) (fun h50 => ?_)
          · refine w_ld d_163_69 rfl rfl rfl ?_
            refine w_if_ne (g := 105) d_163_70 (by decide) (by omega) (fun h70 => ?_) (fun h70 => ?_)
            · exact absurd h70 (by omega)
            · refine w_ld d_163_73 rfl rfl rfl ?_
              refine w_con d_163_74 ?_
              refine w_icmp_ne (g := 105) d_163_75 (by decide) (by omega) (fun h75 => ?_) (fun h75 => ?_)
              · refine w_ld d_163_105 rfl rfl rfl ?_
                refine w_if_ne (g := 131) d_163_106 (by decide) (by omega) (fun h106 => ?_) (fun h106 => ?_)
                · exact absurd h106 (by omega)
                · refine w_ld d_163_109 rfl rfl rfl ?_
                  refine w_con d_163_110 ?_
                  refine w_icmp_ne (g := 131) d_163_111 (by decide) (by omega) (fun h111 => ?_) (fun h111 => ?_)
                  · refine w_ld d_163_131 rfl rfl rfl ?_
                    refine w_if_ne (g := 187) d_163_132 (by decide) (by omega) (fun h132 => ?_) (fun h132 => ?_)
                    · exact absurd h132 (by omega)
                    · refine w_ld d_163_135 rfl rfl rfl ?_
                      refine w_if_eq (g := 187) d_163_137 (by decide) (by omega) (fun h137 => ?_) (fun h137 => ?_)
                      · have e : (fun N => some (smp (vM μ) v 0 N)) = fun N => some (txt N (rwo (vM μ) v) 0, nts N (rwo (vM μ) v) 0) := funext fun N => by
                          unfold smp
                          rw [if_neg (fun z => by have : μ.2.2 49 v = 0 := z.1; omega), if_neg (fun z => by have : μ.2.2 49 v = 1 := z.1; omega), if_neg (fun z => by have h1 : -9007199254740992 ≤ μ.2.2 50 v := z.2.2.1; have h2 : μ.2.2 50 v ≤ 9007199254740992 := z.2.2.2; have := (lcm_gt (μ.2.2 50 v) 9007199254740992).mp h35; omega)]
                        rw [e]
                        exact w_P.le (m_ws187 hS hv hch (by omega) (key := 0) (by decide) hf hl) ⟨rfl, rfl, rfl, trivial⟩
                      · exact absurd h137 (by omega)
                  · exact absurd h111 (by omega)
              · exact absurd h75 (by omega)
          · exact absurd h50 (by omega)
      · refine w_con d_163_38 ?_
        refine w_goto (g := 43) d_163_39 (by decide) ?_
        refine w_st1 (L' := [_, _, _, _, _, _]) d_163_43 rfl (by decide) rfl (by decide) rfl ?_
        refine w_ld d_163_45 rfl rfl rfl ?_
        refine w_if_ne (g := 69) d_163_46 (by decide) (by omega) (fun h46 => ?_) (fun h46 => ?_)
        · exact absurd h46 (by omega)
        · refine w_ld d_163_49 rfl rfl rfl ?_
          refine w_if_ne (g := 69) d_163_50 (by decide) (by omega) (fun h50 => ?_) (fun h50 => ?_)
          · refine w_ld d_163_69 rfl rfl rfl ?_
            refine w_if_ne (g := 105) d_163_70 (by decide) (by omega) (fun h70 => ?_) (fun h70 => ?_)
            · exact absurd h70 (by omega)
            · refine w_ld d_163_73 rfl rfl rfl ?_
              refine w_con d_163_74 ?_
              refine w_icmp_ne (g := 105) d_163_75 (by decide) (by omega) (fun h75 => ?_) (fun h75 => ?_)
              · refine w_ld d_163_105 rfl rfl rfl ?_
                refine w_if_ne (g := 131) d_163_106 (by decide) (by omega) (fun h106 => ?_) (fun h106 => ?_)
                · exact absurd h106 (by omega)
                · refine w_ld d_163_109 rfl rfl rfl ?_
                  refine w_con d_163_110 ?_
                  refine w_icmp_ne (g := 131) d_163_111 (by decide) (by omega) (fun h111 => ?_) (fun h111 => ?_)
                  · refine w_ld d_163_131 rfl rfl rfl ?_
                    refine w_if_ne (g := 187) d_163_132 (by decide) (by omega) (fun h132 => ?_) (fun h132 => ?_)
                    · exact absurd h132 (by omega)
                    · refine w_ld d_163_135 rfl rfl rfl ?_
                      refine w_if_eq (g := 187) d_163_137 (by decide) (by omega) (fun h137 => ?_) (fun h137 => ?_)
                      · exact absurd h137 (by omega)
                      · refine w_ld d_163_140 rfl rfl rfl ?_
                        refine w_con d_163_141 ?_
                        refine w_putI d_163_142 (by rfl) (by first | rfl | assumption) (by rfl) (fit_I (by rfl)) (by rfl) ?_
                        refine w_ld d_163_145 rfl rfl rfl ?_
                        refine w_ld d_163_146 rfl rfl rfl ?_
                        refine w_getF d_163_147 (by rfl) (by first | rfl | assumption) (by rfl) (by rfl) ?_
                        refine w_ld d_163_150 rfl rfl rfl ?_
                        refine w_aL d_163_151 (by first | rfl | assumption) (by omega) (show _ = μ.2.2 50 v from rfl) ?_
                        refine w_cVq (a := 46) (as := [_]) (rest := _) rfl d_163_152 (by rfl) (by rfl) (by first | rfl | assumption) (by rfl) (by rfl) (Nat.le_of_ble_eq_true rfl) (by omega) (by omega) (m_rawNumber (RW_0 μ).1 v3 (by decide) (by omega) (by omega)) ?_ ?_
                        rotate_left
                        · rintro r τ ⟨hv9, _⟩
                          cases hv9
                        rintro vv1 τ1 ⟨hv1, μ1, rfl, hR1, hf1⟩
                        obtain rfl := Sum.inl.inj hv1
                        refine w_con d_163_155 ?_
                        refine w_st1 (L' := [_, _, _, _, _, _]) d_163_156 rfl (by decide) rfl (by decide) rfl ?_
                        have h35 : μ.2.2 50 v ≤ 9007199254740992 := Decidable.byContradiction (fun z => by have := (lcm_gt (μ.2.2 50 v) 9007199254740992).mpr (by omega); omega)
                        have h22 : -9007199254740992 ≤ μ.2.2 50 v := (lcm_ge _ _).mp h22
                        have hr := rfr_trans (RW_0 μ).2 hf1
                        have hS1 := MS_r hS hr
                        have e : (fun N => some (smp (vM μ) v 0 N)) = fun N => some (dec (μ.2.2 50 v), N) := funext fun N => by
                          unfold smp
                          rw [if_neg (fun z => by have : μ.2.2 49 v = 0 := z.1; omega), if_neg (fun z => by have : μ.2.2 49 v = 1 := z.1; omega), if_pos ⟨show (vM μ).1 v = 2 from hk, rfl, h22, h35⟩]
                          rfl
                        rw [e]
                        exact m_wsN_l hf hl _ 0 μ1 rfl (Nat.zero_le _) (by rw [List.take_zero, wap_nil hS1]; exact hS1) hR1 hr.mw
                  · exact absurd h111 (by omega)
              · exact absurd h75 (by omega)
          · exact absurd h50 (by omega)
theorem m_ws3 {sc : Nat × (Nat → Int32)} {fr lo : Nat} {μ : Mem} {ρ : Nat × Nat × Nat} {s : Option (List Int × List (List Int))} (hS : MS s μ) {v : Int} (hv : mrw v μ) (hch : ∀ k, 0 ≤ μ.2.2 57 k ∧ μ.2.2 57 k < 65536) {k : Int} (hk : μ.2.2 49 v = k) (h3 : 3 ≤ k ∧ k < 8) (hf : 9 ≤ fr) (hl : 400 ≤ lo) : w_S sc fr lo 163 [.ref 46, .int (ji v), .int (ji 0)] (hp μ, ρ) (fun o τ => o = .inl none ∧ ∃ μ', τ = (hp μ', ρ) ∧ MS (wrn (fun N => some (smp (vM μ) v 0 N)) s) μ' ∧ mw0 μ μ') := by
  obtain ⟨v1, v2, v3, v4, v5, v6, v7, v8, v9⟩ := hv
  have hv : mrw v μ := ⟨v1, v2, v3, v4, v5, v6, v7, v8, v9⟩
  refine w_S.of (L0 := [some (.ref 46), some (.int (ji v)), some (.int (ji 0)), none, none, none]) rfl rfl (Nat.le_of_ble_eq_true rfl) (by rfl) ?_
  refine w_ld d_163_0 rfl rfl rfl ?_
  refine w_getF d_163_1 (by rfl) (by first | rfl | assumption) (by rfl) (by rfl) ?_
  refine w_ld d_163_4 rfl rfl rfl ?_
  refine w_aI d_163_5 (by first | rfl | assumption) (by omega) hk ?_
  refine w_st1 (L' := [_, _, _, _, _, _]) d_163_6 rfl (by decide) rfl (by decide) rfl ?_
  refine w_ld d_163_7 rfl rfl rfl ?_
  refine w_con d_163_8 ?_
  refine w_icmp_ne (g := 42) d_163_9 (by decide) (by omega) (fun h9 => ?_) (fun h9 => ?_)
  · refine w_con d_163_42 ?_
    refine w_st1 (L' := [_, _, _, _, _, _]) d_163_43 rfl (by decide) rfl (by decide) rfl ?_
    refine w_ld d_163_45 rfl rfl rfl ?_
    refine w_if_ne (g := 69) d_163_46 (by decide) (by omega) (fun h46 => ?_) (fun h46 => ?_)
    · exact absurd h46 (by omega)
    · refine w_ld d_163_49 rfl rfl rfl ?_
      refine w_if_ne (g := 69) d_163_50 (by decide) (by omega) (fun h50 => ?_) (fun h50 => ?_)
      · refine w_ld d_163_69 rfl rfl rfl ?_
        refine w_if_ne (g := 105) d_163_70 (by decide) (by omega) (fun h70 => ?_) (fun h70 => ?_)
        · exact absurd h70 (by omega)
        · refine w_ld d_163_73 rfl rfl rfl ?_
          refine w_con d_163_74 ?_
          refine w_icmp_ne (g := 105) d_163_75 (by decide) (by omega) (fun h75 => ?_) (fun h75 => ?_)
          · refine w_ld d_163_105 rfl rfl rfl ?_
            refine w_if_ne (g := 131) d_163_106 (by decide) (by omega) (fun h106 => ?_) (fun h106 => ?_)
            · exact absurd h106 (by omega)
            · refine w_ld d_163_109 rfl rfl rfl ?_
              refine w_con d_163_110 ?_
              refine w_icmp_ne (g := 131) d_163_111 (by decide) (by omega) (fun h111 => ?_) (fun h111 => ?_)
              · refine w_ld d_163_131 rfl rfl rfl ?_
                refine w_if_ne (g := 187) d_163_132 (by decide) (by omega) (fun h132 => ?_) (fun h132 => ?_)
                · exact absurd h132 (by omega)
                · refine w_ld d_163_135 rfl rfl rfl ?_
                  refine w_if_eq (g := 187) d_163_137 (by decide) (by omega) (fun h137 => ?_) (fun h137 => ?_)
                  · have e : (fun N => some (smp (vM μ) v 0 N)) = fun N => some (txt N (rwo (vM μ) v) 0, nts N (rwo (vM μ) v) 0) := funext fun N => by
                      unfold smp
                      rw [if_neg (fun z => by have : μ.2.2 49 v = 0 := z.1; omega), if_neg (fun z => by have : μ.2.2 49 v = 1 := z.1; omega), if_neg (fun z => by have : μ.2.2 49 v = 2 := z.1; omega)]
                    rw [e]
                    exact w_P.le (m_ws187 hS hv hch (by omega) (key := 0) (by decide) hf hl) ⟨rfl, rfl, rfl, trivial⟩
                  · exact absurd h137 (by omega)
              · exact absurd h111 (by omega)
          · exact absurd h75 (by omega)
      · exact absurd h50 (by omega)
  · exact absurd h9 (by omega)
theorem m_ws4 {sc : Nat × (Nat → Int32)} {fr lo : Nat} {μ : Mem} {ρ : Nat × Nat × Nat} {s : Option (List Int × List (List Int))} (hS : MS s μ) {v : Int} (hv : mrw v μ) (hch : ∀ k, 0 ≤ μ.2.2 57 k ∧ μ.2.2 57 k < 65536) {k : Int} (hk : μ.2.2 49 v = k) (h3 : 0 ≤ k ∧ k < 8) (hf : 9 ≤ fr) (hl : 400 ≤ lo) : w_S sc fr lo 163 [.ref 46, .int (ji v), .int (ji 1)] (hp μ, ρ) (fun o τ => o = .inl none ∧ ∃ μ', τ = (hp μ', ρ) ∧ MS (wrn (fun N => some (smp (vM μ) v 1 N)) s) μ' ∧ mw0 μ μ') := by
  obtain ⟨v1, v2, v3, v4, v5, v6, v7, v8, v9⟩ := hv
  have hv : mrw v μ := ⟨v1, v2, v3, v4, v5, v6, v7, v8, v9⟩
  refine w_S.of (L0 := [some (.ref 46), some (.int (ji v)), some (.int (ji 1)), none, none, none]) rfl rfl (Nat.le_of_ble_eq_true rfl) (by rfl) ?_
  refine w_ld d_163_0 rfl rfl rfl ?_
  refine w_getF d_163_1 (by rfl) (by first | rfl | assumption) (by rfl) (by rfl) ?_
  refine w_ld d_163_4 rfl rfl rfl ?_
  refine w_aI d_163_5 (by first | rfl | assumption) (by omega) hk ?_
  refine w_st1 (L' := [_, _, _, _, _, _]) d_163_6 rfl (by decide) rfl (by decide) rfl ?_
  refine w_ld d_163_7 rfl rfl rfl ?_
  refine w_con d_163_8 ?_
  refine w_icmp_ne (g := 42) d_163_9 (by decide) (by omega) (fun h9 => ?_) (fun h9 => ?_)
  · refine w_con d_163_42 ?_
    refine w_st1 (L' := [_, _, _, _, _, _]) d_163_43 rfl (by decide) rfl (by decide) rfl ?_
    refine w_ld d_163_45 rfl rfl rfl ?_
    refine w_if_ne (g := 69) d_163_46 (by decide) (by omega) (fun h46 => ?_) (fun h46 => ?_)
    · refine w_ld d_163_69 rfl rfl rfl ?_
      refine w_if_ne (g := 105) d_163_70 (by decide) (by omega) (fun h70 => ?_) (fun h70 => ?_)
      · refine w_ld d_163_105 rfl rfl rfl ?_
        refine w_if_ne (g := 131) d_163_106 (by decide) (by omega) (fun h106 => ?_) (fun h106 => ?_)
        · refine w_ld d_163_131 rfl rfl rfl ?_
          refine w_if_ne (g := 187) d_163_132 (by decide) (by omega) (fun h132 => ?_) (fun h132 => ?_)
          · have e : (fun N => some (smp (vM μ) v 1 N)) = fun N => some (txt N (rwo (vM μ) v) 1, nts N (rwo (vM μ) v) 1) := funext fun N => by
              unfold smp
              rw [if_neg (fun z => absurd z.2 (by decide)), if_neg (fun z => absurd z.2 (by decide)), if_neg (fun z => absurd z.2.1 (by decide))]
            rw [e]
            exact w_P.le (m_ws187 hS hv hch (by omega) (key := 1) (by decide) hf hl) ⟨rfl, rfl, rfl, trivial⟩
          · exact absurd h132 (by omega)
        · exact absurd h106 (by omega)
      · exact absurd h70 (by omega)
    · exact absurd h46 (by omega)
  · have hq1 := lcm_in (μ.2.2 50 v) (-9007199254740992)
    have hq2 := lcm_in (μ.2.2 50 v) 9007199254740992
    refine w_ld d_163_12 rfl rfl rfl ?_
    refine w_getF d_163_13 (by rfl) (by first | rfl | assumption) (by rfl) (by rfl) ?_
    refine w_ld d_163_16 rfl rfl rfl ?_
    refine w_aL d_163_17 (by first | rfl | assumption) (by omega) (show _ = μ.2.2 50 v from rfl) ?_
    refine w_ldl (x := (-9007199254740992)) d_163_18 (by rfl) ?_
    refine w_lcmp d_163_21 (by omega) ?_
    refine w_if_lt (g := 42) d_163_22 (by decide) (by omega) (fun h22 => ?_) (fun h22 => ?_)
    · refine w_con d_163_42 ?_
      refine w_st1 (L' := [_, _, _, _, _, _]) d_163_43 rfl (by decide) rfl (by decide) rfl ?_
      refine w_ld d_163_45 rfl rfl rfl ?_
      refine w_if_ne (g := 69) d_163_46 (by decide) (by omega) (fun h46 => ?_) (fun h46 => ?_)
      · refine w_ld d_163_69 rfl rfl rfl ?_
        refine w_if_ne (g := 105) d_163_70 (by decide) (by omega) (fun h70 => ?_) (fun h70 => ?_)
        · refine w_ld d_163_105 rfl rfl rfl ?_
          refine w_if_ne (g := 131) d_163_106 (by decide) (by omega) (fun h106 => ?_) (fun h106 => ?_)
          · refine w_ld d_163_131 rfl rfl rfl ?_
            refine w_if_ne (g := 187) d_163_132 (by decide) (by omega) (fun h132 => ?_) (fun h132 => ?_)
            · have e : (fun N => some (smp (vM μ) v 1 N)) = fun N => some (txt N (rwo (vM μ) v) 1, nts N (rwo (vM μ) v) 1) := funext fun N => by
                unfold smp
                rw [if_neg (fun z => absurd z.2 (by decide)), if_neg (fun z => absurd z.2 (by decide)), if_neg (fun z => absurd z.2.1 (by decide))]
              rw [e]
              exact w_P.le (m_ws187 hS hv hch (by omega) (key := 1) (by decide) hf hl) ⟨rfl, rfl, rfl, trivial⟩
            · exact absurd h132 (by omega)
          · exact absurd h106 (by omega)
        · exact absurd h70 (by omega)
      · exact absurd h46 (by omega)
    · refine w_ld d_163_25 rfl rfl rfl ?_
      refine w_getF d_163_26 (by rfl) (by first | rfl | assumption) (by rfl) (by rfl) ?_
      refine w_ld d_163_29 rfl rfl rfl ?_
      refine w_aL d_163_30 (by first | rfl | assumption) (by omega) (by (try simp [stI, stA, stR]) <;> rfl) ?_
      refine w_ldl (x := 9007199254740992) d_163_31 (by rfl) ?_
      refine w_lcmp d_163_34 (by omega) ?_
      refine w_if_gt (g := 42) d_163_35 (by decide) (by omega) (fun h35 => ?_) (fun h35 => ?_)
      · refine w_con d_163_42 ?_
        refine w_st1 (L' := [_, _, _, _, _, _]) d_163_43 rfl (by decide) rfl (by decide) rfl ?_
        refine w_ld d_163_45 rfl rfl rfl ?_
        refine w_if_ne (g := 69) d_163_46 (by decide) (by omega) (fun h46 => ?_) (fun h46 => ?_)
        · refine w_ld d_163_69 rfl rfl rfl ?_
          refine w_if_ne (g := 105) d_163_70 (by decide) (by omega) (fun h70 => ?_) (fun h70 => ?_)
          · refine w_ld d_163_105 rfl rfl rfl ?_
            refine w_if_ne (g := 131) d_163_106 (by decide) (by omega) (fun h106 => ?_) (fun h106 => ?_)
            · refine w_ld d_163_131 rfl rfl rfl ?_
              refine w_if_ne (g := 187) d_163_132 (by decide) (by omega) (fun h132 => ?_) (fun h132 => ?_)
              · have e : (fun N => some (smp (vM μ) v 1 N)) = fun N => some (txt N (rwo (vM μ) v) 1, nts N (rwo (vM μ) v) 1) := funext fun N => by
                  unfold smp
                  rw [if_neg (fun z => absurd z.2 (by decide)), if_neg (fun z => absurd z.2 (by decide)), if_neg (fun z => absurd z.2.1 (by decide))]
                rw [e]
                exact w_P.le (m_ws187 hS hv hch (by omega) (key := 1) (by decide) hf hl) ⟨rfl, rfl, rfl, trivial⟩
              · exact absurd h132 (by omega)
            · exact absurd h106 (by omega)
          · exact absurd h70 (by omega)
        · exact absurd h46 (by omega)
      · refine w_con d_163_38 ?_
        refine w_goto (g := 43) d_163_39 (by decide) ?_
        refine w_st1 (L' := [_, _, _, _, _, _]) d_163_43 rfl (by decide) rfl (by decide) rfl ?_
        refine w_ld d_163_45 rfl rfl rfl ?_
        refine w_if_ne (g := 69) d_163_46 (by decide) (by omega) (fun h46 => ?_) (fun h46 => ?_)
        · refine w_ld d_163_69 rfl rfl rfl ?_
          refine w_if_ne (g := 105) d_163_70 (by decide) (by omega) (fun h70 => ?_) (fun h70 => ?_)
          · refine w_ld d_163_105 rfl rfl rfl ?_
            refine w_if_ne (g := 131) d_163_106 (by decide) (by omega) (fun h106 => ?_) (fun h106 => ?_)
            · refine w_ld d_163_131 rfl rfl rfl ?_
              refine w_if_ne (g := 187) d_163_132 (by decide) (by omega) (fun h132 => ?_) (fun h132 => ?_)
              · have e : (fun N => some (smp (vM μ) v 1 N)) = fun N => some (txt N (rwo (vM μ) v) 1, nts N (rwo (vM μ) v) 1) := funext fun N => by
                  unfold smp
                  rw [if_neg (fun z => absurd z.2 (by decide)), if_neg (fun z => absurd z.2 (by decide)), if_neg (fun z => absurd z.2.1 (by decide))]
                rw [e]
                exact w_P.le (m_ws187 hS hv hch (by omega) (key := 1) (by decide) hf hl) ⟨rfl, rfl, rfl, trivial⟩
              · exact absurd h132 (by omega)
            · exact absurd h106 (by omega)
          · exact absurd h70 (by omega)
        · exact absurd h46 (by omega)
theorem m_writeSimple {sc : Nat × (Nat → Int32)} {fr lo : Nat} {μ : Mem} {ρ : Nat × Nat × Nat} {s : Option (List Int × List (List Int))} (hS : MS s μ) {v : Int} (hv : mrw v μ) (hch : ∀ k, 0 ≤ μ.2.2 57 k ∧ μ.2.2 57 k < 65536) (hk : μ.2.2 49 v < 8) {key : Int} (hkey : key = 0 ∨ key = 1) (hf : 9 ≤ fr) (hl : 400 ≤ lo) : w_S sc fr lo 163 [.ref 46, .int (ji v), .int (ji key)] (hp μ, ρ) (fun o τ => o = .inl none ∧ ∃ μ', τ = (hp μ', ρ) ∧ MS (wrn (fun N => some (smp (vM μ) v key N)) s) μ' ∧ mw0 μ μ') := by
  have h2 := hv.2.1
  rcases hkey with rfl | rfl
  · rcases (show μ.2.2 49 v = 0 ∨ μ.2.2 49 v = 1 ∨ μ.2.2 49 v = 2 ∨ 3 ≤ μ.2.2 49 v by omega) with h | h | h | h
    · exact m_ws0 hS hv hch h hf hl
    · exact m_ws1 hS hv hch h hf hl
    · exact m_ws2 hS hv hch h hf hl
    · exact m_ws3 hS hv hch rfl ⟨h, hk⟩ hf hl
  · exact m_ws4 hS hv hch rfl ⟨h2.1, hk⟩ hf hl
theorem m_all_l {sc : Nat × (Nat → Int32)} {fr lo : Nat} {μ : Mem} {ρ : Nat × Nat × Nat} {C : Int → Prop} (hG : MRg C μ) {v : Int} (hv : C v) : ∀ (m : Nat) (i : Nat) (b : Int), (μ.2.2 53 v - i).toNat = m → (i : Int) ≤ μ.2.2 53 v → (b = 1 ∧ (∀ m : Nat, 2 * m < i → μ.2.2 49 (pt (vM μ) v (2 * m)) < 8) ∨ b = 0 ∧ ¬ spk (vM μ) v) → w_P sc fr lo 171 7 5 false ((some FieldType.boolean)) prog_9_method_60_code 9 [some (.ref 46), some (.int (ji v)), some (.int (ji (pt (vM μ) v i))), some (.int (ji b)), some (.int (ji (i : Int)))] [] (hp (μ), ρ) (fun o t' => o = .inl (some (.int (ji (b01 (spk (vM μ) v))))) ∧ t' = (hp μ, ρ)) := by
  intro m
  induction m using Nat.strongRecOn with
  | ind m ih =>
    intro i b hm hi hb
    obtain ⟨v1, v2, v3, v4, v5, _⟩ := hG.1 v hv
    have hb01 : b = 0 ∨ b = 1 := hb.elim (fun z => Or.inr z.1) (fun z => Or.inl z.1)
    refine w_ld d_171_9 rfl rfl rfl ?_
    refine w_ld d_171_11 rfl rfl rfl ?_
    refine w_getF d_171_12 (by rfl) (by first | rfl | assumption) (by rfl) (by rfl) ?_
    refine w_ld d_171_15 rfl rfl rfl ?_
    refine w_aI d_171_16 (by first | rfl | assumption) (by omega) (show _ = μ.2.2 53 v from rfl) ?_
    refine w_icmp_ge (g := 64) d_171_17 (by decide) (by omega) (fun h17 => ?_) (fun h17 => ?_)
    · refine w_ld d_171_64 rfl rfl rfl ?_
      refine w_zret d_171_65 rfl (by omega) ?_
      have e : b = b01 (spk (vM μ) v) := by
        rcases hb with ⟨h1, h2⟩ | ⟨h1, h2⟩
        · rw [h1]
          exact (b01_t (fun n hn => h2 n (by have hn : ((2 * n : Nat) : Int) < μ.2.2 53 v := hn; omega))).symm
        · rw [h1]
          exact (b01_f h2).symm
      rw [e]
      exact ⟨rfl, rfl⟩
    · have hpp := hG.1 _ ((hG.2.1 v hv).2 i (by show (i : Int) < μ.2.2 53 v; omega))
      obtain ⟨p1, p2, p3, p4, p5, _⟩ := hpp
      refine w_ld d_171_20 rfl rfl rfl ?_
      refine w_if_eq (g := 47) d_171_21 (by decide) (by omega) (fun h21 => ?_) (fun h21 => ?_)
      · refine w_con d_171_47 ?_
        refine w_st1 (L' := [_, _, _, _, _]) d_171_48 rfl (by decide) rfl (by decide) rfl ?_
        refine w_ld d_171_49 rfl rfl rfl ?_
        refine w_ld d_171_50 rfl rfl rfl ?_
        refine w_getF d_171_51 (by rfl) (by first | rfl | assumption) (by rfl) (by rfl) ?_
        refine w_ld d_171_54 rfl rfl rfl ?_
        refine w_aI d_171_55 (by first | rfl | assumption) (by omega) (by (try simp [stI, stA, stR]) <;> rfl) ?_
        refine w_iadd d_171_56 ?_
        refine w_st1 (L' := [_, _, _, _, _]) d_171_57 rfl (by decide) rfl (by decide) rfl ?_
        refine w_inc (L' := [_, _, _, _, _]) d_171_58 rfl (by decide) rfl ?_
        refine w_goto (g := 9) d_171_61 (by decide) ?_
        exact ih _ (by omega) (i + 1) 0 rfl (by omega) (Or.inr ⟨rfl, hb.elim (fun z => absurd z.1 (by omega)) (fun z => z.2)⟩)
      · have hb1 : ∀ m : Nat, 2 * m < i → μ.2.2 49 (pt (vM μ) v (2 * m)) < 8 := hb.elim (fun z => z.2) (fun z => absurd z.1 h21)
        have hti : (i : Int).tmod 2 = ((i % 2 : Nat) : Int) := rfl
        refine w_ld d_171_24 rfl rfl rfl ?_
        refine w_con d_171_26 ?_
        refine w_irem d_171_27 (by omega) (by decide) ?_
        refine w_con d_171_28 ?_
        refine w_icmp_eq (g := 43) d_171_29 (by decide) (by omega) (fun h29 => ?_) (fun h29 => ?_)
        · refine w_con d_171_43 ?_
          refine w_goto (g := 48) d_171_44 (by decide) ?_
          refine w_st1 (L' := [_, _, _, _, _]) d_171_48 rfl (by decide) rfl (by decide) rfl ?_
          refine w_ld d_171_49 rfl rfl rfl ?_
          refine w_ld d_171_50 rfl rfl rfl ?_
          refine w_getF d_171_51 (by rfl) (by first | rfl | assumption) (by rfl) (by rfl) ?_
          refine w_ld d_171_54 rfl rfl rfl ?_
          refine w_aI d_171_55 (by first | rfl | assumption) (by omega) (by (try simp [stI, stA, stR]) <;> rfl) ?_
          refine w_iadd d_171_56 ?_
          refine w_st1 (L' := [_, _, _, _, _]) d_171_57 rfl (by decide) rfl (by decide) rfl ?_
          refine w_inc (L' := [_, _, _, _, _]) d_171_58 rfl (by decide) rfl ?_
          refine w_goto (g := 9) d_171_61 (by decide) ?_
          exact ih _ (by omega) (i + 1) 1 rfl (by omega) (Or.inl ⟨rfl, fun m hm2 => hb1 m (by omega)⟩)
        · refine w_ld d_171_32 rfl rfl rfl ?_
          refine w_getF d_171_33 (by rfl) (by first | rfl | assumption) (by rfl) (by rfl) ?_
          refine w_ld d_171_36 rfl rfl rfl ?_
          refine w_aI d_171_37 (by first | rfl | assumption) (by omega) (show _ = μ.2.2 49 (pt (vM μ) v i) from rfl) ?_
          refine w_bip d_171_38 (by decide) ?_
          refine w_icmp_ge (g := 47) d_171_40 (by decide) (by omega) (fun h40 => ?_) (fun h40 => ?_)
          · refine w_con d_171_47 ?_
            refine w_st1 (L' := [_, _, _, _, _]) d_171_48 rfl (by decide) rfl (by decide) rfl ?_
            refine w_ld d_171_49 rfl rfl rfl ?_
            refine w_ld d_171_50 rfl rfl rfl ?_
            refine w_getF d_171_51 (by rfl) (by first | rfl | assumption) (by rfl) (by rfl) ?_
            refine w_ld d_171_54 rfl rfl rfl ?_
            refine w_aI d_171_55 (by first | rfl | assumption) (by omega) (by (try simp [stI, stA, stR]) <;> rfl) ?_
            refine w_iadd d_171_56 ?_
            refine w_st1 (L' := [_, _, _, _, _]) d_171_57 rfl (by decide) rfl (by decide) rfl ?_
            refine w_inc (L' := [_, _, _, _, _]) d_171_58 rfl (by decide) rfl ?_
            refine w_goto (g := 9) d_171_61 (by decide) ?_
            exact ih _ (by omega) (i + 1) 0 rfl (by omega) (Or.inr ⟨rfl, fun z => by
              have e : i = 2 * (i / 2) := by omega
              have q : μ.2.2 49 (pt (vM μ) v (2 * (i / 2))) < 8 := z (i / 2) (by show ((2 * (i / 2) : Nat) : Int) < μ.2.2 53 v; omega)
              rw [← e] at q
              omega⟩)
          · refine w_con d_171_43 ?_
            refine w_goto (g := 48) d_171_44 (by decide) ?_
            refine w_st1 (L' := [_, _, _, _, _]) d_171_48 rfl (by decide) rfl (by decide) rfl ?_
            refine w_ld d_171_49 rfl rfl rfl ?_
            refine w_ld d_171_50 rfl rfl rfl ?_
            refine w_getF d_171_51 (by rfl) (by first | rfl | assumption) (by rfl) (by rfl) ?_
            refine w_ld d_171_54 rfl rfl rfl ?_
            refine w_aI d_171_55 (by first | rfl | assumption) (by omega) (by (try simp [stI, stA, stR]) <;> rfl) ?_
            refine w_iadd d_171_56 ?_
            refine w_st1 (L' := [_, _, _, _, _]) d_171_57 rfl (by decide) rfl (by decide) rfl ?_
            refine w_inc (L' := [_, _, _, _, _]) d_171_58 rfl (by decide) rfl ?_
            refine w_goto (g := 9) d_171_61 (by decide) ?_
            exact ih _ (by omega) (i + 1) 1 rfl (by omega) (Or.inl ⟨rfl, fun m hm2 => by
              by_cases z : 2 * m = i
              · rw [z]; exact h40
              · exact hb1 m (by omega)⟩)
theorem m_all {sc : Nat × (Nat → Int32)} {fr lo : Nat} {μ : Mem} {ρ : Nat × Nat × Nat} {C : Int → Prop} (hG : MRg C μ) {v : Int} (hv : C v) : w_E sc fr lo 171 [.ref 46, .int (ji v)] (hp μ, ρ) (.inl (some (.int (ji (b01 (spk (vM μ) v)))))) (hp μ, ρ) := by
  refine w_S.of (L0 := [some (.ref 46), some (.int (ji v)), none, none, none]) rfl rfl (Nat.le_of_ble_eq_true rfl) (by rfl) ?_
  refine w_ld d_171_0 rfl rfl rfl ?_
  refine w_con d_171_1 ?_
  refine w_iadd d_171_2 ?_
  refine w_st1 (L' := [_, _, _, _, _]) d_171_3 rfl (by decide) rfl (by decide) rfl ?_
  refine w_con d_171_4 ?_
  refine w_st1 (L' := [_, _, _, _, _]) d_171_5 rfl (by decide) rfl (by decide) rfl ?_
  refine w_con d_171_6 ?_
  refine w_st1 (L' := [_, _, _, _, _]) d_171_7 rfl (by decide) rfl (by decide) rfl ?_
  exact m_all_l hG hv _ 0 1 rfl (by have := (hG.1 v hv).2.2.2.1; show ((0 : Nat) : Int) ≤ _; omega) (Or.inl ⟨rfl, fun m hm2 => absurd hm2 (Nat.not_lt_zero _)⟩)
