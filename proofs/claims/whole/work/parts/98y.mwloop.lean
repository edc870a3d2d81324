/-! THE PURE PART, 99f: contracts: the reference's loop over what is open -/
/-- the head of the loop -/
def hdP (sc : Nat × (Nat → Int32)) (fr lo : Nat) (ρ : Nat × Nat × Nat) (r : Int) (Q : z_O → z_T → Prop) (μ : Mem) : Prop := w_P sc fr lo 154 7 5 false (none) prog_9_method_62_code 74 [some (.ref 46), some (.int (ji r)), none, none, none] [] (hp μ, ρ) Q
/-- a part is begun: the frame goes on -/
def wud (μ : Mem) (f p l ak : Int) : Mem := stA (stA (stA (stA μ 67 f 1) 66 f l) 65 f p) 69 f ak
theorem wud_o {μ : Mem} {f p l ak : Int} {a : Nat} {q : Int} (h : ¬ q = f ∨ (a ≠ 65 ∧ a ≠ 66 ∧ a ≠ 67 ∧ a ≠ 69)) : (wud μ f p l ak).2.2 a q = μ.2.2 a q := by
  unfold wud
  rw [stA_ne (by omega), stA_ne (by omega), stA_ne (by omega), stA_ne (by omega)]
theorem wud_o2 {μ : Mem} {f p l ak : Int} {a : Nat} (h : a ≠ 65 ∧ a ≠ 66 ∧ a ≠ 67 ∧ a ≠ 69) : (wud μ f p l ak).2.2 a = μ.2.2 a := by
  funext q
  exact wud_o (Or.inr h)
theorem wud_F {μ : Mem} {f p l ak p0 l0 c0 kd ak0 e : Int} (h : FRM μ f p0 l0 c0 kd ak0 e) : FRM (wud μ f p l ak) f p l 1 kd ak e := by
  obtain ⟨h1, h2, h3, h4, h5, h6⟩ := h
  unfold wud
  refine ⟨?_, ?_, ?_, ?_, stA_at _ _ _ _, ?_⟩
  · rw [stA_ne (by omega), stA_at]
  · rw [stA_ne (by omega), stA_ne (by omega), stA_at]
  · rw [stA_ne (by omega), stA_ne (by omega), stA_ne (by omega), stA_at]
  · rw [stA_ne (by omega), stA_ne (by omega), stA_ne (by omega), stA_ne (by omega)]; exact h4
  · rw [stA_ne (by omega), stA_ne (by omega), stA_ne (by omega), stA_ne (by omega)]; exact h6
theorem wud_M {s : Option (List Int × List (List Int))} {μ : Mem} {f p l ak : Int} (h : MS s μ) : MS s (wud μ f p l ak) := MS_eq (μ := μ) ⟨rfl, rfl⟩ rfl (wud_o2 (by omega)) (wud_o2 (by omega)) (wud_o2 (by omega)) (wud_o2 (by omega)) h
theorem wud_w {μ : Mem} {f p l ak : Int} : mw1 μ (wud μ f p l ak) := ⟨fun _ _ _ => rfl, rfl, fun a z => wud_o2 (by omega)⟩
theorem FRM_eq {μ μ' : Mem} {q p l c kd ak e : Int} (h : ∀ a, 65 ≤ a → a ≤ 70 → μ'.2.2 a q = μ.2.2 a q) (g : FRM μ q p l c kd ak e) : FRM μ' q p l c kd ak e := by
  obtain ⟨h1, h2, h3, h4, h5, h6⟩ := g
  exact ⟨(h 65 (by omega) (by omega)).trans h1, (h 66 (by omega) (by omega)).trans h2, (h 67 (by omega) (by omega)).trans h3, (h 68 (by omega) (by omega)).trans h4, (h 69 (by omega) (by omega)).trans h5, (h 70 (by omega) (by omega)).trans h6⟩
/-- a comma, where one is due -/
def cma (c : Int) (s : Option (List Int × List (List Int))) : Option (List Int × List (List Int)) := if c = 0 then s else wap s [44]
theorem m_wa_part {sc : Nat × (Nat → Int32)} {fr lo : Nat} {ρ : Nat × Nat × Nat} {r : Int} {Q : z_O → z_T → Prop} {μ : Mem} {s : Option (List Int × List (List Int))} (hS : MS s μ) (hb : μ.1 46 31 = 0) (h33 : 0 ≤ μ.1 46 33 ∧ μ.1 46 33 ≤ 10) {p l c kd ak e : Int} (hF : FRM μ (μ.1 46 33) p l c kd ak e) (hl0 : 0 < l ∧ l < 1000) (hc : c = 0 ∨ c = 1) (hkd : kd = 0 ∨ kd = 1) (hak : ak = 0 ∨ ak = 1) (hp0 : 0 ≤ p ∧ p < 384) (hf : 14 ≤ fr) (hl : 600 ≤ lo) (K : ∀ μ2, MS (cma c s) μ2 → mw1 μ μ2 → μ2.1 46 32 = μ.1 46 32 → μ2.1 46 33 = μ.1 46 33 → FRM μ2 (μ.1 46 33) (p + μ.2.2 54 p) (l - 1) 1 kd (if kd = 1 ∧ ak = 0 then 1 else 0) e → (∀ a, 65 ≤ a → a ≤ 70 → ∀ q, q < μ.1 46 33 → μ2.2.2 a q = μ.2.2 a q) → w_S sc (fr - 1) (lo - (19 + 6)) 170 [.ref 46, .int (ji p), .int (ji ak)] (hp μ2, ρ) (fun o τ => o = .inl none ∧ ∃ μ3, τ = (hp μ3, ρ) ∧ hdP sc fr lo ρ r Q μ3)) : hdP sc fr lo ρ r Q μ := by
  unfold hdP at K ⊢
  refine w_ld d_154_74 rfl rfl rfl ?_
  refine w_gI d_154_75 (by rfl) (by first | rfl | assumption) (by rfl) (show _ = μ.1 46 33 from rfl) ?_
  refine w_if_lt (g := 249) d_154_78 (by decide) (by omega) (fun h78 => ?_) (fun h78 => ?_)
  · exact absurd h78 (by omega)
  · refine w_ld d_154_81 rfl rfl rfl ?_
    refine w_gI d_154_82 (by rfl) (by first | rfl | assumption) (by rfl) (show _ = μ.1 46 31 from rfl) ?_
    refine w_if_ne (g := 249) d_154_85 (by decide) (by omega) (fun h85 => ?_) (fun h85 => ?_)
    · exact absurd h85 (by omega)
    · refine w_ld d_154_88 rfl rfl rfl ?_
      refine w_gI d_154_89 (by rfl) (by first | rfl | assumption) (by rfl) (show _ = μ.1 46 33 from rfl) ?_
      refine w_st1 (L' := [_, _, _, _, _]) d_154_92 rfl (by decide) rfl (by decide) rfl ?_
      refine w_ld d_154_93 rfl rfl rfl ?_
      refine w_getF d_154_94 (by rfl) (by first | rfl | assumption) (by rfl) (by rfl) ?_
      refine w_ld d_154_97 rfl rfl rfl ?_
      refine w_aI d_154_98 (by first | rfl | assumption) (by omega) hF.2.1 ?_
      refine w_if_le (g := 202) d_154_99 (by decide) (by omega) (fun h99 => ?_) (fun h99 => ?_)
      · exact absurd h99 (by omega)
      · refine w_ld d_154_102 rfl rfl rfl ?_
        refine w_getF d_154_103 (by rfl) (by first | rfl | assumption) (by rfl) (by rfl) ?_
        refine w_ld d_154_106 rfl rfl rfl ?_
        refine w_aI d_154_107 (by first | rfl | assumption) (by omega) hF.1 ?_
        refine w_st1 (L' := [_, _, _, _, _]) d_154_108 rfl (by decide) rfl (by decide) rfl ?_
        refine w_ld d_154_109 rfl rfl rfl ?_
        refine w_getF d_154_110 (by rfl) (by first | rfl | assumption) (by rfl) (by rfl) ?_
        refine w_ld d_154_113 rfl rfl rfl ?_
        refine w_aB d_154_114 (by first | rfl | assumption) (by omega) hF.2.2.2.2.1 ?_
        refine w_st1 (L' := [_, _, _, _, _]) d_154_115 rfl (by decide) rfl (by decide) rfl ?_
        refine w_ld d_154_117 rfl rfl rfl ?_
        refine w_getF d_154_118 (by rfl) (by first | rfl | assumption) (by rfl) (by rfl) ?_
        refine w_ld d_154_121 rfl rfl rfl ?_
        refine w_aB d_154_122 (by first | rfl | assumption) (by omega) hF.2.2.1 ?_
        refine w_if_eq (g := 132) d_154_123 (by decide) (by omega) (fun h123 => ?_) (fun h123 => ?_)
        · have hF1 := hF
          have h54 : μ.2.2 54 p = μ.2.2 54 p := rfl
          have h65 : ∀ a, 65 ≤ a → a ≤ 70 → μ.2.2 a = μ.2.2 a := fun _ _ _ => rfl
          have hS1 : MS (cma c s) μ := by rw [show cma c s = s from if_pos h123]; exact hS
          have rfl2 : μ.1 46 32 = μ.1 46 32 := rfl
          have rfl3 : μ.1 46 33 = μ.1 46 33 := rfl
          refine w_ld d_154_132 rfl rfl rfl ?_
          refine w_getF d_154_133 (by rfl) (by first | rfl | assumption) (by rfl) (by rfl) ?_
          refine w_ld d_154_136 rfl rfl rfl ?_
          refine w_con d_154_137 ?_
          refine w_bast d_154_138 (by first | rfl | assumption) (by omega) (by omega) ?_
          refine w_ld d_154_139 rfl rfl rfl ?_
          refine w_getF d_154_140 (by rfl) (by first | rfl | assumption) (by rfl) (by rfl) ?_
          refine w_ld d_154_143 rfl rfl rfl ?_
          refine w_ld d_154_144 rfl rfl rfl ?_
          refine w_getF d_154_145 (by rfl) (by first | rfl | assumption) (by rfl) (by rfl) ?_
          refine w_ld d_154_148 rfl rfl rfl ?_
          refine w_aI d_154_149 (by first | rfl | assumption) (by omega) (show _ = l from (stA_ne (by omega)).trans hF1.2.1) ?_
          refine w_con d_154_150 ?_
          refine w_isub d_154_151 ?_
          refine w_iast d_154_152 (by first | rfl | assumption) (by omega) ?_
          refine w_ld d_154_153 rfl rfl rfl ?_
          refine w_getF d_154_154 (by rfl) (by first | rfl | assumption) (by rfl) (by rfl) ?_
          refine w_ld d_154_157 rfl rfl rfl ?_
          refine w_ld d_154_158 rfl rfl rfl ?_
          refine w_ld d_154_159 rfl rfl rfl ?_
          refine w_getF d_154_160 (by rfl) (by first | rfl | assumption) (by rfl) (by rfl) ?_
          refine w_ld d_154_163 rfl rfl rfl ?_
          refine w_aI d_154_164 (by first | rfl | assumption) (by omega) (show _ = μ.2.2 54 p from (stA_ne (by omega)).trans ((stA_ne (by omega)).trans h54)) ?_
          refine w_iadd d_154_165 ?_
          refine w_iast d_154_166 (by first | rfl | assumption) (by omega) ?_
          refine w_ld d_154_167 rfl rfl rfl ?_
          refine w_getF d_154_168 (by rfl) (by first | rfl | assumption) (by rfl) (by rfl) ?_
          refine w_ld d_154_171 rfl rfl rfl ?_
          refine w_ld d_154_172 rfl rfl rfl ?_
          refine w_getF d_154_173 (by rfl) (by first | rfl | assumption) (by rfl) (by rfl) ?_
          refine w_ld d_154_176 rfl rfl rfl ?_
          refine w_aB d_154_177 (by first | rfl | assumption) (by omega) (show _ = kd from (stA_ne (by omega)).trans ((stA_ne (by omega)).trans ((stA_ne (by omega)).trans hF1.2.2.2.1))) ?_
          refine w_if_eq (g := 190) d_154_178 (by decide) (by omega) (fun h178 => ?_) (fun h178 => ?_)
          · refine w_con d_154_190 ?_
            refine w_bast d_154_191 (by first | rfl | assumption) (by omega) (by omega) ?_
            refine w_ld d_154_192 rfl rfl rfl ?_
            refine w_ld d_154_193 rfl rfl rfl ?_
            refine w_ld d_154_194 rfl rfl rfl ?_
            refine w_cVq (a := 46) (as := [_, _]) (rest := _) rfl d_154_196 (by rfl) (by rfl) (by first | rfl | assumption) (by rfl) (by rfl) (Nat.le_of_ble_eq_true rfl) (by omega) (by omega) (K (wud μ (μ.1 46 33) (p + μ.2.2 54 p) (l - 1) 0) (wud_M hS1) (wud_w) rfl2 rfl3 (by have z := wud_F (p := p + μ.2.2 54 p) (l := l - 1) (ak := 0) hF1; rwa [show (if kd = 1 ∧ ak = 0 then (1 : Int) else 0) = 0 from if_neg (by omega)]) (fun a a1 a2 q hq => (wud_o (Or.inl (by omega))).trans (by rw [h65 a a1 a2]))) ?_ ?_
            rotate_left
            · rintro r τ ⟨hv9, _⟩
              cases hv9
            rintro vv9 τ9 ⟨hv9, μ9, rfl, hH⟩
            obtain rfl := Sum.inl.inj hv9
            refine w_goto (g := 246) d_154_199 (by decide) ?_
            refine w_goto (g := 74) d_154_246 (by decide) ?_
            exact w_P.le hH ⟨rfl, rfl, trivial⟩
          · refine w_ld d_154_181 rfl rfl rfl ?_
            refine w_if_ne (g := 190) d_154_183 (by decide) (by omega) (fun h183 => ?_) (fun h183 => ?_)
            · refine w_con d_154_190 ?_
              refine w_bast d_154_191 (by first | rfl | assumption) (by omega) (by omega) ?_
              refine w_ld d_154_192 rfl rfl rfl ?_
              refine w_ld d_154_193 rfl rfl rfl ?_
              refine w_ld d_154_194 rfl rfl rfl ?_
              refine w_cVq (a := 46) (as := [_, _]) (rest := _) rfl d_154_196 (by rfl) (by rfl) (by first | rfl | assumption) (by rfl) (by rfl) (Nat.le_of_ble_eq_true rfl) (by omega) (by omega) (K (wud μ (μ.1 46 33) (p + μ.2.2 54 p) (l - 1) 0) (wud_M hS1) (wud_w) rfl2 rfl3 (by have z := wud_F (p := p + μ.2.2 54 p) (l := l - 1) (ak := 0) hF1; rwa [show (if kd = 1 ∧ ak = 0 then (1 : Int) else 0) = 0 from if_neg (by omega)]) (fun a a1 a2 q hq => (wud_o (Or.inl (by omega))).trans (by rw [h65 a a1 a2]))) ?_ ?_
              rotate_left
              · rintro r τ ⟨hv9, _⟩
                cases hv9
              rintro vv9 τ9 ⟨hv9, μ9, rfl, hH⟩
              obtain rfl := Sum.inl.inj hv9
              refine w_goto (g := 246) d_154_199 (by decide) ?_
              refine w_goto (g := 74) d_154_246 (by decide) ?_
              exact w_P.le hH ⟨rfl, rfl, trivial⟩
            · refine w_con d_154_186 ?_
              refine w_goto (g := 191) d_154_187 (by decide) ?_
              refine w_bast d_154_191 (by first | rfl | assumption) (by omega) (by omega) ?_
              refine w_ld d_154_192 rfl rfl rfl ?_
              refine w_ld d_154_193 rfl rfl rfl ?_
              refine w_ld d_154_194 rfl rfl rfl ?_
              refine w_cVq (a := 46) (as := [_, _]) (rest := _) rfl d_154_196 (by rfl) (by rfl) (by first | rfl | assumption) (by rfl) (by rfl) (Nat.le_of_ble_eq_true rfl) (by omega) (by omega) (K (wud μ (μ.1 46 33) (p + μ.2.2 54 p) (l - 1) 1) (wud_M hS1) (wud_w) rfl2 rfl3 (by have z := wud_F (p := p + μ.2.2 54 p) (l := l - 1) (ak := 1) hF1; rwa [show (if kd = 1 ∧ ak = 0 then (1 : Int) else 0) = 1 from if_pos (by omega)]) (fun a a1 a2 q hq => (wud_o (Or.inl (by omega))).trans (by rw [h65 a a1 a2]))) ?_ ?_
              rotate_left
              · rintro r τ ⟨hv9, _⟩
                cases hv9
              rintro vv9 τ9 ⟨hv9, μ9, rfl, hH⟩
              obtain rfl := Sum.inl.inj hv9
              refine w_goto (g := 246) d_154_199 (by decide) ?_
              refine w_goto (g := 74) d_154_246 (by decide) ?_
              exact w_P.le hH ⟨rfl, rfl, trivial⟩
        · refine w_ld d_154_126 rfl rfl rfl ?_
          refine w_bip d_154_127 (by decide) ?_
          refine w_cVq (a := 46) (as := [_]) (rest := _) rfl d_154_129 (by rfl) (by rfl) (by first | rfl | assumption) (by rfl) (by rfl) (Nat.le_of_ble_eq_true rfl) (by omega) (by omega) (m_pu hS) ?_ ?_
          rotate_left
          · rintro r τ ⟨hv9, _⟩
            cases hv9
          rintro vv1 τ1 ⟨hv1, μ1, rfl, hS1, hf1⟩
          obtain rfl := Sum.inl.inj hv1
          have hF1 : FRM μ1 (μ.1 46 33) p l c kd ak e := FRM_eq (fun a _ _ => by rw [hf1.2.2 a (by omega)]) hF
          have h54 : μ1.2.2 54 p = μ.2.2 54 p := by rw [hf1.2.2 54 (by omega)]
          have h65 : ∀ a, 65 ≤ a → a ≤ 70 → μ1.2.2 a = μ.2.2 a := fun a _ _ => hf1.2.2 a (by omega)
          have hS1 : MS (cma c s) μ1 := by rw [show cma c s = wap s [44] from if_neg h123]; exact hS1
          have rfl2 : μ1.1 46 32 = μ.1 46 32 := hf1.1 46 32 (by omega)
          have rfl3 : μ1.1 46 33 = μ.1 46 33 := hf1.1 46 33 (by omega)
          refine w_ld d_154_132 rfl rfl rfl ?_
          refine w_getF d_154_133 (by rfl) (by first | rfl | assumption) (by rfl) (by rfl) ?_
          refine w_ld d_154_136 rfl rfl rfl ?_
          refine w_con d_154_137 ?_
          refine w_bast d_154_138 (by first | rfl | assumption) (by omega) (by omega) ?_
          refine w_ld d_154_139 rfl rfl rfl ?_
          refine w_getF d_154_140 (by rfl) (by first | rfl | assumption) (by rfl) (by rfl) ?_
          refine w_ld d_154_143 rfl rfl rfl ?_
          refine w_ld d_154_144 rfl rfl rfl ?_
          refine w_getF d_154_145 (by rfl) (by first | rfl | assumption) (by rfl) (by rfl) ?_
          refine w_ld d_154_148 rfl rfl rfl ?_
          refine w_aI d_154_149 (by first | rfl | assumption) (by omega) (show _ = l from (stA_ne (by omega)).trans hF1.2.1) ?_
          refine w_con d_154_150 ?_
          refine w_isub d_154_151 ?_
          refine w_iast d_154_152 (by first | rfl | assumption) (by omega) ?_
          refine w_ld d_154_153 rfl rfl rfl ?_
          refine w_getF d_154_154 (by rfl) (by first | rfl | assumption) (by rfl) (by rfl) ?_
          refine w_ld d_154_157 rfl rfl rfl ?_
          refine w_ld d_154_158 rfl rfl rfl ?_
          refine w_ld d_154_159 rfl rfl rfl ?_
          refine w_getF d_154_160 (by rfl) (by first | rfl | assumption) (by rfl) (by rfl) ?_
          refine w_ld d_154_163 rfl rfl rfl ?_
          refine w_aI d_154_164 (by first | rfl | assumption) (by omega) (show _ = μ.2.2 54 p from (stA_ne (by omega)).trans ((stA_ne (by omega)).trans h54)) ?_
          refine w_iadd d_154_165 ?_
          refine w_iast d_154_166 (by first | rfl | assumption) (by omega) ?_
          refine w_ld d_154_167 rfl rfl rfl ?_
          refine w_getF d_154_168 (by rfl) (by first | rfl | assumption) (by rfl) (by rfl) ?_
          refine w_ld d_154_171 rfl rfl rfl ?_
          refine w_ld d_154_172 rfl rfl rfl ?_
          refine w_getF d_154_173 (by rfl) (by first | rfl | assumption) (by rfl) (by rfl) ?_
          refine w_ld d_154_176 rfl rfl rfl ?_
          refine w_aB d_154_177 (by first | rfl | assumption) (by omega) (show _ = kd from (stA_ne (by omega)).trans ((stA_ne (by omega)).trans ((stA_ne (by omega)).trans hF1.2.2.2.1))) ?_
          refine w_if_eq (g := 190) d_154_178 (by decide) (by omega) (fun h178 => ?_) (fun h178 => ?_)
          · refine w_con d_154_190 ?_
            refine w_bast d_154_191 (by first | rfl | assumption) (by omega) (by omega) ?_
            refine w_ld d_154_192 rfl rfl rfl ?_
            refine w_ld d_154_193 rfl rfl rfl ?_
            refine w_ld d_154_194 rfl rfl rfl ?_
            refine w_cVq (a := 46) (as := [_, _]) (rest := _) rfl d_154_196 (by rfl) (by rfl) (by first | rfl | assumption) (by rfl) (by rfl) (Nat.le_of_ble_eq_true rfl) (by omega) (by omega) (K (wud μ1 (μ.1 46 33) (p + μ.2.2 54 p) (l - 1) 0) (wud_M hS1) (mw1_trans hf1.mw.mw wud_w) rfl2 rfl3 (by have z := wud_F (p := p + μ.2.2 54 p) (l := l - 1) (ak := 0) hF1; rwa [show (if kd = 1 ∧ ak = 0 then (1 : Int) else 0) = 0 from if_neg (by omega)]) (fun a a1 a2 q hq => (wud_o (Or.inl (by omega))).trans (by rw [h65 a a1 a2]))) ?_ ?_
            rotate_left
            · rintro r τ ⟨hv9, _⟩
              cases hv9
            rintro vv9 τ9 ⟨hv9, μ9, rfl, hH⟩
            obtain rfl := Sum.inl.inj hv9
            refine w_goto (g := 246) d_154_199 (by decide) ?_
            refine w_goto (g := 74) d_154_246 (by decide) ?_
            exact w_P.le hH ⟨rfl, rfl, trivial⟩
          · refine w_ld d_154_181 rfl rfl rfl ?_
            refine w_if_ne (g := 190) d_154_183 (by decide) (by omega) (fun h183 => ?_) (fun h183 => ?_)
            · refine w_con d_154_190 ?_
              refine w_bast d_154_191 (by first | rfl | assumption) (by omega) (by omega) ?_
              refine w_ld d_154_192 rfl rfl rfl ?_
              refine w_ld d_154_193 rfl rfl rfl ?_
              refine w_ld d_154_194 rfl rfl rfl ?_
              refine w_cVq (a := 46) (as := [_, _]) (rest := _) rfl d_154_196 (by rfl) (by rfl) (by first | rfl | assumption) (by rfl) (by rfl) (Nat.le_of_ble_eq_true rfl) (by omega) (by omega) (K (wud μ1 (μ.1 46 33) (p + μ.2.2 54 p) (l - 1) 0) (wud_M hS1) (mw1_trans hf1.mw.mw wud_w) rfl2 rfl3 (by have z := wud_F (p := p + μ.2.2 54 p) (l := l - 1) (ak := 0) hF1; rwa [show (if kd = 1 ∧ ak = 0 then (1 : Int) else 0) = 0 from if_neg (by omega)]) (fun a a1 a2 q hq => (wud_o (Or.inl (by omega))).trans (by rw [h65 a a1 a2]))) ?_ ?_
              rotate_left
              · rintro r τ ⟨hv9, _⟩
                cases hv9
              rintro vv9 τ9 ⟨hv9, μ9, rfl, hH⟩
              obtain rfl := Sum.inl.inj hv9
              refine w_goto (g := 246) d_154_199 (by decide) ?_
              refine w_goto (g := 74) d_154_246 (by decide) ?_
              exact w_P.le hH ⟨rfl, rfl, trivial⟩
            · refine w_con d_154_186 ?_
              refine w_goto (g := 191) d_154_187 (by decide) ?_
              refine w_bast d_154_191 (by first | rfl | assumption) (by omega) (by omega) ?_
              refine w_ld d_154_192 rfl rfl rfl ?_
              refine w_ld d_154_193 rfl rfl rfl ?_
              refine w_ld d_154_194 rfl rfl rfl ?_
              refine w_cVq (a := 46) (as := [_, _]) (rest := _) rfl d_154_196 (by rfl) (by rfl) (by first | rfl | assumption) (by rfl) (by rfl) (Nat.le_of_ble_eq_true rfl) (by omega) (by omega) (K (wud μ1 (μ.1 46 33) (p + μ.2.2 54 p) (l - 1) 1) (wud_M hS1) (mw1_trans hf1.mw.mw wud_w) rfl2 rfl3 (by have z := wud_F (p := p + μ.2.2 54 p) (l := l - 1) (ak := 1) hF1; rwa [show (if kd = 1 ∧ ak = 0 then (1 : Int) else 0) = 1 from if_pos (by omega)]) (fun a a1 a2 q hq => (wud_o (Or.inl (by omega))).trans (by rw [h65 a a1 a2]))) ?_ ?_
              rotate_left
              · rintro r τ ⟨hv9, _⟩
                cases hv9
              rintro vv9 τ9 ⟨hv9, μ9, rfl, hH⟩
              obtain rfl := Sum.inl.inj hv9
              refine w_goto (g := 246) d_154_199 (by decide) ?_
              refine w_goto (g := 74) d_154_246 (by decide) ?_
              exact w_P.le hH ⟨rfl, rfl, trivial⟩
theorem m_wa_close_l {sc : Nat × (Nat → Int32)} {fr lo : Nat} {ρ : Nat × Nat × Nat} {r : Int} {Q : z_O → z_T → Prop} {s : Option (List Int × List (List Int))} {μ : Mem} {e : Nat} (he : e ≤ 2) (h33 : 0 ≤ μ.1 46 33 ∧ μ.1 46 33 ≤ 10) (h32 : 0 ≤ μ.1 46 32 ∧ μ.1 46 32 ≤ 20) (h70 : μ.2.2 70 (μ.1 46 33) = e) (hf : 14 ≤ fr) (hl : 600 ≤ lo) (K : ∀ μ2, MS (wap s (List.replicate e 93)) μ2 → mw1 μ μ2 → μ2.1 46 32 = μ.1 46 32 - e → μ2.1 46 33 = μ.1 46 33 - 1 → (∀ a, 65 ≤ a → a ≤ 70 → μ2.2.2 a = μ.2.2 a) → hdP sc fr lo ρ r Q μ2) : ∀ (m : Nat) (j : Nat) (μ1 : Mem), ((e : Int) - j).toNat = m → j ≤ e → MS (wap s (List.replicate j 93)) μ1 → μ1.1 46 32 = μ.1 46 32 - j → (∀ a q, ¬ (a = 46 ∧ (q = 30 ∨ q = 31 ∨ q = 32)) → μ1.1 a q = μ.1 a q) → μ1.2.1 = μ.2.1 → (∀ a, a ≠ 64 → μ1.2.2 a = μ.2.2 a) → w_P sc fr lo 154 7 5 false (none) prog_9_method_62_code 204 [some (.ref 46), some (.int (ji r)), some (.int (ji (μ.1 46 33))), some (.int (ji (j : Int))), none] [] (hp (μ1), ρ) Q := by
  intro m
  induction m using Nat.strongRecOn with
  | ind m ih =>
    intro j μ1 hm hj hS1 h1 a1 a2 a3
    unfold hdP at K
    refine w_ld d_154_204 rfl rfl rfl ?_
    refine w_ld d_154_205 rfl rfl rfl ?_
    refine w_getF d_154_206 (by rfl) (by first | rfl | assumption) (by rfl) (by rfl) ?_
    refine w_ld d_154_209 rfl rfl rfl ?_
    refine w_aI d_154_210 (by first | rfl | assumption) (by omega) (show _ = (e : Int) by rw [a3 70 (by omega)]; exact h70) ?_
    refine w_icmp_ge (g := 236) d_154_211 (by decide) (by omega) (fun h211 => ?_) (fun h211 => ?_)
    · refine w_ld d_154_236 rfl rfl rfl ?_
      refine w_stk d_154_237 rfl ?_
      refine w_gI d_154_238 (by rfl) (by first | rfl | assumption) (by rfl) (show _ = μ.1 46 33 from a1 46 33 (by omega)) ?_
      refine w_con d_154_241 ?_
      refine w_isub d_154_242 ?_
      refine w_putI d_154_243 (by rfl) (by first | rfl | assumption) (by rfl) (fit_I (by rfl)) (by rfl) ?_
      refine w_goto (g := 74) d_154_246 (by decide) ?_
      obtain rfl : j = e := by omega
      exact w_P.le (K _ (MS_eq ⟨stI_ne (by omega), stI_ne (by omega)⟩ (stI_ne (by omega)) rfl rfl rfl rfl hS1) ⟨fun a q z => (stI_ne (by omega)).trans (a1 a q (by omega)), a2, fun a z => a3 a (by omega)⟩ ((stI_ne (by omega)).trans h1) (stI_at _ _ _ _) (fun a z1 z2 => a3 a (by omega))) ⟨rfl, rfl, trivial⟩
    · refine w_ld d_154_214 rfl rfl rfl ?_
      refine w_bip d_154_215 (by decide) ?_
      refine w_cVq (a := 46) (as := [_]) (rest := _) rfl d_154_217 (by rfl) (by rfl) (by first | rfl | assumption) (by rfl) (by rfl) (Nat.le_of_ble_eq_true rfl) (by omega) (by omega) (m_pu hS1) ?_ ?_
      rotate_left
      · rintro r τ ⟨hv9, _⟩
        cases hv9
      rintro vv2 τ2 ⟨hv2, μ2, rfl, hS2, hf2⟩
      obtain rfl := Sum.inl.inj hv2
      rw [wap_wap, ← List.replicate_succ'] at hS2
      refine w_ld d_154_220 rfl rfl rfl ?_
      refine w_stk d_154_221 rfl ?_
      refine w_gI d_154_222 (by rfl) (by first | rfl | assumption) (by rfl) (show _ = μ1.1 46 32 from hf2.1 46 32 (by omega)) ?_
      refine w_con d_154_225 ?_
      refine w_isub d_154_226 ?_
      refine w_putI d_154_227 (by rfl) (by first | rfl | assumption) (by rfl) (fit_I (by rfl)) (by rfl) ?_
      refine w_inc (L' := [_, _, _, _, _]) d_154_230 rfl (by decide) rfl ?_
      refine w_goto (g := 204) d_154_233 (by decide) ?_
      exact ih _ (by omega) (j + 1) _ rfl (by omega) (MS_eq ⟨stI_ne (by omega), stI_ne (by omega)⟩ (stI_ne (by omega)) rfl rfl rfl rfl hS2) ((stI_at _ _ _ _).trans (by omega)) (fun a q z => (stI_ne (by omega)).trans ((hf2.1 a q (by omega)).trans (a1 a q z))) (hf2.2.1.trans a2) (fun a z => (hf2.2.2 a z).trans (a3 a z))
theorem m_wa_close {sc : Nat × (Nat → Int32)} {fr lo : Nat} {ρ : Nat × Nat × Nat} {r : Int} {Q : z_O → z_T → Prop} {μ : Mem} {s : Option (List Int × List (List Int))} (hS : MS s μ) (hb : μ.1 46 31 = 0) (h33 : 0 ≤ μ.1 46 33 ∧ μ.1 46 33 ≤ 10) (h32 : 0 ≤ μ.1 46 32 ∧ μ.1 46 32 ≤ 20) {p c kd ak : Int} {e : Nat} (he : e ≤ 2) (hF : FRM μ (μ.1 46 33) p 0 c kd ak e) (hf : 14 ≤ fr) (hl : 600 ≤ lo) (K : ∀ μ2, MS (wap s (List.replicate e 93)) μ2 → mw1 μ μ2 → μ2.1 46 32 = μ.1 46 32 - e → μ2.1 46 33 = μ.1 46 33 - 1 → (∀ a, 65 ≤ a → a ≤ 70 → μ2.2.2 a = μ.2.2 a) → hdP sc fr lo ρ r Q μ2) : hdP sc fr lo ρ r Q μ := by
  unfold hdP
  refine w_ld d_154_74 rfl rfl rfl ?_
  refine w_gI d_154_75 (by rfl) (by first | rfl | assumption) (by rfl) (show _ = μ.1 46 33 from rfl) ?_
  refine w_if_lt (g := 249) d_154_78 (by decide) (by omega) (fun h78 => ?_) (fun h78 => ?_)
  · exact absurd h78 (by omega)
  · refine w_ld d_154_81 rfl rfl rfl ?_
    refine w_gI d_154_82 (by rfl) (by first | rfl | assumption) (by rfl) (show _ = μ.1 46 31 from rfl) ?_
    refine w_if_ne (g := 249) d_154_85 (by decide) (by omega) (fun h85 => ?_) (fun h85 => ?_)
    · exact absurd h85 (by omega)
    · refine w_ld d_154_88 rfl rfl rfl ?_
      refine w_gI d_154_89 (by rfl) (by first | rfl | assumption) (by rfl) (show _ = μ.1 46 33 from rfl) ?_
      refine w_st1 (L' := [_, _, _, _, _]) d_154_92 rfl (by decide) rfl (by decide) rfl ?_
      refine w_ld d_154_93 rfl rfl rfl ?_
      refine w_getF d_154_94 (by rfl) (by first | rfl | assumption) (by rfl) (by rfl) ?_
      refine w_ld d_154_97 rfl rfl rfl ?_
      refine w_aI d_154_98 (by first | rfl | assumption) (by omega) hF.2.1 ?_
      refine w_if_le (g := 202) d_154_99 (by decide) (by omega) (fun h99 => ?_) (fun h99 => ?_)
      · refine w_con d_154_202 ?_
        refine w_st1 (L' := [_, _, _, _, _]) d_154_203 rfl (by decide) rfl (by decide) rfl ?_
        exact m_wa_close_l he h33 h32 hF.2.2.2.2.2 hf hl K _ 0 μ rfl (Nat.zero_le _) (by rw [show List.replicate 0 (93 : Int) = [] from rfl, wap_nil hS]; exact hS) (by omega) (fun _ _ _ => rfl) rfl (fun _ _ => rfl)
      · exact absurd h99 (by omega)
/-- the loop ends -/
theorem m_wa_end {sc : Nat × (Nat → Int32)} {fr lo : Nat} {ρ : Nat × Nat × Nat} {r : Int} {Q : z_O → z_T → Prop} {μ : Mem} (hb : μ.1 46 31 = 0 ∨ μ.1 46 31 = 1) (h : μ.1 46 31 = 1 ∨ μ.1 46 33 = -1) (h33 : -1 ≤ μ.1 46 33 ∧ μ.1 46 33 ≤ 12) (hQ : Q (.inl none) (hp μ, ρ)) : hdP sc fr lo ρ r Q μ := by
  unfold hdP
  refine w_ld d_154_74 rfl rfl rfl ?_
  refine w_gI d_154_75 (by rfl) (by first | rfl | assumption) (by rfl) (show _ = μ.1 46 33 from rfl) ?_
  refine w_if_lt (g := 249) d_154_78 (by decide) (by omega) (fun h78 => ?_) (fun h78 => ?_)
  · refine w_ret d_154_249 rfl ?_
    exact hQ
  · refine w_ld d_154_81 rfl rfl rfl ?_
    refine w_gI d_154_82 (by rfl) (by first | rfl | assumption) (by rfl) (show _ = μ.1 46 31 from rfl) ?_
    refine w_if_ne (g := 249) d_154_85 (by decide) (by omega) (fun h85 => ?_) (fun h85 => ?_)
    · refine w_ret d_154_249 rfl ?_
      exact hQ
    · exact absurd h85 (by omega)
/-- parts, one behind the other -/
theorem wrn_n {g : List (List Int) → Option (List Int × List (List Int))} : wrn g none = none := rfl
theorem wpt_n {G : Int → Int → List (List Int) → Option (List Int × List (List Int))} {A : View} {k : Int} {kf : Nat → Int} {c0 n : Nat} {s : Option (List Int × List (List Int))} {μ : Mem} (hS : MS (wrn (wpt G A k kf c0 n) s) μ) : wrn (wpt G A k kf c0 (n + 1)) s = wrn (G (pt A k n) (kf n)) (cma (if n + c0 = 0 then 0 else 1) (wrn (wpt G A k kf c0 n) s)) := by
  have e : wpt G A k kf c0 (n + 1) = wsq (wpt G A k kf c0 n) (wsq (fun N => some (if n + c0 = 0 then [] else [44], N)) (G (pt A k n) (kf n))) := by
    funext N
    conv => lhs; unfold wpt
    unfold wsq
    cases wpt G A k kf c0 n N with
    | none => rfl
    | some p =>
      obtain ⟨l, N1⟩ := p
      show (match G (pt A k n) (kf n) N1 with
        | none => none
        | some (l2, N2) => some (l ++ ((if n + c0 = 0 then [] else [44]) ++ l2), N2)) = _
      cases hg : G (pt A k n) (kf n) N1 with
      | none => simp only [hg]
      | some q => simp only [hg]
  rw [e, ← wrn_wrn, ← wrn_wrn]
  by_cases z : n + c0 = 0
  · have e1 : (if n + c0 = 0 then (0 : Int) else 1) = 0 := if_pos z
    have e2 : (if n + c0 = 0 then ([] : List Int) else [44]) = [] := if_pos z
    rw [e1, e2]
    exact congrArg _ ((wap_nil hS).trans (show cma 0 _ = _ from if_pos rfl).symm)
  · have e1 : (if n + c0 = 0 then (0 : Int) else 1) = 1 := if_neg z
    have e2 : (if n + c0 = 0 then ([] : List Int) else [44]) = [44] := if_neg z
    rw [e1, e2]
    exact congrArg _ (show cma 1 _ = _ from if_neg (by decide)).symm
theorem wpt_e {G : Int → Int → List (List Int) → Option (List Int × List (List Int))} {A : View} {k : Int} {kf : Nat → Int} {c0 n : Nat} {s : Option (List Int × List (List Int))} (h : wrn (wpt G A k kf c0 n) s = none) : wrn (wpt G A k kf c0 (n + 1)) s = none := by
  have e : ∃ g, wpt G A k kf c0 (n + 1) = wsq (wpt G A k kf c0 n) g := by
    refine ⟨fun N1 => match G (pt A k n) (kf n) N1 with
        | none => none
        | some (l2, N2) => some ((if n + c0 = 0 then [] else [44]) ++ l2, N2), ?_⟩
    funext N
    conv => lhs; unfold wpt
    unfold wsq
    cases wpt G A k kf c0 n N with
    | none => rfl
    | some p =>
      obtain ⟨l, N1⟩ := p
      show (match G (pt A k n) (kf n) N1 with
        | none => none
        | some (l2, N2) => some (l ++ ((if n + c0 = 0 then [] else [44]) ++ l2), N2)) = _
      cases hg : G (pt A k n) (kf n) N1 with
      | none => simp only [hg]
      | some q => simp only [hg]
  obtain ⟨g, e⟩ := e
  rw [e, ← wrn_wrn, h]
  rfl
theorem wpt_le {G : Int → Int → List (List Int) → Option (List Int × List (List Int))} {A : View} {k : Int} {kf : Nat → Int} {c0 n : Nat} {s : Option (List Int × List (List Int))} (h : wrn (wpt G A k kf c0 n) s = none) : ∀ m, n ≤ m → wrn (wpt G A k kf c0 m) s = none
  | 0, hm => by
    obtain rfl : n = 0 := by omega
    exact h
  | m + 1, hm => by
    by_cases z : n = m + 1
    · rw [← z]; exact h
    · exact wpt_e (wpt_le h m (by omega))
theorem wpt_0 {G : Int → Int → List (List Int) → Option (List Int × List (List Int))} {A : View} {k : Int} {kf : Nat → Int} {c0 : Nat} {s : Option (List Int × List (List Int))} {μ : Mem} (hS : MS s μ) : wrn (wpt G A k kf c0 0) s = s := wap_nil hS
/-- what a value, begun at the head, owes -/
def LV (sc : Nat × (Nat → Int32)) (fr lo : Nat) (ρ : Nat × Nat × Nat) (r : Int) (Q : z_O → z_T → Prop) (C : Int → Prop) (F : Nat) : Prop := ∀ (μ : Mem) (s : Option (List Int × List (List Int))) (v key : Int), C v → MRg C μ → okv F (vM μ) v → (key = 0 ∨ key = 1) → MS s μ → (-1 ≤ μ.1 46 33 ∧ μ.1 46 33 + 1 ≤ μ.1 46 32 ∧ μ.1 46 32 ≤ 8) → (∀ μ', MS (wrn (fun N => wv (vM μ) F (μ.1 46 32) v key N) s) μ' → mw1 μ μ' → (wrn (fun N => wv (vM μ) F (μ.1 46 32) v key N) s ≠ none → μ'.1 46 32 = μ.1 46 32 ∧ μ'.1 46 33 = μ.1 46 33 ∧ ∀ a, 65 ≤ a → a ≤ 70 → ∀ q, q ≤ μ.1 46 33 → μ'.2.2 a q = μ.2.2 a q) → (-1 ≤ μ'.1 46 33 ∧ μ'.1 46 33 ≤ 12) → hdP sc fr lo ρ r Q μ') → w_S sc (fr - 1) (lo - (19 + 6)) 170 [.ref 46, .int (ji v), .int (ji key)] (hp μ, ρ) (fun o τ => o = .inl none ∧ ∃ μ1, τ = (hp μ1, ρ) ∧ hdP sc fr lo ρ r Q μ1)
