/-! THE PURE PART, 99e: contracts: the reference begins a value -/
/-- the frame q -/
def FRM (μ : Mem) (q p l c kd ak e : Int) : Prop := μ.2.2 65 q = p ∧ μ.2.2 66 q = l ∧ μ.2.2 67 q = c ∧ μ.2.2 68 q = kd ∧ μ.2.2 69 q = ak ∧ μ.2.2 70 q = e
/-- begin, of a value with parts -/
def BGp (v c kd e : Int) (s : Option (List Int × List (List Int))) (dF : Int) (μ : Mem) (ρ : Nat × Nat × Nat) (o : z_O) (τ : z_T) : Prop :=
  o = .inl none ∧ ∃ μ', τ = (hp μ', ρ) ∧ MS s μ' ∧ mw1 μ μ' ∧ (-1 ≤ μ'.1 46 33 ∧ μ'.1 46 33 ≤ 12) ∧ (s ≠ none → μ'.1 46 32 = dF ∧ μ'.1 46 33 = μ.1 46 33 + 1 ∧ FRM μ' (μ.1 46 33 + 1) (v + 1) (μ.2.2 53 v) c kd kd e ∧ ∀ a, 65 ≤ a → a ≤ 70 → ∀ q, q ≤ μ.1 46 33 → μ'.2.2 a q = μ.2.2 a q)
theorem BGp_of {v c kd e dF : Int} {s : Option (List Int × List (List Int))} {μ μk : Mem} {ρ : Nat × Nat × Nat} (h1 : mw1 μ μk) (h33 : μk.1 46 33 = μ.1 46 33) (h65 : ∀ a, 65 ≤ a → a ≤ 70 → μk.2.2 a = μ.2.2 a) (h32 : μk.1 46 32 = dF) {o : z_O} {τ : z_T} (h : BGp v c kd e s (μk.1 46 32) μk ρ o τ) : BGp v c kd e s dF μ ρ o τ := by
  obtain ⟨ho, μ', ht, hS, hm, hr, hx⟩ := h
  refine ⟨ho, μ', ht, hS, mw1_trans h1 hm, hr, fun hs => ?_⟩
  obtain ⟨x1, x2, x3, x4⟩ := hx hs
  rw [h33] at x2 x3 x4
  rw [h1.2.2 53 (by omega)] at x3
  exact ⟨x1.trans h32, x2, x3, fun a a1 a2 q hq => (x4 a a1 a2 q hq).trans (by rw [h65 a a1 a2])⟩
def frp (μ : Mem) (v l c kd e : Int) : Mem := stA (stA (stA (stA (stA (stA (stI μ 46 33 (μ.1 46 33 + 1)) 65 (μ.1 46 33 + 1) (v + 1)) 66 (μ.1 46 33 + 1) l) 67 (μ.1 46 33 + 1) c) 68 (μ.1 46 33 + 1) kd) 69 (μ.1 46 33 + 1) kd) 70 (μ.1 46 33 + 1) e
theorem frp_at {μ : Mem} {v l c kd e : Int} {a : Nat} {q : Int} : (frp μ v l c kd e).2.2 a q = if q = μ.1 46 33 + 1 then (if a = 65 then v + 1 else if a = 66 then l else if a = 67 then c else if a = 68 then kd else if a = 69 then kd else if a = 70 then e else μ.2.2 a q) else μ.2.2 a q := by
  show (if a = 70 ∧ q = μ.1 46 33 + 1 then e else if a = 69 ∧ q = μ.1 46 33 + 1 then kd else if a = 68 ∧ q = μ.1 46 33 + 1 then kd else if a = 67 ∧ q = μ.1 46 33 + 1 then c else if a = 66 ∧ q = μ.1 46 33 + 1 then l else if a = 65 ∧ q = μ.1 46 33 + 1 then v + 1 else μ.2.2 a q) = _
  by_cases hq : q = μ.1 46 33 + 1
  · rw [if_pos hq]
    by_cases h1 : a = 65
    · subst h1
      rw [if_neg (by omega), if_neg (by omega), if_neg (by omega), if_neg (by omega), if_neg (by omega), if_pos ⟨rfl, hq⟩, if_pos rfl]
    by_cases h2 : a = 66
    · subst h2
      rw [if_neg (by omega), if_neg (by omega), if_neg (by omega), if_neg (by omega), if_pos ⟨rfl, hq⟩, if_neg (by omega), if_pos rfl]
    by_cases h3 : a = 67
    · subst h3
      rw [if_neg (by omega), if_neg (by omega), if_neg (by omega), if_pos ⟨rfl, hq⟩, if_neg (by omega), if_neg (by omega), if_pos rfl]
    by_cases h4 : a = 68
    · subst h4
      rw [if_neg (by omega), if_neg (by omega), if_pos ⟨rfl, hq⟩, if_neg (by omega), if_neg (by omega), if_neg (by omega), if_pos rfl]
    by_cases h5 : a = 69
    · subst h5
      rw [if_neg (by omega), if_pos ⟨rfl, hq⟩, if_neg (by omega), if_neg (by omega), if_neg (by omega), if_neg (by omega), if_pos rfl]
    by_cases h6 : a = 70
    · subst h6
      rw [if_pos ⟨rfl, hq⟩, if_neg (by omega), if_neg (by omega), if_neg (by omega), if_neg (by omega), if_neg (by omega), if_pos rfl]
    rw [if_neg (by omega), if_neg (by omega), if_neg (by omega), if_neg (by omega), if_neg (by omega), if_neg (by omega), if_neg h1, if_neg h2, if_neg h3, if_neg h4, if_neg h5, if_neg h6]
  · rw [if_neg (fun z => hq z.2), if_neg (fun z => hq z.2), if_neg (fun z => hq z.2), if_neg (fun z => hq z.2), if_neg (fun z => hq z.2), if_neg (fun z => hq z.2), if_neg hq]
theorem frp_o {μ : Mem} {v l c kd e : Int} {a : Nat} (h : a < 65 ∨ 70 < a) : (frp μ v l c kd e).2.2 a = μ.2.2 a := by
  funext q
  rw [frp_at]
  split
  · rw [if_neg (by omega), if_neg (by omega), if_neg (by omega), if_neg (by omega), if_neg (by omega), if_neg (by omega)]
  · rfl
theorem frp_ok {μ : Mem} {v l c kd e : Int} {s : Option (List Int × List (List Int))} (hS : MS s μ) (hl : l = μ.2.2 53 v) (h33 : -1 ≤ μ.1 46 33 ∧ μ.1 46 33 ≤ 9) (ρ : Nat × Nat × Nat) : BGp v c kd e s (μ.1 46 32) μ ρ (.inl none) (hp (frp μ v l c kd e), ρ) := by
  subst hl
  have eI : ∀ a q, ¬ (a = 46 ∧ q = 33) → (frp μ v (μ.2.2 53 v) c kd e).1 a q = μ.1 a q := fun a q z => (stI_ne z : (stI μ 46 33 (μ.1 46 33 + 1)).1 a q = μ.1 a q)
  refine ⟨rfl, _, rfl, MS_eq ⟨eI _ _ (by omega), eI _ _ (by omega)⟩ (eI _ _ (by omega)) (frp_o (by omega)) (frp_o (by omega)) (frp_o (by omega)) (frp_o (by omega)) hS, ⟨fun a q z => eI a q (by omega), rfl, fun a z => frp_o (by omega)⟩, by rw [show (frp μ v (μ.2.2 53 v) c kd e).1 46 33 = μ.1 46 33 + 1 from (stI_at μ 46 33 (μ.1 46 33 + 1) : (stI μ 46 33 (μ.1 46 33 + 1)).1 46 33 = _)]; omega, fun _ => ⟨eI _ _ (by omega), (stI_at _ _ _ _ : (stI μ 46 33 (μ.1 46 33 + 1)).1 46 33 = _), ⟨?_, ?_, ?_, ?_, ?_, ?_⟩, fun a _ _ q hq => ?_⟩⟩
  · rw [frp_at, if_pos rfl, if_pos rfl]
  · rw [frp_at, if_pos rfl, if_neg (by omega), if_pos rfl]
  · rw [frp_at, if_pos rfl, if_neg (by omega), if_neg (by omega), if_pos rfl]
  · rw [frp_at, if_pos rfl, if_neg (by omega), if_neg (by omega), if_neg (by omega), if_pos rfl]
  · rw [frp_at, if_pos rfl, if_neg (by omega), if_neg (by omega), if_neg (by omega), if_neg (by omega), if_pos rfl]
  · rw [frp_at, if_pos rfl, if_neg (by omega), if_neg (by omega), if_neg (by omega), if_neg (by omega), if_neg (by omega), if_pos rfl]
  · rw [frp_at, if_neg (by omega)]
theorem m_bg197 {sc : Nat × (Nat → Int32)} {fr lo : Nat} {ρ : Nat × Nat × Nat} {μ : Mem} {s : Option (List Int × List (List Int))} (hS : MS s μ) {v k sk wr c e : Int} (hv : 0 ≤ v ∧ v < 384) (h33 : -1 ≤ μ.1 46 33 ∧ μ.1 46 33 ≤ 9) (hk : 0 ≤ k ∧ k ≤ 12) (hsk : sk = 0 ∨ sk = 1) (hwr : wr = 0 ∨ wr = 1) (hc : (k = 12 ∨ sk = 1) ∧ c = 1 ∨ (k ≠ 12 ∧ sk = 0) ∧ c = 0) (he : wr = 0 ∧ e = 1 ∨ wr = 1 ∧ e = 2) : w_P sc fr lo 170 7 6 false (none) prog_9_method_61_code 197 [some (.ref 46), some (.int (ji v)), none, some (.int (ji k)), some (.int (ji sk)), some (.int (ji wr))] [] (hp (μ), ρ) (BGp v c sk e s (μ.1 46 32) μ ρ) := by
  have hb := MS_b hS
  refine w_ld d_170_197 rfl rfl rfl ?_
  refine w_gI d_170_198 (by rfl) (by first | rfl | assumption) (by rfl) rfl ?_
  refine w_if_ne (g := 307) d_170_201 (by decide) (by omega) (fun h201 => ?_) (fun h201 => ?_)
  · refine w_ret d_170_307 rfl ?_
    obtain rfl := MS_no hS h201
    exact ⟨rfl, _, rfl, hS, mw1_refl μ, by omega, fun h => absurd rfl h⟩
  · refine w_ld d_170_204 rfl rfl rfl ?_
    refine w_stk d_170_205 rfl ?_
    refine w_gI d_170_206 (by rfl) (by first | rfl | assumption) (by rfl) rfl ?_
    refine w_con d_170_209 ?_
    refine w_iadd d_170_210 ?_
    refine w_putI d_170_211 (by rfl) (by first | rfl | assumption) (by rfl) (fit_I (by rfl)) (by rfl) ?_
    refine w_ld d_170_214 rfl rfl rfl ?_
    refine w_getF d_170_215 (by rfl) (by first | rfl | assumption) (by rfl) (by rfl) ?_
    refine w_ld d_170_218 rfl rfl rfl ?_
    refine w_gI d_170_219 (by rfl) (by first | rfl | assumption) (by rfl) (show _ = μ.1 46 33 + 1 from stI_at _ _ _ _) ?_
    refine w_ld d_170_222 rfl rfl rfl ?_
    refine w_con d_170_223 ?_
    refine w_iadd d_170_224 ?_
    refine w_iast d_170_225 (by first | rfl | assumption) (by omega) ?_
    refine w_ld d_170_226 rfl rfl rfl ?_
    refine w_getF d_170_227 (by rfl) (by first | rfl | assumption) (by rfl) (by rfl) ?_
    refine w_ld d_170_230 rfl rfl rfl ?_
    refine w_gI d_170_231 (by rfl) (by first | rfl | assumption) (by rfl) (show _ = μ.1 46 33 + 1 from stI_at _ _ _ _) ?_
    refine w_ld d_170_234 rfl rfl rfl ?_
    refine w_getF d_170_235 (by rfl) (by first | rfl | assumption) (by rfl) (by rfl) ?_
    refine w_ld d_170_238 rfl rfl rfl ?_
    refine w_aI d_170_239 (by first | rfl | assumption) (by omega) (show _ = μ.2.2 53 v from stA_ne (by omega)) ?_
    refine w_iast d_170_240 (by first | rfl | assumption) (by omega) ?_
    refine w_ld d_170_241 rfl rfl rfl ?_
    refine w_getF d_170_242 (by rfl) (by first | rfl | assumption) (by rfl) (by rfl) ?_
    refine w_ld d_170_245 rfl rfl rfl ?_
    refine w_gI d_170_246 (by rfl) (by first | rfl | assumption) (by rfl) (show _ = μ.1 46 33 + 1 from stI_at _ _ _ _) ?_
    refine w_ld d_170_249 rfl rfl rfl ?_
    refine w_bip d_170_250 (by decide) ?_
    refine w_icmp_eq (g := 260) d_170_252 (by decide) (by omega) (fun h252 => ?_) (fun h252 => ?_)
    · refine w_con d_170_260 ?_
      refine w_goto (g := 265) d_170_261 (by decide) ?_
      refine w_bast d_170_265 (by first | rfl | assumption) (by omega) (by omega) ?_
      refine w_ld d_170_266 rfl rfl rfl ?_
      refine w_getF d_170_267 (by rfl) (by first | rfl | assumption) (by rfl) (by rfl) ?_
      refine w_ld d_170_270 rfl rfl rfl ?_
      refine w_gI d_170_271 (by rfl) (by first | rfl | assumption) (by rfl) (show _ = μ.1 46 33 + 1 from stI_at _ _ _ _) ?_
      refine w_ld d_170_274 rfl rfl rfl ?_
      refine w_bast d_170_276 (by first | rfl | assumption) (by omega) (by omega) ?_
      refine w_ld d_170_277 rfl rfl rfl ?_
      refine w_getF d_170_278 (by rfl) (by first | rfl | assumption) (by rfl) (by rfl) ?_
      refine w_ld d_170_281 rfl rfl rfl ?_
      refine w_gI d_170_282 (by rfl) (by first | rfl | assumption) (by rfl) (show _ = μ.1 46 33 + 1 from stI_at _ _ _ _) ?_
      refine w_ld d_170_285 rfl rfl rfl ?_
      refine w_bast d_170_287 (by first | rfl | assumption) (by omega) (by omega) ?_
      refine w_ld d_170_288 rfl rfl rfl ?_
      refine w_getF d_170_289 (by rfl) (by first | rfl | assumption) (by rfl) (by rfl) ?_
      refine w_ld d_170_292 rfl rfl rfl ?_
      refine w_gI d_170_293 (by rfl) (by first | rfl | assumption) (by rfl) (show _ = μ.1 46 33 + 1 from stI_at _ _ _ _) ?_
      refine w_ld d_170_296 rfl rfl rfl ?_
      refine w_if_eq (g := 305) d_170_298 (by decide) (by omega) (fun h298 => ?_) (fun h298 => ?_)
      · refine w_con d_170_305 ?_
        refine w_iast d_170_306 (by first | rfl | assumption) (by omega) ?_
        refine w_ret d_170_307 rfl ?_
        obtain rfl : c = 1 := by omega
        obtain rfl : e = 1 := by omega
        exact frp_ok hS rfl h33 ρ
      · refine w_con d_170_301 ?_
        refine w_goto (g := 306) d_170_302 (by decide) ?_
        refine w_iast d_170_306 (by first | rfl | assumption) (by omega) ?_
        refine w_ret d_170_307 rfl ?_
        obtain rfl : c = 1 := by omega
        obtain rfl : e = 2 := by omega
        exact frp_ok hS rfl h33 ρ
    · refine w_ld d_170_255 rfl rfl rfl ?_
      refine w_if_eq (g := 264) d_170_257 (by decide) (by omega) (fun h257 => ?_) (fun h257 => ?_)
      · refine w_con d_170_264 ?_
        refine w_bast d_170_265 (by first | rfl | assumption) (by omega) (by omega) ?_
        refine w_ld d_170_266 rfl rfl rfl ?_
        refine w_getF d_170_267 (by rfl) (by first | rfl | assumption) (by rfl) (by rfl) ?_
        refine w_ld d_170_270 rfl rfl rfl ?_
        refine w_gI d_170_271 (by rfl) (by first | rfl | assumption) (by rfl) (show _ = μ.1 46 33 + 1 from stI_at _ _ _ _) ?_
        refine w_ld d_170_274 rfl rfl rfl ?_
        refine w_bast d_170_276 (by first | rfl | assumption) (by omega) (by omega) ?_
        refine w_ld d_170_277 rfl rfl rfl ?_
        refine w_getF d_170_278 (by rfl) (by first | rfl | assumption) (by rfl) (by rfl) ?_
        refine w_ld d_170_281 rfl rfl rfl ?_
        refine w_gI d_170_282 (by rfl) (by first | rfl | assumption) (by rfl) (show _ = μ.1 46 33 + 1 from stI_at _ _ _ _) ?_
        refine w_ld d_170_285 rfl rfl rfl ?_
        refine w_bast d_170_287 (by first | rfl | assumption) (by omega) (by omega) ?_
        refine w_ld d_170_288 rfl rfl rfl ?_
        refine w_getF d_170_289 (by rfl) (by first | rfl | assumption) (by rfl) (by rfl) ?_
        refine w_ld d_170_292 rfl rfl rfl ?_
        refine w_gI d_170_293 (by rfl) (by first | rfl | assumption) (by rfl) (show _ = μ.1 46 33 + 1 from stI_at _ _ _ _) ?_
        refine w_ld d_170_296 rfl rfl rfl ?_
        refine w_if_eq (g := 305) d_170_298 (by decide) (by omega) (fun h298 => ?_) (fun h298 => ?_)
        · refine w_con d_170_305 ?_
          refine w_iast d_170_306 (by first | rfl | assumption) (by omega) ?_
          refine w_ret d_170_307 rfl ?_
          obtain rfl : c = 0 := by omega
          obtain rfl : e = 1 := by omega
          exact frp_ok hS rfl h33 ρ
        · refine w_con d_170_301 ?_
          refine w_goto (g := 306) d_170_302 (by decide) ?_
          refine w_iast d_170_306 (by first | rfl | assumption) (by omega) ?_
          refine w_ret d_170_307 rfl ?_
          obtain rfl : c = 0 := by omega
          obtain rfl : e = 2 := by omega
          exact frp_ok hS rfl h33 ρ
      · refine w_con d_170_260 ?_
        refine w_goto (g := 265) d_170_261 (by decide) ?_
        refine w_bast d_170_265 (by first | rfl | assumption) (by omega) (by omega) ?_
        refine w_ld d_170_266 rfl rfl rfl ?_
        refine w_getF d_170_267 (by rfl) (by first | rfl | assumption) (by rfl) (by rfl) ?_
        refine w_ld d_170_270 rfl rfl rfl ?_
        refine w_gI d_170_271 (by rfl) (by first | rfl | assumption) (by rfl) (show _ = μ.1 46 33 + 1 from stI_at _ _ _ _) ?_
        refine w_ld d_170_274 rfl rfl rfl ?_
        refine w_bast d_170_276 (by first | rfl | assumption) (by omega) (by omega) ?_
        refine w_ld d_170_277 rfl rfl rfl ?_
        refine w_getF d_170_278 (by rfl) (by first | rfl | assumption) (by rfl) (by rfl) ?_
        refine w_ld d_170_281 rfl rfl rfl ?_
        refine w_gI d_170_282 (by rfl) (by first | rfl | assumption) (by rfl) (show _ = μ.1 46 33 + 1 from stI_at _ _ _ _) ?_
        refine w_ld d_170_285 rfl rfl rfl ?_
        refine w_bast d_170_287 (by first | rfl | assumption) (by omega) (by omega) ?_
        refine w_ld d_170_288 rfl rfl rfl ?_
        refine w_getF d_170_289 (by rfl) (by first | rfl | assumption) (by rfl) (by rfl) ?_
        refine w_ld d_170_292 rfl rfl rfl ?_
        refine w_gI d_170_293 (by rfl) (by first | rfl | assumption) (by rfl) (show _ = μ.1 46 33 + 1 from stI_at _ _ _ _) ?_
        refine w_ld d_170_296 rfl rfl rfl ?_
        refine w_if_eq (g := 305) d_170_298 (by decide) (by omega) (fun h298 => ?_) (fun h298 => ?_)
        · refine w_con d_170_305 ?_
          refine w_iast d_170_306 (by first | rfl | assumption) (by omega) ?_
          refine w_ret d_170_307 rfl ?_
          obtain rfl : c = 1 := by omega
          obtain rfl : e = 1 := by omega
          exact frp_ok hS rfl h33 ρ
        · refine w_con d_170_301 ?_
          refine w_goto (g := 306) d_170_302 (by decide) ?_
          refine w_iast d_170_306 (by first | rfl | assumption) (by omega) ?_
          refine w_ret d_170_307 rfl ?_
          obtain rfl : c = 1 := by omega
          obtain rfl : e = 2 := by omega
          exact frp_ok hS rfl h33 ρ
theorem m_bg8 {sc : Nat × (Nat → Int32)} {fr lo : Nat} {μ : Mem} {ρ : Nat × Nat × Nat} {s : Option (List Int × List (List Int))} (hS : MS s μ) {C : Int → Prop} (hG : MRg C μ) {v : Int} (hC : C v) {key : Int} (h33 : -1 ≤ μ.1 46 33 ∧ μ.1 46 33 ≤ 9) (h32 : 0 ≤ μ.1 46 32 ∧ μ.1 46 32 ≤ 8) (hk : μ.2.2 49 v = 8)  (hf : 12 ≤ fr) (hl : 500 ≤ lo) : w_S sc fr lo 170 [.ref 46, .int (ji v), .int (ji key)] (hp μ, ρ) (BGp v 0 0 1 (lim (wap s [91]) (μ.1 46 32 + 1)) (μ.1 46 32 + 1) μ ρ) := by
  have hv := hG.1 v hC
  obtain ⟨v1, v2, v3, v4, v5, v6, v7, v8, v9⟩ := hv
  have hv : mrw v μ := ⟨v1, v2, v3, v4, v5, v6, v7, v8, v9⟩
  refine w_S.of (L0 := [some (.ref 46), some (.int (ji v)), some (.int (ji key)), none, none, none]) rfl rfl (Nat.le_of_ble_eq_true rfl) (by rfl) ?_
  refine w_ld d_170_0 rfl rfl rfl ?_
  refine w_getF d_170_1 (by rfl) (by first | rfl | assumption) (by rfl) (by rfl) ?_
  refine w_ld d_170_4 rfl rfl rfl ?_
  refine w_aI d_170_5 (by first | rfl | assumption) (by omega) hk ?_
  refine w_st1 (L' := [_, _, _, _, _, _]) d_170_6 rfl (by decide) rfl (by decide) rfl ?_
  refine w_ld d_170_7 rfl rfl rfl ?_
  refine w_bip d_170_8 (by decide) ?_
  refine w_icmp_ge (g := 20) d_170_10 (by decide) (by omega) (fun h10 => ?_) (fun h10 => ?_)
  · refine w_ld d_170_20 rfl rfl rfl ?_
    refine w_cVq (a := 46) (as := []) (rest := _) rfl d_170_21 (by rfl) (by rfl) (by first | rfl | assumption) (by rfl) (by rfl) (Nat.le_of_ble_eq_true rfl) (by omega) (by omega) (m_opens hS (by omega) (by omega) (by omega)) ?_ ?_
    rotate_left
    · rintro r τ ⟨hv9, _⟩
      cases hv9
    rintro vv1 τ1 ⟨hv1, μ1, rfl, hS1, hf1, hd1⟩
    obtain rfl := Sum.inl.inj hv1
    refine w_ld d_170_24 rfl rfl rfl ?_
    refine w_bip d_170_25 (by decide) ?_
    refine w_icmp_ne (g := 42) d_170_27 (by decide) (by omega) (fun h27 => ?_) (fun h27 => ?_)
    · refine w_con d_170_42 ?_
      refine w_st1 (L' := [_, _, _, _, _, _]) d_170_43 rfl (by decide) rfl (by decide) rfl ?_
      refine w_ld d_170_45 rfl rfl rfl ?_
      refine w_bip d_170_46 (by decide) ?_
      refine w_icmp_eq (g := 68) d_170_48 (by decide) (by omega) (fun h48 => ?_) (fun h48 => ?_)
      · exact absurd h48 (by omega)
      · refine w_ld d_170_51 rfl rfl rfl ?_
        refine w_bip d_170_52 (by decide) ?_
        refine w_icmp_eq (g := 68) d_170_54 (by decide) (by omega) (fun h54 => ?_) (fun h54 => ?_)
        · exact absurd h54 (by omega)
        · refine w_ld d_170_57 rfl rfl rfl ?_
          refine w_bip d_170_58 (by decide) ?_
          refine w_icmp_ne (g := 72) d_170_60 (by decide) (by omega) (fun h60 => ?_) (fun h60 => ?_)
          · refine w_con d_170_72 ?_
            refine w_st1 (L' := [_, _, _, _, _, _]) d_170_73 rfl (by decide) rfl (by decide) rfl ?_
            refine w_ld d_170_75 rfl rfl rfl ?_
            refine w_bip d_170_76 (by decide) ?_
            refine w_icmp_ne (g := 102) d_170_78 (by decide) (by omega) (fun h78 => ?_) (fun h78 => ?_)
            · refine w_ld d_170_102 rfl rfl rfl ?_
              refine w_if_eq (g := 123) d_170_104 (by decide) (by omega) (fun h104 => ?_) (fun h104 => ?_)
              · refine w_ld d_170_123 rfl rfl rfl ?_
                refine w_bip d_170_124 (by decide) ?_
                refine w_icmp_ne (g := 143) d_170_126 (by decide) (by omega) (fun h126 => ?_) (fun h126 => ?_)
                · refine w_ld d_170_143 rfl rfl rfl ?_
                  refine w_bip d_170_144 (by decide) ?_
                  refine w_icmp_ne (g := 164) d_170_146 (by decide) (by omega) (fun h146 => ?_) (fun h146 => ?_)
                  · refine w_ld d_170_164 rfl rfl rfl ?_
                    refine w_bip d_170_165 (by decide) ?_
                    refine w_icmp_ne (g := 182) d_170_167 (by decide) (by omega) (fun h167 => ?_) (fun h167 => ?_)
                    · refine w_ld d_170_182 rfl rfl rfl ?_
                      refine w_if_eq (g := 197) d_170_184 (by decide) (by omega) (fun h184 => ?_) (fun h184 => ?_)
                      · have hmw : mw1 μ μ1 := hf1.mw
                        have h33k := (hf1.1 46 33 (by omega))
                        refine w_P.mono (fun o τ h => BGp_of hmw h33k (fun a a1 a2 => (hf1.2.2 a (by omega))) hd1 h) ?_
                        exact w_P.le (m_bg197 (k := 8) (sk := 0) (wr := 0) hS1 v1 (by rw [h33k]; exact h33) (by decide) (by decide) (by decide) (by decide) (by decide)) ⟨rfl, rfl, rfl, rfl, rfl, trivial⟩
                      · exact absurd h184 (by omega)
                    · exact absurd h167 (by omega)
                  · exact absurd h146 (by omega)
                · exact absurd h126 (by omega)
              · exact absurd h104 (by omega)
            · exact absurd h78 (by omega)
          · exact absurd h60 (by omega)
    · exact absurd h27 (by omega)
  · exact absurd h10 (by omega)
theorem m_bg12 {sc : Nat × (Nat → Int32)} {fr lo : Nat} {μ : Mem} {ρ : Nat × Nat × Nat} {s : Option (List Int × List (List Int))} (hS : MS s μ) {C : Int → Prop} (hG : MRg C μ) {v : Int} (hC : C v) {key : Int} (h33 : -1 ≤ μ.1 46 33 ∧ μ.1 46 33 ≤ 9) (h32 : 0 ≤ μ.1 46 32 ∧ μ.1 46 32 ≤ 8) (hk : μ.2.2 49 v = 12)  (hf : 12 ≤ fr) (hl : 500 ≤ lo) : w_S sc fr lo 170 [.ref 46, .int (ji v), .int (ji key)] (hp μ, ρ) (BGp v 1 0 1 (wrn (fun N => some (txt N (126 :: 35 :: wrd (vM μ) v) 0, nts N (126 :: 35 :: wrd (vM μ) v) 0)) (lim (wap s [91]) (μ.1 46 32 + 1))) (μ.1 46 32 + 1) μ ρ) := by
  have hv := hG.1 v hC
  obtain ⟨v1, v2, v3, v4, v5, v6, v7, v8, v9⟩ := hv
  have hv : mrw v μ := ⟨v1, v2, v3, v4, v5, v6, v7, v8, v9⟩
  refine w_S.of (L0 := [some (.ref 46), some (.int (ji v)), some (.int (ji key)), none, none, none]) rfl rfl (Nat.le_of_ble_eq_true rfl) (by rfl) ?_
  refine w_ld d_170_0 rfl rfl rfl ?_
  refine w_getF d_170_1 (by rfl) (by first | rfl | assumption) (by rfl) (by rfl) ?_
  refine w_ld d_170_4 rfl rfl rfl ?_
  refine w_aI d_170_5 (by first | rfl | assumption) (by omega) hk ?_
  refine w_st1 (L' := [_, _, _, _, _, _]) d_170_6 rfl (by decide) rfl (by decide) rfl ?_
  refine w_ld d_170_7 rfl rfl rfl ?_
  refine w_bip d_170_8 (by decide) ?_
  refine w_icmp_ge (g := 20) d_170_10 (by decide) (by omega) (fun h10 => ?_) (fun h10 => ?_)
  · refine w_ld d_170_20 rfl rfl rfl ?_
    refine w_cVq (a := 46) (as := []) (rest := _) rfl d_170_21 (by rfl) (by rfl) (by first | rfl | assumption) (by rfl) (by rfl) (Nat.le_of_ble_eq_true rfl) (by omega) (by omega) (m_opens hS (by omega) (by omega) (by omega)) ?_ ?_
    rotate_left
    · rintro r τ ⟨hv9, _⟩
      cases hv9
    rintro vv1 τ1 ⟨hv1, μ1, rfl, hS1, hf1, hd1⟩
    obtain rfl := Sum.inl.inj hv1
    refine w_ld d_170_24 rfl rfl rfl ?_
    refine w_bip d_170_25 (by decide) ?_
    refine w_icmp_ne (g := 42) d_170_27 (by decide) (by omega) (fun h27 => ?_) (fun h27 => ?_)
    · refine w_con d_170_42 ?_
      refine w_st1 (L' := [_, _, _, _, _, _]) d_170_43 rfl (by decide) rfl (by decide) rfl ?_
      refine w_ld d_170_45 rfl rfl rfl ?_
      refine w_bip d_170_46 (by decide) ?_
      refine w_icmp_eq (g := 68) d_170_48 (by decide) (by omega) (fun h48 => ?_) (fun h48 => ?_)
      · exact absurd h48 (by omega)
      · refine w_ld d_170_51 rfl rfl rfl ?_
        refine w_bip d_170_52 (by decide) ?_
        refine w_icmp_eq (g := 68) d_170_54 (by decide) (by omega) (fun h54 => ?_) (fun h54 => ?_)
        · exact absurd h54 (by omega)
        · refine w_ld d_170_57 rfl rfl rfl ?_
          refine w_bip d_170_58 (by decide) ?_
          refine w_icmp_ne (g := 72) d_170_60 (by decide) (by omega) (fun h60 => ?_) (fun h60 => ?_)
          · refine w_con d_170_72 ?_
            refine w_st1 (L' := [_, _, _, _, _, _]) d_170_73 rfl (by decide) rfl (by decide) rfl ?_
            refine w_ld d_170_75 rfl rfl rfl ?_
            refine w_bip d_170_76 (by decide) ?_
            refine w_icmp_ne (g := 102) d_170_78 (by decide) (by omega) (fun h78 => ?_) (fun h78 => ?_)
            · exact absurd h78 (by omega)
            · refine w_ld d_170_81 rfl rfl rfl ?_
              refine w_bip d_170_82 (by decide) ?_
              refine w_bip d_170_84 (by decide) ?_
              refine w_cVq (a := 46) (as := [_, _]) (rest := _) rfl d_170_86 (by rfl) (by rfl) (by first | rfl | assumption) (by rfl) (by rfl) (Nat.le_of_ble_eq_true rfl) (by omega) (by omega) (m_rawBegin (by decide) (by decide) (by omega) (by omega)) ?_ ?_
              rotate_left
              · rintro r τ ⟨hv9, _⟩
                cases hv9
              rintro vv2 τ2 ⟨hv2, μ2, rfl, hR2, hf2⟩
              obtain rfl := Sum.inl.inj hv2
              refine w_ld d_170_89 rfl rfl rfl ?_
              refine w_ld d_170_90 rfl rfl rfl ?_
              refine w_cVq (a := 46) (as := [_]) (rest := _) rfl d_170_91 (by rfl) (by rfl) (by first | rfl | assumption) (by rfl) (by rfl) (Nat.le_of_ble_eq_true rfl) (by omega) (by omega) (m_rawWord hR2 (mrw_mw (mw1_trans hf1.mw hf2.mw.mw) hv) (fun k => by rw [hf2.2.2 57 (by omega), hf1.2.2 57 (by omega)]; exact hG.2.2 k) (by rw [hf2.2.2 52 (by omega), hf1.2.2 52 (by omega)]; show (2 : Int) + μ.2.2 52 v ≤ 300; omega) (by omega) (by omega)) ?_ ?_
              rotate_left
              · rintro r τ ⟨hv9, _⟩
                cases hv9
              rintro vv3 τ3 ⟨hv3, μ3, rfl, hR3, hf3⟩
              obtain rfl := Sum.inl.inj hv3
              rw [vM_mw (mw1_trans hf1.mw hf2.mw.mw)] at hR3
              refine w_ld d_170_94 rfl rfl rfl ?_
              refine w_con d_170_95 ?_
              refine w_cVq (a := 46) (as := [_]) (rest := _) rfl d_170_96 (by rfl) (by rfl) (by first | rfl | assumption) (by rfl) (by rfl) (Nat.le_of_ble_eq_true rfl) (by omega) (by omega) (m_writeRaw (MS_r hS1 (rfr_trans hf2 hf3)) hR3 (key := 0) (by decide) (by omega) (by omega)) ?_ ?_
              rotate_left
              · rintro r τ ⟨hv9, _⟩
                cases hv9
              rintro vv4 τ4 ⟨hv4, μ4, rfl, hS4, hf4⟩
              obtain rfl := Sum.inl.inj hv4
              refine w_goto (g := 182) d_170_99 (by decide) ?_
              refine w_ld d_170_182 rfl rfl rfl ?_
              refine w_if_eq (g := 197) d_170_184 (by decide) (by omega) (fun h184 => ?_) (fun h184 => ?_)
              · have hmw : mw1 μ μ4 := mw1_trans hf1.mw (mw1_trans hf2.mw.mw (mw1_trans hf3.mw.mw hf4.mw))
                have h33k := ((hf4.1 46 33 (by omega)).trans ((hf3.1 46 33 (by omega)).trans ((hf2.1 46 33 (by omega)).trans (hf1.1 46 33 (by omega)))))
                refine w_P.mono (fun o τ h => BGp_of hmw h33k (fun a a1 a2 => ((hf4.2.2 a (by omega) (by omega) (by omega) (by omega) (by omega)).trans ((hf3.2.2 a (by omega)).trans ((hf2.2.2 a (by omega)).trans (hf1.2.2 a (by omega)))))) ((hf4.1 46 32 (by omega)).trans ((hf3.1 46 32 (by omega)).trans ((hf2.1 46 32 (by omega)).trans hd1))) h) ?_
                exact w_P.le (m_bg197 (k := 12) (sk := 0) (wr := 0) hS4 v1 (by rw [h33k]; exact h33) (by decide) (by decide) (by decide) (by decide) (by decide)) ⟨rfl, rfl, rfl, rfl, rfl, trivial⟩
              · exact absurd h184 (by omega)
          · exact absurd h60 (by omega)
    · exact absurd h27 (by omega)
  · exact absurd h10 (by omega)
theorem m_bg11s {sc : Nat × (Nat → Int32)} {fr lo : Nat} {μ : Mem} {ρ : Nat × Nat × Nat} {s : Option (List Int × List (List Int))} (hS : MS s μ) {C : Int → Prop} (hG : MRg C μ) {v : Int} (hC : C v) {key : Int} (h33 : -1 ≤ μ.1 46 33 ∧ μ.1 46 33 ≤ 9) (h32 : 0 ≤ μ.1 46 32 ∧ μ.1 46 32 ≤ 8) (hk : μ.2.2 49 v = 11) (hsp : spk (vM μ) v) (hf : 12 ≤ fr) (hl : 500 ≤ lo) : w_S sc fr lo 170 [.ref 46, .int (ji v), .int (ji key)] (hp μ, ρ) (BGp v 1 1 1 (wrn (fun N => some (txt N [94, 32] 0, nts N [94, 32] 0)) (lim (wap s [91]) (μ.1 46 32 + 1))) (μ.1 46 32 + 1) μ ρ) := by
  have hv := hG.1 v hC
  obtain ⟨v1, v2, v3, v4, v5, v6, v7, v8, v9⟩ := hv
  have hv : mrw v μ := ⟨v1, v2, v3, v4, v5, v6, v7, v8, v9⟩
  refine w_S.of (L0 := [some (.ref 46), some (.int (ji v)), some (.int (ji key)), none, none, none]) rfl rfl (Nat.le_of_ble_eq_true rfl) (by rfl) ?_
  refine w_ld d_170_0 rfl rfl rfl ?_
  refine w_getF d_170_1 (by rfl) (by first | rfl | assumption) (by rfl) (by rfl) ?_
  refine w_ld d_170_4 rfl rfl rfl ?_
  refine w_aI d_170_5 (by first | rfl | assumption) (by omega) hk ?_
  refine w_st1 (L' := [_, _, _, _, _, _]) d_170_6 rfl (by decide) rfl (by decide) rfl ?_
  refine w_ld d_170_7 rfl rfl rfl ?_
  refine w_bip d_170_8 (by decide) ?_
  refine w_icmp_ge (g := 20) d_170_10 (by decide) (by omega) (fun h10 => ?_) (fun h10 => ?_)
  · refine w_ld d_170_20 rfl rfl rfl ?_
    refine w_cVq (a := 46) (as := []) (rest := _) rfl d_170_21 (by rfl) (by rfl) (by first | rfl | assumption) (by rfl) (by rfl) (Nat.le_of_ble_eq_true rfl) (by omega) (by omega) (m_opens hS (by omega) (by omega) (by omega)) ?_ ?_
    rotate_left
    · rintro r τ ⟨hv9, _⟩
      cases hv9
    rintro vv1 τ1 ⟨hv1, μ1, rfl, hS1, hf1, hd1⟩
    obtain rfl := Sum.inl.inj hv1
    have hall := m_all (sc := sc) (fr := fr - 1) (lo := lo - (19 + 5)) (ρ := ρ) (MRg_mw hf1.mw hG) hC
    rw [vM_mw hf1.mw, b01_t hsp] at hall
    refine w_ld d_170_24 rfl rfl rfl ?_
    refine w_bip d_170_25 (by decide) ?_
    refine w_icmp_ne (g := 42) d_170_27 (by decide) (by omega) (fun h27 => ?_) (fun h27 => ?_)
    · exact absurd h27 (by omega)
    · refine w_ld d_170_30 rfl rfl rfl ?_
      refine w_ld d_170_31 rfl rfl rfl ?_
      refine w_cV1 (as := [_]) (rest := _) rfl d_170_32 (by rfl) (by rfl) (by first | rfl | assumption) (by rfl) (by rfl) (Nat.le_of_ble_eq_true rfl) (by omega) (by omega) hall ?_
      refine w_if_eq (g := 42) d_170_35 (by decide) (by omega) (fun h35 => ?_) (fun h35 => ?_)
      · exact absurd h35 (by omega)
      · refine w_con d_170_38 ?_
        refine w_goto (g := 43) d_170_39 (by decide) ?_
        refine w_st1 (L' := [_, _, _, _, _, _]) d_170_43 rfl (by decide) rfl (by decide) rfl ?_
        refine w_ld d_170_45 rfl rfl rfl ?_
        refine w_bip d_170_46 (by decide) ?_
        refine w_icmp_eq (g := 68) d_170_48 (by decide) (by omega) (fun h48 => ?_) (fun h48 => ?_)
        · exact absurd h48 (by omega)
        · refine w_ld d_170_51 rfl rfl rfl ?_
          refine w_bip d_170_52 (by decide) ?_
          refine w_icmp_eq (g := 68) d_170_54 (by decide) (by omega) (fun h54 => ?_) (fun h54 => ?_)
          · exact absurd h54 (by omega)
          · refine w_ld d_170_57 rfl rfl rfl ?_
            refine w_bip d_170_58 (by decide) ?_
            refine w_icmp_ne (g := 72) d_170_60 (by decide) (by omega) (fun h60 => ?_) (fun h60 => ?_)
            · exact absurd h60 (by omega)
            · refine w_ld d_170_63 rfl rfl rfl ?_
              refine w_if_ne (g := 72) d_170_65 (by decide) (by omega) (fun h65 => ?_) (fun h65 => ?_)
              · refine w_con d_170_72 ?_
                refine w_st1 (L' := [_, _, _, _, _, _]) d_170_73 rfl (by decide) rfl (by decide) rfl ?_
                refine w_ld d_170_75 rfl rfl rfl ?_
                refine w_bip d_170_76 (by decide) ?_
                refine w_icmp_ne (g := 102) d_170_78 (by decide) (by omega) (fun h78 => ?_) (fun h78 => ?_)
                · refine w_ld d_170_102 rfl rfl rfl ?_
                  refine w_if_eq (g := 123) d_170_104 (by decide) (by omega) (fun h104 => ?_) (fun h104 => ?_)
                  · exact absurd h104 (by omega)
                  · refine w_ld d_170_107 rfl rfl rfl ?_
                    refine w_bip d_170_108 (by decide) ?_
                    refine w_bip d_170_110 (by decide) ?_
                    refine w_cVq (a := 46) (as := [_, _]) (rest := _) rfl d_170_112 (by rfl) (by rfl) (by first | rfl | assumption) (by rfl) (by rfl) (Nat.le_of_ble_eq_true rfl) (by omega) (by omega) (m_rawBegin (by decide) (by decide) (by omega) (by omega)) ?_ ?_
                    rotate_left
                    · rintro r τ ⟨hv9, _⟩
                      cases hv9
                    rintro vv2 τ2 ⟨hv2, μ2, rfl, hR2, hf2⟩
                    obtain rfl := Sum.inl.inj hv2
                    refine w_ld d_170_115 rfl rfl rfl ?_
                    refine w_con d_170_116 ?_
                    refine w_cVq (a := 46) (as := [_]) (rest := _) rfl d_170_117 (by rfl) (by rfl) (by first | rfl | assumption) (by rfl) (by rfl) (Nat.le_of_ble_eq_true rfl) (by omega) (by omega) (m_writeRaw (MS_r hS1 hf2) hR2 (key := 0) (by decide) (by omega) (by omega)) ?_ ?_
                    rotate_left
                    · rintro r τ ⟨hv9, _⟩
                      cases hv9
                    rintro vv3 τ3 ⟨hv3, μ3, rfl, hS3, hf3⟩
                    obtain rfl := Sum.inl.inj hv3
                    refine w_goto (g := 182) d_170_120 (by decide) ?_
                    refine w_ld d_170_182 rfl rfl rfl ?_
                    refine w_if_eq (g := 197) d_170_184 (by decide) (by omega) (fun h184 => ?_) (fun h184 => ?_)
                    · have hmw : mw1 μ μ3 := mw1_trans hf1.mw (mw1_trans hf2.mw.mw hf3.mw)
                      have h33k := ((hf3.1 46 33 (by omega)).trans ((hf2.1 46 33 (by omega)).trans (hf1.1 46 33 (by omega))))
                      refine w_P.mono (fun o τ h => BGp_of hmw h33k (fun a a1 a2 => ((hf3.2.2 a (by omega) (by omega) (by omega) (by omega) (by omega)).trans ((hf2.2.2 a (by omega)).trans (hf1.2.2 a (by omega))))) ((hf3.1 46 32 (by omega)).trans ((hf2.1 46 32 (by omega)).trans hd1)) h) ?_
                      exact w_P.le (m_bg197 (k := 11) (sk := 1) (wr := 0) hS3 v1 (by rw [h33k]; exact h33) (by decide) (by decide) (by decide) (by decide) (by decide)) ⟨rfl, rfl, rfl, rfl, rfl, trivial⟩
                    · exact absurd h184 (by omega)
                · exact absurd h78 (by omega)
              · exact absurd h65 (by omega)
  · exact absurd h10 (by omega)
theorem m_bg9 {sc : Nat × (Nat → Int32)} {fr lo : Nat} {μ : Mem} {ρ : Nat × Nat × Nat} {s : Option (List Int × List (List Int))} (hS : MS s μ) {C : Int → Prop} (hG : MRg C μ) {v : Int} (hC : C v) {key : Int} (h33 : -1 ≤ μ.1 46 33 ∧ μ.1 46 33 ≤ 9) (h32 : 0 ≤ μ.1 46 32 ∧ μ.1 46 32 ≤ 8) (hk : μ.2.2 49 v = 9)  (hf : 12 ≤ fr) (hl : 500 ≤ lo) : w_S sc fr lo 170 [.ref 46, .int (ji v), .int (ji key)] (hp μ, ρ) (BGp v 0 0 2 (lim (wap (wap (wrn (fun N => some (txt N (tgw 9) 0, nts N (tgw 9) 0)) (lim (wap s [91]) (μ.1 46 32 + 1))) [44]) [91]) (μ.1 46 32 + 1 + 1)) (μ.1 46 32 + 1 + 1) μ ρ) := by
  have hv := hG.1 v hC
  obtain ⟨v1, v2, v3, v4, v5, v6, v7, v8, v9⟩ := hv
  have hv : mrw v μ := ⟨v1, v2, v3, v4, v5, v6, v7, v8, v9⟩
  refine w_S.of (L0 := [some (.ref 46), some (.int (ji v)), some (.int (ji key)), none, none, none]) rfl rfl (Nat.le_of_ble_eq_true rfl) (by rfl) ?_
  refine w_ld d_170_0 rfl rfl rfl ?_
  refine w_getF d_170_1 (by rfl) (by first | rfl | assumption) (by rfl) (by rfl) ?_
  refine w_ld d_170_4 rfl rfl rfl ?_
  refine w_aI d_170_5 (by first | rfl | assumption) (by omega) hk ?_
  refine w_st1 (L' := [_, _, _, _, _, _]) d_170_6 rfl (by decide) rfl (by decide) rfl ?_
  refine w_ld d_170_7 rfl rfl rfl ?_
  refine w_bip d_170_8 (by decide) ?_
  refine w_icmp_ge (g := 20) d_170_10 (by decide) (by omega) (fun h10 => ?_) (fun h10 => ?_)
  · refine w_ld d_170_20 rfl rfl rfl ?_
    refine w_cVq (a := 46) (as := []) (rest := _) rfl d_170_21 (by rfl) (by rfl) (by first | rfl | assumption) (by rfl) (by rfl) (Nat.le_of_ble_eq_true rfl) (by omega) (by omega) (m_opens hS (by omega) (by omega) (by omega)) ?_ ?_
    rotate_left
    · rintro r τ ⟨hv9, _⟩
      cases hv9
    rintro vv1 τ1 ⟨hv1, μ1, rfl, hS1, hf1, hd1⟩
    obtain rfl := Sum.inl.inj hv1
    refine w_ld d_170_24 rfl rfl rfl ?_
    refine w_bip d_170_25 (by decide) ?_
    refine w_icmp_ne (g := 42) d_170_27 (by decide) (by omega) (fun h27 => ?_) (fun h27 => ?_)
    · refine w_con d_170_42 ?_
      refine w_st1 (L' := [_, _, _, _, _, _]) d_170_43 rfl (by decide) rfl (by decide) rfl ?_
      refine w_ld d_170_45 rfl rfl rfl ?_
      refine w_bip d_170_46 (by decide) ?_
      refine w_icmp_eq (g := 68) d_170_48 (by decide) (by omega) (fun h48 => ?_) (fun h48 => ?_)
      · exact absurd h48 (by omega)
      · refine w_ld d_170_51 rfl rfl rfl ?_
        refine w_bip d_170_52 (by decide) ?_
        refine w_icmp_eq (g := 68) d_170_54 (by decide) (by omega) (fun h54 => ?_) (fun h54 => ?_)
        · refine w_con d_170_68 ?_
          refine w_goto (g := 73) d_170_69 (by decide) ?_
          refine w_st1 (L' := [_, _, _, _, _, _]) d_170_73 rfl (by decide) rfl (by decide) rfl ?_
          refine w_ld d_170_75 rfl rfl rfl ?_
          refine w_bip d_170_76 (by decide) ?_
          refine w_icmp_ne (g := 102) d_170_78 (by decide) (by omega) (fun h78 => ?_) (fun h78 => ?_)
          · refine w_ld d_170_102 rfl rfl rfl ?_
            refine w_if_eq (g := 123) d_170_104 (by decide) (by omega) (fun h104 => ?_) (fun h104 => ?_)
            · refine w_ld d_170_123 rfl rfl rfl ?_
              refine w_bip d_170_124 (by decide) ?_
              refine w_icmp_ne (g := 143) d_170_126 (by decide) (by omega) (fun h126 => ?_) (fun h126 => ?_)
              · refine w_ld d_170_143 rfl rfl rfl ?_
                refine w_bip d_170_144 (by decide) ?_
                refine w_icmp_ne (g := 164) d_170_146 (by decide) (by omega) (fun h146 => ?_) (fun h146 => ?_)
                · exact absurd h146 (by omega)
                · refine w_ld d_170_149 rfl rfl rfl ?_
                  refine w_bip d_170_150 (by decide) ?_
                  refine w_bip d_170_152 (by decide) ?_
                  refine w_bip d_170_154 (by decide) ?_
                  refine w_bip d_170_156 (by decide) ?_
                  refine w_cVq (a := 46) (as := [_, _, _, _]) (rest := _) rfl d_170_158 (by rfl) (by rfl) (by first | rfl | assumption) (by rfl) (by rfl) (Nat.le_of_ble_eq_true rfl) (by omega) (by omega) (m_tag4 hS1 (by decide) (by decide) (by decide) (by decide) (by omega) (by omega)) ?_ ?_
                  rotate_left
                  · rintro r τ ⟨hv9, _⟩
                    cases hv9
                  rintro vv2 τ2 ⟨hv2, μ2, rfl, hS2, hf2⟩
                  obtain rfl := Sum.inl.inj hv2
                  refine w_goto (g := 182) d_170_161 (by decide) ?_
                  refine w_ld d_170_182 rfl rfl rfl ?_
                  refine w_if_eq (g := 197) d_170_184 (by decide) (by omega) (fun h184 => ?_) (fun h184 => ?_)
                  · exact absurd h184 (by omega)
                  · refine w_ld d_170_187 rfl rfl rfl ?_
                    refine w_bip d_170_188 (by decide) ?_
                    refine w_cVq (a := 46) (as := [_]) (rest := _) rfl d_170_190 (by rfl) (by rfl) (by first | rfl | assumption) (by rfl) (by rfl) (Nat.le_of_ble_eq_true rfl) (by omega) (by omega) (m_pu hS2) ?_ ?_
                    rotate_left
                    · rintro r τ ⟨hv9, _⟩
                      cases hv9
                    rintro vv3 τ3 ⟨hv3, μ3, rfl, hS3, hf3⟩
                    obtain rfl := Sum.inl.inj hv3
                    refine w_ld d_170_193 rfl rfl rfl ?_
                    refine w_cVq (a := 46) (as := []) (rest := _) rfl d_170_194 (by rfl) (by rfl) (by first | rfl | assumption) (by rfl) (by rfl) (Nat.le_of_ble_eq_true rfl) (by omega) (by omega) (m_opens hS3 (by rw [hf3.1 46 32 (by omega), hf2.1 46 32 (by omega), hd1]; omega) (by omega) (by omega)) ?_ ?_
                    rotate_left
                    · rintro r τ ⟨hv9, _⟩
                      cases hv9
                    rintro vv4 τ4 ⟨hv4, μ4, rfl, hS4, hf4, hd4⟩
                    obtain rfl := Sum.inl.inj hv4
                    have e32 : μ3.1 46 32 = μ.1 46 32 + 1 := (hf3.1 46 32 (by omega)).trans ((hf2.1 46 32 (by omega)).trans hd1)
                    rw [e32] at hS4
                    have hmw : mw1 μ μ4 := mw1_trans hf1.mw (mw1_trans hf2.mw (mw1_trans hf3.mw.mw hf4.mw))
                    have h33k := ((hf4.1 46 33 (by omega)).trans ((hf3.1 46 33 (by omega)).trans ((hf2.1 46 33 (by omega)).trans (hf1.1 46 33 (by omega)))))
                    refine w_P.mono (fun o τ h => BGp_of hmw h33k (fun a a1 a2 => ((hf4.2.2 a (by omega)).trans ((hf3.2.2 a (by omega)).trans ((hf2.2.2 a (by omega) (by omega) (by omega) (by omega) (by omega)).trans (hf1.2.2 a (by omega)))))) (by rw [hd4, e32]) h) ?_
                    exact w_P.le (m_bg197 (k := 9) (sk := 0) (wr := 1) hS4 v1 (by rw [h33k]; exact h33) (by decide) (by decide) (by decide) (by decide) (by decide)) ⟨rfl, rfl, rfl, rfl, rfl, trivial⟩
              · exact absurd h126 (by omega)
            · exact absurd h104 (by omega)
          · exact absurd h78 (by omega)
        · exact absurd h54 (by omega)
    · exact absurd h27 (by omega)
  · exact absurd h10 (by omega)
theorem m_bg10 {sc : Nat × (Nat → Int32)} {fr lo : Nat} {μ : Mem} {ρ : Nat × Nat × Nat} {s : Option (List Int × List (List Int))} (hS : MS s μ) {C : Int → Prop} (hG : MRg C μ) {v : Int} (hC : C v) {key : Int} (h33 : -1 ≤ μ.1 46 33 ∧ μ.1 46 33 ≤ 9) (h32 : 0 ≤ μ.1 46 32 ∧ μ.1 46 32 ≤ 8) (hk : μ.2.2 49 v = 10)  (hf : 12 ≤ fr) (hl : 500 ≤ lo) : w_S sc fr lo 170 [.ref 46, .int (ji v), .int (ji key)] (hp μ, ρ) (BGp v 0 0 2 (lim (wap (wap (wrn (fun N => some (txt N (tgw 10) 0, nts N (tgw 10) 0)) (lim (wap s [91]) (μ.1 46 32 + 1))) [44]) [91]) (μ.1 46 32 + 1 + 1)) (μ.1 46 32 + 1 + 1) μ ρ) := by
  have hv := hG.1 v hC
  obtain ⟨v1, v2, v3, v4, v5, v6, v7, v8, v9⟩ := hv
  have hv : mrw v μ := ⟨v1, v2, v3, v4, v5, v6, v7, v8, v9⟩
  refine w_S.of (L0 := [some (.ref 46), some (.int (ji v)), some (.int (ji key)), none, none, none]) rfl rfl (Nat.le_of_ble_eq_true rfl) (by rfl) ?_
  refine w_ld d_170_0 rfl rfl rfl ?_
  refine w_getF d_170_1 (by rfl) (by first | rfl | assumption) (by rfl) (by rfl) ?_
  refine w_ld d_170_4 rfl rfl rfl ?_
  refine w_aI d_170_5 (by first | rfl | assumption) (by omega) hk ?_
  refine w_st1 (L' := [_, _, _, _, _, _]) d_170_6 rfl (by decide) rfl (by decide) rfl ?_
  refine w_ld d_170_7 rfl rfl rfl ?_
  refine w_bip d_170_8 (by decide) ?_
  refine w_icmp_ge (g := 20) d_170_10 (by decide) (by omega) (fun h10 => ?_) (fun h10 => ?_)
  · refine w_ld d_170_20 rfl rfl rfl ?_
    refine w_cVq (a := 46) (as := []) (rest := _) rfl d_170_21 (by rfl) (by rfl) (by first | rfl | assumption) (by rfl) (by rfl) (Nat.le_of_ble_eq_true rfl) (by omega) (by omega) (m_opens hS (by omega) (by omega) (by omega)) ?_ ?_
    rotate_left
    · rintro r τ ⟨hv9, _⟩
      cases hv9
    rintro vv1 τ1 ⟨hv1, μ1, rfl, hS1, hf1, hd1⟩
    obtain rfl := Sum.inl.inj hv1
    refine w_ld d_170_24 rfl rfl rfl ?_
    refine w_bip d_170_25 (by decide) ?_
    refine w_icmp_ne (g := 42) d_170_27 (by decide) (by omega) (fun h27 => ?_) (fun h27 => ?_)
    · refine w_con d_170_42 ?_
      refine w_st1 (L' := [_, _, _, _, _, _]) d_170_43 rfl (by decide) rfl (by decide) rfl ?_
      refine w_ld d_170_45 rfl rfl rfl ?_
      refine w_bip d_170_46 (by decide) ?_
      refine w_icmp_eq (g := 68) d_170_48 (by decide) (by omega) (fun h48 => ?_) (fun h48 => ?_)
      · refine w_con d_170_68 ?_
        refine w_goto (g := 73) d_170_69 (by decide) ?_
        refine w_st1 (L' := [_, _, _, _, _, _]) d_170_73 rfl (by decide) rfl (by decide) rfl ?_
        refine w_ld d_170_75 rfl rfl rfl ?_
        refine w_bip d_170_76 (by decide) ?_
        refine w_icmp_ne (g := 102) d_170_78 (by decide) (by omega) (fun h78 => ?_) (fun h78 => ?_)
        · refine w_ld d_170_102 rfl rfl rfl ?_
          refine w_if_eq (g := 123) d_170_104 (by decide) (by omega) (fun h104 => ?_) (fun h104 => ?_)
          · refine w_ld d_170_123 rfl rfl rfl ?_
            refine w_bip d_170_124 (by decide) ?_
            refine w_icmp_ne (g := 143) d_170_126 (by decide) (by omega) (fun h126 => ?_) (fun h126 => ?_)
            · exact absurd h126 (by omega)
            · refine w_ld d_170_129 rfl rfl rfl ?_
              refine w_bip d_170_130 (by decide) ?_
              refine w_bip d_170_132 (by decide) ?_
              refine w_bip d_170_134 (by decide) ?_
              refine w_con d_170_136 ?_
              refine w_cVq (a := 46) (as := [_, _, _, _]) (rest := _) rfl d_170_137 (by rfl) (by rfl) (by first | rfl | assumption) (by rfl) (by rfl) (Nat.le_of_ble_eq_true rfl) (by omega) (by omega) (m_tag3 hS1 (by decide) (by decide) (by decide) rfl (by omega) (by omega)) ?_ ?_
              rotate_left
              · rintro r τ ⟨hv9, _⟩
                cases hv9
              rintro vv2 τ2 ⟨hv2, μ2, rfl, hS2, hf2⟩
              obtain rfl := Sum.inl.inj hv2
              refine w_goto (g := 182) d_170_140 (by decide) ?_
              refine w_ld d_170_182 rfl rfl rfl ?_
              refine w_if_eq (g := 197) d_170_184 (by decide) (by omega) (fun h184 => ?_) (fun h184 => ?_)
              · exact absurd h184 (by omega)
              · refine w_ld d_170_187 rfl rfl rfl ?_
                refine w_bip d_170_188 (by decide) ?_
                refine w_cVq (a := 46) (as := [_]) (rest := _) rfl d_170_190 (by rfl) (by rfl) (by first | rfl | assumption) (by rfl) (by rfl) (Nat.le_of_ble_eq_true rfl) (by omega) (by omega) (m_pu hS2) ?_ ?_
                rotate_left
                · rintro r τ ⟨hv9, _⟩
                  cases hv9
                rintro vv3 τ3 ⟨hv3, μ3, rfl, hS3, hf3⟩
                obtain rfl := Sum.inl.inj hv3
                refine w_ld d_170_193 rfl rfl rfl ?_
                refine w_cVq (a := 46) (as := []) (rest := _) rfl d_170_194 (by rfl) (by rfl) (by first | rfl | assumption) (by rfl) (by rfl) (Nat.le_of_ble_eq_true rfl) (by omega) (by omega) (m_opens hS3 (by rw [hf3.1 46 32 (by omega), hf2.1 46 32 (by omega), hd1]; omega) (by omega) (by omega)) ?_ ?_
                rotate_left
                · rintro r τ ⟨hv9, _⟩
                  cases hv9
                rintro vv4 τ4 ⟨hv4, μ4, rfl, hS4, hf4, hd4⟩
                obtain rfl := Sum.inl.inj hv4
                have e32 : μ3.1 46 32 = μ.1 46 32 + 1 := (hf3.1 46 32 (by omega)).trans ((hf2.1 46 32 (by omega)).trans hd1)
                rw [e32] at hS4
                have hmw : mw1 μ μ4 := mw1_trans hf1.mw (mw1_trans hf2.mw (mw1_trans hf3.mw.mw hf4.mw))
                have h33k := ((hf4.1 46 33 (by omega)).trans ((hf3.1 46 33 (by omega)).trans ((hf2.1 46 33 (by omega)).trans (hf1.1 46 33 (by omega)))))
                refine w_P.mono (fun o τ h => BGp_of hmw h33k (fun a a1 a2 => ((hf4.2.2 a (by omega)).trans ((hf3.2.2 a (by omega)).trans ((hf2.2.2 a (by omega) (by omega) (by omega) (by omega) (by omega)).trans (hf1.2.2 a (by omega)))))) (by rw [hd4, e32]) h) ?_
                exact w_P.le (m_bg197 (k := 10) (sk := 0) (wr := 1) hS4 v1 (by rw [h33k]; exact h33) (by decide) (by decide) (by decide) (by decide) (by decide)) ⟨rfl, rfl, rfl, rfl, rfl, trivial⟩
          · exact absurd h104 (by omega)
        · exact absurd h78 (by omega)
      · exact absurd h48 (by omega)
    · exact absurd h27 (by omega)
  · exact absurd h10 (by omega)
theorem m_bg11n {sc : Nat × (Nat → Int32)} {fr lo : Nat} {μ : Mem} {ρ : Nat × Nat × Nat} {s : Option (List Int × List (List Int))} (hS : MS s μ) {C : Int → Prop} (hG : MRg C μ) {v : Int} (hC : C v) {key : Int} (h33 : -1 ≤ μ.1 46 33 ∧ μ.1 46 33 ≤ 9) (h32 : 0 ≤ μ.1 46 32 ∧ μ.1 46 32 ≤ 8) (hk : μ.2.2 49 v = 11) (hsp : ¬ spk (vM μ) v) (hf : 12 ≤ fr) (hl : 500 ≤ lo) : w_S sc fr lo 170 [.ref 46, .int (ji v), .int (ji key)] (hp μ, ρ) (BGp v 0 0 2 (lim (wap (wap (wrn (fun N => some (txt N (tgw 11) 0, nts N (tgw 11) 0)) (lim (wap s [91]) (μ.1 46 32 + 1))) [44]) [91]) (μ.1 46 32 + 1 + 1)) (μ.1 46 32 + 1 + 1) μ ρ) := by
  have hv := hG.1 v hC
  obtain ⟨v1, v2, v3, v4, v5, v6, v7, v8, v9⟩ := hv
  have hv : mrw v μ := ⟨v1, v2, v3, v4, v5, v6, v7, v8, v9⟩
  refine w_S.of (L0 := [some (.ref 46), some (.int (ji v)), some (.int (ji key)), none, none, none]) rfl rfl (Nat.le_of_ble_eq_true rfl) (by rfl) ?_
  refine w_ld d_170_0 rfl rfl rfl ?_
  refine w_getF d_170_1 (by rfl) (by first | rfl | assumption) (by rfl) (by rfl) ?_
  refine w_ld d_170_4 rfl rfl rfl ?_
  refine w_aI d_170_5 (by first | rfl | assumption) (by omega) hk ?_
  refine w_st1 (L' := [_, _, _, _, _, _]) d_170_6 rfl (by decide) rfl (by decide) rfl ?_
  refine w_ld d_170_7 rfl rfl rfl ?_
  refine w_bip d_170_8 (by decide) ?_
  refine w_icmp_ge (g := 20) d_170_10 (by decide) (by omega) (fun h10 => ?_) (fun h10 => ?_)
  · refine w_ld d_170_20 rfl rfl rfl ?_
    refine w_cVq (a := 46) (as := []) (rest := _) rfl d_170_21 (by rfl) (by rfl) (by first | rfl | assumption) (by rfl) (by rfl) (Nat.le_of_ble_eq_true rfl) (by omega) (by omega) (m_opens hS (by omega) (by omega) (by omega)) ?_ ?_
    rotate_left
    · rintro r τ ⟨hv9, _⟩
      cases hv9
    rintro vv1 τ1 ⟨hv1, μ1, rfl, hS1, hf1, hd1⟩
    obtain rfl := Sum.inl.inj hv1
    have hall := m_all (sc := sc) (fr := fr - 1) (lo := lo - (19 + 5)) (ρ := ρ) (MRg_mw hf1.mw hG) hC
    rw [vM_mw hf1.mw, b01_f hsp] at hall
    refine w_ld d_170_24 rfl rfl rfl ?_
    refine w_bip d_170_25 (by decide) ?_
    refine w_icmp_ne (g := 42) d_170_27 (by decide) (by omega) (fun h27 => ?_) (fun h27 => ?_)
    · exact absurd h27 (by omega)
    · refine w_ld d_170_30 rfl rfl rfl ?_
      refine w_ld d_170_31 rfl rfl rfl ?_
      refine w_cV1 (as := [_]) (rest := _) rfl d_170_32 (by rfl) (by rfl) (by first | rfl | assumption) (by rfl) (by rfl) (Nat.le_of_ble_eq_true rfl) (by omega) (by omega) hall ?_
      refine w_if_eq (g := 42) d_170_35 (by decide) (by omega) (fun h35 => ?_) (fun h35 => ?_)
      · refine w_con d_170_42 ?_
        refine w_st1 (L' := [_, _, _, _, _, _]) d_170_43 rfl (by decide) rfl (by decide) rfl ?_
        refine w_ld d_170_45 rfl rfl rfl ?_
        refine w_bip d_170_46 (by decide) ?_
        refine w_icmp_eq (g := 68) d_170_48 (by decide) (by omega) (fun h48 => ?_) (fun h48 => ?_)
        · exact absurd h48 (by omega)
        · refine w_ld d_170_51 rfl rfl rfl ?_
          refine w_bip d_170_52 (by decide) ?_
          refine w_icmp_eq (g := 68) d_170_54 (by decide) (by omega) (fun h54 => ?_) (fun h54 => ?_)
          · exact absurd h54 (by omega)
          · refine w_ld d_170_57 rfl rfl rfl ?_
            refine w_bip d_170_58 (by decide) ?_
            refine w_icmp_ne (g := 72) d_170_60 (by decide) (by omega) (fun h60 => ?_) (fun h60 => ?_)
            · exact absurd h60 (by omega)
            · refine w_ld d_170_63 rfl rfl rfl ?_
              refine w_if_ne (g := 72) d_170_65 (by decide) (by omega) (fun h65 => ?_) (fun h65 => ?_)
              · exact absurd h65 (by omega)
              · refine w_con d_170_68 ?_
                refine w_goto (g := 73) d_170_69 (by decide) ?_
                refine w_st1 (L' := [_, _, _, _, _, _]) d_170_73 rfl (by decide) rfl (by decide) rfl ?_
                refine w_ld d_170_75 rfl rfl rfl ?_
                refine w_bip d_170_76 (by decide) ?_
                refine w_icmp_ne (g := 102) d_170_78 (by decide) (by omega) (fun h78 => ?_) (fun h78 => ?_)
                · refine w_ld d_170_102 rfl rfl rfl ?_
                  refine w_if_eq (g := 123) d_170_104 (by decide) (by omega) (fun h104 => ?_) (fun h104 => ?_)
                  · refine w_ld d_170_123 rfl rfl rfl ?_
                    refine w_bip d_170_124 (by decide) ?_
                    refine w_icmp_ne (g := 143) d_170_126 (by decide) (by omega) (fun h126 => ?_) (fun h126 => ?_)
                    · refine w_ld d_170_143 rfl rfl rfl ?_
                      refine w_bip d_170_144 (by decide) ?_
                      refine w_icmp_ne (g := 164) d_170_146 (by decide) (by omega) (fun h146 => ?_) (fun h146 => ?_)
                      · refine w_ld d_170_164 rfl rfl rfl ?_
                        refine w_bip d_170_165 (by decide) ?_
                        refine w_icmp_ne (g := 182) d_170_167 (by decide) (by omega) (fun h167 => ?_) (fun h167 => ?_)
                        · exact absurd h167 (by omega)
                        · refine w_ld d_170_170 rfl rfl rfl ?_
                          refine w_bip d_170_171 (by decide) ?_
                          refine w_bip d_170_173 (by decide) ?_
                          refine w_bip d_170_175 (by decide) ?_
                          refine w_bip d_170_177 (by decide) ?_
                          refine w_cVq (a := 46) (as := [_, _, _, _]) (rest := _) rfl d_170_179 (by rfl) (by rfl) (by first | rfl | assumption) (by rfl) (by rfl) (Nat.le_of_ble_eq_true rfl) (by omega) (by omega) (m_tag4 hS1 (by decide) (by decide) (by decide) (by decide) (by omega) (by omega)) ?_ ?_
                          rotate_left
                          · rintro r τ ⟨hv9, _⟩
                            cases hv9
                          rintro vv2 τ2 ⟨hv2, μ2, rfl, hS2, hf2⟩
                          obtain rfl := Sum.inl.inj hv2
                          refine w_ld d_170_182 rfl rfl rfl ?_
                          refine w_if_eq (g := 197) d_170_184 (by decide) (by omega) (fun h184 => ?_) (fun h184 => ?_)
                          · exact absurd h184 (by omega)
                          · refine w_ld d_170_187 rfl rfl rfl ?_
                            refine w_bip d_170_188 (by decide) ?_
                            refine w_cVq (a := 46) (as := [_]) (rest := _) rfl d_170_190 (by rfl) (by rfl) (by first | rfl | assumption) (by rfl) (by rfl) (Nat.le_of_ble_eq_true rfl) (by omega) (by omega) (m_pu hS2) ?_ ?_
                            rotate_left
                            · rintro r τ ⟨hv9, _⟩
                              cases hv9
                            rintro vv3 τ3 ⟨hv3, μ3, rfl, hS3, hf3⟩
                            obtain rfl := Sum.inl.inj hv3
                            refine w_ld d_170_193 rfl rfl rfl ?_
                            refine w_cVq (a := 46) (as := []) (rest := _) rfl d_170_194 (by rfl) (by rfl) (by first | rfl | assumption) (by rfl) (by rfl) (Nat.le_of_ble_eq_true rfl) (by omega) (by omega) (m_opens hS3 (by rw [hf3.1 46 32 (by omega), hf2.1 46 32 (by omega), hd1]; omega) (by omega) (by omega)) ?_ ?_
                            rotate_left
                            · rintro r τ ⟨hv9, _⟩
                              cases hv9
                            rintro vv4 τ4 ⟨hv4, μ4, rfl, hS4, hf4, hd4⟩
                            obtain rfl := Sum.inl.inj hv4
                            have e32 : μ3.1 46 32 = μ.1 46 32 + 1 := (hf3.1 46 32 (by omega)).trans ((hf2.1 46 32 (by omega)).trans hd1)
                            rw [e32] at hS4
                            have hmw : mw1 μ μ4 := mw1_trans hf1.mw (mw1_trans hf2.mw (mw1_trans hf3.mw.mw hf4.mw))
                            have h33k := ((hf4.1 46 33 (by omega)).trans ((hf3.1 46 33 (by omega)).trans ((hf2.1 46 33 (by omega)).trans (hf1.1 46 33 (by omega)))))
                            refine w_P.mono (fun o τ h => BGp_of hmw h33k (fun a a1 a2 => ((hf4.2.2 a (by omega)).trans ((hf3.2.2 a (by omega)).trans ((hf2.2.2 a (by omega) (by omega) (by omega) (by omega) (by omega)).trans (hf1.2.2 a (by omega)))))) (by rw [hd4, e32]) h) ?_
                            exact w_P.le (m_bg197 (k := 11) (sk := 0) (wr := 1) hS4 v1 (by rw [h33k]; exact h33) (by decide) (by decide) (by decide) (by decide) (by decide)) ⟨rfl, rfl, rfl, rfl, rfl, trivial⟩
                      · exact absurd h146 (by omega)
                    · exact absurd h126 (by omega)
                  · exact absurd h104 (by omega)
                · exact absurd h78 (by omega)
      · exact absurd h35 (by omega)
  · exact absurd h10 (by omega)
theorem m_bgS {sc : Nat × (Nat → Int32)} {fr lo : Nat} {μ : Mem} {ρ : Nat × Nat × Nat} {s : Option (List Int × List (List Int))} (hS : MS s μ) {C : Int → Prop} (hG : MRg C μ) {v : Int} (hC : C v) {key : Int} (hkey : key = 0 ∨ key = 1) (hk : μ.2.2 49 v < 8) (hf : 12 ≤ fr) (hl : 500 ≤ lo) : w_S sc fr lo 170 [.ref 46, .int (ji v), .int (ji key)] (hp μ, ρ) (fun o τ => o = .inl none ∧ ∃ μ', τ = (hp μ', ρ) ∧ MS (wrn (fun N => some (smp (vM μ) v key N)) s) μ' ∧ mw0 μ μ') := by
  have hv := hG.1 v hC
  obtain ⟨v1, v2, v3, v4, v5, v6, v7, v8, v9⟩ := hv
  have hv : mrw v μ := ⟨v1, v2, v3, v4, v5, v6, v7, v8, v9⟩
  refine w_S.of (L0 := [some (.ref 46), some (.int (ji v)), some (.int (ji key)), none, none, none]) rfl rfl (Nat.le_of_ble_eq_true rfl) (by rfl) ?_
  refine w_ld d_170_0 rfl rfl rfl ?_
  refine w_getF d_170_1 (by rfl) (by first | rfl | assumption) (by rfl) (by rfl) ?_
  refine w_ld d_170_4 rfl rfl rfl ?_
  refine w_aI d_170_5 (by first | rfl | assumption) (by omega) (show _ = μ.2.2 49 v from rfl) ?_
  refine w_st1 (L' := [_, _, _, _, _, _]) d_170_6 rfl (by decide) rfl (by decide) rfl ?_
  refine w_ld d_170_7 rfl rfl rfl ?_
  refine w_bip d_170_8 (by decide) ?_
  refine w_icmp_ge (g := 20) d_170_10 (by decide) (by omega) (fun h10 => ?_) (fun h10 => ?_)
  · exact absurd h10 (by omega)
  · refine w_ld d_170_13 rfl rfl rfl ?_
    refine w_ld d_170_14 rfl rfl rfl ?_
    refine w_ld d_170_15 rfl rfl rfl ?_
    refine w_cVq (a := 46) (as := [_, _]) (rest := _) rfl d_170_16 (by rfl) (by rfl) (by first | rfl | assumption) (by rfl) (by rfl) (Nat.le_of_ble_eq_true rfl) (by omega) (by omega) (m_writeSimple hS hv hG.2.2 hk hkey (by omega) (by omega)) ?_ ?_
    rotate_left
    · rintro r τ ⟨hv9, _⟩
      cases hv9
    rintro vv1 τ1 ⟨hv1, μ1, rfl, hS1, hf1⟩
    obtain rfl := Sum.inl.inj hv1
    refine w_ret d_170_19 rfl ?_
    exact ⟨rfl, _, rfl, hS1, hf1⟩
