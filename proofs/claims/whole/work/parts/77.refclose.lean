/-! THE PURE PART, 59: contracts: the reference closes an array -/
theorem m_dblOK {sc : Nat × (Nat → Int32)} {fr lo : Nat} {μ : Mem} {ρ : Nat × Nat × Nat} {v : Int} {s : Nat} (hs : s = 1 ∨ s = 2) (hv : 0 ≤ v ∧ v < 384) (hP : 0 ≤ μ.2.2 53 v ∧ μ.2.2 53 v ≤ 240) (hp0 : ∀ n : Nat, (n : Int) < μ.2.2 53 v → (0 ≤ pt (vM μ) v n ∧ pt (vM μ) v n < 384) ∧ mok μ (pt (vM μ) v n) ∧ 0 ≤ μ.2.2 55 (pt (vM μ) v n) ∧ μ.2.2 55 (pt (vM μ) v n) ≤ 1000) (h16 : μ.1 46 16 = -1)  (hf : 2 ≤ fr) (hl : 100 ≤ lo) (hno : ∀ k : Nat, ((s * k : Nat) : Int) < μ.2.2 53 v → ¬ (∃ j : Nat, j < k ∧ μ.2.2 56 (pt (vM μ) v (s * k)) = μ.2.2 56 (pt (vM μ) v (s * j)))) : w_E sc fr lo 149 [.ref 46, .int (ji v), .int (ji (s : Int))] (hp μ, ρ) (.inl none) (hp μ, ρ) :=
  (m_doublesB hs hv hP hp0 h16 hf hl).mono (by
    rintro o t ⟨rfl, ⟨_, rfl⟩ | ⟨k, hk, htw, _⟩⟩
    · exact ⟨rfl, rfl⟩
    · exact absurd htw (hno k hk))
theorem m_dblX {sc : Nat × (Nat → Int32)} {fr lo : Nat} {μ : Mem} {ρ : Nat × Nat × Nat} {v : Int} {s : Nat} (hs : s = 1 ∨ s = 2) (hv : 0 ≤ v ∧ v < 384) (hP : 0 ≤ μ.2.2 53 v ∧ μ.2.2 53 v ≤ 240) (hp0 : ∀ n : Nat, (n : Int) < μ.2.2 53 v → (0 ≤ pt (vM μ) v n ∧ pt (vM μ) v n < 384) ∧ mok μ (pt (vM μ) v n) ∧ 0 ≤ μ.2.2 55 (pt (vM μ) v n) ∧ μ.2.2 55 (pt (vM μ) v n) ≤ 1000) (h16 : μ.1 46 16 = -1)  (hf : 2 ≤ fr) (hl : 100 ≤ lo) {k : Nat} (hk : ((s * k : Nat) : Int) < μ.2.2 53 v) (htw : (∃ j : Nat, j < k ∧ μ.2.2 56 (pt (vM μ) v (s * k)) = μ.2.2 56 (pt (vM μ) v (s * j)))) (hfi : ∀ k' : Nat, k' < k → ¬ (∃ j : Nat, j < k' ∧ μ.2.2 56 (pt (vM μ) v (s * k')) = μ.2.2 56 (pt (vM μ) v (s * j)))) : w_E sc fr lo 149 [.ref 46, .int (ji v), .int (ji (s : Int))] (hp μ, ρ) (.inl none) (hp (stI μ 46 16 (μ.2.2 55 (pt (vM μ) v (s * k)))), ρ) :=
  (m_doublesB hs hv hP hp0 h16 hf hl).mono (by
    rintro o t ⟨rfl, ⟨hno, rfl⟩ | ⟨k2, hk2, htw2, hfi2, rfl⟩⟩
    · exact absurd htw (hno k hk)
    · rcases Nat.lt_trichotomy k k2 with z | z | z
      · exact absurd htw (hfi2 k z)
      · subst z; exact ⟨rfl, rfl⟩
      · exact absurd htw2 (hfi k2 z))
theorem stA_ne {μ : Mem} {a b : Nat} {i j v : Int} (h : ¬ (b = a ∧ j = i)) : (stA μ a i v).2.2 b j = μ.2.2 b j := if_neg h
theorem vM_55 (μ : Mem) (a r : Int) : vM (stA μ 55 a r) = vM μ := by
  unfold vM
  rw [stA_o2 (by decide), stA_o2 (by decide), stA_o2 (by decide), stA_o2 (by decide), stA_o2 (by decide), stA_o2 (by decide), stA_o2 (by decide)]
/-- the array v at level d has been closed -/
def clP (μ μ' : Mem) (v d : Int) : Prop := MI μ' ∧ μ'.1 46 19 = d - 1 ∧ (∀ a q, ¬ (a = 46 ∧ q = 19) → μ'.1 a q = μ.1 a q) ∧ μ'.2.1 = μ.2.1 ∧ (∀ a i, ¬ (i = v ∧ (a = 55 ∨ a = 56)) → ¬ (0 < d - 1 ∧ i = d - 1 ∧ (a = 59 ∨ a = 60)) → μ'.2.2 a i = μ.2.2 a i) ∧ μ'.2.2 55 v = μ.2.2 61 d ∧ (256 ≤ μ'.2.2 56 v ∧ μ'.2.2 56 v < 256 + μ.1 46 17) ∧ (0 < d - 1 → μ'.2.2 59 (d - 1) = (if μ.2.2 59 (d - 1) = 0 then 1 else μ.2.2 59 (d - 1)) ∧ μ'.2.2 60 (d - 1) = μ.2.2 60 (d - 1) + 1)
theorem mok_55 {μ : Mem} {w a x : Int} (h : mok μ w) : mok (stA μ 55 a x) w := h
theorem mok_5556 {μ : Mem} {a x y : Int} {w : Int} (h : mok (stA μ 56 a y) w) : mok (stA (stA μ 55 a x) 56 a y) w := h
theorem clP_of {μ μ' : Mem} {v d r : Int} (ht : 0 ≤ μ.1 46 17 ∧ μ.1 46 17 ≤ 127) (hv : 256 ≤ v ∧ v < 256 + μ.1 46 17) (hd : 1 ≤ d ∧ d ≤ 8) (hrow : ∀ w, 256 ≤ w → w < 256 + μ.1 46 17 → w ≠ v → 0 ≤ μ.2.2 56 w → mok μ w) (hgr : ∀ w, 256 ≤ w → w < 256 + μ.1 46 17 → -1 ≤ μ.2.2 56 w ∧ μ.2.2 56 w < 384) (ma : mok (stA μ 56 v v) v) (hch : ∀ k, 0 ≤ μ.2.2 57 k ∧ μ.2.2 57 k < 65536) (r1 : 256 ≤ r) (r2 : r < 256 + μ.1 46 17) (hG : GI (vM μ) (fun w => if w = v then r else μ.2.2 56 w) 256 (256 + μ.1 46 17))
    (e1 : ∀ a q, μ'.1 a q = if a = 46 ∧ q = 19 then d - 1 else μ.1 a q) (e2 : μ'.2.1 = μ.2.1) (e3 : ∀ a i, ¬ (0 < d - 1 ∧ i = d - 1 ∧ (a = 59 ∨ a = 60)) → μ'.2.2 a i = (stA (stA μ 55 v (μ.2.2 61 d)) 56 v r).2.2 a i) (e4 : 0 < d - 1 → μ'.2.2 59 (d - 1) = (if μ.2.2 59 (d - 1) = 0 then 1 else μ.2.2 59 (d - 1)) ∧ μ'.2.2 60 (d - 1) = μ.2.2 60 (d - 1) + 1) : clP μ μ' v d := by
  have f17 : μ'.1 46 17 = μ.1 46 17 := by rw [e1, if_neg (by decide)]
  have fo : ∀ a, a ≠ 55 → a ≠ 56 → a < 59 → μ'.2.2 a = μ.2.2 a := fun a h1 h2 h3 => funext fun i => by rw [e3 a i (by omega), stA_o2 h2, stA_o2 h1]
  have f56 : ∀ i, μ'.2.2 56 i = if i = v then r else μ.2.2 56 i := fun i => by
    rw [e3 56 i (by omega)]
    show (if 56 = 56 ∧ i = v then r else (if 56 = 55 ∧ i = v then μ.2.2 61 d else μ.2.2 56 i)) = _
    by_cases z : i = v
    · rw [if_pos ⟨rfl, z⟩, if_pos z]
    · rw [if_neg (fun w => z w.2), if_neg (by omega), if_neg z]
  have fv : vM μ' = vM μ := by
    unfold vM
    rw [fo 49 (by decide) (by decide) (by decide), fo 50 (by decide) (by decide) (by decide), fo 53 (by decide) (by decide) (by decide), fo 54 (by decide) (by decide) (by decide), fo 52 (by decide) (by decide) (by decide), fo 57 (by decide) (by decide) (by decide), fo 51 (by decide) (by decide) (by decide)]
  refine ⟨⟨by rw [f17]; exact ht, ?_, fun w w1 w2 w3 => ?_, fun w w1 w2 => ?_, fun k => ?_⟩, by rw [e1, if_pos ⟨rfl, rfl⟩], fun a q z => by rw [e1, if_neg z], e2, fun a i z1 z2 => ?_, ?_, ?_, e4⟩
  · rw [f17, fv, show μ'.2.2 56 = (fun w => if w = v then r else μ.2.2 56 w) from funext f56]
    exact hG
  · rw [f17] at w2
    rw [f56] at w3
    by_cases z : w = v
    · obtain ⟨a1, a2, a3, a4, a5, a6, a7⟩ := ma
      subst z
      refine ⟨?_, ?_, ?_, ?_, ?_, ?_, ?_⟩
      · rw [fo 49 (by decide) (by decide) (by decide)]; exact a1
      · rw [fo 50 (by decide) (by decide) (by decide)]; exact a2
      · rw [fo 53 (by decide) (by decide) (by decide)]; exact a3
      · rw [fo 54 (by decide) (by decide) (by decide)]; exact a4
      · rw [fo 52 (by decide) (by decide) (by decide)]; exact a5
      · rw [fo 52 (by decide) (by decide) (by decide), fo 51 (by decide) (by decide) (by decide)]; exact a6
      · rw [f56, if_pos rfl]; omega
    · rw [if_neg z] at w3
      obtain ⟨a1, a2, a3, a4, a5, a6, a7⟩ := hrow w w1 w2 z w3
      refine ⟨?_, ?_, ?_, ?_, ?_, ?_, ?_⟩
      · rw [fo 49 (by decide) (by decide) (by decide)]; exact a1
      · rw [fo 50 (by decide) (by decide) (by decide)]; exact a2
      · rw [fo 53 (by decide) (by decide) (by decide)]; exact a3
      · rw [fo 54 (by decide) (by decide) (by decide)]; exact a4
      · rw [fo 52 (by decide) (by decide) (by decide)]; exact a5
      · rw [fo 52 (by decide) (by decide) (by decide), fo 51 (by decide) (by decide) (by decide)]; exact a6
      · rw [f56, if_neg z]; exact a7
  · rw [f17] at w2
    rw [f56]
    split
    · omega
    · exact hgr w w1 w2
  · rw [fo 57 (by decide) (by decide) (by decide)]; exact hch k
  · rw [e3 a i z2]
    show (if a = 56 ∧ i = v then r else (if a = 55 ∧ i = v then μ.2.2 61 d else μ.2.2 a i)) = _
    rw [if_neg (by omega), if_neg (by omega)]
  · rw [e3 55 v (by omega), stA_o2 (by decide), stA_at]
  · rw [f56, if_pos rfl]; omega
theorem m_clTail {sc : Nat × (Nat → Int32)} {fr lo : Nat} {μ : Mem} {ρ : Nat × Nat × Nat} {v m s d : Int} (ht : 0 ≤ μ.1 46 17 ∧ μ.1 46 17 ≤ 127) (hv : 256 ≤ v ∧ v < 256 + μ.1 46 17) (h16 : μ.1 46 16 = -1) (hd : μ.1 46 19 = d ∧ 1 ≤ d ∧ d ≤ 8) (hG : GI (vM μ) (fun w => if w = v then -1 else μ.2.2 56 w) 256 (256 + μ.1 46 17)) (hrow : ∀ w, 256 ≤ w → w < 256 + μ.1 46 17 → w ≠ v → 0 ≤ μ.2.2 56 w → mok μ w) (hgr : ∀ w, 256 ≤ w → w < 256 + μ.1 46 17 → -1 ≤ μ.2.2 56 w ∧ μ.2.2 56 w < 384) (ma : mok (stA μ 56 v v) v) (oa : okv 10 (vM μ) v) (pa : ∀ n : Nat, (n : Int) < μ.2.2 53 v → 256 ≤ pt (vM μ) v n ∧ pt (vM μ) v n < 256 + μ.1 46 17 ∧ pt (vM μ) v n ≠ v ∧ 0 ≤ μ.2.2 56 (pt (vM μ) v n)) (hch : ∀ k, 0 ≤ μ.2.2 57 k ∧ μ.2.2 57 k < 65536) (hmd : 0 < d - 1 → 0 ≤ μ.2.2 59 (d - 1) ∧ μ.2.2 59 (d - 1) ≤ 7) (hf : 8 ≤ fr) (hl : 400 ≤ lo) : w_P sc fr lo 148 7 4 false (none) prog_9_method_37_code 207 [some (.ref 46), some (.int (ji v)), some (.int (ji m)), some (.int (ji s))] [] (hp μ, ρ) (fun o t' => ∃ μ' : Mem, o = .inl none ∧ clP μ μ' v d ∧ t' = (hp μ', ρ)) := by
  refine w_ld d_148_207 rfl rfl rfl ?_
  refine w_getF d_148_208 (by rfl) (by first | rfl | assumption) (by rfl) (by rfl) ?_
  refine w_ld d_148_211 rfl rfl rfl ?_
  refine w_ld d_148_212 rfl rfl rfl ?_
  refine w_getF d_148_213 (by rfl) (by first | rfl | assumption) (by rfl) (by rfl) ?_
  refine w_ld d_148_216 rfl rfl rfl ?_
  refine w_gI d_148_217 (by rfl) (by first | rfl | assumption) (by rfl) (by first | exact hd.1 | exact h16 | ((try simp only [Nat.reduceAdd]) <;> rfl)) ?_
  refine w_aI d_148_220 (by first | rfl | assumption) (by omega) (show _ = μ.2.2 61 d from rfl) ?_
  refine w_iast d_148_221 (by first | rfl | assumption) (by omega) ?_
  refine w_ld d_148_222 rfl rfl rfl ?_
  refine w_gI d_148_223 (by rfl) (by first | rfl | assumption) (by rfl) (by exact h16) ?_
  refine w_if_ge (g := 245) d_148_226 (by decide) (by decide) (fun h226 => ?_) (fun h226 => ?_)
  · exact absurd h226 (by decide)
  · refine w_ld d_148_229 rfl rfl rfl ?_
    refine w_ld d_148_230 rfl rfl rfl ?_
    refine w_sip d_148_231 (by decide) ?_
    refine w_sip d_148_234 (by decide) ?_
    refine w_ld d_148_237 rfl rfl rfl ?_
    refine w_gI d_148_238 (by rfl) (by first | rfl | assumption) (by rfl) (show _ = μ.1 46 17 from rfl) ?_
    refine w_iadd d_148_241 ?_
    refine w_cVm (a := 46) (as := [_, _, _]) (rest := _) rfl d_148_242 (by rfl) (by rfl) (by first | rfl | assumption) (by rfl) (by rfl) (Nat.le_of_ble_eq_true rfl) (by omega) (by omega) (by
  have e := m_classify (sc := sc) (fr := fr - 1) (lo := lo - (19 + 6)) (μ := (stA μ 55 v (μ.2.2 61 d))) (ρ := ρ) (a := v) (lw := 256) (hg := 256 + μ.1 46 17) (by omega) hv (by rw [vM_55]; exact hG) (fun w w1 w2 w3 w4 => mok_55 (hrow w w1 w2 w3 w4)) hgr (mok_5556 ma) (by rw [vM_55]; exact oa) (by rw [vM_55]; exact pa) hch (by omega) (by omega)
  exact e) (fun μ' hm => ?_)
    obtain ⟨r, rfl, r1, r2, hGr⟩ := hm
    rw [vM_55] at hGr
    have hGr : GI (vM μ) (fun w => if w = v then r else μ.2.2 56 w) 256 (256 + μ.1 46 17) := hGr
    refine w_ld d_148_245 rfl rfl rfl ?_
    refine w_stk d_148_246 rfl ?_
    refine w_gI d_148_247 (by rfl) (by first | rfl | assumption) (by rfl) (by exact hd.1) ?_
    refine w_con d_148_250 ?_
    refine w_isub d_148_251 ?_
    refine w_putI d_148_252 (by rfl) (by first | rfl | assumption) (by rfl) (fit_I (by rfl)) (by rfl) ?_
    refine w_ld d_148_255 rfl rfl rfl ?_
    by_cases hd1 : 0 < d - 1
    · have ec := m_complete (sc := sc) (fr := fr - 1) (lo := lo - (19 + 1)) (μ := stI (stA (stA μ 55 v (μ.2.2 61 d)) 56 v r) 46 19 (d - 1)) (ρ := ρ) (d := d - 1) ⟨stI_at _ _ _ _, hd1, by omega⟩ (hmd hd1)
      refine w_cV0 (a := 46) (as := []) (rest := _) rfl d_148_256 (by rfl) (by rfl) rfl (by rfl) (by rfl) (Nat.le_of_ble_eq_true rfl) (by omega) (by omega) ec ?_
      refine w_ret d_148_259 rfl ?_
      refine ⟨_, rfl, ?_, rfl⟩
      refine clP_of ht hv hd.2 hrow hgr ma hch r1 r2 hGr (fun a q => rfl) rfl (fun a i z => ?_) (fun _ => ⟨?_, ?_⟩)
      · rw [stA_ne (by omega), stA_ne (by omega)]
        rfl
      · rw [stA_o2 (by decide), stA_at]
        rfl
      · rw [stA_at]
        rfl
    · have e0 : (stI (stA (stA μ 55 v (μ.2.2 61 d)) 56 v r) 46 19 (d - 1)).1 46 19 = 0 := by rw [stI_at]; omega
      have ec := m_complete0 (sc := sc) (fr := fr - 1) (lo := lo - (19 + 1)) (μ := stI (stA (stA μ 55 v (μ.2.2 61 d)) 56 v r) 46 19 (d - 1)) (ρ := ρ) e0
      refine w_cV0 (a := 46) (as := []) (rest := _) rfl d_148_256 (by rfl) (by rfl) rfl (by rfl) (by rfl) (Nat.le_of_ble_eq_true rfl) (by omega) (by omega) ec ?_
      refine w_ret d_148_259 rfl ?_
      refine ⟨_, rfl, ?_, rfl⟩
      exact clP_of ht hv hd.2 hrow hgr ma hch r1 r2 hGr (fun a q => rfl) rfl (fun a i z => rfl) (fun z => absurd z hd1)
theorem m_clTailX {sc : Nat × (Nat → Int32)} {fr lo : Nat} {μ : Mem} {ρ : Nat × Nat × Nat} {v m s d : Int} (hv : 256 ≤ v ∧ v < 384) (h16 : 0 ≤ μ.1 46 16 ∧ μ.1 46 16 ≤ 1000) (hd : μ.1 46 19 = d ∧ 1 ≤ d ∧ d ≤ 8) (hmd : 0 < d - 1 → 0 ≤ μ.2.2 59 (d - 1) ∧ μ.2.2 59 (d - 1) ≤ 7) (hf : 8 ≤ fr) (hl : 400 ≤ lo) : w_P sc fr lo 148 7 4 false (none) prog_9_method_37_code 207 [some (.ref 46), some (.int (ji v)), some (.int (ji m)), some (.int (ji s))] [] (hp μ, ρ) (fun o t' => ∃ μ' : Mem, o = .inl none ∧ (mfw μ μ' ∧ μ'.1 46 16 = μ.1 46 16 ∧ μ'.1 46 15 = μ.1 46 15 ∧ μ'.2.2 57 = μ.2.2 57) ∧ t' = (hp μ', ρ)) := by
  refine w_ld d_148_207 rfl rfl rfl ?_
  refine w_getF d_148_208 (by rfl) (by first | rfl | assumption) (by rfl) (by rfl) ?_
  refine w_ld d_148_211 rfl rfl rfl ?_
  refine w_ld d_148_212 rfl rfl rfl ?_
  refine w_getF d_148_213 (by rfl) (by first | rfl | assumption) (by rfl) (by rfl) ?_
  refine w_ld d_148_216 rfl rfl rfl ?_
  refine w_gI d_148_217 (by rfl) (by first | rfl | assumption) (by rfl) (by first | exact hd.1 | exact h16 | ((try simp only [Nat.reduceAdd]) <;> rfl)) ?_
  refine w_aI d_148_220 (by first | rfl | assumption) (by omega) (show _ = μ.2.2 61 d from rfl) ?_
  refine w_iast d_148_221 (by first | rfl | assumption) (by omega) ?_
  refine w_ld d_148_222 rfl rfl rfl ?_
  refine w_gI d_148_223 (by rfl) (by first | rfl | assumption) (by rfl) (show _ = μ.1 46 16 from rfl) ?_
  refine w_if_ge (g := 245) d_148_226 (by decide) (by omega) (fun h226 => ?_) (fun h226 => ?_)
  · refine w_ld d_148_245 rfl rfl rfl ?_
    refine w_stk d_148_246 rfl ?_
    refine w_gI d_148_247 (by rfl) (by first | rfl | assumption) (by rfl) (by exact hd.1) ?_
    refine w_con d_148_250 ?_
    refine w_isub d_148_251 ?_
    refine w_putI d_148_252 (by rfl) (by first | rfl | assumption) (by rfl) (fit_I (by rfl)) (by rfl) ?_
    refine w_ld d_148_255 rfl rfl rfl ?_
    by_cases hd1 : 0 < d - 1
    · have ec := m_complete (sc := sc) (fr := fr - 1) (lo := lo - (19 + 1)) (μ := (stI (stA μ 55 v (μ.2.2 61 d)) 46 19 (d - 1))) (ρ := ρ) (d := d - 1) ⟨stI_at _ _ _ _, hd1, by omega⟩ (hmd hd1)
      refine w_cV0 (a := 46) (as := []) (rest := _) rfl d_148_256 (by rfl) (by rfl) rfl (by rfl) (by rfl) (Nat.le_of_ble_eq_true rfl) (by omega) (by omega) ec ?_
      refine w_ret d_148_259 rfl ?_
      refine ⟨_, rfl, ⟨mfw_trans (mfw_A (Or.inl (by omega))) (mfw_trans (mfw_I (by decide)) (mfw_trans (mfw_A (Or.inr (Or.inr (by omega)))) (mfw_A (Or.inr (Or.inr (by omega)))))), rfl, rfl, ?_⟩, rfl⟩
      rw [stA_o2 (by decide), stA_o2 (by decide)]
      show (stA μ 55 v (μ.2.2 61 d)).2.2 57 = _
      rw [stA_o2 (by decide)]
    · have e0 : (stI (stA μ 55 v (μ.2.2 61 d)) 46 19 (d - 1)).1 46 19 = 0 := by rw [stI_at]; omega
      have ec := m_complete0 (sc := sc) (fr := fr - 1) (lo := lo - (19 + 1)) (μ := (stI (stA μ 55 v (μ.2.2 61 d)) 46 19 (d - 1))) (ρ := ρ) e0
      refine w_cV0 (a := 46) (as := []) (rest := _) rfl d_148_256 (by rfl) (by rfl) rfl (by rfl) (by rfl) (Nat.le_of_ble_eq_true rfl) (by omega) (by omega) ec ?_
      refine w_ret d_148_259 rfl ?_
      refine ⟨_, rfl, ⟨mfw_trans (mfw_A (Or.inl (by omega))) (mfw_I (by decide)), rfl, rfl, ?_⟩, rfl⟩
      show (stA μ 55 v (μ.2.2 61 d)).2.2 57 = _
      rw [stA_o2 (by decide)]
  · exact absurd h226 (by omega)
theorem m_close1 {sc : Nat × (Nat → Int32)} {fr lo : Nat} {μ : Mem} {ρ : Nat × Nat × Nat} {v m d : Int} (hv : μ.2.2 58 d = v ∧ 256 ≤ v ∧ v < 384) (hm : μ.2.2 59 d = m) (hd : μ.1 46 19 = d ∧ 1 ≤ d ∧ d ≤ 8) (hf : 12 ≤ fr) (hl : 600 ≤ lo) {Q : z_O → z_T → Prop} (hm1 : m = 0 ∨ m = 1 ∨ m = 7) (K : w_P sc fr lo 148 7 4 false (none) prog_9_method_37_code 207 [some (.ref 46), some (.int (ji v)), some (.int (ji m)), some (.int (ji 0))] [] (hp (stA (stA (stI μ 46 15 (μ.1 46 15 + 1)) 53 v (μ.2.2 60 d)) 54 v (256 + μ.1 46 17 - v)), ρ) Q) : w_S sc fr lo 148 [.ref 46] (hp μ, ρ) Q := by
  refine w_S.of (L0 := [some (.ref 46), none, none, none]) rfl rfl (Nat.le_of_ble_eq_true rfl) (by rfl) ?_
  refine w_ld d_148_0 rfl rfl rfl ?_
  refine w_getF d_148_1 (by rfl) (by first | rfl | assumption) (by rfl) (by rfl) ?_
  refine w_ld d_148_4 rfl rfl rfl ?_
  refine w_gI d_148_5 (by rfl) (by first | rfl | assumption) (by rfl) (by first | exact hd.1 | exact hv.1 | exact hm | ((try simp only [Nat.reduceAdd]) <;> rfl)) ?_
  refine w_aI d_148_8 (by first | rfl | assumption) (by omega) (by first | exact hd.1 | exact hv.1 | exact hm | ((try simp only [Nat.reduceAdd]) <;> rfl)) ?_
  refine w_st1 (L' := [_, _, _, _]) d_148_9 rfl (by decide) rfl (by decide) rfl ?_
  refine w_ld d_148_10 rfl rfl rfl ?_
  refine w_getF d_148_11 (by rfl) (by first | rfl | assumption) (by rfl) (by rfl) ?_
  refine w_ld d_148_14 rfl rfl rfl ?_
  refine w_gI d_148_15 (by rfl) (by first | rfl | assumption) (by rfl) (by first | exact hd.1 | exact hv.1 | exact hm | ((try simp only [Nat.reduceAdd]) <;> rfl)) ?_
  refine w_aI d_148_18 (by first | rfl | assumption) (by omega) (by first | exact hd.1 | exact hv.1 | exact hm | ((try simp only [Nat.reduceAdd]) <;> rfl)) ?_
  refine w_st1 (L' := [_, _, _, _]) d_148_19 rfl (by decide) rfl (by decide) rfl ?_
  refine w_ld d_148_20 rfl rfl rfl ?_
  refine w_stk d_148_21 rfl ?_
  refine w_gI d_148_22 (by rfl) (by first | rfl | assumption) (by rfl) (show _ = μ.1 46 15 from rfl) ?_
  refine w_con d_148_25 ?_
  refine w_iadd d_148_26 ?_
  refine w_putI d_148_27 (by rfl) (by first | rfl | assumption) (by rfl) (fit_I (by rfl)) (by rfl) ?_
  refine w_ld d_148_30 rfl rfl rfl ?_
  refine w_con d_148_31 ?_
  refine w_icmp_lt (g := 41) d_148_32 (by decide) (by omega) (fun h32 => ?_) (fun h32 => ?_)
  · refine w_ld d_148_41 rfl rfl rfl ?_
    refine w_getF d_148_42 (by rfl) (by first | rfl | assumption) (by rfl) (by rfl) ?_
    refine w_ld d_148_45 rfl rfl rfl ?_
    refine w_ld d_148_46 rfl rfl rfl ?_
    refine w_getF d_148_47 (by rfl) (by first | rfl | assumption) (by rfl) (by rfl) ?_
    refine w_ld d_148_50 rfl rfl rfl ?_
    refine w_gI d_148_51 (by rfl) (by first | rfl | assumption) (by rfl) (by exact hd.1) ?_
    refine w_aI d_148_54 (by first | rfl | assumption) (by omega) (show _ = μ.2.2 60 d from rfl) ?_
    refine w_iast d_148_55 (by first | rfl | assumption) (by omega) ?_
    refine w_ld d_148_56 rfl rfl rfl ?_
    refine w_getF d_148_57 (by rfl) (by first | rfl | assumption) (by rfl) (by rfl) ?_
    refine w_ld d_148_60 rfl rfl rfl ?_
    refine w_sip d_148_61 (by decide) ?_
    refine w_ld d_148_64 rfl rfl rfl ?_
    refine w_gI d_148_65 (by rfl) (by first | rfl | assumption) (by rfl) (show _ = μ.1 46 17 from rfl) ?_
    refine w_iadd d_148_68 ?_
    refine w_ld d_148_69 rfl rfl rfl ?_
    refine w_isub d_148_70 ?_
    refine w_iast d_148_71 (by first | rfl | assumption) (by omega) ?_
    refine w_ld d_148_72 rfl rfl rfl ?_
    refine w_con d_148_73 ?_
    refine w_icmp_eq (g := 88) d_148_74 (by decide) (by omega) (fun h74 => ?_) (fun h74 => ?_)
    · exact absurd h74 (by omega)
    · refine w_ld d_148_77 rfl rfl rfl ?_
      refine w_con d_148_78 ?_
      refine w_icmp_eq (g := 88) d_148_79 (by decide) (by omega) (fun h79 => ?_) (fun h79 => ?_)
      · exact absurd h79 (by omega)
      · refine w_ld d_148_82 rfl rfl rfl ?_
        refine w_bip d_148_83 (by decide) ?_
        refine w_icmp_ne (g := 92) d_148_85 (by decide) (by omega) (fun h85 => ?_) (fun h85 => ?_)
        · refine w_con d_148_92 ?_
          refine w_st1 (L' := [_, _, _, _]) d_148_93 rfl (by decide) rfl (by decide) rfl ?_
          refine w_ld d_148_94 rfl rfl rfl ?_
          refine w_if_eq (g := 137) d_148_95 (by decide) (by decide) (fun h95 => ?_) (fun h95 => ?_)
          · refine w_ld d_148_137 rfl rfl rfl ?_
            refine w_if_eq (g := 176) d_148_138 (by decide) (by decide) (fun h138 => ?_) (fun h138 => ?_)
            · refine w_ld d_148_176 rfl rfl rfl ?_
              refine w_con d_148_177 ?_
              refine w_icmp_eq (g := 192) d_148_178 (by decide) (by omega) (fun h178 => ?_) (fun h178 => ?_)
              · exact absurd h178 (by omega)
              · refine w_ld d_148_181 rfl rfl rfl ?_
                refine w_bip d_148_182 (by decide) ?_
                refine w_icmp_eq (g := 192) d_148_184 (by decide) (by omega) (fun h184 => ?_) (fun h184 => ?_)
                · exact absurd h184 (by omega)
                · refine w_ld d_148_187 rfl rfl rfl ?_
                  refine w_con d_148_188 ?_
                  refine w_icmp_ne (g := 207) d_148_189 (by decide) (by omega) (fun h189 => ?_) (fun h189 => ?_)
                  · exact K
                  · exact absurd h189 (by omega)
            · exact absurd rfl h138
          · exact absurd rfl h95
        · exact absurd h85 (by omega)
  · refine w_ld d_148_35 rfl rfl rfl ?_
    refine w_bip d_148_36 (by decide) ?_
    refine w_icmp_ne (g := 72) d_148_38 (by decide) (by omega) (fun h38 => ?_) (fun h38 => ?_)
    · exact absurd h38 (by omega)
    · refine w_ld d_148_41 rfl rfl rfl ?_
      refine w_getF d_148_42 (by rfl) (by first | rfl | assumption) (by rfl) (by rfl) ?_
      refine w_ld d_148_45 rfl rfl rfl ?_
      refine w_ld d_148_46 rfl rfl rfl ?_
      refine w_getF d_148_47 (by rfl) (by first | rfl | assumption) (by rfl) (by rfl) ?_
      refine w_ld d_148_50 rfl rfl rfl ?_
      refine w_gI d_148_51 (by rfl) (by first | rfl | assumption) (by rfl) (by exact hd.1) ?_
      refine w_aI d_148_54 (by first | rfl | assumption) (by omega) (show _ = μ.2.2 60 d from rfl) ?_
      refine w_iast d_148_55 (by first | rfl | assumption) (by omega) ?_
      refine w_ld d_148_56 rfl rfl rfl ?_
      refine w_getF d_148_57 (by rfl) (by first | rfl | assumption) (by rfl) (by rfl) ?_
      refine w_ld d_148_60 rfl rfl rfl ?_
      refine w_sip d_148_61 (by decide) ?_
      refine w_ld d_148_64 rfl rfl rfl ?_
      refine w_gI d_148_65 (by rfl) (by first | rfl | assumption) (by rfl) (show _ = μ.1 46 17 from rfl) ?_
      refine w_iadd d_148_68 ?_
      refine w_ld d_148_69 rfl rfl rfl ?_
      refine w_isub d_148_70 ?_
      refine w_iast d_148_71 (by first | rfl | assumption) (by omega) ?_
      refine w_ld d_148_72 rfl rfl rfl ?_
      refine w_con d_148_73 ?_
      refine w_icmp_eq (g := 88) d_148_74 (by decide) (by omega) (fun h74 => ?_) (fun h74 => ?_)
      · exact absurd h74 (by omega)
      · refine w_ld d_148_77 rfl rfl rfl ?_
        refine w_con d_148_78 ?_
        refine w_icmp_eq (g := 88) d_148_79 (by decide) (by omega) (fun h79 => ?_) (fun h79 => ?_)
        · exact absurd h79 (by omega)
        · refine w_ld d_148_82 rfl rfl rfl ?_
          refine w_bip d_148_83 (by decide) ?_
          refine w_icmp_ne (g := 92) d_148_85 (by decide) (by omega) (fun h85 => ?_) (fun h85 => ?_)
          · refine w_con d_148_92 ?_
            refine w_st1 (L' := [_, _, _, _]) d_148_93 rfl (by decide) rfl (by decide) rfl ?_
            refine w_ld d_148_94 rfl rfl rfl ?_
            refine w_if_eq (g := 137) d_148_95 (by decide) (by decide) (fun h95 => ?_) (fun h95 => ?_)
            · refine w_ld d_148_137 rfl rfl rfl ?_
              refine w_if_eq (g := 176) d_148_138 (by decide) (by decide) (fun h138 => ?_) (fun h138 => ?_)
              · refine w_ld d_148_176 rfl rfl rfl ?_
                refine w_con d_148_177 ?_
                refine w_icmp_eq (g := 192) d_148_178 (by decide) (by omega) (fun h178 => ?_) (fun h178 => ?_)
                · exact absurd h178 (by omega)
                · refine w_ld d_148_181 rfl rfl rfl ?_
                  refine w_bip d_148_182 (by decide) ?_
                  refine w_icmp_eq (g := 192) d_148_184 (by decide) (by omega) (fun h184 => ?_) (fun h184 => ?_)
                  · exact absurd h184 (by omega)
                  · refine w_ld d_148_187 rfl rfl rfl ?_
                    refine w_con d_148_188 ?_
                    refine w_icmp_ne (g := 207) d_148_189 (by decide) (by omega) (fun h189 => ?_) (fun h189 => ?_)
                    · exact K
                    · exact absurd h189 (by omega)
              · exact absurd rfl h138
            · exact absurd rfl h95
          · exact absurd h85 (by omega)
theorem m_close2 {sc : Nat × (Nat → Int32)} {fr lo : Nat} {μ : Mem} {ρ : Nat × Nat × Nat} {v m d : Int} (hv : μ.2.2 58 d = v ∧ 256 ≤ v ∧ v < 384) (hm : μ.2.2 59 d = m) (hd : μ.1 46 19 = d ∧ 1 ≤ d ∧ d ≤ 8) (hf : 12 ≤ fr) (hl : 600 ≤ lo) {Q : z_O → z_T → Prop} (hm1 : m = 2) {μ3 : Mem} (hD : w_E sc (fr - 1) (lo - (19 + 7)) 149 [.ref 46, .int (ji v), .int (ji ((2 : Nat) : Int))] (hp (stA (stA (stI μ 46 15 (μ.1 46 15 + 1)) 53 v (μ.2.2 60 d)) 54 v (256 + μ.1 46 17 - v)), ρ) (.inl none) (hp μ3, ρ)) (K : w_P sc fr lo 148 7 4 false (none) prog_9_method_37_code 207 [some (.ref 46), some (.int (ji v)), some (.int (ji m)), some (.int (ji 0))] [] (hp μ3, ρ) Q) : w_S sc fr lo 148 [.ref 46] (hp μ, ρ) Q := by
  refine w_S.of (L0 := [some (.ref 46), none, none, none]) rfl rfl (Nat.le_of_ble_eq_true rfl) (by rfl) ?_
  refine w_ld d_148_0 rfl rfl rfl ?_
  refine w_getF d_148_1 (by rfl) (by first | rfl | assumption) (by rfl) (by rfl) ?_
  refine w_ld d_148_4 rfl rfl rfl ?_
  refine w_gI d_148_5 (by rfl) (by first | rfl | assumption) (by rfl) (by first | exact hd.1 | exact hv.1 | exact hm | ((try simp only [Nat.reduceAdd]) <;> rfl)) ?_
  refine w_aI d_148_8 (by first | rfl | assumption) (by omega) (by first | exact hd.1 | exact hv.1 | exact hm | ((try simp only [Nat.reduceAdd]) <;> rfl)) ?_
  refine w_st1 (L' := [_, _, _, _]) d_148_9 rfl (by decide) rfl (by decide) rfl ?_
  refine w_ld d_148_10 rfl rfl rfl ?_
  refine w_getF d_148_11 (by rfl) (by first | rfl | assumption) (by rfl) (by rfl) ?_
  refine w_ld d_148_14 rfl rfl rfl ?_
  refine w_gI d_148_15 (by rfl) (by first | rfl | assumption) (by rfl) (by first | exact hd.1 | exact hv.1 | exact hm | ((try simp only [Nat.reduceAdd]) <;> rfl)) ?_
  refine w_aI d_148_18 (by first | rfl | assumption) (by omega) (by first | exact hd.1 | exact hv.1 | exact hm | ((try simp only [Nat.reduceAdd]) <;> rfl)) ?_
  refine w_st1 (L' := [_, _, _, _]) d_148_19 rfl (by decide) rfl (by decide) rfl ?_
  refine w_ld d_148_20 rfl rfl rfl ?_
  refine w_stk d_148_21 rfl ?_
  refine w_gI d_148_22 (by rfl) (by first | rfl | assumption) (by rfl) (show _ = μ.1 46 15 from rfl) ?_
  refine w_con d_148_25 ?_
  refine w_iadd d_148_26 ?_
  refine w_putI d_148_27 (by rfl) (by first | rfl | assumption) (by rfl) (fit_I (by rfl)) (by rfl) ?_
  refine w_ld d_148_30 rfl rfl rfl ?_
  refine w_con d_148_31 ?_
  refine w_icmp_lt (g := 41) d_148_32 (by decide) (by omega) (fun h32 => ?_) (fun h32 => ?_)
  · refine w_ld d_148_41 rfl rfl rfl ?_
    refine w_getF d_148_42 (by rfl) (by first | rfl | assumption) (by rfl) (by rfl) ?_
    refine w_ld d_148_45 rfl rfl rfl ?_
    refine w_ld d_148_46 rfl rfl rfl ?_
    refine w_getF d_148_47 (by rfl) (by first | rfl | assumption) (by rfl) (by rfl) ?_
    refine w_ld d_148_50 rfl rfl rfl ?_
    refine w_gI d_148_51 (by rfl) (by first | rfl | assumption) (by rfl) (by exact hd.1) ?_
    refine w_aI d_148_54 (by first | rfl | assumption) (by omega) (show _ = μ.2.2 60 d from rfl) ?_
    refine w_iast d_148_55 (by first | rfl | assumption) (by omega) ?_
    refine w_ld d_148_56 rfl rfl rfl ?_
    refine w_getF d_148_57 (by rfl) (by first | rfl | assumption) (by rfl) (by rfl) ?_
    refine w_ld d_148_60 rfl rfl rfl ?_
    refine w_sip d_148_61 (by decide) ?_
    refine w_ld d_148_64 rfl rfl rfl ?_
    refine w_gI d_148_65 (by rfl) (by first | rfl | assumption) (by rfl) (show _ = μ.1 46 17 from rfl) ?_
    refine w_iadd d_148_68 ?_
    refine w_ld d_148_69 rfl rfl rfl ?_
    refine w_isub d_148_70 ?_
    refine w_iast d_148_71 (by first | rfl | assumption) (by omega) ?_
    refine w_ld d_148_72 rfl rfl rfl ?_
    refine w_con d_148_73 ?_
    refine w_icmp_eq (g := 88) d_148_74 (by decide) (by omega) (fun h74 => ?_) (fun h74 => ?_)
    · exact absurd h74 (by omega)
    · refine w_ld d_148_77 rfl rfl rfl ?_
      refine w_con d_148_78 ?_
      refine w_icmp_eq (g := 88) d_148_79 (by decide) (by omega) (fun h79 => ?_) (fun h79 => ?_)
      · exact absurd h79 (by omega)
      · refine w_ld d_148_82 rfl rfl rfl ?_
        refine w_bip d_148_83 (by decide) ?_
        refine w_icmp_ne (g := 92) d_148_85 (by decide) (by omega) (fun h85 => ?_) (fun h85 => ?_)
        · refine w_con d_148_92 ?_
          refine w_st1 (L' := [_, _, _, _]) d_148_93 rfl (by decide) rfl (by decide) rfl ?_
          refine w_ld d_148_94 rfl rfl rfl ?_
          refine w_if_eq (g := 137) d_148_95 (by decide) (by decide) (fun h95 => ?_) (fun h95 => ?_)
          · refine w_ld d_148_137 rfl rfl rfl ?_
            refine w_if_eq (g := 176) d_148_138 (by decide) (by decide) (fun h138 => ?_) (fun h138 => ?_)
            · refine w_ld d_148_176 rfl rfl rfl ?_
              refine w_con d_148_177 ?_
              refine w_icmp_eq (g := 192) d_148_178 (by decide) (by omega) (fun h178 => ?_) (fun h178 => ?_)
              · exact absurd h178 (by omega)
              · refine w_ld d_148_181 rfl rfl rfl ?_
                refine w_bip d_148_182 (by decide) ?_
                refine w_icmp_eq (g := 192) d_148_184 (by decide) (by omega) (fun h184 => ?_) (fun h184 => ?_)
                · exact absurd h184 (by omega)
                · refine w_ld d_148_187 rfl rfl rfl ?_
                  refine w_con d_148_188 ?_
                  refine w_icmp_ne (g := 207) d_148_189 (by decide) (by omega) (fun h189 => ?_) (fun h189 => ?_)
                  · exact absurd h189 (by omega)
                  · refine w_ld d_148_192 rfl rfl rfl ?_
                    refine w_ld d_148_193 rfl rfl rfl ?_
                    refine w_ld d_148_194 rfl rfl rfl ?_
                    refine w_con d_148_195 ?_
                    refine w_icmp_ne (g := 203) d_148_196 (by decide) (by omega) (fun h196 => ?_) (fun h196 => ?_)
                    · refine w_con d_148_203 ?_
                      refine w_cV0 (a := 46) (as := [_, _]) (rest := _) rfl d_148_204 (by rfl) (by rfl) (by first | rfl | assumption) (by rfl) (by rfl) (Nat.le_of_ble_eq_true rfl) (by omega) (by omega) hD ?_
                      exact K
                    · exact absurd h196 (by omega)
            · exact absurd rfl h138
          · exact absurd rfl h95
        · exact absurd h85 (by omega)
  · exact absurd h32 (by omega)
theorem m_close3 {sc : Nat × (Nat → Int32)} {fr lo : Nat} {μ : Mem} {ρ : Nat × Nat × Nat} {v m d : Int} (hv : μ.2.2 58 d = v ∧ 256 ≤ v ∧ v < 384) (hm : μ.2.2 59 d = m) (hd : μ.1 46 19 = d ∧ 1 ≤ d ∧ d ≤ 8) (hf : 12 ≤ fr) (hl : 600 ≤ lo) {Q : z_O → z_T → Prop} (hm1 : m = 3) (K : w_P sc fr lo 148 7 4 false (none) prog_9_method_37_code 207 [some (.ref 46), some (.int (ji v)), some (.int (ji m)), some (.int (ji 0))] [] (hp (stI μ 46 15 (μ.1 46 15 + 1)), ρ) Q) : w_S sc fr lo 148 [.ref 46] (hp μ, ρ) Q := by
  refine w_S.of (L0 := [some (.ref 46), none, none, none]) rfl rfl (Nat.le_of_ble_eq_true rfl) (by rfl) ?_
  refine w_ld d_148_0 rfl rfl rfl ?_
  refine w_getF d_148_1 (by rfl) (by first | rfl | assumption) (by rfl) (by rfl) ?_
  refine w_ld d_148_4 rfl rfl rfl ?_
  refine w_gI d_148_5 (by rfl) (by first | rfl | assumption) (by rfl) (by first | exact hd.1 | exact hv.1 | exact hm | ((try simp only [Nat.reduceAdd]) <;> rfl)) ?_
  refine w_aI d_148_8 (by first | rfl | assumption) (by omega) (by first | exact hd.1 | exact hv.1 | exact hm | ((try simp only [Nat.reduceAdd]) <;> rfl)) ?_
  refine w_st1 (L' := [_, _, _, _]) d_148_9 rfl (by decide) rfl (by decide) rfl ?_
  refine w_ld d_148_10 rfl rfl rfl ?_
  refine w_getF d_148_11 (by rfl) (by first | rfl | assumption) (by rfl) (by rfl) ?_
  refine w_ld d_148_14 rfl rfl rfl ?_
  refine w_gI d_148_15 (by rfl) (by first | rfl | assumption) (by rfl) (by first | exact hd.1 | exact hv.1 | exact hm | ((try simp only [Nat.reduceAdd]) <;> rfl)) ?_
  refine w_aI d_148_18 (by first | rfl | assumption) (by omega) (by first | exact hd.1 | exact hv.1 | exact hm | ((try simp only [Nat.reduceAdd]) <;> rfl)) ?_
  refine w_st1 (L' := [_, _, _, _]) d_148_19 rfl (by decide) rfl (by decide) rfl ?_
  refine w_ld d_148_20 rfl rfl rfl ?_
  refine w_stk d_148_21 rfl ?_
  refine w_gI d_148_22 (by rfl) (by first | rfl | assumption) (by rfl) (show _ = μ.1 46 15 from rfl) ?_
  refine w_con d_148_25 ?_
  refine w_iadd d_148_26 ?_
  refine w_putI d_148_27 (by rfl) (by first | rfl | assumption) (by rfl) (fit_I (by rfl)) (by rfl) ?_
  refine w_ld d_148_30 rfl rfl rfl ?_
  refine w_con d_148_31 ?_
  refine w_icmp_lt (g := 41) d_148_32 (by decide) (by omega) (fun h32 => ?_) (fun h32 => ?_)
  · exact absurd h32 (by omega)
  · refine w_ld d_148_35 rfl rfl rfl ?_
    refine w_bip d_148_36 (by decide) ?_
    refine w_icmp_ne (g := 72) d_148_38 (by decide) (by omega) (fun h38 => ?_) (fun h38 => ?_)
    · refine w_ld d_148_72 rfl rfl rfl ?_
      refine w_con d_148_73 ?_
      refine w_icmp_eq (g := 88) d_148_74 (by decide) (by omega) (fun h74 => ?_) (fun h74 => ?_)
      · exact absurd h74 (by omega)
      · refine w_ld d_148_77 rfl rfl rfl ?_
        refine w_con d_148_78 ?_
        refine w_icmp_eq (g := 88) d_148_79 (by decide) (by omega) (fun h79 => ?_) (fun h79 => ?_)
        · exact absurd h79 (by omega)
        · refine w_ld d_148_82 rfl rfl rfl ?_
          refine w_bip d_148_83 (by decide) ?_
          refine w_icmp_ne (g := 92) d_148_85 (by decide) (by omega) (fun h85 => ?_) (fun h85 => ?_)
          · refine w_con d_148_92 ?_
            refine w_st1 (L' := [_, _, _, _]) d_148_93 rfl (by decide) rfl (by decide) rfl ?_
            refine w_ld d_148_94 rfl rfl rfl ?_
            refine w_if_eq (g := 137) d_148_95 (by decide) (by decide) (fun h95 => ?_) (fun h95 => ?_)
            · refine w_ld d_148_137 rfl rfl rfl ?_
              refine w_if_eq (g := 176) d_148_138 (by decide) (by decide) (fun h138 => ?_) (fun h138 => ?_)
              · refine w_ld d_148_176 rfl rfl rfl ?_
                refine w_con d_148_177 ?_
                refine w_icmp_eq (g := 192) d_148_178 (by decide) (by omega) (fun h178 => ?_) (fun h178 => ?_)
                · exact absurd h178 (by omega)
                · refine w_ld d_148_181 rfl rfl rfl ?_
                  refine w_bip d_148_182 (by decide) ?_
                  refine w_icmp_eq (g := 192) d_148_184 (by decide) (by omega) (fun h184 => ?_) (fun h184 => ?_)
                  · exact absurd h184 (by omega)
                  · refine w_ld d_148_187 rfl rfl rfl ?_
                    refine w_con d_148_188 ?_
                    refine w_icmp_ne (g := 207) d_148_189 (by decide) (by omega) (fun h189 => ?_) (fun h189 => ?_)
                    · exact K
                    · exact absurd h189 (by omega)
              · exact absurd rfl h138
            · exact absurd rfl h95
          · exact absurd h85 (by omega)
    · exact absurd h38 (by omega)
theorem m_close4 {sc : Nat × (Nat → Int32)} {fr lo : Nat} {μ : Mem} {ρ : Nat × Nat × Nat} {v m d : Int} (hv : μ.2.2 58 d = v ∧ 256 ≤ v ∧ v < 384) (hm : μ.2.2 59 d = m) (hd : μ.1 46 19 = d ∧ 1 ≤ d ∧ d ≤ 8) (hf : 12 ≤ fr) (hl : 600 ≤ lo) {Q : z_O → z_T → Prop} (h16 : μ.1 46 16 = -1) (hm1 : m = 4) (hk : μ.2.2 49 v = 8) {μ3 : Mem} (hD : w_E sc (fr - 1) (lo - (19 + 7)) 149 [.ref 46, .int (ji v), .int (ji ((1 : Nat) : Int))] (hp (stA (stI μ 46 15 (μ.1 46 15 + 1)) 49 v 10), ρ) (.inl none) (hp μ3, ρ)) (K : w_P sc fr lo 148 7 4 false (none) prog_9_method_37_code 207 [some (.ref 46), some (.int (ji v)), some (.int (ji m)), some (.int (ji 1))] [] (hp μ3, ρ) Q) : w_S sc fr lo 148 [.ref 46] (hp μ, ρ) Q := by
  refine w_S.of (L0 := [some (.ref 46), none, none, none]) rfl rfl (Nat.le_of_ble_eq_true rfl) (by rfl) ?_
  refine w_ld d_148_0 rfl rfl rfl ?_
  refine w_getF d_148_1 (by rfl) (by first | rfl | assumption) (by rfl) (by rfl) ?_
  refine w_ld d_148_4 rfl rfl rfl ?_
  refine w_gI d_148_5 (by rfl) (by first | rfl | assumption) (by rfl) (by first | exact hd.1 | exact hv.1 | exact hm | ((try simp only [Nat.reduceAdd]) <;> rfl)) ?_
  refine w_aI d_148_8 (by first | rfl | assumption) (by omega) (by first | exact hd.1 | exact hv.1 | exact hm | ((try simp only [Nat.reduceAdd]) <;> rfl)) ?_
  refine w_st1 (L' := [_, _, _, _]) d_148_9 rfl (by decide) rfl (by decide) rfl ?_
  refine w_ld d_148_10 rfl rfl rfl ?_
  refine w_getF d_148_11 (by rfl) (by first | rfl | assumption) (by rfl) (by rfl) ?_
  refine w_ld d_148_14 rfl rfl rfl ?_
  refine w_gI d_148_15 (by rfl) (by first | rfl | assumption) (by rfl) (by first | exact hd.1 | exact hv.1 | exact hm | ((try simp only [Nat.reduceAdd]) <;> rfl)) ?_
  refine w_aI d_148_18 (by first | rfl | assumption) (by omega) (by first | exact hd.1 | exact hv.1 | exact hm | ((try simp only [Nat.reduceAdd]) <;> rfl)) ?_
  refine w_st1 (L' := [_, _, _, _]) d_148_19 rfl (by decide) rfl (by decide) rfl ?_
  refine w_ld d_148_20 rfl rfl rfl ?_
  refine w_stk d_148_21 rfl ?_
  refine w_gI d_148_22 (by rfl) (by first | rfl | assumption) (by rfl) (show _ = μ.1 46 15 from rfl) ?_
  refine w_con d_148_25 ?_
  refine w_iadd d_148_26 ?_
  refine w_putI d_148_27 (by rfl) (by first | rfl | assumption) (by rfl) (fit_I (by rfl)) (by rfl) ?_
  refine w_ld d_148_30 rfl rfl rfl ?_
  refine w_con d_148_31 ?_
  refine w_icmp_lt (g := 41) d_148_32 (by decide) (by omega) (fun h32 => ?_) (fun h32 => ?_)
  · exact absurd h32 (by omega)
  · refine w_ld d_148_35 rfl rfl rfl ?_
    refine w_bip d_148_36 (by decide) ?_
    refine w_icmp_ne (g := 72) d_148_38 (by decide) (by omega) (fun h38 => ?_) (fun h38 => ?_)
    · refine w_ld d_148_72 rfl rfl rfl ?_
      refine w_con d_148_73 ?_
      refine w_icmp_eq (g := 88) d_148_74 (by decide) (by omega) (fun h74 => ?_) (fun h74 => ?_)
      · refine w_con d_148_88 ?_
        refine w_goto (g := 93) d_148_89 (by decide) ?_
        refine w_st1 (L' := [_, _, _, _]) d_148_93 rfl (by decide) rfl (by decide) rfl ?_
        refine w_ld d_148_94 rfl rfl rfl ?_
        refine w_if_eq (g := 137) d_148_95 (by decide) (by decide) (fun h95 => ?_) (fun h95 => ?_)
        · exact absurd h95 (by decide)
        · refine w_ld d_148_98 rfl rfl rfl ?_
          refine w_getF d_148_99 (by rfl) (by first | rfl | assumption) (by rfl) (by rfl) ?_
          refine w_ld d_148_102 rfl rfl rfl ?_
          refine w_aI d_148_103 (by first | rfl | assumption) (by omega) (show _ = μ.2.2 49 v from rfl) ?_
          refine w_bip d_148_104 (by decide) ?_
          refine w_icmp_ne (g := 127) d_148_106 (by decide) (by omega) (fun h106 => ?_) (fun h106 => ?_)
          · exact absurd h106 (by omega)
          · refine w_ld d_148_109 rfl rfl rfl ?_
            refine w_bip d_148_110 (by decide) ?_
            refine w_icmp_ne (g := 137) d_148_112 (by decide) (by omega) (fun h112 => ?_) (fun h112 => ?_)
            · refine w_ld d_148_137 rfl rfl rfl ?_
              refine w_if_eq (g := 176) d_148_138 (by decide) (by decide) (fun h138 => ?_) (fun h138 => ?_)
              · exact absurd h138 (by decide)
              · refine w_ld d_148_141 rfl rfl rfl ?_
                refine w_gI d_148_142 (by rfl) (by first | rfl | assumption) (by rfl) (by exact h16) ?_
                refine w_if_ge (g := 176) d_148_145 (by decide) (by decide) (fun h145 => ?_) (fun h145 => ?_)
                · exact absurd h145 (by decide)
                · refine w_ld d_148_148 rfl rfl rfl ?_
                  refine w_getF d_148_149 (by rfl) (by first | rfl | assumption) (by rfl) (by rfl) ?_
                  refine w_ld d_148_152 rfl rfl rfl ?_
                  refine w_ld d_148_153 rfl rfl rfl ?_
                  refine w_con d_148_154 ?_
                  refine w_icmp_ne (g := 163) d_148_155 (by decide) (by omega) (fun h155 => ?_) (fun h155 => ?_)
                  · exact absurd h155 (by omega)
                  · refine w_bip d_148_158 (by decide) ?_
                    refine w_goto (g := 175) d_148_160 (by decide) ?_
                    refine w_iast d_148_175 (by first | rfl | assumption) (by omega) ?_
                    refine w_ld d_148_176 rfl rfl rfl ?_
                    refine w_con d_148_177 ?_
                    refine w_icmp_eq (g := 192) d_148_178 (by decide) (by omega) (fun h178 => ?_) (fun h178 => ?_)
                    · refine w_ld d_148_192 rfl rfl rfl ?_
                      refine w_ld d_148_193 rfl rfl rfl ?_
                      refine w_ld d_148_194 rfl rfl rfl ?_
                      refine w_con d_148_195 ?_
                      refine w_icmp_ne (g := 203) d_148_196 (by decide) (by omega) (fun h196 => ?_) (fun h196 => ?_)
                      · exact absurd h196 (by omega)
                      · refine w_con d_148_199 ?_
                        refine w_goto (g := 204) d_148_200 (by decide) ?_
                        refine w_cV0 (a := 46) (as := [_, _]) (rest := _) rfl d_148_204 (by rfl) (by rfl) (by first | rfl | assumption) (by rfl) (by rfl) (Nat.le_of_ble_eq_true rfl) (by omega) (by omega) hD ?_
                        exact K
                    · exact absurd h178 (by omega)
            · exact absurd h112 (by omega)
      · exact absurd h74 (by omega)
    · exact absurd h38 (by omega)
theorem m_close4x {sc : Nat × (Nat → Int32)} {fr lo : Nat} {μ : Mem} {ρ : Nat × Nat × Nat} {v m d : Int} (hv : μ.2.2 58 d = v ∧ 256 ≤ v ∧ v < 384) (hm : μ.2.2 59 d = m) (hd : μ.1 46 19 = d ∧ 1 ≤ d ∧ d ≤ 8) (hf : 12 ≤ fr) (hl : 600 ≤ lo) {Q : z_O → z_T → Prop} (h16 : μ.1 46 16 = -1) (hm1 : m = 4) (hk0 : 0 ≤ μ.2.2 49 v ∧ μ.2.2 49 v ≤ 12) (hk : μ.2.2 49 v ≠ 8) (hfr : 0 ≤ μ.2.2 55 v ∧ μ.2.2 55 v ≤ 1000) {μ3 : Mem} (hD : w_E sc (fr - 1) (lo - (19 + 7)) 149 [.ref 46, .int (ji v), .int (ji ((1 : Nat) : Int))] (hp (stI (stI μ 46 15 (μ.1 46 15 + 1)) 46 16 (μ.2.2 55 v)), ρ) (.inl none) (hp μ3, ρ)) (K : w_P sc fr lo 148 7 4 false (none) prog_9_method_37_code 207 [some (.ref 46), some (.int (ji v)), some (.int (ji m)), some (.int (ji 1))] [] (hp μ3, ρ) Q) : w_S sc fr lo 148 [.ref 46] (hp μ, ρ) Q := by
  have ef := m_fail (sc := sc) (fr := fr - 1) (lo := lo - (19 + 2)) (μ := (stI μ 46 15 (μ.1 46 15 + 1))) (ρ := ρ) (by rw [show (stI μ 46 15 (μ.1 46 15 + 1)).1 46 16 = -1 from h16]; decide) (k := μ.2.2 55 v)
  rw [show (stI μ 46 15 (μ.1 46 15 + 1)).1 46 16 = -1 from h16, if_pos (by decide)] at ef
  refine w_S.of (L0 := [some (.ref 46), none, none, none]) rfl rfl (Nat.le_of_ble_eq_true rfl) (by rfl) ?_
  refine w_ld d_148_0 rfl rfl rfl ?_
  refine w_getF d_148_1 (by rfl) (by first | rfl | assumption) (by rfl) (by rfl) ?_
  refine w_ld d_148_4 rfl rfl rfl ?_
  refine w_gI d_148_5 (by rfl) (by first | rfl | assumption) (by rfl) (by first | exact hd.1 | exact hv.1 | exact hm | ((try simp only [Nat.reduceAdd]) <;> rfl)) ?_
  refine w_aI d_148_8 (by first | rfl | assumption) (by omega) (by first | exact hd.1 | exact hv.1 | exact hm | ((try simp only [Nat.reduceAdd]) <;> rfl)) ?_
  refine w_st1 (L' := [_, _, _, _]) d_148_9 rfl (by decide) rfl (by decide) rfl ?_
  refine w_ld d_148_10 rfl rfl rfl ?_
  refine w_getF d_148_11 (by rfl) (by first | rfl | assumption) (by rfl) (by rfl) ?_
  refine w_ld d_148_14 rfl rfl rfl ?_
  refine w_gI d_148_15 (by rfl) (by first | rfl | assumption) (by rfl) (by first | exact hd.1 | exact hv.1 | exact hm | ((try simp only [Nat.reduceAdd]) <;> rfl)) ?_
  refine w_aI d_148_18 (by first | rfl | assumption) (by omega) (by first | exact hd.1 | exact hv.1 | exact hm | ((try simp only [Nat.reduceAdd]) <;> rfl)) ?_
  refine w_st1 (L' := [_, _, _, _]) d_148_19 rfl (by decide) rfl (by decide) rfl ?_
  refine w_ld d_148_20 rfl rfl rfl ?_
  refine w_stk d_148_21 rfl ?_
  refine w_gI d_148_22 (by rfl) (by first | rfl | assumption) (by rfl) (show _ = μ.1 46 15 from rfl) ?_
  refine w_con d_148_25 ?_
  refine w_iadd d_148_26 ?_
  refine w_putI d_148_27 (by rfl) (by first | rfl | assumption) (by rfl) (fit_I (by rfl)) (by rfl) ?_
  refine w_ld d_148_30 rfl rfl rfl ?_
  refine w_con d_148_31 ?_
  refine w_icmp_lt (g := 41) d_148_32 (by decide) (by omega) (fun h32 => ?_) (fun h32 => ?_)
  · exact absurd h32 (by omega)
  · refine w_ld d_148_35 rfl rfl rfl ?_
    refine w_bip d_148_36 (by decide) ?_
    refine w_icmp_ne (g := 72) d_148_38 (by decide) (by omega) (fun h38 => ?_) (fun h38 => ?_)
    · refine w_ld d_148_72 rfl rfl rfl ?_
      refine w_con d_148_73 ?_
      refine w_icmp_eq (g := 88) d_148_74 (by decide) (by omega) (fun h74 => ?_) (fun h74 => ?_)
      · refine w_con d_148_88 ?_
        refine w_goto (g := 93) d_148_89 (by decide) ?_
        refine w_st1 (L' := [_, _, _, _]) d_148_93 rfl (by decide) rfl (by decide) rfl ?_
        refine w_ld d_148_94 rfl rfl rfl ?_
        refine w_if_eq (g := 137) d_148_95 (by decide) (by decide) (fun h95 => ?_) (fun h95 => ?_)
        · exact absurd h95 (by decide)
        · refine w_ld d_148_98 rfl rfl rfl ?_
          refine w_getF d_148_99 (by rfl) (by first | rfl | assumption) (by rfl) (by rfl) ?_
          refine w_ld d_148_102 rfl rfl rfl ?_
          refine w_aI d_148_103 (by first | rfl | assumption) (by omega) (show _ = μ.2.2 49 v from rfl) ?_
          refine w_bip d_148_104 (by decide) ?_
          refine w_icmp_ne (g := 127) d_148_106 (by decide) (by omega) (fun h106 => ?_) (fun h106 => ?_)
          · refine w_ld d_148_127 rfl rfl rfl ?_
            refine w_ld d_148_128 rfl rfl rfl ?_
            refine w_getF d_148_129 (by rfl) (by first | rfl | assumption) (by rfl) (by rfl) ?_
            refine w_ld d_148_132 rfl rfl rfl ?_
            refine w_aI d_148_133 (by first | rfl | assumption) (by omega) (show _ = μ.2.2 55 v from rfl) ?_
            refine w_cV0 (a := 46) (as := [_]) (rest := _) rfl d_148_134 (by rfl) (by rfl) (by first | rfl | assumption) (by rfl) (by rfl) (Nat.le_of_ble_eq_true rfl) (by omega) (by omega) ef ?_
            refine w_ld d_148_137 rfl rfl rfl ?_
            refine w_if_eq (g := 176) d_148_138 (by decide) (by decide) (fun h138 => ?_) (fun h138 => ?_)
            · exact absurd h138 (by decide)
            · refine w_ld d_148_141 rfl rfl rfl ?_
              refine w_gI d_148_142 (by rfl) (by first | rfl | assumption) (by rfl) (show _ = μ.2.2 55 v from rfl) ?_
              refine w_if_ge (g := 176) d_148_145 (by decide) (by omega) (fun h145 => ?_) (fun h145 => ?_)
              · refine w_ld d_148_176 rfl rfl rfl ?_
                refine w_con d_148_177 ?_
                refine w_icmp_eq (g := 192) d_148_178 (by decide) (by omega) (fun h178 => ?_) (fun h178 => ?_)
                · refine w_ld d_148_192 rfl rfl rfl ?_
                  refine w_ld d_148_193 rfl rfl rfl ?_
                  refine w_ld d_148_194 rfl rfl rfl ?_
                  refine w_con d_148_195 ?_
                  refine w_icmp_ne (g := 203) d_148_196 (by decide) (by omega) (fun h196 => ?_) (fun h196 => ?_)
                  · exact absurd h196 (by omega)
                  · refine w_con d_148_199 ?_
                    refine w_goto (g := 204) d_148_200 (by decide) ?_
                    refine w_cV0 (a := 46) (as := [_, _]) (rest := _) rfl d_148_204 (by rfl) (by rfl) (by first | rfl | assumption) (by rfl) (by rfl) (Nat.le_of_ble_eq_true rfl) (by omega) (by omega) hD ?_
                    exact K
                · exact absurd h178 (by omega)
              · exact absurd h145 (by omega)
          · exact absurd h106 (by omega)
      · exact absurd h74 (by omega)
    · exact absurd h38 (by omega)
theorem m_close5 {sc : Nat × (Nat → Int32)} {fr lo : Nat} {μ : Mem} {ρ : Nat × Nat × Nat} {v m d : Int} (hv : μ.2.2 58 d = v ∧ 256 ≤ v ∧ v < 384) (hm : μ.2.2 59 d = m) (hd : μ.1 46 19 = d ∧ 1 ≤ d ∧ d ≤ 8) (hf : 12 ≤ fr) (hl : 600 ≤ lo) {Q : z_O → z_T → Prop} (h16 : μ.1 46 16 = -1) (hm1 : m = 5) (hk : μ.2.2 49 v = 8) (K : w_P sc fr lo 148 7 4 false (none) prog_9_method_37_code 207 [some (.ref 46), some (.int (ji v)), some (.int (ji m)), some (.int (ji 1))] [] (hp (stA (stI μ 46 15 (μ.1 46 15 + 1)) 49 v 9), ρ) Q) : w_S sc fr lo 148 [.ref 46] (hp μ, ρ) Q := by
  refine w_S.of (L0 := [some (.ref 46), none, none, none]) rfl rfl (Nat.le_of_ble_eq_true rfl) (by rfl) ?_
  refine w_ld d_148_0 rfl rfl rfl ?_
  refine w_getF d_148_1 (by rfl) (by first | rfl | assumption) (by rfl) (by rfl) ?_
  refine w_ld d_148_4 rfl rfl rfl ?_
  refine w_gI d_148_5 (by rfl) (by first | rfl | assumption) (by rfl) (by first | exact hd.1 | exact hv.1 | exact hm | ((try simp only [Nat.reduceAdd]) <;> rfl)) ?_
  refine w_aI d_148_8 (by first | rfl | assumption) (by omega) (by first | exact hd.1 | exact hv.1 | exact hm | ((try simp only [Nat.reduceAdd]) <;> rfl)) ?_
  refine w_st1 (L' := [_, _, _, _]) d_148_9 rfl (by decide) rfl (by decide) rfl ?_
  refine w_ld d_148_10 rfl rfl rfl ?_
  refine w_getF d_148_11 (by rfl) (by first | rfl | assumption) (by rfl) (by rfl) ?_
  refine w_ld d_148_14 rfl rfl rfl ?_
  refine w_gI d_148_15 (by rfl) (by first | rfl | assumption) (by rfl) (by first | exact hd.1 | exact hv.1 | exact hm | ((try simp only [Nat.reduceAdd]) <;> rfl)) ?_
  refine w_aI d_148_18 (by first | rfl | assumption) (by omega) (by first | exact hd.1 | exact hv.1 | exact hm | ((try simp only [Nat.reduceAdd]) <;> rfl)) ?_
  refine w_st1 (L' := [_, _, _, _]) d_148_19 rfl (by decide) rfl (by decide) rfl ?_
  refine w_ld d_148_20 rfl rfl rfl ?_
  refine w_stk d_148_21 rfl ?_
  refine w_gI d_148_22 (by rfl) (by first | rfl | assumption) (by rfl) (show _ = μ.1 46 15 from rfl) ?_
  refine w_con d_148_25 ?_
  refine w_iadd d_148_26 ?_
  refine w_putI d_148_27 (by rfl) (by first | rfl | assumption) (by rfl) (fit_I (by rfl)) (by rfl) ?_
  refine w_ld d_148_30 rfl rfl rfl ?_
  refine w_con d_148_31 ?_
  refine w_icmp_lt (g := 41) d_148_32 (by decide) (by omega) (fun h32 => ?_) (fun h32 => ?_)
  · exact absurd h32 (by omega)
  · refine w_ld d_148_35 rfl rfl rfl ?_
    refine w_bip d_148_36 (by decide) ?_
    refine w_icmp_ne (g := 72) d_148_38 (by decide) (by omega) (fun h38 => ?_) (fun h38 => ?_)
    · refine w_ld d_148_72 rfl rfl rfl ?_
      refine w_con d_148_73 ?_
      refine w_icmp_eq (g := 88) d_148_74 (by decide) (by omega) (fun h74 => ?_) (fun h74 => ?_)
      · exact absurd h74 (by omega)
      · refine w_ld d_148_77 rfl rfl rfl ?_
        refine w_con d_148_78 ?_
        refine w_icmp_eq (g := 88) d_148_79 (by decide) (by omega) (fun h79 => ?_) (fun h79 => ?_)
        · refine w_con d_148_88 ?_
          refine w_goto (g := 93) d_148_89 (by decide) ?_
          refine w_st1 (L' := [_, _, _, _]) d_148_93 rfl (by decide) rfl (by decide) rfl ?_
          refine w_ld d_148_94 rfl rfl rfl ?_
          refine w_if_eq (g := 137) d_148_95 (by decide) (by decide) (fun h95 => ?_) (fun h95 => ?_)
          · exact absurd h95 (by decide)
          · refine w_ld d_148_98 rfl rfl rfl ?_
            refine w_getF d_148_99 (by rfl) (by first | rfl | assumption) (by rfl) (by rfl) ?_
            refine w_ld d_148_102 rfl rfl rfl ?_
            refine w_aI d_148_103 (by first | rfl | assumption) (by omega) (show _ = μ.2.2 49 v from rfl) ?_
            refine w_bip d_148_104 (by decide) ?_
            refine w_icmp_ne (g := 127) d_148_106 (by decide) (by omega) (fun h106 => ?_) (fun h106 => ?_)
            · exact absurd h106 (by omega)
            · refine w_ld d_148_109 rfl rfl rfl ?_
              refine w_bip d_148_110 (by decide) ?_
              refine w_icmp_ne (g := 137) d_148_112 (by decide) (by omega) (fun h112 => ?_) (fun h112 => ?_)
              · refine w_ld d_148_137 rfl rfl rfl ?_
                refine w_if_eq (g := 176) d_148_138 (by decide) (by decide) (fun h138 => ?_) (fun h138 => ?_)
                · exact absurd h138 (by decide)
                · refine w_ld d_148_141 rfl rfl rfl ?_
                  refine w_gI d_148_142 (by rfl) (by first | rfl | assumption) (by rfl) (by exact h16) ?_
                  refine w_if_ge (g := 176) d_148_145 (by decide) (by decide) (fun h145 => ?_) (fun h145 => ?_)
                  · exact absurd h145 (by decide)
                  · refine w_ld d_148_148 rfl rfl rfl ?_
                    refine w_getF d_148_149 (by rfl) (by first | rfl | assumption) (by rfl) (by rfl) ?_
                    refine w_ld d_148_152 rfl rfl rfl ?_
                    refine w_ld d_148_153 rfl rfl rfl ?_
                    refine w_con d_148_154 ?_
                    refine w_icmp_ne (g := 163) d_148_155 (by decide) (by omega) (fun h155 => ?_) (fun h155 => ?_)
                    · refine w_ld d_148_163 rfl rfl rfl ?_
                      refine w_con d_148_164 ?_
                      refine w_icmp_ne (g := 173) d_148_165 (by decide) (by omega) (fun h165 => ?_) (fun h165 => ?_)
                      · exact absurd h165 (by omega)
                      · refine w_bip d_148_168 (by decide) ?_
                        refine w_goto (g := 175) d_148_170 (by decide) ?_
                        refine w_iast d_148_175 (by first | rfl | assumption) (by omega) ?_
                        refine w_ld d_148_176 rfl rfl rfl ?_
                        refine w_con d_148_177 ?_
                        refine w_icmp_eq (g := 192) d_148_178 (by decide) (by omega) (fun h178 => ?_) (fun h178 => ?_)
                        · exact absurd h178 (by omega)
                        · refine w_ld d_148_181 rfl rfl rfl ?_
                          refine w_bip d_148_182 (by decide) ?_
                          refine w_icmp_eq (g := 192) d_148_184 (by decide) (by omega) (fun h184 => ?_) (fun h184 => ?_)
                          · exact absurd h184 (by omega)
                          · refine w_ld d_148_187 rfl rfl rfl ?_
                            refine w_con d_148_188 ?_
                            refine w_icmp_ne (g := 207) d_148_189 (by decide) (by omega) (fun h189 => ?_) (fun h189 => ?_)
                            · exact K
                            · exact absurd h189 (by omega)
                    · exact absurd h155 (by omega)
              · exact absurd h112 (by omega)
        · exact absurd h79 (by omega)
    · exact absurd h38 (by omega)
theorem m_close5x {sc : Nat × (Nat → Int32)} {fr lo : Nat} {μ : Mem} {ρ : Nat × Nat × Nat} {v m d : Int} (hv : μ.2.2 58 d = v ∧ 256 ≤ v ∧ v < 384) (hm : μ.2.2 59 d = m) (hd : μ.1 46 19 = d ∧ 1 ≤ d ∧ d ≤ 8) (hf : 12 ≤ fr) (hl : 600 ≤ lo) {Q : z_O → z_T → Prop} (h16 : μ.1 46 16 = -1) (hm1 : m = 5) (hk0 : 0 ≤ μ.2.2 49 v ∧ μ.2.2 49 v ≤ 12) (hk : μ.2.2 49 v ≠ 8) (hfr : 0 ≤ μ.2.2 55 v ∧ μ.2.2 55 v ≤ 1000) (K : w_P sc fr lo 148 7 4 false (none) prog_9_method_37_code 207 [some (.ref 46), some (.int (ji v)), some (.int (ji m)), some (.int (ji 1))] [] (hp (stI (stI μ 46 15 (μ.1 46 15 + 1)) 46 16 (μ.2.2 55 v)), ρ) Q) : w_S sc fr lo 148 [.ref 46] (hp μ, ρ) Q := by
  have ef := m_fail (sc := sc) (fr := fr - 1) (lo := lo - (19 + 2)) (μ := (stI μ 46 15 (μ.1 46 15 + 1))) (ρ := ρ) (by rw [show (stI μ 46 15 (μ.1 46 15 + 1)).1 46 16 = -1 from h16]; decide) (k := μ.2.2 55 v)
  rw [show (stI μ 46 15 (μ.1 46 15 + 1)).1 46 16 = -1 from h16, if_pos (by decide)] at ef
  refine w_S.of (L0 := [some (.ref 46), none, none, none]) rfl rfl (Nat.le_of_ble_eq_true rfl) (by rfl) ?_
  refine w_ld d_148_0 rfl rfl rfl ?_
  refine w_getF d_148_1 (by rfl) (by first | rfl | assumption) (by rfl) (by rfl) ?_
  refine w_ld d_148_4 rfl rfl rfl ?_
  refine w_gI d_148_5 (by rfl) (by first | rfl | assumption) (by rfl) (by first | exact hd.1 | exact hv.1 | exact hm | ((try simp only [Nat.reduceAdd]) <;> rfl)) ?_
  refine w_aI d_148_8 (by first | rfl | assumption) (by omega) (by first | exact hd.1 | exact hv.1 | exact hm | ((try simp only [Nat.reduceAdd]) <;> rfl)) ?_
  refine w_st1 (L' := [_, _, _, _]) d_148_9 rfl (by decide) rfl (by decide) rfl ?_
  refine w_ld d_148_10 rfl rfl rfl ?_
  refine w_getF d_148_11 (by rfl) (by first | rfl | assumption) (by rfl) (by rfl) ?_
  refine w_ld d_148_14 rfl rfl rfl ?_
  refine w_gI d_148_15 (by rfl) (by first | rfl | assumption) (by rfl) (by first | exact hd.1 | exact hv.1 | exact hm | ((try simp only [Nat.reduceAdd]) <;> rfl)) ?_
  refine w_aI d_148_18 (by first | rfl | assumption) (by omega) (by first | exact hd.1 | exact hv.1 | exact hm | ((try simp only [Nat.reduceAdd]) <;> rfl)) ?_
  refine w_st1 (L' := [_, _, _, _]) d_148_19 rfl (by decide) rfl (by decide) rfl ?_
  refine w_ld d_148_20 rfl rfl rfl ?_
  refine w_stk d_148_21 rfl ?_
  refine w_gI d_148_22 (by rfl) (by first | rfl | assumption) (by rfl) (show _ = μ.1 46 15 from rfl) ?_
  refine w_con d_148_25 ?_
  refine w_iadd d_148_26 ?_
  refine w_putI d_148_27 (by rfl) (by first | rfl | assumption) (by rfl) (fit_I (by rfl)) (by rfl) ?_
  refine w_ld d_148_30 rfl rfl rfl ?_
  refine w_con d_148_31 ?_
  refine w_icmp_lt (g := 41) d_148_32 (by decide) (by omega) (fun h32 => ?_) (fun h32 => ?_)
  · exact absurd h32 (by omega)
  · refine w_ld d_148_35 rfl rfl rfl ?_
    refine w_bip d_148_36 (by decide) ?_
    refine w_icmp_ne (g := 72) d_148_38 (by decide) (by omega) (fun h38 => ?_) (fun h38 => ?_)
    · refine w_ld d_148_72 rfl rfl rfl ?_
      refine w_con d_148_73 ?_
      refine w_icmp_eq (g := 88) d_148_74 (by decide) (by omega) (fun h74 => ?_) (fun h74 => ?_)
      · exact absurd h74 (by omega)
      · refine w_ld d_148_77 rfl rfl rfl ?_
        refine w_con d_148_78 ?_
        refine w_icmp_eq (g := 88) d_148_79 (by decide) (by omega) (fun h79 => ?_) (fun h79 => ?_)
        · refine w_con d_148_88 ?_
          refine w_goto (g := 93) d_148_89 (by decide) ?_
          refine w_st1 (L' := [_, _, _, _]) d_148_93 rfl (by decide) rfl (by decide) rfl ?_
          refine w_ld d_148_94 rfl rfl rfl ?_
          refine w_if_eq (g := 137) d_148_95 (by decide) (by decide) (fun h95 => ?_) (fun h95 => ?_)
          · exact absurd h95 (by decide)
          · refine w_ld d_148_98 rfl rfl rfl ?_
            refine w_getF d_148_99 (by rfl) (by first | rfl | assumption) (by rfl) (by rfl) ?_
            refine w_ld d_148_102 rfl rfl rfl ?_
            refine w_aI d_148_103 (by first | rfl | assumption) (by omega) (show _ = μ.2.2 49 v from rfl) ?_
            refine w_bip d_148_104 (by decide) ?_
            refine w_icmp_ne (g := 127) d_148_106 (by decide) (by omega) (fun h106 => ?_) (fun h106 => ?_)
            · refine w_ld d_148_127 rfl rfl rfl ?_
              refine w_ld d_148_128 rfl rfl rfl ?_
              refine w_getF d_148_129 (by rfl) (by first | rfl | assumption) (by rfl) (by rfl) ?_
              refine w_ld d_148_132 rfl rfl rfl ?_
              refine w_aI d_148_133 (by first | rfl | assumption) (by omega) (show _ = μ.2.2 55 v from rfl) ?_
              refine w_cV0 (a := 46) (as := [_]) (rest := _) rfl d_148_134 (by rfl) (by rfl) (by first | rfl | assumption) (by rfl) (by rfl) (Nat.le_of_ble_eq_true rfl) (by omega) (by omega) ef ?_
              refine w_ld d_148_137 rfl rfl rfl ?_
              refine w_if_eq (g := 176) d_148_138 (by decide) (by decide) (fun h138 => ?_) (fun h138 => ?_)
              · exact absurd h138 (by decide)
              · refine w_ld d_148_141 rfl rfl rfl ?_
                refine w_gI d_148_142 (by rfl) (by first | rfl | assumption) (by rfl) (show _ = μ.2.2 55 v from rfl) ?_
                refine w_if_ge (g := 176) d_148_145 (by decide) (by omega) (fun h145 => ?_) (fun h145 => ?_)
                · refine w_ld d_148_176 rfl rfl rfl ?_
                  refine w_con d_148_177 ?_
                  refine w_icmp_eq (g := 192) d_148_178 (by decide) (by omega) (fun h178 => ?_) (fun h178 => ?_)
                  · exact absurd h178 (by omega)
                  · refine w_ld d_148_181 rfl rfl rfl ?_
                    refine w_bip d_148_182 (by decide) ?_
                    refine w_icmp_eq (g := 192) d_148_184 (by decide) (by omega) (fun h184 => ?_) (fun h184 => ?_)
                    · exact absurd h184 (by omega)
                    · refine w_ld d_148_187 rfl rfl rfl ?_
                      refine w_con d_148_188 ?_
                      refine w_icmp_ne (g := 207) d_148_189 (by decide) (by omega) (fun h189 => ?_) (fun h189 => ?_)
                      · exact K
                      · exact absurd h189 (by omega)
                · exact absurd h145 (by omega)
            · exact absurd h106 (by omega)
        · exact absurd h79 (by omega)
    · exact absurd h38 (by omega)
theorem m_close6 {sc : Nat × (Nat → Int32)} {fr lo : Nat} {μ : Mem} {ρ : Nat × Nat × Nat} {v m d : Int} (hv : μ.2.2 58 d = v ∧ 256 ≤ v ∧ v < 384) (hm : μ.2.2 59 d = m) (hd : μ.1 46 19 = d ∧ 1 ≤ d ∧ d ≤ 8) (hf : 12 ≤ fr) (hl : 600 ≤ lo) {Q : z_O → z_T → Prop} (h16 : μ.1 46 16 = -1) (hm1 : m = 6) (hpar : 0 ≤ μ.2.2 53 v ∧ μ.2.2 53 v ≤ 240) (hk : μ.2.2 49 v = 8 ∧ μ.2.2 53 v % 2 = 0) {μ3 : Mem} (hD : w_E sc (fr - 1) (lo - (19 + 7)) 149 [.ref 46, .int (ji v), .int (ji ((2 : Nat) : Int))] (hp (stA (stI μ 46 15 (μ.1 46 15 + 1)) 49 v 11), ρ) (.inl none) (hp μ3, ρ)) (K : w_P sc fr lo 148 7 4 false (none) prog_9_method_37_code 207 [some (.ref 46), some (.int (ji v)), some (.int (ji m)), some (.int (ji 1))] [] (hp μ3, ρ) Q) : w_S sc fr lo 148 [.ref 46] (hp μ, ρ) Q := by
  have hpm : (μ.2.2 53 v).tmod 2 = μ.2.2 53 v % 2 := Int.tmod_eq_emod_of_nonneg hpar.1
  refine w_S.of (L0 := [some (.ref 46), none, none, none]) rfl rfl (Nat.le_of_ble_eq_true rfl) (by rfl) ?_
  refine w_ld d_148_0 rfl rfl rfl ?_
  refine w_getF d_148_1 (by rfl) (by first | rfl | assumption) (by rfl) (by rfl) ?_
  refine w_ld d_148_4 rfl rfl rfl ?_
  refine w_gI d_148_5 (by rfl) (by first | rfl | assumption) (by rfl) (by first | exact hd.1 | exact hv.1 | exact hm | ((try simp only [Nat.reduceAdd]) <;> rfl)) ?_
  refine w_aI d_148_8 (by first | rfl | assumption) (by omega) (by first | exact hd.1 | exact hv.1 | exact hm | ((try simp only [Nat.reduceAdd]) <;> rfl)) ?_
  refine w_st1 (L' := [_, _, _, _]) d_148_9 rfl (by decide) rfl (by decide) rfl ?_
  refine w_ld d_148_10 rfl rfl rfl ?_
  refine w_getF d_148_11 (by rfl) (by first | rfl | assumption) (by rfl) (by rfl) ?_
  refine w_ld d_148_14 rfl rfl rfl ?_
  refine w_gI d_148_15 (by rfl) (by first | rfl | assumption) (by rfl) (by first | exact hd.1 | exact hv.1 | exact hm | ((try simp only [Nat.reduceAdd]) <;> rfl)) ?_
  refine w_aI d_148_18 (by first | rfl | assumption) (by omega) (by first | exact hd.1 | exact hv.1 | exact hm | ((try simp only [Nat.reduceAdd]) <;> rfl)) ?_
  refine w_st1 (L' := [_, _, _, _]) d_148_19 rfl (by decide) rfl (by decide) rfl ?_
  refine w_ld d_148_20 rfl rfl rfl ?_
  refine w_stk d_148_21 rfl ?_
  refine w_gI d_148_22 (by rfl) (by first | rfl | assumption) (by rfl) (show _ = μ.1 46 15 from rfl) ?_
  refine w_con d_148_25 ?_
  refine w_iadd d_148_26 ?_
  refine w_putI d_148_27 (by rfl) (by first | rfl | assumption) (by rfl) (fit_I (by rfl)) (by rfl) ?_
  refine w_ld d_148_30 rfl rfl rfl ?_
  refine w_con d_148_31 ?_
  refine w_icmp_lt (g := 41) d_148_32 (by decide) (by omega) (fun h32 => ?_) (fun h32 => ?_)
  · exact absurd h32 (by omega)
  · refine w_ld d_148_35 rfl rfl rfl ?_
    refine w_bip d_148_36 (by decide) ?_
    refine w_icmp_ne (g := 72) d_148_38 (by decide) (by omega) (fun h38 => ?_) (fun h38 => ?_)
    · refine w_ld d_148_72 rfl rfl rfl ?_
      refine w_con d_148_73 ?_
      refine w_icmp_eq (g := 88) d_148_74 (by decide) (by omega) (fun h74 => ?_) (fun h74 => ?_)
      · exact absurd h74 (by omega)
      · refine w_ld d_148_77 rfl rfl rfl ?_
        refine w_con d_148_78 ?_
        refine w_icmp_eq (g := 88) d_148_79 (by decide) (by omega) (fun h79 => ?_) (fun h79 => ?_)
        · exact absurd h79 (by omega)
        · refine w_ld d_148_82 rfl rfl rfl ?_
          refine w_bip d_148_83 (by decide) ?_
          refine w_icmp_ne (g := 92) d_148_85 (by decide) (by omega) (fun h85 => ?_) (fun h85 => ?_)
          · exact absurd h85 (by omega)
          · refine w_con d_148_88 ?_
            refine w_goto (g := 93) d_148_89 (by decide) ?_
            refine w_st1 (L' := [_, _, _, _]) d_148_93 rfl (by decide) rfl (by decide) rfl ?_
            refine w_ld d_148_94 rfl rfl rfl ?_
            refine w_if_eq (g := 137) d_148_95 (by decide) (by decide) (fun h95 => ?_) (fun h95 => ?_)
            · exact absurd h95 (by decide)
            · refine w_ld d_148_98 rfl rfl rfl ?_
              refine w_getF d_148_99 (by rfl) (by first | rfl | assumption) (by rfl) (by rfl) ?_
              refine w_ld d_148_102 rfl rfl rfl ?_
              refine w_aI d_148_103 (by first | rfl | assumption) (by omega) (show _ = μ.2.2 49 v from rfl) ?_
              refine w_bip d_148_104 (by decide) ?_
              refine w_icmp_ne (g := 127) d_148_106 (by decide) (by omega) (fun h106 => ?_) (fun h106 => ?_)
              · exact absurd h106 (by omega)
              · refine w_ld d_148_109 rfl rfl rfl ?_
                refine w_bip d_148_110 (by decide) ?_
                refine w_icmp_ne (g := 137) d_148_112 (by decide) (by omega) (fun h112 => ?_) (fun h112 => ?_)
                · exact absurd h112 (by omega)
                · refine w_ld d_148_115 rfl rfl rfl ?_
                  refine w_getF d_148_116 (by rfl) (by first | rfl | assumption) (by rfl) (by rfl) ?_
                  refine w_ld d_148_119 rfl rfl rfl ?_
                  refine w_aI d_148_120 (by first | rfl | assumption) (by omega) (show _ = μ.2.2 53 v from rfl) ?_
                  refine w_con d_148_121 ?_
                  refine w_irem d_148_122 (by omega) (by decide) ?_
                  refine w_con d_148_123 ?_
                  refine w_icmp_ne (g := 137) d_148_124 (by decide) (by rw [hpm]; omega) (fun h124 => ?_) (fun h124 => ?_)
                  · refine w_ld d_148_137 rfl rfl rfl ?_
                    refine w_if_eq (g := 176) d_148_138 (by decide) (by decide) (fun h138 => ?_) (fun h138 => ?_)
                    · exact absurd h138 (by decide)
                    · refine w_ld d_148_141 rfl rfl rfl ?_
                      refine w_gI d_148_142 (by rfl) (by first | rfl | assumption) (by rfl) (by exact h16) ?_
                      refine w_if_ge (g := 176) d_148_145 (by decide) (by decide) (fun h145 => ?_) (fun h145 => ?_)
                      · exact absurd h145 (by decide)
                      · refine w_ld d_148_148 rfl rfl rfl ?_
                        refine w_getF d_148_149 (by rfl) (by first | rfl | assumption) (by rfl) (by rfl) ?_
                        refine w_ld d_148_152 rfl rfl rfl ?_
                        refine w_ld d_148_153 rfl rfl rfl ?_
                        refine w_con d_148_154 ?_
                        refine w_icmp_ne (g := 163) d_148_155 (by decide) (by omega) (fun h155 => ?_) (fun h155 => ?_)
                        · refine w_ld d_148_163 rfl rfl rfl ?_
                          refine w_con d_148_164 ?_
                          refine w_icmp_ne (g := 173) d_148_165 (by decide) (by omega) (fun h165 => ?_) (fun h165 => ?_)
                          · refine w_bip d_148_173 (by decide) ?_
                            refine w_iast d_148_175 (by first | rfl | assumption) (by omega) ?_
                            refine w_ld d_148_176 rfl rfl rfl ?_
                            refine w_con d_148_177 ?_
                            refine w_icmp_eq (g := 192) d_148_178 (by decide) (by omega) (fun h178 => ?_) (fun h178 => ?_)
                            · exact absurd h178 (by omega)
                            · refine w_ld d_148_181 rfl rfl rfl ?_
                              refine w_bip d_148_182 (by decide) ?_
                              refine w_icmp_eq (g := 192) d_148_184 (by decide) (by omega) (fun h184 => ?_) (fun h184 => ?_)
                              · refine w_ld d_148_192 rfl rfl rfl ?_
                                refine w_ld d_148_193 rfl rfl rfl ?_
                                refine w_ld d_148_194 rfl rfl rfl ?_
                                refine w_con d_148_195 ?_
                                refine w_icmp_ne (g := 203) d_148_196 (by decide) (by omega) (fun h196 => ?_) (fun h196 => ?_)
                                · refine w_con d_148_203 ?_
                                  refine w_cV0 (a := 46) (as := [_, _]) (rest := _) rfl d_148_204 (by rfl) (by rfl) (by first | rfl | assumption) (by rfl) (by rfl) (Nat.le_of_ble_eq_true rfl) (by omega) (by omega) hD ?_
                                  exact K
                                · exact absurd h196 (by omega)
                              · exact absurd h184 (by omega)
                          · exact absurd h165 (by omega)
                        · exact absurd h155 (by omega)
                  · exact absurd h124 (by rw [hpm]; omega)
    · exact absurd h38 (by omega)
theorem m_close6x {sc : Nat × (Nat → Int32)} {fr lo : Nat} {μ : Mem} {ρ : Nat × Nat × Nat} {v m d : Int} (hv : μ.2.2 58 d = v ∧ 256 ≤ v ∧ v < 384) (hm : μ.2.2 59 d = m) (hd : μ.1 46 19 = d ∧ 1 ≤ d ∧ d ≤ 8) (hf : 12 ≤ fr) (hl : 600 ≤ lo) {Q : z_O → z_T → Prop} (h16 : μ.1 46 16 = -1) (hm1 : m = 6) (hpar : 0 ≤ μ.2.2 53 v ∧ μ.2.2 53 v ≤ 240) (hk0 : 0 ≤ μ.2.2 49 v ∧ μ.2.2 49 v ≤ 12) (hk : μ.2.2 49 v ≠ 8 ∨ μ.2.2 53 v % 2 = 1) (hfr : 0 ≤ μ.2.2 55 v ∧ μ.2.2 55 v ≤ 1000) {μ3 : Mem} (hD : w_E sc (fr - 1) (lo - (19 + 7)) 149 [.ref 46, .int (ji v), .int (ji ((2 : Nat) : Int))] (hp (stI (stI μ 46 15 (μ.1 46 15 + 1)) 46 16 (μ.2.2 55 v)), ρ) (.inl none) (hp μ3, ρ)) (K : w_P sc fr lo 148 7 4 false (none) prog_9_method_37_code 207 [some (.ref 46), some (.int (ji v)), some (.int (ji m)), some (.int (ji 1))] [] (hp μ3, ρ) Q) : w_S sc fr lo 148 [.ref 46] (hp μ, ρ) Q := by
  have hpm : (μ.2.2 53 v).tmod 2 = μ.2.2 53 v % 2 := Int.tmod_eq_emod_of_nonneg hpar.1
  have ef := m_fail (sc := sc) (fr := fr - 1) (lo := lo - (19 + 2)) (μ := (stI μ 46 15 (μ.1 46 15 + 1))) (ρ := ρ) (by rw [show (stI μ 46 15 (μ.1 46 15 + 1)).1 46 16 = -1 from h16]; decide) (k := μ.2.2 55 v)
  rw [show (stI μ 46 15 (μ.1 46 15 + 1)).1 46 16 = -1 from h16, if_pos (by decide)] at ef
  refine w_S.of (L0 := [some (.ref 46), none, none, none]) rfl rfl (Nat.le_of_ble_eq_true rfl) (by rfl) ?_
  refine w_ld d_148_0 rfl rfl rfl ?_
  refine w_getF d_148_1 (by rfl) (by first | rfl | assumption) (by rfl) (by rfl) ?_
  refine w_ld d_148_4 rfl rfl rfl ?_
  refine w_gI d_148_5 (by rfl) (by first | rfl | assumption) (by rfl) (by first | exact hd.1 | exact hv.1 | exact hm | ((try simp only [Nat.reduceAdd]) <;> rfl)) ?_
  refine w_aI d_148_8 (by first | rfl | assumption) (by omega) (by first | exact hd.1 | exact hv.1 | exact hm | ((try simp only [Nat.reduceAdd]) <;> rfl)) ?_
  refine w_st1 (L' := [_, _, _, _]) d_148_9 rfl (by decide) rfl (by decide) rfl ?_
  refine w_ld d_148_10 rfl rfl rfl ?_
  refine w_getF d_148_11 (by rfl) (by first | rfl | assumption) (by rfl) (by rfl) ?_
  refine w_ld d_148_14 rfl rfl rfl ?_
  refine w_gI d_148_15 (by rfl) (by first | rfl | assumption) (by rfl) (by first | exact hd.1 | exact hv.1 | exact hm | ((try simp only [Nat.reduceAdd]) <;> rfl)) ?_
  refine w_aI d_148_18 (by first | rfl | assumption) (by omega) (by first | exact hd.1 | exact hv.1 | exact hm | ((try simp only [Nat.reduceAdd]) <;> rfl)) ?_
  refine w_st1 (L' := [_, _, _, _]) d_148_19 rfl (by decide) rfl (by decide) rfl ?_
  refine w_ld d_148_20 rfl rfl rfl ?_
  refine w_stk d_148_21 rfl ?_
  refine w_gI d_148_22 (by rfl) (by first | rfl | assumption) (by rfl) (show _ = μ.1 46 15 from rfl) ?_
  refine w_con d_148_25 ?_
  refine w_iadd d_148_26 ?_
  refine w_putI d_148_27 (by rfl) (by first | rfl | assumption) (by rfl) (fit_I (by rfl)) (by rfl) ?_
  refine w_ld d_148_30 rfl rfl rfl ?_
  refine w_con d_148_31 ?_
  refine w_icmp_lt (g := 41) d_148_32 (by decide) (by omega) (fun h32 => ?_) (fun h32 => ?_)
  · exact absurd h32 (by omega)
  · refine w_ld d_148_35 rfl rfl rfl ?_
    refine w_bip d_148_36 (by decide) ?_
    refine w_icmp_ne (g := 72) d_148_38 (by decide) (by omega) (fun h38 => ?_) (fun h38 => ?_)
    · refine w_ld d_148_72 rfl rfl rfl ?_
      refine w_con d_148_73 ?_
      refine w_icmp_eq (g := 88) d_148_74 (by decide) (by omega) (fun h74 => ?_) (fun h74 => ?_)
      · exact absurd h74 (by omega)
      · refine w_ld d_148_77 rfl rfl rfl ?_
        refine w_con d_148_78 ?_
        refine w_icmp_eq (g := 88) d_148_79 (by decide) (by omega) (fun h79 => ?_) (fun h79 => ?_)
        · exact absurd h79 (by omega)
        · refine w_ld d_148_82 rfl rfl rfl ?_
          refine w_bip d_148_83 (by decide) ?_
          refine w_icmp_ne (g := 92) d_148_85 (by decide) (by omega) (fun h85 => ?_) (fun h85 => ?_)
          · exact absurd h85 (by omega)
          · refine w_con d_148_88 ?_
            refine w_goto (g := 93) d_148_89 (by decide) ?_
            refine w_st1 (L' := [_, _, _, _]) d_148_93 rfl (by decide) rfl (by decide) rfl ?_
            refine w_ld d_148_94 rfl rfl rfl ?_
            refine w_if_eq (g := 137) d_148_95 (by decide) (by decide) (fun h95 => ?_) (fun h95 => ?_)
            · exact absurd h95 (by decide)
            · refine w_ld d_148_98 rfl rfl rfl ?_
              refine w_getF d_148_99 (by rfl) (by first | rfl | assumption) (by rfl) (by rfl) ?_
              refine w_ld d_148_102 rfl rfl rfl ?_
              refine w_aI d_148_103 (by first | rfl | assumption) (by omega) (show _ = μ.2.2 49 v from rfl) ?_
              refine w_bip d_148_104 (by decide) ?_
              refine w_icmp_ne (g := 127) d_148_106 (by decide) (by omega) (fun h106 => ?_) (fun h106 => ?_)
              · refine w_ld d_148_127 rfl rfl rfl ?_
                refine w_ld d_148_128 rfl rfl rfl ?_
                refine w_getF d_148_129 (by rfl) (by first | rfl | assumption) (by rfl) (by rfl) ?_
                refine w_ld d_148_132 rfl rfl rfl ?_
                refine w_aI d_148_133 (by first | rfl | assumption) (by omega) (show _ = μ.2.2 55 v from rfl) ?_
                refine w_cV0 (a := 46) (as := [_]) (rest := _) rfl d_148_134 (by rfl) (by rfl) (by first | rfl | assumption) (by rfl) (by rfl) (Nat.le_of_ble_eq_true rfl) (by omega) (by omega) ef ?_
                refine w_ld d_148_137 rfl rfl rfl ?_
                refine w_if_eq (g := 176) d_148_138 (by decide) (by decide) (fun h138 => ?_) (fun h138 => ?_)
                · exact absurd h138 (by decide)
                · refine w_ld d_148_141 rfl rfl rfl ?_
                  refine w_gI d_148_142 (by rfl) (by first | rfl | assumption) (by rfl) (show _ = μ.2.2 55 v from rfl) ?_
                  refine w_if_ge (g := 176) d_148_145 (by decide) (by omega) (fun h145 => ?_) (fun h145 => ?_)
                  · refine w_ld d_148_176 rfl rfl rfl ?_
                    refine w_con d_148_177 ?_
                    refine w_icmp_eq (g := 192) d_148_178 (by decide) (by omega) (fun h178 => ?_) (fun h178 => ?_)
                    · exact absurd h178 (by omega)
                    · refine w_ld d_148_181 rfl rfl rfl ?_
                      refine w_bip d_148_182 (by decide) ?_
                      refine w_icmp_eq (g := 192) d_148_184 (by decide) (by omega) (fun h184 => ?_) (fun h184 => ?_)
                      · refine w_ld d_148_192 rfl rfl rfl ?_
                        refine w_ld d_148_193 rfl rfl rfl ?_
                        refine w_ld d_148_194 rfl rfl rfl ?_
                        refine w_con d_148_195 ?_
                        refine w_icmp_ne (g := 203) d_148_196 (by decide) (by omega) (fun h196 => ?_) (fun h196 => ?_)
                        · refine w_con d_148_203 ?_
                          refine w_cV0 (a := 46) (as := [_, _]) (rest := _) rfl d_148_204 (by rfl) (by rfl) (by first | rfl | assumption) (by rfl) (by rfl) (Nat.le_of_ble_eq_true rfl) (by omega) (by omega) hD ?_
                          exact K
                        · exact absurd h196 (by omega)
                      · exact absurd h184 (by omega)
                  · exact absurd h145 (by omega)
              · refine w_ld d_148_109 rfl rfl rfl ?_
                refine w_bip d_148_110 (by decide) ?_
                refine w_icmp_ne (g := 137) d_148_112 (by decide) (by omega) (fun h112 => ?_) (fun h112 => ?_)
                · exact absurd h112 (by omega)
                · refine w_ld d_148_115 rfl rfl rfl ?_
                  refine w_getF d_148_116 (by rfl) (by first | rfl | assumption) (by rfl) (by rfl) ?_
                  refine w_ld d_148_119 rfl rfl rfl ?_
                  refine w_aI d_148_120 (by first | rfl | assumption) (by omega) (show _ = μ.2.2 53 v from rfl) ?_
                  refine w_con d_148_121 ?_
                  refine w_irem d_148_122 (by omega) (by decide) ?_
                  refine w_con d_148_123 ?_
                  refine w_icmp_ne (g := 137) d_148_124 (by decide) (by rw [hpm]; omega) (fun h124 => ?_) (fun h124 => ?_)
                  · exact absurd h124 (by rw [hpm]; omega)
                  · refine w_ld d_148_127 rfl rfl rfl ?_
                    refine w_ld d_148_128 rfl rfl rfl ?_
                    refine w_getF d_148_129 (by rfl) (by first | rfl | assumption) (by rfl) (by rfl) ?_
                    refine w_ld d_148_132 rfl rfl rfl ?_
                    refine w_aI d_148_133 (by first | rfl | assumption) (by omega) (show _ = μ.2.2 55 v from rfl) ?_
                    refine w_cV0 (a := 46) (as := [_]) (rest := _) rfl d_148_134 (by rfl) (by rfl) (by first | rfl | assumption) (by rfl) (by rfl) (Nat.le_of_ble_eq_true rfl) (by omega) (by omega) ef ?_
                    refine w_ld d_148_137 rfl rfl rfl ?_
                    refine w_if_eq (g := 176) d_148_138 (by decide) (by decide) (fun h138 => ?_) (fun h138 => ?_)
                    · exact absurd h138 (by decide)
                    · refine w_ld d_148_141 rfl rfl rfl ?_
                      refine w_gI d_148_142 (by rfl) (by first | rfl | assumption) (by rfl) (show _ = μ.2.2 55 v from rfl) ?_
                      refine w_if_ge (g := 176) d_148_145 (by decide) (by omega) (fun h145 => ?_) (fun h145 => ?_)
                      · refine w_ld d_148_176 rfl rfl rfl ?_
                        refine w_con d_148_177 ?_
                        refine w_icmp_eq (g := 192) d_148_178 (by decide) (by omega) (fun h178 => ?_) (fun h178 => ?_)
                        · exact absurd h178 (by omega)
                        · refine w_ld d_148_181 rfl rfl rfl ?_
                          refine w_bip d_148_182 (by decide) ?_
                          refine w_icmp_eq (g := 192) d_148_184 (by decide) (by omega) (fun h184 => ?_) (fun h184 => ?_)
                          · refine w_ld d_148_192 rfl rfl rfl ?_
                            refine w_ld d_148_193 rfl rfl rfl ?_
                            refine w_ld d_148_194 rfl rfl rfl ?_
                            refine w_con d_148_195 ?_
                            refine w_icmp_ne (g := 203) d_148_196 (by decide) (by omega) (fun h196 => ?_) (fun h196 => ?_)
                            · refine w_con d_148_203 ?_
                              refine w_cV0 (a := 46) (as := [_, _]) (rest := _) rfl d_148_204 (by rfl) (by rfl) (by first | rfl | assumption) (by rfl) (by rfl) (Nat.le_of_ble_eq_true rfl) (by omega) (by omega) hD ?_
                              exact K
                            · exact absurd h196 (by omega)
                          · exact absurd h184 (by omega)
                      · exact absurd h145 (by omega)
    · exact absurd h38 (by omega)
