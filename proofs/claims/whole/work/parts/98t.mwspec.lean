/-! THE PURE PART, 99: what the reference writes -/
/-- what a text does to what is drawn and noted; none: too big -/
def wrn (g : List (List Int) → Option (List Int × List (List Int))) : Option (List Int × List (List Int)) → Option (List Int × List (List Int))
  | none => none
  | some (D, N) => match g N with
    | none => none
    | some (l, M) => if D.length + l.length ≤ 240 then some (D ++ l, M) else none
def wsq (g h : List (List Int) → Option (List Int × List (List Int))) (N : List (List Int)) : Option (List Int × List (List Int)) := match g N with
  | none => none
  | some (l, N1) => match h N1 with
    | none => none
    | some (m, N2) => some (l ++ m, N2)
theorem wrn_wrn {g h : List (List Int) → Option (List Int × List (List Int))} {s : Option (List Int × List (List Int))} : wrn h (wrn g s) = wrn (wsq g h) s := by
  cases s with
  | none => rfl
  | some p =>
    obtain ⟨D, N⟩ := p
    unfold wsq
    cases hg : g N with
    | none =>
      simp only [wrn, hg]
    | some q =>
      obtain ⟨l, N1⟩ := q
      by_cases z : D.length + l.length ≤ 240
      · cases hh : h N1 with
        | none => simp only [wrn, hg, hh, if_pos z]
        | some r =>
          obtain ⟨m, N2⟩ := r
          simp only [wrn, hg, hh, if_pos z]
          rw [List.length_append, List.length_append, List.append_assoc, Nat.add_assoc]
      · cases hh : h N1 with
        | none => simp only [wrn, hg, hh, if_neg z]
        | some r =>
          obtain ⟨m, N2⟩ := r
          simp only [wrn, hg, hh, if_neg z]
          rw [if_neg (by rw [List.length_append]; omega)]
def wap (s : Option (List Int × List (List Int))) (l : List Int) : Option (List Int × List (List Int)) := wrn (fun N => some (l, N)) s
theorem wap_wap {s : Option (List Int × List (List Int))} {l m : List Int} : wap (wap s l) m = wap s (l ++ m) := wrn_wrn
theorem wap_n {l : List Int} : wap none l = none := rfl
theorem wap_s {D l : List Int} {N : List (List Int)} (h : D.length + l.length ≤ 240) : wap (some (D, N)) l = some (D ++ l, N) := if_pos h
theorem wap_x {D l : List Int} {N : List (List Int)} (h : ¬ D.length + l.length ≤ 240) : wap (some (D, N)) l = none := if_neg h
/-- letters -/
def ltr (w : List Int) : Prop := ∀ i : Nat, 0 ≤ w.getD i 0 ∧ w.getD i 0 < 65536
theorem ltr_nil : ltr [] := fun i => by simp
theorem ltr_in {w : List Int} (h : ∀ c, c ∈ w → 0 ≤ c ∧ c < 65536) : ltr w := fun i => by
  by_cases z : i < w.length
  · have e : w.getD i 0 = w[i] := by simp [List.getD_eq_getElem?_getD, z]
    rw [e]
    exact h _ (List.getElem_mem z)
  · have e : w.getD i 0 = 0 := by simp [List.getD_eq_getElem?_getD, List.getElem?_eq_none (by omega : w.length ≤ i)]
    rw [e]
    decide
theorem ltr_mem {w : List Int} (h : ltr w) : ∀ c, c ∈ w → 0 ≤ c ∧ c < 65536 := fun c hc => by
  obtain ⟨i, hi, rfl⟩ := List.getElem_of_mem hc
  have := h i
  rwa [show w.getD i 0 = w[i] by simp [List.getD_eq_getElem?_getD, hi]] at this
theorem ltr_app {u v : List Int} (h : ltr u) (g : ltr v) : ltr (u ++ v) := ltr_in (fun c hc => by
  rcases List.mem_append.mp hc with z | z
  · exact ltr_mem h c z
  · exact ltr_mem g c z)
/-- the reference's notes -/
def mnd (N : List (List Int)) (μ : Mem) : Int := if N.length = 0 then 0 else μ.2.2 62 ((N.length : Int) - 1) + μ.2.2 63 ((N.length : Int) - 1)
def MNt (N : List (List Int)) (μ : Mem) : Prop := (μ.1 46 26 = N.length ∧ N.length ≤ 24) ∧ ∀ n : Nat, n < N.length → μ.2.2 63 n = (N.getD n []).length ∧ 0 ≤ μ.2.2 62 n ∧ μ.2.2 62 n + (N.getD n []).length ≤ mnd N μ ∧ ltr (N.getD n []) ∧ ∀ i : Nat, i < (N.getD n []).length → μ.2.2 72 (μ.2.2 62 n + i) = (N.getD n []).getD i 0
def MS : Option (List Int × List (List Int)) → Mem → Prop
  | none, μ => μ.1 46 31 = 1 ∧ (0 ≤ μ.1 46 30 ∧ μ.1 46 30 ≤ 240)
  | some (D, N), μ => μ.1 46 31 = 0 ∧ (μ.1 46 30 = D.length ∧ D.length ≤ 240) ∧ (∀ i : Nat, i < D.length → μ.2.2 64 i = D.getD i 0) ∧ MNt N μ ∧ mnd N μ ≤ D.length
theorem MS_b {s : Option (List Int × List (List Int))} {μ : Mem} (h : MS s μ) : (μ.1 46 31 = 0 ∨ μ.1 46 31 = 1) ∧ 0 ≤ μ.1 46 30 ∧ μ.1 46 30 ≤ 240 := by
  cases s with
  | none => exact ⟨Or.inr h.1, h.2.1, h.2.2⟩
  | some p =>
    obtain ⟨D, N⟩ := p
    have := h.2.1
    exact ⟨Or.inl h.1, by omega, by omega⟩
theorem mnd_eq {N : List (List Int)} {μ μ' : Mem} (h1 : μ'.2.2 62 = μ.2.2 62) (h2 : μ'.2.2 63 = μ.2.2 63) : mnd N μ' = mnd N μ := by unfold mnd; rw [h1, h2]
theorem MNt_eq {N : List (List Int)} {μ μ' : Mem} (h1 : μ'.1 46 26 = μ.1 46 26) (h2 : μ'.2.2 62 = μ.2.2 62) (h3 : μ'.2.2 63 = μ.2.2 63) (h4 : μ'.2.2 72 = μ.2.2 72) (h : MNt N μ) : MNt N μ' := by
  unfold MNt at h ⊢
  rw [h1, h2, h3, h4, mnd_eq h2 h3]
  exact h
theorem MS_eq {s : Option (List Int × List (List Int))} {μ μ' : Mem} (h0 : μ'.1 46 30 = μ.1 46 30 ∧ μ'.1 46 31 = μ.1 46 31) (h1 : μ'.1 46 26 = μ.1 46 26) (h2 : μ'.2.2 62 = μ.2.2 62) (h3 : μ'.2.2 63 = μ.2.2 63) (h4 : μ'.2.2 72 = μ.2.2 72) (h5 : μ'.2.2 64 = μ.2.2 64) (h : MS s μ) : MS s μ' := by
  cases s with
  | none =>
    obtain ⟨a, b⟩ := h
    exact ⟨h0.2.trans a, by rw [h0.1]; exact b⟩
  | some p =>
    obtain ⟨D, N⟩ := p
    obtain ⟨a, b, c, d, e⟩ := h
    exact ⟨h0.2.trans a, by rw [h0.1]; exact b, by rw [h5]; exact c, MNt_eq h1 h2 h3 h4 d, by rw [mnd_eq h2 h3]; exact e⟩
/-- what a letter changes; what the raw word changes; what a text changes; what all of it changes -/
def pfr (μ μ' : Mem) : Prop := (∀ a q, ¬ (a = 46 ∧ (q = 30 ∨ q = 31)) → μ'.1 a q = μ.1 a q) ∧ μ'.2.1 = μ.2.1 ∧ ∀ a, a ≠ 64 → μ'.2.2 a = μ.2.2 a
def rfr (μ μ' : Mem) : Prop := (∀ a q, ¬ (a = 46 ∧ q = 41) → μ'.1 a q = μ.1 a q) ∧ μ'.2.1 = μ.2.1 ∧ ∀ a, a ≠ 71 → μ'.2.2 a = μ.2.2 a
def mw0 (μ μ' : Mem) : Prop := (∀ a q, ¬ (a = 46 ∧ (q = 26 ∨ q = 30 ∨ q = 31 ∨ q = 41)) → μ'.1 a q = μ.1 a q) ∧ μ'.2.1 = μ.2.1 ∧ ∀ a, a ≠ 62 → a ≠ 63 → a ≠ 64 → a ≠ 71 → a ≠ 72 → μ'.2.2 a = μ.2.2 a
def mw1 (μ μ' : Mem) : Prop := (∀ a q, ¬ (a = 46 ∧ (q = 26 ∨ q = 30 ∨ q = 31 ∨ q = 32 ∨ q = 33 ∨ q = 41)) → μ'.1 a q = μ.1 a q) ∧ μ'.2.1 = μ.2.1 ∧ ∀ a, a < 62 ∨ 72 < a → μ'.2.2 a = μ.2.2 a
theorem pfr_refl (μ : Mem) : pfr μ μ := ⟨fun _ _ _ => rfl, rfl, fun _ _ => rfl⟩
theorem rfr_refl (μ : Mem) : rfr μ μ := ⟨fun _ _ _ => rfl, rfl, fun _ _ => rfl⟩
theorem mw0_refl (μ : Mem) : mw0 μ μ := ⟨fun _ _ _ => rfl, rfl, fun _ _ _ _ _ _ => rfl⟩
theorem mw1_refl (μ : Mem) : mw1 μ μ := ⟨fun _ _ _ => rfl, rfl, fun _ _ => rfl⟩
theorem pfr_trans {α β γ : Mem} (h : pfr α β) (g : pfr β γ) : pfr α γ := ⟨fun a q z => (g.1 a q z).trans (h.1 a q z), g.2.1.trans h.2.1, fun a z => (g.2.2 a z).trans (h.2.2 a z)⟩
theorem rfr_trans {α β γ : Mem} (h : rfr α β) (g : rfr β γ) : rfr α γ := ⟨fun a q z => (g.1 a q z).trans (h.1 a q z), g.2.1.trans h.2.1, fun a z => (g.2.2 a z).trans (h.2.2 a z)⟩
theorem mw0_trans {α β γ : Mem} (h : mw0 α β) (g : mw0 β γ) : mw0 α γ := ⟨fun a q z => (g.1 a q z).trans (h.1 a q z), g.2.1.trans h.2.1, fun a z1 z2 z3 z4 z5 => (g.2.2 a z1 z2 z3 z4 z5).trans (h.2.2 a z1 z2 z3 z4 z5)⟩
theorem mw1_trans {α β γ : Mem} (h : mw1 α β) (g : mw1 β γ) : mw1 α γ := ⟨fun a q z => (g.1 a q z).trans (h.1 a q z), g.2.1.trans h.2.1, fun a z => (g.2.2 a z).trans (h.2.2 a z)⟩
theorem pfr.mw {α β : Mem} (h : pfr α β) : mw0 α β := ⟨fun a q z => h.1 a q (by omega), h.2.1, fun a z1 z2 z3 z4 z5 => h.2.2 a z3⟩
theorem rfr.mw {α β : Mem} (h : rfr α β) : mw0 α β := ⟨fun a q z => h.1 a q (by omega), h.2.1, fun a z1 z2 z3 z4 z5 => h.2.2 a z4⟩
theorem mw0.mw {α β : Mem} (h : mw0 α β) : mw1 α β := ⟨fun a q z => h.1 a q (by omega), h.2.1, fun a z => h.2.2 a (by omega) (by omega) (by omega) (by omega) (by omega)⟩
theorem MS_r {s : Option (List Int × List (List Int))} {μ μ' : Mem} (h : MS s μ) (g : rfr μ μ') : MS s μ' :=
  MS_eq ⟨g.1 46 30 (by omega), g.1 46 31 (by omega)⟩ (g.1 46 26 (by omega)) (g.2.2 62 (by omega)) (g.2.2 63 (by omega)) (g.2.2 72 (by omega)) (g.2.2 64 (by omega)) h
/-- the raw word is w -/
def RW (w : List Int) (μ : Mem) : Prop := (μ.1 46 41 = w.length ∧ w.length ≤ 300) ∧ ltr w ∧ ∀ i : Nat, i < w.length → μ.2.2 71 i = w.getD i 0
theorem RW_p {w : List Int} {μ μ' : Mem} (h : RW w μ) (g : pfr μ μ') : RW w μ' := by
  unfold RW at h ⊢
  rw [g.1 46 41 (by omega), g.2.2 71 (by omega)]
  exact h
theorem vM_mw {μ μ' : Mem} (h : mw1 μ μ') : vM μ' = vM μ := by
  unfold vM
  rw [h.2.2 49 (by omega), h.2.2 50 (by omega), h.2.2 51 (by omega), h.2.2 52 (by omega), h.2.2 53 (by omega), h.2.2 54 (by omega), h.2.2 57 (by omega)]
/-- a row that is written -/
def mrw (v : Int) (μ : Mem) : Prop := (0 ≤ v ∧ v < 384) ∧ (0 ≤ μ.2.2 49 v ∧ μ.2.2 49 v ≤ 12) ∧ (-9223372036854775808 ≤ μ.2.2 50 v ∧ μ.2.2 50 v < 9223372036854775808) ∧ (0 ≤ μ.2.2 53 v ∧ μ.2.2 53 v ≤ 240) ∧ (1 ≤ μ.2.2 54 v ∧ μ.2.2 54 v ≤ 240) ∧ ((0 ≤ μ.2.2 52 v ∧ μ.2.2 52 v ≤ 240) ∧ (μ.2.2 52 v = 0 ∨ 0 ≤ μ.2.2 51 v ∧ μ.2.2 51 v + μ.2.2 52 v ≤ 720)) ∧ (μ.2.2 49 v = 7 → 32 ≤ μ.2.2 50 v ∧ μ.2.2 50 v ≤ 126) ∧ (μ.2.2 49 v < 8 → μ.2.2 53 v = 0 ∧ (μ.2.2 49 v = 4 ∨ μ.2.2 49 v = 5 ∨ μ.2.2 49 v = 6 ∨ μ.2.2 52 v = 0)) ∧ (μ.2.2 49 v = 12 → μ.2.2 53 v = 1)
theorem mrw_mw {v : Int} {μ μ' : Mem} (h : mw1 μ μ') (g : mrw v μ) : mrw v μ' := by
  unfold mrw at g ⊢
  rw [h.2.2 49 (by omega), h.2.2 50 (by omega), h.2.2 51 (by omega), h.2.2 52 (by omega), h.2.2 53 (by omega), h.2.2 54 (by omega)]
  exact g
theorem RW_1 {w : List Int} {μ : Mem} {c : Int} (h : RW w μ) (hn : w.length < 300) (hc : 0 ≤ c ∧ c < 65536) : RW (w ++ [c]) (stI (stA μ 71 (μ.1 46 41) c) 46 41 (μ.1 46 41 + 1)) ∧ rfr μ (stI (stA μ 71 (μ.1 46 41) c) 46 41 (μ.1 46 41 + 1)) := by
  obtain ⟨h1, h2, h3⟩ := h
  refine ⟨⟨⟨(stI_at _ _ _ _).trans (by rw [h1.1, List.length_append]; rfl), by rw [List.length_append]; show w.length + 1 ≤ 300; omega⟩, ltr_app h2 (ltr_in (fun d hd => by rw [List.mem_singleton.mp hd]; exact hc)), fun i hi => ?_⟩, fun a q z => stI_ne z, rfl, fun a z => stA_o2 z⟩
  rw [List.length_append] at hi
  have hi : i < w.length + 1 := hi
  show (stA μ 71 (μ.1 46 41) c).2.2 71 i = _
  by_cases z : i < w.length
  · rw [stA_ne (by omega), h3 i z]
    simp [List.getD_eq_getElem?_getD, List.getElem?_append_left z]
  · rw [show (i : Int) = μ.1 46 41 by omega, stA_at, show i = w.length by omega]
    simp [List.getD_eq_getElem?_getD]
theorem MS_1 {s : Option (List Int × List (List Int))} {μ : Mem} {c : Int} (h : MS s μ) (hn : μ.1 46 30 ≠ 240) : MS (wap s [c]) (stI (stA μ 64 (μ.1 46 30) c) 46 30 (μ.1 46 30 + 1)) := by
  have e0 : (stI (stA μ 64 (μ.1 46 30) c) 46 30 (μ.1 46 30 + 1)).1 46 30 = μ.1 46 30 + 1 := stI_at _ _ _ _
  have eI : ∀ q, q ≠ 30 → (stI (stA μ 64 (μ.1 46 30) c) 46 30 (μ.1 46 30 + 1)).1 46 q = μ.1 46 q := fun q hq => stI_ne (by omega)
  have eA : ∀ a, a ≠ 64 → (stI (stA μ 64 (μ.1 46 30) c) 46 30 (μ.1 46 30 + 1)).2.2 a = μ.2.2 a := fun a ha => stA_o2 ha
  cases s with
  | none =>
    obtain ⟨a, b⟩ := h
    exact ⟨(eI 31 (by omega)).trans a, by rw [e0]; omega⟩
  | some p =>
    obtain ⟨D, N⟩ := p
    obtain ⟨a, b, d, f, g⟩ := h
    have hl : D.length + ([c] : List Int).length ≤ 240 := by show D.length + 1 ≤ 240; omega
    rw [wap_s hl]
    refine ⟨(eI 31 (by omega)).trans a, ⟨by rw [e0, b.1, List.length_append]; rfl, by rw [List.length_append]; exact hl⟩, fun i hi => ?_, MNt_eq (eI 26 (by omega)) (eA 62 (by omega)) (eA 63 (by omega)) (eA 72 (by omega)) f, ?_⟩
    · rw [List.length_append] at hi
      have hi : i < D.length + 1 := hi
      show (stA μ 64 (μ.1 46 30) c).2.2 64 i = _
      by_cases z : i < D.length
      · rw [stA_ne (by omega), d i z]
        simp [List.getD_eq_getElem?_getD, List.getElem?_append_left z]
      · rw [show (i : Int) = μ.1 46 30 by omega, stA_at, show i = D.length by omega]
        simp [List.getD_eq_getElem?_getD]
    · rw [mnd_eq (eA 62 (by omega)) (eA 63 (by omega)), List.length_append]
      omega
theorem MS_0 {s : Option (List Int × List (List Int))} {μ : Mem} {c : Int} (h : MS s μ) (hn : μ.1 46 30 = 240) : MS (wap s [c]) (stI μ 46 31 1) := by
  have e : wap s [c] = none := by
    cases s with
    | none => rfl
    | some p =>
      obtain ⟨D, N⟩ := p
      have := h.2.1
      exact wap_x (by show ¬ D.length + 1 ≤ 240; omega)
  rw [e]
  exact ⟨stI_at _ _ _ _, by rw [stI_ne (by omega)]; omega⟩
theorem m_pu {sc : Nat × (Nat → Int32)} {fr lo : Nat} {μ : Mem} {ρ : Nat × Nat × Nat} {s : Option (List Int × List (List Int))} (hS : MS s μ) {c : Int} : w_S sc fr lo 156 [.ref 46, .int (ji c)] (hp μ, ρ) (fun o τ => o = .inl none ∧ ∃ μ', τ = (hp μ', ρ) ∧ MS (wap s [c]) μ' ∧ pfr μ μ') := by
  have hb := MS_b hS
  refine w_S.of (L0 := [some (.ref 46), some (.int (ji c))]) rfl rfl (Nat.le_of_ble_eq_true rfl) (by rfl) ?_
  refine w_ld d_156_0 rfl rfl rfl ?_
  refine w_gI d_156_1 (by rfl) (by first | rfl | assumption) (by rfl) rfl ?_
  refine w_sip d_156_4 (by decide) ?_
  refine w_icmp_ne (g := 16) d_156_7 (by decide) (by omega) (fun h7 => ?_) (fun h7 => ?_)
  · refine w_ld d_156_16 rfl rfl rfl ?_
    refine w_getF d_156_17 (by rfl) (by first | rfl | assumption) (by rfl) (by rfl) ?_
    refine w_ld d_156_20 rfl rfl rfl ?_
    refine w_gI d_156_21 (by rfl) (by first | rfl | assumption) (by rfl) rfl ?_
    refine w_ld d_156_24 rfl rfl rfl ?_
    refine w_iast d_156_25 (by first | rfl | assumption) (by omega) ?_
    refine w_ld d_156_26 rfl rfl rfl ?_
    refine w_stk d_156_27 rfl ?_
    refine w_gI d_156_28 (by rfl) (by first | rfl | assumption) (by rfl) rfl ?_
    refine w_con d_156_31 ?_
    refine w_iadd d_156_32 ?_
    refine w_putI d_156_33 (by rfl) (by first | rfl | assumption) (by rfl) (fit_I (by rfl)) (by rfl) ?_
    refine w_ret d_156_36 rfl ?_
    exact ⟨rfl, _, rfl, MS_1 hS h7, fun a q z => stI_ne (by omega), rfl, fun a z => stA_o2 z⟩
  · refine w_ld d_156_10 rfl rfl rfl ?_
    refine w_con d_156_11 ?_
    refine w_putI d_156_12 (by rfl) (by first | rfl | assumption) (by rfl) (fit_Z (by rfl) (by omega)) (by rfl) ?_
    refine w_ret d_156_15 rfl ?_
    exact ⟨rfl, _, rfl, MS_0 hS h7, fun a q z => stI_ne (by omega), rfl, fun _ _ => rfl⟩
theorem m_rpu {sc : Nat × (Nat → Int32)} {fr lo : Nat} {μ : Mem} {ρ : Nat × Nat × Nat} {w : List Int} (hR : RW w μ) {c : Int} (hc : 0 ≤ c ∧ c < 65536) (hn : w.length < 300) : w_S sc fr lo 159 [.ref 46, .int (ji c)] (hp μ, ρ) (fun o τ => o = .inl none ∧ ∃ μ', τ = (hp μ', ρ) ∧ RW (w ++ [c]) μ' ∧ rfr μ μ') := by
  refine w_S.of (L0 := [some (.ref 46), some (.int (ji c))]) rfl rfl (Nat.le_of_ble_eq_true rfl) (by rfl) ?_
  refine w_ld d_159_0 rfl rfl rfl ?_
  refine w_getF d_159_1 (by rfl) (by first | rfl | assumption) (by rfl) (by rfl) ?_
  refine w_ld d_159_4 rfl rfl rfl ?_
  refine w_gI d_159_5 (by rfl) (by first | rfl | assumption) (by rfl) rfl ?_
  refine w_ld d_159_8 rfl rfl rfl ?_
  refine w_iast d_159_9 (by first | rfl | assumption) (by have := hR.1; omega) ?_
  refine w_ld d_159_10 rfl rfl rfl ?_
  refine w_stk d_159_11 rfl ?_
  refine w_gI d_159_12 (by rfl) (by first | rfl | assumption) (by rfl) rfl ?_
  refine w_con d_159_15 ?_
  refine w_iadd d_159_16 ?_
  refine w_putI d_159_17 (by rfl) (by first | rfl | assumption) (by rfl) (fit_I (by rfl)) (by rfl) ?_
  refine w_ret d_159_20 rfl ?_
  exact ⟨rfl, _, rfl, RW_1 hR hn hc⟩
theorem RW_0 (μ : Mem) : RW [] (stI μ 46 41 0) ∧ rfr μ (stI μ 46 41 0) := ⟨⟨⟨stI_at _ _ _ _, by decide⟩, ltr_nil, fun i hi => absurd hi (Nat.not_lt_zero i)⟩, fun a q z => stI_ne z, rfl, fun _ _ => rfl⟩
theorem m_rawBegin {sc : Nat × (Nat → Int32)} {fr lo : Nat} {μ : Mem} {ρ : Nat × Nat × Nat} {x z : Int} (hx : 0 ≤ x ∧ x < 65536) (hz : 0 < z ∧ z < 65536) (hf : 3 ≤ fr) (hl : 100 ≤ lo) : w_S sc fr lo 158 [.ref 46, .int (ji x), .int (ji z)] (hp μ, ρ) (fun o τ => o = .inl none ∧ ∃ μ', τ = (hp μ', ρ) ∧ RW [x, z] μ' ∧ rfr μ μ') := by
  refine w_S.of (L0 := [some (.ref 46), some (.int (ji x)), some (.int (ji z))]) rfl rfl (Nat.le_of_ble_eq_true rfl) (by rfl) ?_
  refine w_ld d_158_0 rfl rfl rfl ?_
  refine w_con d_158_1 ?_
  refine w_putI d_158_2 (by rfl) (by first | rfl | assumption) (by rfl) (fit_I (by rfl)) (by rfl) ?_
  refine w_ld d_158_5 rfl rfl rfl ?_
  refine w_ld d_158_6 rfl rfl rfl ?_
  refine w_cVq (a := 46) (as := [_]) (rest := _) rfl d_158_7 (by rfl) (by rfl) (by first | rfl | assumption) (by rfl) (by rfl) (Nat.le_of_ble_eq_true rfl) (by omega) (by omega) (m_rpu (RW_0 μ).1 hx (by decide)) ?_ ?_
  rotate_left
  · rintro r τ ⟨hv9, _⟩
    cases hv9
  rintro vv1 τ1 ⟨hv1, μ1, rfl, hR1, hf1⟩
  obtain rfl := Sum.inl.inj hv1
  refine w_ld d_158_10 rfl rfl rfl ?_
  refine w_if_le (g := 19) d_158_11 (by decide) (by omega) (fun h11 => ?_) (fun h11 => ?_)
  · exact absurd h11 (by omega)
  · refine w_ld d_158_14 rfl rfl rfl ?_
    refine w_ld d_158_15 rfl rfl rfl ?_
    refine w_cVq (a := 46) (as := [_]) (rest := _) rfl d_158_16 (by rfl) (by rfl) (by first | rfl | assumption) (by rfl) (by rfl) (Nat.le_of_ble_eq_true rfl) (by omega) (by omega) (m_rpu hR1 (by omega) (by simp)) ?_ ?_
    rotate_left
    · rintro r τ ⟨hv9, _⟩
      cases hv9
    rintro vv2 τ2 ⟨hv2, μ2, rfl, hR2, hf2⟩
    obtain rfl := Sum.inl.inj hv2
    refine w_ret d_158_19 rfl ?_
    exact ⟨rfl, _, rfl, hR2, rfr_trans (rfr_trans (RW_0 μ).2 hf1) hf2⟩
theorem m_rawWord_l {sc : Nat × (Nat → Int32)} {fr lo : Nat} {ρ : Nat × Nat × Nat} {μ : Mem} {w : List Int} {v : Int} (hv : mrw v μ) (hch : ∀ k, 0 ≤ μ.2.2 57 k ∧ μ.2.2 57 k < 65536) (hn : (w.length : Int) + μ.2.2 52 v ≤ 300) (hf : 3 ≤ fr) (hl : 100 ≤ lo) : ∀ (m : Nat) (i : Nat) (μ1 : Mem), (μ.2.2 52 v - i).toNat = m → (i : Int) ≤ μ.2.2 52 v → RW (w ++ (wrd (vM μ) v).take i) μ1 → rfr μ μ1 → w_P sc fr lo 169 7 3 false (none) prog_9_method_49_code 2 [some (.ref 46), some (.int (ji v)), some (.int (ji (i : Int)))] [] (hp (μ1), ρ) (fun o τ => o = .inl none ∧ ∃ μ', τ = (hp μ', ρ) ∧ RW (w ++ wrd (vM μ) v) μ' ∧ rfr μ μ') := by
  intro m
  induction m using Nat.strongRecOn with
  | ind m ih =>
    intro i μ1 hm hi hR1 hfr
    obtain ⟨v1, v2, v3, v4, v5, v6, v7⟩ := hv
    have hwl : ((wrd (vM μ) v).length : Int) = μ.2.2 52 v := wrd_len (show 0 ≤ μ.2.2 52 v from v6.1.1)
    refine w_ld d_169_2 rfl rfl rfl ?_
    refine w_ld d_169_3 rfl rfl rfl ?_
    refine w_getF d_169_4 (by rfl) (by first | rfl | assumption) (by rfl) (by rfl) ?_
    refine w_ld d_169_7 rfl rfl rfl ?_
    refine w_aI d_169_8 (by first | rfl | assumption) (by omega) (show _ = μ.2.2 52 v by rw [hfr.2.2 52 (by omega)]) ?_
    refine w_icmp_ge (g := 35) d_169_9 (by decide) (by omega) (fun h9 => ?_) (fun h9 => ?_)
    · refine w_ret d_169_35 rfl ?_
      have e : (wrd (vM μ) v).take i = wrd (vM μ) v := List.take_of_length_le (by omega)
      rw [e] at hR1
      exact ⟨rfl, _, rfl, hR1, hfr⟩
    · refine w_ld d_169_12 rfl rfl rfl ?_
      refine w_ld d_169_13 rfl rfl rfl ?_
      refine w_getF d_169_14 (by rfl) (by first | rfl | assumption) (by rfl) (by rfl) ?_
      refine w_ld d_169_17 rfl rfl rfl ?_
      refine w_getF d_169_18 (by rfl) (by first | rfl | assumption) (by rfl) (by rfl) ?_
      refine w_ld d_169_21 rfl rfl rfl ?_
      refine w_aI d_169_22 (by first | rfl | assumption) (by omega) (show _ = μ.2.2 51 v by rw [hfr.2.2 51 (by omega)]) ?_
      refine w_ld d_169_23 rfl rfl rfl ?_
      refine w_iadd d_169_24 ?_
      refine w_aI d_169_25 (by first | rfl | assumption) (by omega) (show _ = μ.2.2 57 (μ.2.2 51 v + i) by rw [hfr.2.2 57 (by omega)]) ?_
      refine w_cVq (a := 46) (as := [_]) (rest := _) rfl d_169_26 (by rfl) (by rfl) (by first | rfl | assumption) (by rfl) (by rfl) (Nat.le_of_ble_eq_true rfl) (by omega) (by omega) (m_rpu hR1 (hch _) (by rw [List.length_append, List.length_take]; omega)) ?_ ?_
      rotate_left
      · rintro r τ ⟨hv9, _⟩
        cases hv9
      rintro vv2 τ2 ⟨hv2, μ2, rfl, hR2, hf2⟩
      obtain rfl := Sum.inl.inj hv2
      refine w_inc (L' := [_, _, _]) d_169_29 rfl (by decide) rfl ?_
      refine w_goto (g := 2) d_169_32 (by decide) ?_
      exact ih _ (by omega) (i + 1) μ2 rfl (by omega) (by rw [take_getD (by omega), ← List.append_assoc, show (wrd (vM μ) v).getD i 0 = μ.2.2 57 (μ.2.2 51 v + i) by unfold wrd; simp [List.getD_eq_getElem?_getD, show i < (μ.2.2 52 v).toNat by omega, vM]]; exact hR2) (rfr_trans hfr hf2)
theorem m_rawWord {sc : Nat × (Nat → Int32)} {fr lo : Nat} {μ : Mem} {ρ : Nat × Nat × Nat} {w : List Int} (hR : RW w μ) {v : Int} (hv : mrw v μ) (hch : ∀ k, 0 ≤ μ.2.2 57 k ∧ μ.2.2 57 k < 65536) (hn : (w.length : Int) + μ.2.2 52 v ≤ 300) (hf : 3 ≤ fr) (hl : 100 ≤ lo) : w_S sc fr lo 169 [.ref 46, .int (ji v)] (hp μ, ρ) (fun o τ => o = .inl none ∧ ∃ μ', τ = (hp μ', ρ) ∧ RW (w ++ wrd (vM μ) v) μ' ∧ rfr μ μ') := by
  refine w_S.of (L0 := [some (.ref 46), some (.int (ji v)), none]) rfl rfl (Nat.le_of_ble_eq_true rfl) (by rfl) ?_
  refine w_con d_169_0 ?_
  refine w_st1 (L' := [_, _, _]) d_169_1 rfl (by decide) rfl (by decide) rfl ?_
  exact m_rawWord_l hv hch hn hf hl _ 0 μ rfl (by have := hv.2.2.2.2.2.1.1; show ((0 : Nat) : Int) ≤ _; omega) (by rw [List.take_zero, List.append_nil]; exact hR) (rfr_refl μ)
/-- too deep -/
def lim (s : Option (List Int × List (List Int))) (d : Int) : Option (List Int × List (List Int)) := if 8 < d then none else s
def dfr (μ μ' : Mem) : Prop := (∀ a q, ¬ (a = 46 ∧ (q = 30 ∨ q = 31 ∨ q = 32)) → μ'.1 a q = μ.1 a q) ∧ μ'.2.1 = μ.2.1 ∧ ∀ a, a ≠ 64 → μ'.2.2 a = μ.2.2 a
theorem dfr.mw {α β : Mem} (h : dfr α β) : mw1 α β := ⟨fun a q z => h.1 a q (by omega), h.2.1, fun a z => h.2.2 a (by omega)⟩
theorem m_opens {sc : Nat × (Nat → Int32)} {fr lo : Nat} {μ : Mem} {ρ : Nat × Nat × Nat} {s : Option (List Int × List (List Int))} (hS : MS s μ) (hd : 0 ≤ μ.1 46 32 ∧ μ.1 46 32 ≤ 20) (hf : 3 ≤ fr) (hl : 100 ≤ lo) : w_S sc fr lo 155 [.ref 46] (hp μ, ρ) (fun o τ => o = .inl none ∧ ∃ μ', τ = (hp μ', ρ) ∧ MS (lim (wap s [91]) (μ.1 46 32 + 1)) μ' ∧ dfr μ μ' ∧ μ'.1 46 32 = μ.1 46 32 + 1) := by
  refine w_S.of (L0 := [some (.ref 46)]) rfl rfl (Nat.le_of_ble_eq_true rfl) (by rfl) ?_
  refine w_ld d_155_0 rfl rfl rfl ?_
  refine w_bip d_155_1 (by decide) ?_
  refine w_cVq (a := 46) (as := [_]) (rest := _) rfl d_155_3 (by rfl) (by rfl) (by first | rfl | assumption) (by rfl) (by rfl) (Nat.le_of_ble_eq_true rfl) (by omega) (by omega) (m_pu hS) ?_ ?_
  rotate_left
  · rintro r τ ⟨hv9, _⟩
    cases hv9
  rintro vv1 τ1 ⟨hv1, μ1, rfl, hS1, hf1⟩
  obtain rfl := Sum.inl.inj hv1
  have hb1 := MS_b hS1
  have hd1 : μ1.1 46 32 = μ.1 46 32 := hf1.1 46 32 (by omega)
  refine w_ld d_155_6 rfl rfl rfl ?_
  refine w_stk d_155_7 rfl ?_
  refine w_gI d_155_8 (by rfl) (by first | rfl | assumption) (by rfl) (show _ = μ.1 46 32 from hd1) ?_
  refine w_con d_155_11 ?_
  refine w_iadd d_155_12 ?_
  refine w_putI d_155_13 (by rfl) (by first | rfl | assumption) (by rfl) (fit_I (by rfl)) (by rfl) ?_
  refine w_ld d_155_16 rfl rfl rfl ?_
  refine w_ld d_155_17 rfl rfl rfl ?_
  refine w_gI d_155_18 (by rfl) (by first | rfl | assumption) (by rfl) (show _ = μ1.1 46 31 from stI_ne (by omega)) ?_
  refine w_if_ne (g := 33) d_155_21 (by decide) (by omega) (fun h21 => ?_) (fun h21 => ?_)
  · refine w_con d_155_33 ?_
    refine w_goto (g := 38) d_155_34 (by decide) ?_
    refine w_putI d_155_38 (by rfl) (by first | rfl | assumption) (by rfl) (fit_Z (by rfl) (by decide)) (by rfl) ?_
    refine w_ret d_155_41 rfl ?_
    have hno : wap s [91] = none := by
      cases hw : wap s [91] with
      | none => rfl
      | some p => rw [hw] at hS1; exact absurd hS1.1 h21
    exact ⟨rfl, _, rfl, (by rw [show lim (wap s [91]) (μ.1 46 32 + 1) = none by rw [hno]; unfold lim; split <;> rfl]; exact ⟨stI_at _ _ _ _, by rw [stI_ne (by omega), stI_ne (by omega)]; exact hb1.2⟩), ⟨fun a q z => (stI_ne (by omega)).trans ((stI_ne (by omega)).trans (hf1.1 a q (by omega))), hf1.2.1, fun a z => hf1.2.2 a z⟩, (stI_ne (by omega)).trans (stI_at _ _ _ _)⟩
  · refine w_ld d_155_24 rfl rfl rfl ?_
    refine w_gI d_155_25 (by rfl) (by first | rfl | assumption) (by rfl) (show _ = μ.1 46 32 + 1 from stI_at _ _ _ _) ?_
    refine w_bip d_155_28 (by decide) ?_
    refine w_icmp_le (g := 37) d_155_30 (by decide) (by omega) (fun h30 => ?_) (fun h30 => ?_)
    · refine w_con d_155_37 ?_
      refine w_putI d_155_38 (by rfl) (by first | rfl | assumption) (by rfl) (fit_Z (by rfl) (by decide)) (by rfl) ?_
      refine w_ret d_155_41 rfl ?_
      have h31 : μ1.1 46 31 = 0 := by omega
      exact ⟨rfl, _, rfl, (by rw [show lim (wap s [91]) (μ.1 46 32 + 1) = wap s [91] from if_neg (by omega)]; exact MS_eq ⟨(stI_ne (by omega)).trans (stI_ne (by omega)), (stI_at _ _ _ _).trans h31.symm⟩ ((stI_ne (by omega)).trans (stI_ne (by omega))) rfl rfl rfl rfl hS1), ⟨fun a q z => (stI_ne (by omega)).trans ((stI_ne (by omega)).trans (hf1.1 a q (by omega))), hf1.2.1, fun a z => hf1.2.2 a z⟩, (stI_ne (by omega)).trans (stI_at _ _ _ _)⟩
    · refine w_con d_155_33 ?_
      refine w_goto (g := 38) d_155_34 (by decide) ?_
      refine w_putI d_155_38 (by rfl) (by first | rfl | assumption) (by rfl) (fit_Z (by rfl) (by decide)) (by rfl) ?_
      refine w_ret d_155_41 rfl ?_
      exact ⟨rfl, _, rfl, (by rw [show lim (wap s [91]) (μ.1 46 32 + 1) = none from if_pos (by omega)]; exact ⟨stI_at _ _ _ _, by rw [stI_ne (by omega), stI_ne (by omega)]; exact hb1.2⟩), ⟨fun a q z => (stI_ne (by omega)).trans ((stI_ne (by omega)).trans (hf1.1 a q (by omega))), hf1.2.1, fun a z => hf1.2.2 a z⟩, (stI_ne (by omega)).trans (stI_at _ _ _ _)⟩
