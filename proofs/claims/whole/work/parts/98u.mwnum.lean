/-! THE PURE PART, 99b: contracts: the reference spells numbers -/
/-- the figures from 10 to the j on -/
def dgl (u : Nat) : Nat → List Int
  | 0 => [48 + ((u % 10 : Nat) : Int)]
  | j + 1 => (48 + ((u / 10 ^ (j + 1) % 10 : Nat) : Int)) :: dgl u j
theorem dgl_s (u : Nat) : ∀ j : Nat, dgl u (j + 1) = dgl (u / 10) j ++ [48 + ((u % 10 : Nat) : Int)]
  | 0 => by
    show [48 + ((u / 10 ^ (0 + 1) % 10 : Nat) : Int), 48 + ((u % 10 : Nat) : Int)] = _
    rfl
  | j + 1 => by
    show (48 + ((u / 10 ^ (j + 1 + 1) % 10 : Nat) : Int)) :: dgl u (j + 1) = (48 + ((u / 10 / 10 ^ (j + 1) % 10 : Nat) : Int)) :: (dgl (u / 10) j ++ [48 + ((u % 10 : Nat) : Int)])
    rw [dgl_s u j, Nat.div_div_eq_div_mul, show 10 * 10 ^ (j + 1) = 10 ^ (j + 1 + 1) by rw [Nat.pow_succ 10 (j + 1), Nat.mul_comm]]
theorem dgl_digs : ∀ (j f u : Nat), j ≤ f → u < 10 ^ (j + 1) → (j = 0 ∨ 10 ^ j ≤ u) → digs f u = dgl u j
  | 0, f, u, _, h, _ => by
    have h : u < 10 := h
    cases f with
    | zero => rfl
    | succ f =>
      show (if u < 10 then [48 + (u : Int)] else digs f (u / 10) ++ [48 + ((u % 10 : Nat) : Int)]) = [48 + ((u % 10 : Nat) : Int)]
      rw [if_pos h, Nat.mod_eq_of_lt h]
  | j + 1, 0, u, hf, _, _ => by omega
  | j + 1, f + 1, u, hf, h, h0 => by
    have h1 : 10 ^ (j + 1) ≤ u := h0.resolve_left (by omega)
    have h10 : 10 ≤ u := Nat.le_trans (by rw [Nat.pow_succ]; exact Nat.le_mul_of_pos_left 10 (Nat.pow_pos (by decide))) h1
    have hq : u / 10 < 10 ^ (j + 1) := Nat.div_lt_of_lt_mul (by rw [Nat.mul_comm, ← Nat.pow_succ]; exact h)
    have hl : 10 ^ j ≤ u / 10 := (Nat.le_div_iff_mul_le (by decide)).mpr (by rw [← Nat.pow_succ]; exact h1)
    show (if u < 10 then [48 + (u : Int)] else digs f (u / 10) ++ [48 + ((u % 10 : Nat) : Int)]) = _
    rw [if_neg (by omega), dgl_digs j f (u / 10) (by omega) hq (Or.inr hl), dgl_s]
theorem pw_le {j : Nat} (h : j ≤ 18) : 1 ≤ 10 ^ j ∧ 10 ^ j ≤ 1000000000000000000 := ⟨Nat.pow_pos (by decide), Nat.le_trans (Nat.pow_le_pow_right (by decide) h) (by decide)⟩
theorem td_abs (v : Int) (p : Nat) : (v.tdiv (p : Int)).natAbs = v.natAbs / p := by rw [Int.natAbs_tdiv]; rfl
theorem tm_abs (v : Int) (p : Nat) : (v.tmod (p : Int)).natAbs = v.natAbs % p := by rw [Int.natAbs_tmod]; rfl
theorem td_in {v : Int} (p : Nat) (h : -9223372036854775808 ≤ v ∧ v < 9223372036854775808) : (-9223372036854775808 ≤ v.tdiv (p : Int) ∧ v.tdiv (p : Int) < 9223372036854775808 ∨ p = 1) ∧ (v.tdiv (p : Int)).natAbs ≤ v.natAbs := by
  have e := td_abs v p
  have h1 : v.natAbs / p ≤ v.natAbs := Nat.div_le_self _ _
  refine ⟨?_, by omega⟩
  by_cases z : p = 1
  · exact Or.inr z
  · left
    by_cases y : p = 0
    · subst y
      rw [Nat.div_zero] at e
      omega
    · have h2 : v.natAbs / p ≤ v.natAbs / 2 := Nat.div_le_div_left (by omega) (by decide)
      omega
theorem td_in2 {v : Int} (p : Nat) (h : -9223372036854775808 ≤ v ∧ v < 9223372036854775808) : -9223372036854775808 ≤ v.tdiv (p : Int) ∧ v.tdiv (p : Int) < 9223372036854775808 := by
  rcases (td_in p h).1 with z | z
  · exact z
  · subst z
    rw [show ((1 : Nat) : Int) = 1 from rfl, Int.tdiv_one]
    exact h
theorem m_figure {sc : Nat × (Nat → Int32)} {fr lo : Nat} {μ : Mem} {ρ : Nat × Nat × Nat} {v : Int} {p : Nat} (hv : -9223372036854775808 ≤ v ∧ v < 9223372036854775808) (hp0 : 0 < p ∧ p ≤ 1000000000000000000) : w_E sc fr lo 167 [.long (jl v), .long (jl (p : Int))] (hp μ, ρ) (.inl (some (.int (ji (48 + ((v.natAbs / p % 10 : Nat) : Int)))))) (hp μ, ρ) := by
  have e1 := td_abs v p
  have e2 : ((v.tdiv (p : Int)).tmod 10).natAbs = (v.tdiv (p : Int)).natAbs % 10 := tm_abs _ 10
  rw [e1] at e2
  have e3 : v.natAbs / p % 10 < 10 := Nat.mod_lt _ (by decide)
  refine w_S.of (L0 := [some (.long (jl v)), none, some (.long (jl (p : Int))), none, none]) rfl rfl (Nat.le_of_ble_eq_true rfl) (by rfl) ?_
  refine w_ld d_167_0 rfl rfl rfl ?_
  refine w_ld d_167_1 rfl rfl rfl ?_
  refine w_ldiv d_167_2 hv (by omega) ?_
  refine w_ldl (x := 10) d_167_3 (by rfl) ?_
  refine w_lrem d_167_6 (td_in2 p hv) (by decide) ?_
  refine w_l2i d_167_7 (by omega) ?_
  refine w_st1 (L' := [_, _, _, _, _]) d_167_8 rfl (by decide) rfl (by decide) rfl ?_
  refine w_bip d_167_10 (by decide) ?_
  refine w_ld d_167_12 rfl rfl rfl ?_
  refine w_if_ge (g := 23) d_167_14 (by decide) (by omega) (fun h14 => ?_) (fun h14 => ?_)
  · refine w_ld d_167_23 rfl rfl rfl ?_
    refine w_iadd d_167_25 ?_
    refine w_iret d_167_26 rfl ?_
    rw [show 48 + (v.tdiv (p : Int)).tmod 10 = 48 + ((v.natAbs / p % 10 : Nat) : Int) by omega]
    exact ⟨rfl, rfl⟩
  · refine w_ld d_167_17 rfl rfl rfl ?_
    refine w_ineg d_167_19 ?_
    refine w_goto (g := 25) d_167_20 (by decide) ?_
    refine w_iadd d_167_25 ?_
    refine w_iret d_167_26 rfl ?_
    rw [show 48 + -(v.tdiv (p : Int)).tmod 10 = 48 + ((v.natAbs / p % 10 : Nat) : Int) by omega]
    exact ⟨rfl, rfl⟩
theorem m_unitOf_l {sc : Nat × (Nat → Int32)} {fr lo : Nat} {μ : Mem} {ρ : Nat × Nat × Nat} {v : Int} (hv : -9223372036854775808 ≤ v ∧ v < 9223372036854775808) : ∀ (m : Nat) (k : Nat) (j : Nat), ((18 : Int) - k).toNat = m → k ≤ 18 → j ≤ k → (j = 0 ∨ 10 ^ j ≤ v.natAbs) → (j = k ∨ v.natAbs < 10 ^ (j + 1)) → w_P sc fr lo 166 7 5 false ((some FieldType.long)) prog_9_method_51_code 5 [some (.long (jl v)), none, some (.long (jl ((10 ^ j : Nat) : Int))), none, some (.int (ji (k : Int)))] [] (hp (μ), ρ) (fun o τ => ∃ j : Nat, o = .inl (some (.long (jl ((10 ^ j : Nat) : Int)))) ∧ τ = (hp μ, ρ) ∧ j ≤ 18 ∧ v.natAbs < 10 ^ (j + 1) ∧ (j = 0 ∨ 10 ^ j ≤ v.natAbs)) := by
  intro m
  induction m using Nat.strongRecOn with
  | ind m ih =>
    intro k j hm h1 h2 h3 h4
    refine w_ld d_166_5 rfl rfl rfl ?_
    refine w_bip d_166_7 (by decide) ?_
    refine w_icmp_ge (g := 40) d_166_9 (by decide) (by omega) (fun h9 => ?_) (fun h9 => ?_)
    · refine w_ld d_166_40 rfl rfl rfl ?_
      refine w_ret d_166_41 rfl ?_
      refine ⟨j, rfl, rfl, by omega, ?_, h3⟩
      rcases h4 with z | z
      · have : j = 18 := by omega
        subst this
        exact Nat.lt_of_le_of_lt (by omega : v.natAbs ≤ 9223372036854775808) (by decide)
      · exact z
    · have hpw := pw_le (show j ≤ 18 by omega)
      have ht := td_in2 (10 ^ j) hv
      have hd0 : (v.tdiv ((10 ^ j : Nat) : Int)).tdiv 10 = 0 ↔ v.natAbs < 10 ^ (j + 1) := by
        have e := td_abs (v.tdiv ((10 ^ j : Nat) : Int)) 10
        have e1 := td_abs v (10 ^ j)
        rw [e1, Nat.div_div_eq_div_mul, ← Nat.pow_succ] at e
        have e2 : v.natAbs / 10 ^ (j + 1) = 0 ↔ v.natAbs < 10 ^ (j + 1) := by
          rw [Nat.div_eq_zero_iff]
          have : 10 ^ (j + 1) ≠ 0 := Nat.pos_iff_ne_zero.mp (Nat.pow_pos (by decide))
          omega
        rw [← e2, ← e]
        show _ ↔ ((v.tdiv ((10 ^ j : Nat) : Int)).tdiv 10).natAbs = 0
        omega
      refine w_ld d_166_12 rfl rfl rfl ?_
      refine w_ld d_166_13 rfl rfl rfl ?_
      refine w_ldiv d_166_14 hv (by omega) ?_
      refine w_ldl (x := 10) d_166_15 (by rfl) ?_
      refine w_ldiv d_166_18 ht (by decide) ?_
      refine w_lcon0 d_166_19 ?_
      refine w_lcmp d_166_20 (by have := td_in2 10 ht; exact ⟨this, by decide⟩) ?_
      refine w_if_eq (g := 32) d_166_21 (by decide) (by have := lcm_in ((v.tdiv ((10 ^ j : Nat) : Int)).tdiv 10) 0; omega) (fun h21 => ?_) (fun h21 => ?_)
      · refine w_ld d_166_32 rfl rfl rfl ?_
        refine w_st2 (L' := [_, _, _, _, _]) d_166_33 rfl rfl (by decide) rfl ?_
        refine w_inc (L' := [_, _, _, _, _]) d_166_34 rfl (by decide) rfl ?_
        refine w_goto (g := 5) d_166_37 (by decide) ?_
        have hz := hd0.mp ((lcm_eq _ _).mp h21)
        exact ih _ (by omega) (k + 1) j rfl (by omega) (by omega) h3 (Or.inr hz)
      · refine w_ld d_166_24 rfl rfl rfl ?_
        refine w_ldl (x := 10) d_166_25 (by rfl) ?_
        refine w_lmul d_166_28 ?_
        refine w_goto (g := 33) d_166_29 (by decide) ?_
        refine w_st2 (L' := [_, _, _, _, _]) d_166_33 rfl rfl (by decide) rfl ?_
        refine w_inc (L' := [_, _, _, _, _]) d_166_34 rfl (by decide) rfl ?_
        refine w_goto (g := 5) d_166_37 (by decide) ?_
        have hz : ¬ v.natAbs < 10 ^ (j + 1) := fun z => h21 ((lcm_eq _ _).mpr (hd0.mpr z))
        have hjk : j = k := by rcases h4 with z | z
                               · exact z
                               · exact absurd z hz
        rw [show ((10 ^ j : Nat) : Int) * 10 = ((10 ^ (j + 1) : Nat) : Int) by rw [Nat.pow_succ]; push_cast; rfl]
        exact ih _ (by omega) (k + 1) (j + 1) rfl (by omega) (by omega) (Or.inr (by omega)) (Or.inl (by omega))
theorem m_unitOf {sc : Nat × (Nat → Int32)} {fr lo : Nat} {μ : Mem} {ρ : Nat × Nat × Nat} {v : Int} (hv : -9223372036854775808 ≤ v ∧ v < 9223372036854775808) : w_S sc fr lo 166 [.long (jl v)] (hp μ, ρ) (fun o τ => ∃ j : Nat, o = .inl (some (.long (jl ((10 ^ j : Nat) : Int)))) ∧ τ = (hp μ, ρ) ∧ j ≤ 18 ∧ v.natAbs < 10 ^ (j + 1) ∧ (j = 0 ∨ 10 ^ j ≤ v.natAbs)) := by
  refine w_S.of (L0 := [some (.long (jl v)), none, none, none, none]) rfl rfl (Nat.le_of_ble_eq_true rfl) (by rfl) ?_
  refine w_lcon1 d_166_0 ?_
  refine w_st2 (L' := [_, _, _, _, _]) d_166_1 rfl rfl (by decide) rfl ?_
  refine w_con d_166_2 ?_
  refine w_st1 (L' := [_, _, _, _, _]) d_166_3 rfl (by decide) rfl (by decide) rfl ?_
  exact m_unitOf_l hv _ 0 0 rfl (by decide) (by decide) (Or.inl rfl) (Or.inl rfl)
/-- a unit and the figures from it on -/
def unt : Nat → Int
  | 0 => 0
  | j + 1 => ((10 ^ j : Nat) : Int)
def unr (u : Nat) : Nat → List Int
  | 0 => []
  | j + 1 => dgl u j
theorem unt_in {i : Nat} (h : i ≤ 19) : 0 ≤ unt i ∧ unt i ≤ 1000000000000000000 := by
  cases i with
  | zero => exact ⟨by decide, by decide⟩
  | succ j =>
    have := pw_le (show j ≤ 18 by omega)
    show 0 ≤ ((10 ^ j : Nat) : Int) ∧ ((10 ^ j : Nat) : Int) ≤ 1000000000000000000
    omega
theorem unt_pos (j : Nat) : 0 < unt (j + 1) := by
  show 0 < ((10 ^ j : Nat) : Int)
  have : 0 < 10 ^ j := Nat.pow_pos (by decide)
  omega
theorem unt_d (j : Nat) : (unt (j + 1)).tdiv 10 = unt j := by
  cases j with
  | zero => rfl
  | succ j =>
    show ((10 ^ (j + 1) : Nat) : Int).tdiv ((10 : Nat) : Int) = ((10 ^ j : Nat) : Int)
    rw [← Int.ofNat_tdiv, Nat.pow_succ, Nat.mul_div_cancel _ (by decide)]
theorem m_rawNumber_l {sc : Nat × (Nat → Int32)} {fr lo : Nat} {ρ : Nat × Nat × Nat} {μ : Mem} {v : Int} {W : List Int} (hv : -9223372036854775808 ≤ v ∧ v < 9223372036854775808) (hW : W.length ≤ 290) (hf : 4 ≤ fr) (hl : 200 ≤ lo) : ∀ (m : Nat) (i : Nat) (w : List Int) (μ1 : Mem), ((i : Int)).toNat = m → i ≤ 19 → w ++ unr v.natAbs i = W → RW w μ1 → rfr μ μ1 → w_P sc fr lo 165 7 5 false (none) prog_9_method_52_code 17 [some (.ref 46), some (.long (jl v)), none, some (.long (jl (unt i))), none] [] (hp (μ1), ρ) (fun o τ => o = .inl none ∧ ∃ μ', τ = (hp μ', ρ) ∧ RW W μ' ∧ rfr μ μ') := by
  intro m
  induction m using Nat.strongRecOn with
  | ind m ih =>
    intro i w μ1 hm hi hw hR1 hfr
    refine w_ld d_165_17 rfl rfl rfl ?_
    refine w_lcon0 d_165_18 ?_
    refine w_lcmp d_165_19 (by have := unt_in hi; omega) ?_
    refine w_if_le (g := 41) d_165_20 (by decide) (by have := lcm_in (unt i) 0; omega) (fun h20 => ?_) (fun h20 => ?_)
    · refine w_ret d_165_41 rfl ?_
      have hz : i = 0 := by
        cases i with
        | zero => rfl
        | succ j => exact absurd ((lcm_gt _ _).mpr (unt_pos j)) (by omega)
      subst hz
      rw [show w = W by rw [← hw]; simp [unr]] at hR1
      exact ⟨rfl, _, rfl, hR1, hfr⟩
    · obtain ⟨j, rfl⟩ : ∃ j, i = j + 1 := by
        cases i with
        | zero => exact absurd ((lcm_gt _ _).mp h20) (by decide)
        | succ j => exact ⟨j, rfl⟩
      have hpw := pw_le (show j ≤ 18 by omega)
      have hfig : w_E sc (fr - 1) (lo - (19 + 5)) 167 [.long (jl v), .long (jl (unt (j + 1)))] (hp μ1, ρ) (.inl (some (.int (ji (48 + ((v.natAbs / 10 ^ j % 10 : Nat) : Int)))))) (hp μ1, ρ) := m_figure hv (by omega)
      have e3 : v.natAbs / 10 ^ j % 10 < 10 := Nat.mod_lt _ (by decide)
      have hw2 : (w ++ [48 + ((v.natAbs / 10 ^ j % 10 : Nat) : Int)]) ++ unr v.natAbs j = W := by
        rw [← hw, List.append_assoc]
        cases j with
        | zero => simp [unr, dgl]
        | succ j => simp [unr, dgl]
      have hl2 : w.length < 300 := by rw [← hw, List.length_append] at hW; omega
      refine w_ld d_165_23 rfl rfl rfl ?_
      refine w_ld d_165_24 rfl rfl rfl ?_
      refine w_ld d_165_25 rfl rfl rfl ?_
      refine w_cS1 (as := [_, _]) (rest := _) rfl d_165_26 (by rfl) (by rfl) (by rfl) (by rfl) (Nat.le_of_ble_eq_true rfl) (by omega) (by omega) hfig ?_
      refine w_cVq (a := 46) (as := [_]) (rest := _) rfl d_165_29 (by rfl) (by rfl) (by first | rfl | assumption) (by rfl) (by rfl) (Nat.le_of_ble_eq_true rfl) (by omega) (by omega) (m_rpu hR1 (by omega) hl2) ?_ ?_
      rotate_left
      · rintro r τ ⟨hv9, _⟩
        cases hv9
      rintro vv2 τ2 ⟨hv2, μ2, rfl, hR2, hf2⟩
      obtain rfl := Sum.inl.inj hv2
      refine w_ld d_165_32 rfl rfl rfl ?_
      refine w_ldl (x := 10) d_165_33 (by rfl) ?_
      refine w_ldiv d_165_36 (by have := unt_in hi; omega) (by decide) ?_
      refine w_st2 (L' := [_, _, _, _, _]) d_165_37 rfl rfl (by decide) rfl ?_
      refine w_goto (g := 17) d_165_38 (by decide) ?_
      rw [show (unt (j + 1)).tdiv 10 = unt j from unt_d j]
      exact ih _ (by omega) j _ μ2 rfl (by omega) hw2 hR2 (rfr_trans hfr hf2)
theorem m_rawNumber {sc : Nat × (Nat → Int32)} {fr lo : Nat} {μ : Mem} {ρ : Nat × Nat × Nat} {w : List Int} (hR : RW w μ) {v : Int} (hv : -9223372036854775808 ≤ v ∧ v < 9223372036854775808) (hn : w.length ≤ 100) (hf : 4 ≤ fr) (hl : 200 ≤ lo) : w_S sc fr lo 165 [.ref 46, .long (jl v)] (hp μ, ρ) (fun o τ => o = .inl none ∧ ∃ μ', τ = (hp μ', ρ) ∧ RW (w ++ dec v) μ' ∧ rfr μ μ') := by
  refine w_S.of (L0 := [some (.ref 46), some (.long (jl v)), none, none, none]) rfl rfl (Nat.le_of_ble_eq_true rfl) (by rfl) ?_
  refine w_ld d_165_0 rfl rfl rfl ?_
  refine w_lcon0 d_165_1 ?_
  refine w_lcmp d_165_2 (by omega) ?_
  refine w_if_ge (g := 12) d_165_3 (by decide) (by have := lcm_in v 0; omega) (fun h3 => ?_) (fun h3 => ?_)
  · have hd : dec v = digs 20 v.natAbs := if_neg (by have := (lcm_ge v 0).mp h3; omega)
    refine w_ld d_165_12 rfl rfl rfl ?_
    refine w_cSq (as := [_]) (rest := _) rfl d_165_13 (by rfl) (by rfl) (by rfl) (by rfl) (Nat.le_of_ble_eq_true rfl) (by omega) (by omega) (m_unitOf hv) ?_ ?_
    rotate_left
    · rintro r τ ⟨j, hv9, _⟩
      cases hv9
    rintro vv τu ⟨j, hvu, rfl, hj2, hj3, hj4⟩
    obtain rfl := Sum.inl.inj hvu
    refine w_st2 (L' := [_, _, _, _, _]) d_165_16 rfl rfl (by decide) rfl ?_
    have hdg : digs 20 v.natAbs = dgl v.natAbs j := dgl_digs j 20 _ (by omega) hj3 hj4
    have hdl := dec_len hv
    exact m_rawNumber_l (μ := μ) (W := w ++ dec v) hv (by rw [List.length_append]; omega) hf hl _ (j + 1) w μ rfl (by omega) (by show _ ++ dgl v.natAbs j = _; rw [← hdg, hd]) hR (rfr_refl μ)
  · have hd : dec v = 45 :: digs 20 v.natAbs := if_pos (Decidable.byContradiction (fun z => by have := (lcm_ge v 0).mpr (by omega); omega))
    refine w_ld d_165_6 rfl rfl rfl ?_
    refine w_bip d_165_7 (by decide) ?_
    refine w_cVq (a := 46) (as := [_]) (rest := _) rfl d_165_9 (by rfl) (by rfl) (by first | rfl | assumption) (by rfl) (by rfl) (Nat.le_of_ble_eq_true rfl) (by omega) (by omega) (m_rpu hR (by decide) (by omega)) ?_ ?_
    rotate_left
    · rintro r τ ⟨hv9, _⟩
      cases hv9
    rintro vv1 τ1 ⟨hv1, μ1, rfl, hR1, hf1⟩
    obtain rfl := Sum.inl.inj hv1
    refine w_ld d_165_12 rfl rfl rfl ?_
    refine w_cSq (as := [_]) (rest := _) rfl d_165_13 (by rfl) (by rfl) (by rfl) (by rfl) (Nat.le_of_ble_eq_true rfl) (by omega) (by omega) (m_unitOf hv) ?_ ?_
    rotate_left
    · rintro r τ ⟨j, hv9, _⟩
      cases hv9
    rintro vv τu ⟨j, hvu, rfl, hj2, hj3, hj4⟩
    obtain rfl := Sum.inl.inj hvu
    refine w_st2 (L' := [_, _, _, _, _]) d_165_16 rfl rfl (by decide) rfl ?_
    have hdg : digs 20 v.natAbs = dgl v.natAbs j := dgl_digs j 20 _ (by omega) hj3 hj4
    have hdl := dec_len hv
    exact m_rawNumber_l (μ := μ) (W := w ++ dec v) hv (by rw [List.length_append]; omega) hf hl _ (j + 1) (w ++ [45]) μ1 rfl (by omega) (by show _ ++ dgl v.natAbs j = _; rw [← hdg, hd, List.append_assoc]; rfl) hR1 hf1
