/-! THE PURE PART, 31: contracts: numbers of a row of letters -/
def bi (b : Bool) : Int := if b = true then 1 else 0
theorem bi_01 (b : Bool) : bi b = 0 ∨ bi b = 1 := by cases b <;> decide
theorem bi_t {b : Bool} : bi b = 1 ↔ b = true := by cases b <;> decide
theorem bi_f {b : Bool} : bi b = 0 ↔ b = false := by cases b <;> decide
/-- the numeral: stop, fits, value -/
def nu (μ : Mem) (p : Int) (c : Bool × Int) : Mem := (fun a q => if a = 24 ∧ q = 1 then p else if a = 24 ∧ q = 2 then bi c.1 else if a = 24 ∧ q = 0 then c.2 else μ.1 a q, μ.2)
theorem nu_1 {μ : Mem} {p p' : Int} {c : Bool × Int} : stI (nu μ p c) 24 1 p' = nu μ p' c := by
  refine Prod.ext ?_ rfl
  funext a q
  simp only [stI, nu]
  by_cases h : a = 24 ∧ q = 1
  · rw [if_pos h, if_pos h]
  · rw [if_neg h, if_neg h, if_neg h]
theorem nu_2 {μ : Mem} {p : Int} {c : Bool × Int} {b : Bool} {z : Int} (hz : z = bi b) : stI (nu μ p c) 24 2 z = nu μ p (b, c.2) := by
  refine Prod.ext ?_ rfl
  funext a q
  simp only [stI, nu]
  by_cases h : a = 24 ∧ q = 2
  · rw [if_pos h, if_neg (by omega), if_pos h, hz]
  · rw [if_neg h, if_neg h, if_neg h]
theorem nu_0 {μ : Mem} {p : Int} {c : Bool × Int} {v : Int} : stI (nu μ p c) 24 0 v = nu μ p (c.1, v) := by
  refine Prod.ext ?_ rfl
  funext a q
  simp only [stI, nu]
  by_cases h : a = 24 ∧ q = 0
  · rw [if_pos h, if_neg (by omega), if_neg (by omega), if_pos h]
  · rw [if_neg h]
    simp only [if_neg h]
theorem nu_i {μ : Mem} {p v z : Int} {b : Bool} (hz : z = bi b) : stI (stI (stI μ 24 1 p) 24 0 v) 24 2 z = nu μ p (b, v) := by
  refine Prod.ext ?_ rfl
  funext a q
  simp only [stI, nu]
  by_cases h1 : a = 24 ∧ q = 1
  · rw [if_neg (by omega), if_neg (by omega), if_pos h1, if_pos h1]
  · by_cases h2 : a = 24 ∧ q = 2
    · rw [if_pos h2, if_neg h1, if_pos h2, hz]
    · rw [if_neg h2]
      by_cases h0 : a = 24 ∧ q = 0
      · rw [if_pos h0, if_neg h1, if_neg h2, if_pos h0]
      · rw [if_neg h0, if_neg h1, if_neg h1, if_neg h2, if_neg h0]
theorem nu_g1 {μ : Mem} {p : Int} {c : Bool × Int} : (nu μ p c).1 24 1 = p := rfl
theorem nu_g2 {μ : Mem} {p : Int} {c : Bool × Int} : (nu μ p c).1 24 2 = bi c.1 := rfl
theorem nu_g0 {μ : Mem} {p : Int} {c : Bool × Int} : (nu μ p c).1 24 0 = c.2 := rfl
theorem nu_o {μ : Mem} {p : Int} {c : Bool × Int} {a q : Nat} (h : a ≠ 24) : (nu μ p c).1 a q = μ.1 a q := by
  simp only [nu]
  rw [if_neg (fun z => h z.1), if_neg (fun z => h z.1), if_neg (fun z => h z.1)]
theorem t_takeDigit {sc : Nat × (Nat → Int32)} {fr lo : Nat} {μ : Mem} {ρ : Nat × Nat × Nat} {p : Int} {c : Bool × Int} (hc : -9223372036854775808 ≤ c.2 ∧ c.2 ≤ 0) {d : Int} (hd : 0 ≤ d ∧ d ≤ 9) : w_E sc fr lo 63 [.ref 24, .int (ji d)] (hp (nu μ p c), ρ) (.inl none) (hp (nu μ p (tkd c d)), ρ) := by
  refine w_S.of (L0 := [some (.ref 24), some (.int (ji d))]) rfl rfl (Nat.le_of_ble_eq_true rfl) (by rfl) ?_
  refine w_ld d_63_0 rfl rfl rfl ?_
  refine w_ld d_63_1 rfl rfl rfl ?_
  refine w_gI d_63_2 (by rfl) (by first | rfl | assumption) (by rfl) (by first | exact nu_g2 | exact nu_g0 | exact stI_at _ _ _ _ | exact (stI_ne (by decide)).trans nu_g0) ?_
  refine w_if_eq (g := 43) d_63_5 (by decide) (by have := bi_01 c.1; show _ ≤ bi c.1 ∧ bi c.1 < _; omega) (fun h5 => ?_) (fun h5 => ?_)
  · refine w_con d_63_43 ?_
    refine w_putI d_63_44 (by rfl) (by first | rfl | assumption) (by rfl) (fit_Z (by rfl) (by decide)) (by rfl) ?_
    refine w_ld d_63_47 rfl rfl rfl ?_
    refine w_gI d_63_48 (by rfl) (by first | rfl | assumption) (by rfl) (by first | exact nu_g2 | exact nu_g0 | exact stI_at _ _ _ _ | exact (stI_ne (by decide)).trans nu_g0) ?_
    refine w_if_eq (g := 69) d_63_51 (by decide) (by show _ ≤ (0 : Int) ∧ (0 : Int) < _; decide) (fun h51 => ?_) (fun h51 => ?_)
    · refine w_ret d_63_69 rfl ?_
      have ht : tkd c d = (false, c.2) := by
        refine if_neg (fun z => ?_)
        have := bi_t.mpr z.1
        have h5 : bi c.1 = 0 := h5
        omega
      rw [ht, nu_2 (z := 0) (b := false) rfl]
      exact ⟨rfl, rfl⟩
    · exact absurd (show (stI (nu μ p c) 24 2 0).1 24 2 = 0 from rfl) h51
  · refine w_ld d_63_8 rfl rfl rfl ?_
    refine w_gJ d_63_9 (by rfl) (by first | rfl | assumption) (by rfl) (by first | exact nu_g2 | exact nu_g0 | exact stI_at _ _ _ _ | exact (stI_ne (by decide)).trans nu_g0) ?_
    refine w_ldl (x := (-922337203685477580)) d_63_12 (by rfl) ?_
    refine w_lcmp d_63_15 (by omega) ?_
    refine w_if_gt (g := 39) d_63_16 (by decide) (by have := lcm_in c.2 (-922337203685477580); omega) (fun h16 => ?_) (fun h16 => ?_)
    · refine w_con d_63_39 ?_
      refine w_goto (g := 44) d_63_40 (by decide) ?_
      refine w_putI d_63_44 (by rfl) (by first | rfl | assumption) (by rfl) (fit_Z (by rfl) (by decide)) (by rfl) ?_
      refine w_ld d_63_47 rfl rfl rfl ?_
      refine w_gI d_63_48 (by rfl) (by first | rfl | assumption) (by rfl) (by first | exact nu_g2 | exact nu_g0 | exact stI_at _ _ _ _ | exact (stI_ne (by decide)).trans nu_g0) ?_
      refine w_if_eq (g := 69) d_63_51 (by decide) (by show _ ≤ (1 : Int) ∧ (1 : Int) < _; decide) (fun h51 => ?_) (fun h51 => ?_)
      · exact absurd (show (1 : Int) = 0 from h51) (by decide)
      · refine w_ld d_63_54 rfl rfl rfl ?_
        refine w_ld d_63_55 rfl rfl rfl ?_
        refine w_gJ d_63_56 (by rfl) (by first | rfl | assumption) (by rfl) (by first | exact nu_g2 | exact nu_g0 | exact stI_at _ _ _ _ | exact (stI_ne (by decide)).trans nu_g0) ?_
        refine w_ldl (x := 10) d_63_59 (by rfl) ?_
        refine w_lmul d_63_62 ?_
        refine w_ld d_63_63 rfl rfl rfl ?_
        refine w_i2l d_63_64 (by omega) ?_
        refine w_lsub d_63_65 ?_
        refine w_putJ d_63_66 (by rfl) (by first | rfl | assumption) (by rfl) (fit_J (by rfl)) (by rfl) ?_
        refine w_ret d_63_69 rfl ?_
        have hb1 : bi c.1 = 1 := by
          rcases bi_01 c.1 with w | w
          · exact absurd w h5
          · exact w
        have ht : tkd c d = (true, c.2 * 10 - d) := by
          refine if_pos ⟨bi_t.mp hb1, ?_⟩
          exact Or.inl ((lcm_gt _ _).mp h16)
        rw [ht, nu_2 (z := 1) (b := true) rfl, nu_0]
        exact ⟨rfl, rfl⟩
    · refine w_ld d_63_19 rfl rfl rfl ?_
      refine w_gJ d_63_20 (by rfl) (by first | rfl | assumption) (by rfl) (by first | exact nu_g2 | exact nu_g0 | exact stI_at _ _ _ _ | exact (stI_ne (by decide)).trans nu_g0) ?_
      refine w_ldl (x := (-922337203685477580)) d_63_23 (by rfl) ?_
      refine w_lcmp d_63_26 (by omega) ?_
      refine w_if_ne (g := 43) d_63_27 (by decide) (by have := lcm_in c.2 (-922337203685477580); omega) (fun h27 => ?_) (fun h27 => ?_)
      · refine w_con d_63_43 ?_
        refine w_putI d_63_44 (by rfl) (by first | rfl | assumption) (by rfl) (fit_Z (by rfl) (by decide)) (by rfl) ?_
        refine w_ld d_63_47 rfl rfl rfl ?_
        refine w_gI d_63_48 (by rfl) (by first | rfl | assumption) (by rfl) (by first | exact nu_g2 | exact nu_g0 | exact stI_at _ _ _ _ | exact (stI_ne (by decide)).trans nu_g0) ?_
        refine w_if_eq (g := 69) d_63_51 (by decide) (by show _ ≤ (0 : Int) ∧ (0 : Int) < _; decide) (fun h51 => ?_) (fun h51 => ?_)
        · refine w_ret d_63_69 rfl ?_
          have ht : tkd c d = (false, c.2) := by
            refine if_neg (fun z => ?_)
            rcases z.2 with w | w
            · have := (lcm_gt c.2 (-922337203685477580)).mpr w
              omega
            · exact h27 ((lcm_eq _ _).mpr w.1)
          rw [ht, nu_2 (z := 0) (b := false) rfl]
          exact ⟨rfl, rfl⟩
        · exact absurd (show (stI (nu μ p c) 24 2 0).1 24 2 = 0 from rfl) h51
      · refine w_ld d_63_30 rfl rfl rfl ?_
        refine w_i2l d_63_31 (by omega) ?_
        refine w_ldl (x := 8) d_63_32 (by rfl) ?_
        refine w_lcmp d_63_35 (by omega) ?_
        refine w_if_gt (g := 43) d_63_36 (by decide) (by have := lcm_in d 8; omega) (fun h36 => ?_) (fun h36 => ?_)
        · refine w_con d_63_43 ?_
          refine w_putI d_63_44 (by rfl) (by first | rfl | assumption) (by rfl) (fit_Z (by rfl) (by decide)) (by rfl) ?_
          refine w_ld d_63_47 rfl rfl rfl ?_
          refine w_gI d_63_48 (by rfl) (by first | rfl | assumption) (by rfl) (by first | exact nu_g2 | exact nu_g0 | exact stI_at _ _ _ _ | exact (stI_ne (by decide)).trans nu_g0) ?_
          refine w_if_eq (g := 69) d_63_51 (by decide) (by show _ ≤ (0 : Int) ∧ (0 : Int) < _; decide) (fun h51 => ?_) (fun h51 => ?_)
          · refine w_ret d_63_69 rfl ?_
            have ht : tkd c d = (false, c.2) := by
              refine if_neg (fun z => ?_)
              have h36 := (lcm_gt _ _).mp h36
              rcases z.2 with w | w
              · have := (lcm_gt c.2 (-922337203685477580)).mpr w
                omega
              · omega
            rw [ht, nu_2 (z := 0) (b := false) rfl]
            exact ⟨rfl, rfl⟩
          · exact absurd (show (stI (nu μ p c) 24 2 0).1 24 2 = 0 from rfl) h51
        · refine w_con d_63_39 ?_
          refine w_goto (g := 44) d_63_40 (by decide) ?_
          refine w_putI d_63_44 (by rfl) (by first | rfl | assumption) (by rfl) (fit_Z (by rfl) (by decide)) (by rfl) ?_
          refine w_ld d_63_47 rfl rfl rfl ?_
          refine w_gI d_63_48 (by rfl) (by first | rfl | assumption) (by rfl) (by first | exact nu_g2 | exact nu_g0 | exact stI_at _ _ _ _ | exact (stI_ne (by decide)).trans nu_g0) ?_
          refine w_if_eq (g := 69) d_63_51 (by decide) (by show _ ≤ (1 : Int) ∧ (1 : Int) < _; decide) (fun h51 => ?_) (fun h51 => ?_)
          · exact absurd (show (1 : Int) = 0 from h51) (by decide)
          · refine w_ld d_63_54 rfl rfl rfl ?_
            refine w_ld d_63_55 rfl rfl rfl ?_
            refine w_gJ d_63_56 (by rfl) (by first | rfl | assumption) (by rfl) (by first | exact nu_g2 | exact nu_g0 | exact stI_at _ _ _ _ | exact (stI_ne (by decide)).trans nu_g0) ?_
            refine w_ldl (x := 10) d_63_59 (by rfl) ?_
            refine w_lmul d_63_62 ?_
            refine w_ld d_63_63 rfl rfl rfl ?_
            refine w_i2l d_63_64 (by omega) ?_
            refine w_lsub d_63_65 ?_
            refine w_putJ d_63_66 (by rfl) (by first | rfl | assumption) (by rfl) (fit_J (by rfl)) (by rfl) ?_
            refine w_ret d_63_69 rfl ?_
            have hb1 : bi c.1 = 1 := by
              rcases bi_01 c.1 with w | w
              · exact absurd w h5
              · exact w
            have ht : tkd c d = (true, c.2 * 10 - d) := by
              refine if_pos ⟨bi_t.mp hb1, ?_⟩
              have h1 : ¬ 8 < d := fun w => by have := (lcm_gt d 8).mpr w; omega
              exact Or.inr ⟨(lcm_eq _ _).mp h27, by omega⟩
            rw [ht, nu_2 (z := 1) (b := true) rfl, nu_0]
            exact ⟨rfl, rfl⟩
