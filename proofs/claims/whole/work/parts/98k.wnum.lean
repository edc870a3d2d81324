/-! THE PURE PART, 90: contracts: the class spells numbers -/
theorem digs_s : ∀ (f n : Nat), n < 10 ^ (f + 1) → digs (f + 1) n = digs f n
  | 0, n, h => by
    have h : n < 10 := by simpa using h
    show (if n < 10 then [48 + (n : Int)] else _) = [48 + ((n % 10 : Nat) : Int)]
    rw [if_pos h, Nat.mod_eq_of_lt h]
  | f + 1, n, h => by
    show (if n < 10 then [48 + (n : Int)] else digs (f + 1) (n / 10) ++ [48 + ((n % 10 : Nat) : Int)]) = (if n < 10 then [48 + (n : Int)] else digs f (n / 10) ++ [48 + ((n % 10 : Nat) : Int)])
    by_cases z : n < 10
    · rw [if_pos z, if_pos z]
    · rw [if_neg z, if_neg z, digs_s f (n / 10) (by
        rw [Nat.pow_succ] at h
        exact Nat.div_lt_of_lt_mul (by rw [Nat.mul_comm]; exact h))]
theorem digs_st {n : Nat} (h1 : 10 ≤ n) (h2 : n < 10 ^ 20) : digs 20 n = digs 20 (n / 10) ++ [48 + ((n % 10 : Nat) : Int)] := by
  have e : digs 20 n = digs 19 (n / 10) ++ [48 + ((n % 10 : Nat) : Int)] := if_neg (by omega)
  rw [e, digs_s 19 (n / 10) (by omega)]
theorem digs_1 {n : Nat} (h : n < 10) : digs 20 n = [48 + (n : Int)] := if_pos h
theorem tm_neg (m : Nat) : (-(m : Int)).tmod 10 = -((m % 10 : Nat) : Int) ∧ (-(m : Int)).tdiv 10 = -((m / 10 : Nat) : Int) := by
  rw [Int.neg_tmod, Int.neg_tdiv]
  exact ⟨rfl, rfl⟩
theorem lcm_0 {x z : Int} : (lcm x z = 0 ↔ x = z) ∧ (lcm x z < 0 ↔ x < z) ∧ (0 < lcm x z ↔ z < x) ∧ (-1 ≤ lcm x z ∧ lcm x z ≤ 1) := by
  unfold lcm
  split
  · omega
  · split <;> omega
/-- digits stand at the end of the row -/
def DG (l : List Int) (f : Int) (μ μ' : Mem) : Prop := μ'.1 = μ.1 ∧ μ'.2.1 = μ.2.1 ∧ (∀ a, a ≠ 41 → μ'.2.2 a = μ.2.2 a) ∧ f + l.length = 20 ∧ ∀ i : Nat, i < l.length → μ'.2.2 41 (f + i) = l.getD i 0
theorem DG_0 (μ : Mem) : DG [] 20 μ μ := ⟨rfl, rfl, fun _ _ => rfl, rfl, fun i hi => absurd hi (Nat.not_lt_zero i)⟩
theorem DG_s {l : List Int} {f c : Int} {μ μ' : Mem} (h : DG l f μ μ') : DG (c :: l) (f - 1) μ (stA μ' 41 (f - 1) c) := by
  obtain ⟨h1, h2, h3, h4, h5⟩ := h
  refine ⟨h1, h2, fun a ha => (stA_o2 ha).trans (h3 a ha), by rw [List.length_cons]; omega, fun i hi => ?_⟩
  cases i with
  | zero => rw [show f - 1 + ((0 : Nat) : Int) = f - 1 by omega, stA_at]; rfl
  | succ i =>
    rw [stA_ne (by omega), show f - 1 + ((i + 1 : Nat) : Int) = f + i by omega, h5 i (by rw [List.length_cons] at hi; omega)]
    rfl
theorem t_spn_l {sc : Nat × (Nat → Int32)} {fr lo : Nat} {ρ : Nat × Nat × Nat} {μ : Mem} {v : Int} (hv0 : -9223372036854775808 ≤ v ∧ v < 9223372036854775808) : ∀ (m : Nat) (f : Int) (u : Nat) (l : List Int) (μ1 : Mem), (f).toNat = m → (2 ≤ f ∧ f ≤ 20) → u < 10 ^ (f - 1).toNat → u ≤ 9223372036854775808 → DG l f μ μ1 → digs 20 v.natAbs = digs 20 u ++ l → w_P sc fr lo 77 6 6 false ((some FieldType.int)) prog_7_method_18_code 17 [some (.ref 35), some (.long (jl v)), none, some (.long (jl (-(u : Int)))), none, some (.int (ji f))] [] (hp (μ1), ρ) (fun o τ => ∃ (f : Int) (μ' : Mem), o = .inl (some (.int (ji f))) ∧ (0 ≤ f ∧ f ≤ 19) ∧ DG (dec v) f μ μ' ∧ τ = (hp μ', ρ)) := by
  intro m
  induction m using Nat.strongRecOn with
  | ind m ih =>
    intro f u l μ1 hmm hf hm10 hmx hD hl0
    refine w_inc (L' := [_, _, _, _, _, _]) d_77_17 rfl (by decide) rfl ?_
    refine w_ld d_77_20 rfl rfl rfl ?_
    refine w_getF d_77_21 (by rfl) (by first | rfl | assumption) (by rfl) (by rfl) ?_
    refine w_ld d_77_24 rfl rfl rfl ?_
    refine w_ldl (x := 48) d_77_26 (by rfl) ?_
    refine w_ld d_77_29 rfl rfl rfl ?_
    refine w_ldl (x := 10) d_77_30 (by rfl) ?_
    refine w_lrem d_77_33 (by omega) (by decide) ?_
    rw [(tm_neg u).1]
    refine w_lsub d_77_34 ?_
    refine w_l2i d_77_35 (by omega) ?_
    refine w_i2c d_77_36 (by omega) ?_
    refine w_cast d_77_37 (by first | rfl | assumption) (by omega) (by omega) ?_
    refine w_ld d_77_38 rfl rfl rfl ?_
    refine w_ldl (x := 10) d_77_39 (by rfl) ?_
    refine w_ldiv d_77_42 (by omega) (by decide) ?_
    rw [(tm_neg u).2, show (48 : Int) - -((u % 10 : Nat) : Int) = 48 + ((u % 10 : Nat) : Int) by omega, show f + (-1) = f - 1 by omega]
    refine w_st2 (L' := [_, _, _, _, _, _]) d_77_43 rfl rfl (by decide) rfl ?_
    refine w_ld d_77_44 rfl rfl rfl ?_
    refine w_lcon0 d_77_45 ?_
    refine w_lcmp d_77_46 (by omega) ?_
    refine w_if_eq (g := 56) d_77_47 (by decide) (by have := (lcm_0 (x := -((u / 10 : Nat) : Int)) (z := 0)).2.2.2; omega) (fun h47 => ?_) (fun h47 => ?_)
    · have hm0 : u / 10 = 0 := by have := (lcm_0 (x := -((u / 10 : Nat) : Int)) (z := 0)).1.mp h47; omega
      have hfin : digs 20 v.natAbs = (48 + ((u % 10 : Nat) : Int)) :: l := by
        rw [hl0, digs_1 (by omega), Nat.mod_eq_of_lt (by omega)]
        rfl
      refine w_ld d_77_56 rfl rfl rfl ?_
      refine w_lcon0 d_77_57 ?_
      refine w_lcmp d_77_58 (by omega) ?_
      refine w_if_ge (g := 74) d_77_59 (by decide) (by have := (lcm_0 (x := v) (z := 0)).2.2.2; omega) (fun h59 => ?_) (fun h59 => ?_)
      · refine w_ld d_77_74 rfl rfl rfl ?_
        refine w_iret d_77_76 rfl ?_
        have hv : ¬ v < 0 := fun z => by have := (lcm_0 (x := v) (z := 0)).2.1.mpr z; omega
        refine ⟨f - 1, _, rfl, by omega, ?_, rfl⟩
        unfold dec
        rw [if_neg hv, hfin]
        exact DG_s hD
      · refine w_inc (L' := [_, _, _, _, _, _]) d_77_62 rfl (by decide) rfl ?_
        refine w_ld d_77_65 rfl rfl rfl ?_
        refine w_getF d_77_66 (by rfl) (by first | rfl | assumption) (by rfl) (by rfl) ?_
        refine w_ld d_77_69 rfl rfl rfl ?_
        refine w_bip d_77_71 (by decide) ?_
        refine w_cast d_77_73 (by first | rfl | assumption) (by omega) (by decide) ?_
        refine w_ld d_77_74 rfl rfl rfl ?_
        refine w_iret d_77_76 rfl ?_
        have hv : v < 0 := Decidable.byContradiction (fun z => by have := (lcm_0 (x := v) (z := 0)).2.1; omega)
        refine ⟨f - 1 - 1, _, rfl, by omega, ?_, rfl⟩
        unfold dec
        rw [if_pos hv, hfin]
        exact DG_s (DG_s hD)
    · refine w_ld d_77_50 rfl rfl rfl ?_
      refine w_con d_77_52 ?_
      refine w_icmp_gt (g := 17) d_77_53 (by decide) (by omega) (fun h53 => ?_) (fun h53 => ?_)
      · have hne : ¬ u / 10 = 0 := fun z => h47 ((lcm_0 (x := -((u / 10 : Nat) : Int)) (z := 0)).1.mpr (by rw [z]; rfl))
        refine ih _ (by omega) (f - 1) (u / 10) _ _ rfl (by omega) ?_ (by omega) (DG_s hD) ?_
        · have e : (f - 1).toNat = (f - 1 - 1).toNat + 1 := by omega
          rw [e, Nat.pow_succ] at hm10
          exact Nat.div_lt_of_lt_mul (by rw [Nat.mul_comm]; exact hm10)
        · rw [hl0, digs_st (by omega) (by omega), List.append_assoc]
          rfl
      · have hm0 : u / 10 = 0 := by
          obtain rfl : f = 2 := by omega
          have : u < 10 := hm10
          omega
        have hfin : digs 20 v.natAbs = (48 + ((u % 10 : Nat) : Int)) :: l := by
          rw [hl0, digs_1 (by omega), Nat.mod_eq_of_lt (by omega)]
          rfl
        refine w_ld d_77_56 rfl rfl rfl ?_
        refine w_lcon0 d_77_57 ?_
        refine w_lcmp d_77_58 (by omega) ?_
        refine w_if_ge (g := 74) d_77_59 (by decide) (by have := (lcm_0 (x := v) (z := 0)).2.2.2; omega) (fun h59 => ?_) (fun h59 => ?_)
        · refine w_ld d_77_74 rfl rfl rfl ?_
          refine w_iret d_77_76 rfl ?_
          have hv : ¬ v < 0 := fun z => by have := (lcm_0 (x := v) (z := 0)).2.1.mpr z; omega
          refine ⟨f - 1, _, rfl, by omega, ?_, rfl⟩
          unfold dec
          rw [if_neg hv, hfin]
          exact DG_s hD
        · refine w_inc (L' := [_, _, _, _, _, _]) d_77_62 rfl (by decide) rfl ?_
          refine w_ld d_77_65 rfl rfl rfl ?_
          refine w_getF d_77_66 (by rfl) (by first | rfl | assumption) (by rfl) (by rfl) ?_
          refine w_ld d_77_69 rfl rfl rfl ?_
          refine w_bip d_77_71 (by decide) ?_
          refine w_cast d_77_73 (by first | rfl | assumption) (by omega) (by decide) ?_
          refine w_ld d_77_74 rfl rfl rfl ?_
          refine w_iret d_77_76 rfl ?_
          have hv : v < 0 := Decidable.byContradiction (fun z => by have := (lcm_0 (x := v) (z := 0)).2.1; omega)
          refine ⟨f - 1 - 1, _, rfl, by omega, ?_, rfl⟩
          unfold dec
          rw [if_pos hv, hfin]
          exact DG_s (DG_s hD)
theorem t_spn {sc : Nat × (Nat → Int32)} {fr lo : Nat} {μ : Mem} {ρ : Nat × Nat × Nat} {v : Int} (hv0 : -9223372036854775808 ≤ v ∧ v < 9223372036854775808) : w_S sc fr lo 77 [.ref 35, .long (jl v)] (hp μ, ρ) (fun o τ => ∃ (f : Int) (μ' : Mem), o = .inl (some (.int (ji f))) ∧ (0 ≤ f ∧ f ≤ 19) ∧ DG (dec v) f μ μ' ∧ τ = (hp μ', ρ)) := by
  refine w_S.of (L0 := [some (.ref 35), some (.long (jl v)), none, none, none, none]) rfl rfl (Nat.le_of_ble_eq_true rfl) (by rfl) ?_
  refine w_ld d_77_0 rfl rfl rfl ?_
  refine w_lcon0 d_77_1 ?_
  refine w_lcmp d_77_2 (by omega) ?_
  refine w_if_ge (g := 10) d_77_3 (by decide) (by have := (lcm_0 (x := v) (z := 0)).2.2.2; omega) (fun h3 => ?_) (fun h3 => ?_)
  · refine w_ld d_77_10 rfl rfl rfl ?_
    refine w_lneg d_77_11 ?_
    refine w_st2 (L' := [_, _, _, _, _, _]) d_77_12 rfl rfl (by decide) rfl ?_
    refine w_bip d_77_13 (by decide) ?_
    refine w_st1 (L' := [_, _, _, _, _, _]) d_77_15 rfl (by decide) rfl (by decide) rfl ?_
    have hv : ¬ v < 0 := fun z => by have := (lcm_0 (x := v) (z := 0)).2.1.mpr z; omega
    have e := t_spn_l (sc := sc) (fr := fr) (lo := lo) (μ := μ) (ρ := ρ) hv0 _ 20 v.natAbs [] μ rfl (by decide) (by show v.natAbs < 10 ^ 19; omega) (by omega) (DG_0 μ) (by rw [List.append_nil])
    rw [show (-(v.natAbs : Int)) = -v by omega] at e
    exact e
  · refine w_ld d_77_6 rfl rfl rfl ?_
    refine w_goto (g := 12) d_77_7 (by decide) ?_
    refine w_st2 (L' := [_, _, _, _, _, _]) d_77_12 rfl rfl (by decide) rfl ?_
    refine w_bip d_77_13 (by decide) ?_
    refine w_st1 (L' := [_, _, _, _, _, _]) d_77_15 rfl (by decide) rfl (by decide) rfl ?_
    have hv : v < 0 := Decidable.byContradiction (fun z => by have := (lcm_0 (x := v) (z := 0)).2.1; omega)
    have e := t_spn_l (sc := sc) (fr := fr) (lo := lo) (μ := μ) (ρ := ρ) hv0 _ 20 v.natAbs [] μ rfl (by decide) (by show v.natAbs < 10 ^ 19; omega) (by omega) (DG_0 μ) (by rw [List.append_nil])
    rw [show (-(v.natAbs : Int)) = v by omega] at e
    exact e
