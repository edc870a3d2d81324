/-! THE PURE PART, 9: contracts: stretches of letters that match -/
/-- 1 if P holds, else 0 -/
noncomputable def b01 (P : Prop) : Int := @ite Int P (Classical.propDecidable P) 1 0
theorem b01_t {P : Prop} (h : P) : b01 P = 1 := if_pos h
theorem b01_f {P : Prop} (h : ¬ P) : b01 P = 0 := if_neg h
theorem b01_01 (P : Prop) : b01 P = 0 ∨ b01 P = 1 := by
  by_cases h : P
  · exact Or.inr (b01_t h)
  · exact Or.inl (b01_f h)
theorem b01_iff {P Q : Prop} (h : P ↔ Q) : b01 P = b01 Q := by rw [propext h]
/-- a stretch of the row at a is the stretch of the row at b -/
def eqs (μ : Mem) (a : Nat) (f : Int) (b : Nat) (g s : Int) : Prop := ∀ k : Int, 0 ≤ k → k < s → μ.2.2 a (f + k) = μ.2.2 b (g + k)
theorem t_matches_l {sc : Nat × (Nat → Int32)} {fr lo : Nat} {μ : Mem} {ρ : Nat × Nat × Nat} {a n b n2 : Nat} (ha : isL a n) (hb : isL b n2) {f g s : Int} (hc : 0 ≤ μ.1 a 1 ∧ μ.1 a 1 ≤ n) (hc2 : 0 ≤ μ.1 b 1 ∧ μ.1 b 1 ≤ n2) (hch : ∀ a n, isL a n → ∀ k, 0 ≤ μ.2.2 (a + 1) k ∧ μ.2.2 (a + 1) k < 65536) (hh : 0 ≤ f ∧ f ≤ μ.1 a 1 - s ∧ 0 ≤ g ∧ g ≤ μ.1 b 1 - s ∧ 0 ≤ s) : ∀ (m : Nat) (i : Int), (s - i).toNat = m → 0 ≤ i ∧ i ≤ s → eqs μ (a + 1) f (b + 1) g i → w_P sc fr lo 17 1 6 false ((some FieldType.boolean)) prog_2_method_6_code 25 [some (.ref a), some (.int (ji f)), some (.ref b), some (.int (ji g)), some (.int (ji s)), some (.int (ji i))] [] (hp μ, ρ) (fun o t => o = .inl (some (.int (ji (b01 (eqs μ (a + 1) f (b + 1) g s))))) ∧ t = (hp μ, ρ)) := by
  intro m
  induction m using Nat.strongRecOn with
  | ind m ih =>
    intro i hm hi he
    obtain ⟨hs, hr, hn⟩ := ha.sh
    obtain ⟨hs2, hr2, hn2⟩ := hb.sh
    refine w_ld d_17_25 rfl rfl rfl ?_
    refine w_ld d_17_27 rfl rfl rfl ?_
    refine w_icmp_ge (g := 61) d_17_29 (by decide) (by omega) (fun h29 => ?_) (fun h29 => ?_)
    · refine w_con d_17_61 ?_
      refine w_zret d_17_62 rfl (by omega) ?_
      rw [b01_t (show eqs μ (a + 1) f (b + 1) g s from fun k hk0 hk => he k hk0 (by omega))]
      exact ⟨rfl, rfl⟩
    · refine w_ld d_17_32 rfl rfl rfl ?_
      refine w_getF d_17_33 (by rfl) (by first | rfl | assumption) (by rfl) (by rfl) ?_
      refine w_ld d_17_36 rfl rfl rfl ?_
      refine w_ld d_17_37 rfl rfl rfl ?_
      refine w_iadd d_17_39 ?_
      refine w_aC d_17_40 (by first | rfl | assumption) (by omega) (by (try simp [stI, stA, stR]) <;> rfl) ?_
      refine w_ld d_17_41 rfl rfl rfl ?_
      refine w_getF d_17_42 (by rfl) (by first | rfl | assumption) (by rfl) (by rfl) ?_
      refine w_ld d_17_45 rfl rfl rfl ?_
      refine w_ld d_17_46 rfl rfl rfl ?_
      refine w_iadd d_17_48 ?_
      refine w_aC d_17_49 (by first | rfl | assumption) (by omega) (by (try simp [stI, stA, stR]) <;> rfl) ?_
      refine w_icmp_eq (g := 55) d_17_50 (by decide) (by have e1 := hch a n ha (f + i); have e2 := hch b n2 hb (g + i); omega) (fun h50 => ?_) (fun h50 => ?_)
      · refine w_inc (L' := [_, _, _, _, _, _]) d_17_55 rfl (by decide) rfl ?_
        refine w_goto (g := 25) d_17_58 (by decide) ?_
        exact ih _ (by omega) (i + 1) rfl (by omega) (fun k hk0 hk => by
          by_cases hki : k = i
          · rw [hki]; exact h50
          · exact he k hk0 (by omega))
      · refine w_con d_17_53 ?_
        refine w_zret d_17_54 rfl (by omega) ?_
        rw [b01_f (fun z => h50 (z i (by omega) (by omega)))]
        exact ⟨rfl, rfl⟩
theorem t_matches {sc : Nat × (Nat → Int32)} {fr lo : Nat} {μ : Mem} {ρ : Nat × Nat × Nat} {a n b n2 : Nat} (ha : isL a n) (hb : isL b n2) {f g s : Int} (hc : 0 ≤ μ.1 a 1 ∧ μ.1 a 1 ≤ n) (hc2 : 0 ≤ μ.1 b 1 ∧ μ.1 b 1 ≤ n2) (hch : ∀ a n, isL a n → ∀ k, 0 ≤ μ.2.2 (a + 1) k ∧ μ.2.2 (a + 1) k < 65536) (hs0 : 0 ≤ s ∧ s < 2147483648) (hf0 : -2147483648 ≤ f ∧ f < 2147483648) (hg0 : -2147483648 ≤ g ∧ g < 2147483648) (hf : 1 ≤ fr) (hl : 60 ≤ lo) : w_E sc fr lo 17 [.ref a, .int (ji f), .ref b, .int (ji g), .int (ji s)] (hp μ, ρ) (.inl (some (.int (ji (b01 ((0 ≤ f ∧ f ≤ μ.1 a 1 - s) ∧ (0 ≤ g ∧ g ≤ μ.1 b 1 - s) ∧ eqs μ (a + 1) f (b + 1) g s)))))) (hp μ, ρ) := by
  obtain ⟨hs, hr, hn⟩ := ha.sh
  obtain ⟨hs2, hr2, hn2⟩ := hb.sh
  refine w_S.of (L0 := [some (.ref a), some (.int (ji f)), some (.ref b), some (.int (ji g)), some (.int (ji s)), none]) rfl rfl (Nat.le_of_ble_eq_true rfl) (by rfl) ?_
  refine w_ld d_17_0 rfl rfl rfl ?_
  refine w_ld d_17_1 rfl rfl rfl ?_
  refine w_ld d_17_2 rfl rfl rfl ?_
  refine w_cV1 (as := [_, _]) (rest := _) rfl d_17_4 (by rfl) (by rfl) (by first | rfl | assumption) (by rfl) (by rfl) (Nat.le_of_ble_eq_true rfl) (by omega) (by omega) (t_has ha hc hf0 hs0) ?_
  refine w_if_eq (g := 20) d_17_7 (by decide) (by split <;> omega) (fun h7 => ?_) (fun h7 => ?_)
  · refine w_con d_17_20 ?_
    refine w_zret d_17_21 rfl (by omega) ?_
    rw [b01_f (fun z => ?_)]
    · exact ⟨rfl, rfl⟩
    · first | (rw [if_pos z.1] at h7; omega) | (rw [if_pos z.2.1] at h17; omega)
  · refine w_ld d_17_10 rfl rfl rfl ?_
    refine w_ld d_17_11 rfl rfl rfl ?_
    refine w_ld d_17_12 rfl rfl rfl ?_
    refine w_cV1 (as := [_, _]) (rest := _) rfl d_17_14 (by rfl) (by rfl) (by first | rfl | assumption) (by rfl) (by rfl) (Nat.le_of_ble_eq_true rfl) (by omega) (by omega) (t_has hb hc2 hg0 hs0) ?_
    refine w_if_ne (g := 22) d_17_17 (by decide) (by split <;> omega) (fun h17 => ?_) (fun h17 => ?_)
    · refine w_con d_17_22 ?_
      refine w_st1 (L' := [_, _, _, _, _, _]) d_17_23 rfl (by decide) rfl (by decide) rfl ?_
      have e1 : 0 ≤ f ∧ f ≤ μ.1 a 1 - s := Decidable.byContradiction (fun z => h7 (if_neg z))
      have e2 : 0 ≤ g ∧ g ≤ μ.1 b 1 - s := Decidable.byContradiction (fun z => h17 (if_neg z))
      rw [b01_iff (show _ ↔ eqs μ (a + 1) f (b + 1) g s from ⟨fun z => z.2.2, fun z => ⟨e1, e2, z⟩⟩)]
      exact t_matches_l ha hb hc hc2 hch (by omega) _ 0 rfl (by omega) (fun k h1 h2 => by omega)
    · refine w_con d_17_20 ?_
      refine w_zret d_17_21 rfl (by omega) ?_
      rw [b01_f (fun z => ?_)]
      · exact ⟨rfl, rfl⟩
      · first | (rw [if_pos z.1] at h7; omega) | (rw [if_pos z.2.1] at h17; omega)
