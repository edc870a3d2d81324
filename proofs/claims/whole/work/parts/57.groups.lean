/-! THE PURE PART, 41: contracts: the reference's groups -/
/-- the reference's rows -/
def vM (μ : Mem) : View := (μ.2.2 49, μ.2.2 50, μ.2.2 53, fun k => k + μ.2.2 54 k, μ.2.2 52, fun k x => μ.2.2 57 (μ.2.2 51 k + x))
/-- a row of the reference is whole -/
def mok (μ : Mem) (v : Int) : Prop := (0 ≤ μ.2.2 49 v ∧ μ.2.2 49 v ≤ 12) ∧ (-9223372036854775808 ≤ μ.2.2 50 v ∧ μ.2.2 50 v < 9223372036854775808) ∧ (0 ≤ μ.2.2 53 v ∧ μ.2.2 53 v ≤ 240) ∧ (1 ≤ μ.2.2 54 v ∧ μ.2.2 54 v ≤ 240) ∧ (0 ≤ μ.2.2 52 v ∧ μ.2.2 52 v ≤ 240) ∧ (μ.2.2 52 v = 0 ∨ 0 ≤ μ.2.2 51 v ∧ μ.2.2 51 v + μ.2.2 52 v ≤ 720) ∧ (-1 ≤ μ.2.2 56 v ∧ μ.2.2 56 v < 384)
/-- same words -/
def swd (μ : Mem) (a b : Int) (k : Int) : Prop := μ.2.2 52 a = μ.2.2 52 b ∧ ∀ x, 0 ≤ x → x < k → μ.2.2 57 (μ.2.2 51 a + x) = μ.2.2 57 (μ.2.2 51 b + x)
theorem m_sameWord_l {sc : Nat × (Nat → Int32)} {fr lo : Nat} {μ : Mem} {ρ : Nat × Nat × Nat} {a b : Int} (ha : 0 ≤ a ∧ a < 384) (hb : 0 ≤ b ∧ b < 384) (ma : mok μ a) (mb : mok μ b) (hch : ∀ k, 0 ≤ μ.2.2 57 k ∧ μ.2.2 57 k < 65536) : ∀ (m : Nat) (k : Int) (f : Int), ((μ.2.2 52 a) - k).toNat = m → (0 ≤ k ∧ k ≤ (μ.2.2 52 a)) → f = b01 (swd μ a b k) → w_P sc fr lo 137 7 5 false ((some FieldType.boolean)) prog_9_method_10_code 24 [some (.ref 46), some (.int (ji a)), some (.int (ji b)), some (.int (ji f)), some (.int (ji k))] [] (hp (μ), ρ) (fun o t' => o = .inl (some (.int (ji (b01 (swd μ a b (μ.2.2 52 a)))))) ∧ t' = (hp μ, ρ)) := by
  intro m
  induction m using Nat.strongRecOn with
  | ind m ih =>
    intro k f hm hk hfk
    obtain ⟨a1, a2, a3, a4, a5, a6, a7⟩ := ma
    obtain ⟨b1, b2, b3, b4, b5, b6, b7⟩ := mb
    refine w_ld d_137_24 rfl rfl rfl ?_
    refine w_ld d_137_26 rfl rfl rfl ?_
    refine w_getF d_137_27 (by rfl) (by first | rfl | assumption) (by rfl) (by rfl) ?_
    refine w_ld d_137_30 rfl rfl rfl ?_
    refine w_aI d_137_31 (by first | rfl | assumption) (by omega) (by (try simp [stI, stA, stR]) <;> rfl) ?_
    refine w_icmp_ge (g := 82) d_137_32 (by decide) (by omega) (fun h32 => ?_) (fun h32 => ?_)
    · refine w_ld d_137_82 rfl rfl rfl ?_
      refine w_zret d_137_83 rfl (by rw [hfk]; exact b01_01 _) ?_
      rw [hfk, show k = (μ.2.2 52 a) by omega]
      exact ⟨rfl, rfl⟩
    · refine w_ld d_137_35 rfl rfl rfl ?_
      refine w_if_eq (g := 82) d_137_36 (by decide) (by rw [hfk]; exact b01_in _) (fun h36 => ?_) (fun h36 => ?_)
      · refine w_ld d_137_82 rfl rfl rfl ?_
        refine w_zret d_137_83 rfl (by rw [hfk]; exact b01_01 _) ?_
        have hz : ¬ swd μ a b k := b01_eq (hfk.symm.trans h36)
        rw [h36, b01_f (show ¬ swd μ a b (μ.2.2 52 a) from fun z => hz ⟨z.1, fun x x0 x1 => z.2 x x0 (by omega)⟩)]
        exact ⟨rfl, rfl⟩
      · have hs : swd μ a b k := b01_ne (fun z => h36 (hfk.trans z))
        have hs1 := hs.1
        have e1 := hch (μ.2.2 51 a + k)
        have e2 := hch (μ.2.2 51 b + k)
        refine w_ld d_137_39 rfl rfl rfl ?_
        refine w_getF d_137_40 (by rfl) (by first | rfl | assumption) (by rfl) (by rfl) ?_
        refine w_ld d_137_43 rfl rfl rfl ?_
        refine w_getF d_137_44 (by rfl) (by first | rfl | assumption) (by rfl) (by rfl) ?_
        refine w_ld d_137_47 rfl rfl rfl ?_
        refine w_aI d_137_48 (by first | rfl | assumption) (by omega) (by (try simp [stI, stA, stR]) <;> rfl) ?_
        refine w_ld d_137_49 rfl rfl rfl ?_
        refine w_iadd d_137_51 ?_
        refine w_aI d_137_52 (by first | rfl | assumption) (by omega) (by (try simp [stI, stA, stR]) <;> rfl) ?_
        refine w_ld d_137_53 rfl rfl rfl ?_
        refine w_getF d_137_54 (by rfl) (by first | rfl | assumption) (by rfl) (by rfl) ?_
        refine w_ld d_137_57 rfl rfl rfl ?_
        refine w_getF d_137_58 (by rfl) (by first | rfl | assumption) (by rfl) (by rfl) ?_
        refine w_ld d_137_61 rfl rfl rfl ?_
        refine w_aI d_137_62 (by first | rfl | assumption) (by omega) (by (try simp [stI, stA, stR]) <;> rfl) ?_
        refine w_ld d_137_63 rfl rfl rfl ?_
        refine w_iadd d_137_65 ?_
        refine w_aI d_137_66 (by first | rfl | assumption) (by omega) (by (try simp [stI, stA, stR]) <;> rfl) ?_
        refine w_icmp_ne (g := 74) d_137_67 (by decide) (by omega) (fun h67 => ?_) (fun h67 => ?_)
        · refine w_con d_137_74 ?_
          refine w_st1 (L' := [_, _, _, _, _]) d_137_75 rfl (by decide) rfl (by decide) rfl ?_
          refine w_inc (L' := [_, _, _, _, _]) d_137_76 rfl (by decide) rfl ?_
          refine w_goto (g := 24) d_137_79 (by decide) ?_
          refine ih _ (by omega) (k + 1) _ rfl (by omega) ?_
          first
          | rw [b01_f (show ¬ swd μ a b (k + 1) from fun z => h67 (z.2 k (by omega) (by omega)))]
          | rw [b01_t (show swd μ a b (k + 1) from ⟨hs1, fun x x0 x1 => by
              by_cases hxk : x = k
              · rw [hxk]; exact h67
              · exact hs.2 x x0 (by omega)⟩)]
        · refine w_con d_137_70 ?_
          refine w_goto (g := 75) d_137_71 (by decide) ?_
          refine w_st1 (L' := [_, _, _, _, _]) d_137_75 rfl (by decide) rfl (by decide) rfl ?_
          refine w_inc (L' := [_, _, _, _, _]) d_137_76 rfl (by decide) rfl ?_
          refine w_goto (g := 24) d_137_79 (by decide) ?_
          refine ih _ (by omega) (k + 1) _ rfl (by omega) ?_
          first
          | rw [b01_f (show ¬ swd μ a b (k + 1) from fun z => h67 (z.2 k (by omega) (by omega)))]
          | rw [b01_t (show swd μ a b (k + 1) from ⟨hs1, fun x x0 x1 => by
              by_cases hxk : x = k
              · rw [hxk]; exact h67
              · exact hs.2 x x0 (by omega)⟩)]
theorem m_sameWord {sc : Nat × (Nat → Int32)} {fr lo : Nat} {μ : Mem} {ρ : Nat × Nat × Nat} {a b : Int} (ha : 0 ≤ a ∧ a < 384) (hb : 0 ≤ b ∧ b < 384) (ma : mok μ a) (mb : mok μ b) (hch : ∀ k, 0 ≤ μ.2.2 57 k ∧ μ.2.2 57 k < 65536) : w_E sc fr lo 137 [.ref 46, .int (ji a), .int (ji b)] (hp μ, ρ) (.inl (some (.int (ji (b01 (swd μ a b (μ.2.2 52 a))))))) (hp μ, ρ) := by
  obtain ⟨a1, a2, a3, a4, a5, a6, a7⟩ := ma
  obtain ⟨b1, b2, b3, b4, b5, b6, b7⟩ := mb
  refine w_S.of (L0 := [some (.ref 46), some (.int (ji a)), some (.int (ji b)), none, none]) rfl rfl (Nat.le_of_ble_eq_true rfl) (by rfl) ?_
  refine w_ld d_137_0 rfl rfl rfl ?_
  refine w_getF d_137_1 (by rfl) (by first | rfl | assumption) (by rfl) (by rfl) ?_
  refine w_ld d_137_4 rfl rfl rfl ?_
  refine w_aI d_137_5 (by first | rfl | assumption) (by omega) (by (try simp [stI, stA, stR]) <;> rfl) ?_
  refine w_ld d_137_6 rfl rfl rfl ?_
  refine w_getF d_137_7 (by rfl) (by first | rfl | assumption) (by rfl) (by rfl) ?_
  refine w_ld d_137_10 rfl rfl rfl ?_
  refine w_aI d_137_11 (by first | rfl | assumption) (by omega) (by (try simp [stI, stA, stR]) <;> rfl) ?_
  refine w_icmp_ne (g := 19) d_137_12 (by decide) (by omega) (fun h12 => ?_) (fun h12 => ?_)
  · refine w_con d_137_19 ?_
    refine w_st1 (L' := [_, _, _, _, _]) d_137_20 rfl (by decide) rfl (by decide) rfl ?_
    refine w_con d_137_21 ?_
    refine w_st1 (L' := [_, _, _, _, _]) d_137_22 rfl (by decide) rfl (by decide) rfl ?_
    refine m_sameWord_l ha hb ⟨a1, a2, a3, a4, a5, a6, a7⟩ ⟨b1, b2, b3, b4, b5, b6, b7⟩ hch _ 0 _ rfl (by omega) ?_
    first
    | rw [b01_f (show ¬ swd μ a b 0 from fun z => h12 z.1)]
    | rw [b01_t (show swd μ a b 0 from ⟨h12, fun x x0 x1 => by omega⟩)]
  · refine w_con d_137_15 ?_
    refine w_goto (g := 20) d_137_16 (by decide) ?_
    refine w_st1 (L' := [_, _, _, _, _]) d_137_20 rfl (by decide) rfl (by decide) rfl ?_
    refine w_con d_137_21 ?_
    refine w_st1 (L' := [_, _, _, _, _]) d_137_22 rfl (by decide) rfl (by decide) rfl ?_
    refine m_sameWord_l ha hb ⟨a1, a2, a3, a4, a5, a6, a7⟩ ⟨b1, b2, b3, b4, b5, b6, b7⟩ hch _ 0 _ rfl (by omega) ?_
    first
    | rw [b01_f (show ¬ swd μ a b 0 from fun z => h12 z.1)]
    | rw [b01_t (show swd μ a b 0 from ⟨h12, fun x x0 x1 => by omega⟩)]
/-- r is the first part of b, or key, with group g; or -1 -/
def pof (μ : Mem) (b g : Int) (s : Nat) (r : Int) : Prop := (∃ m : Nat, ((s * m : Nat) : Int) < μ.2.2 53 b ∧ μ.2.2 56 (pt (vM μ) b (s * m)) = g ∧ r = pt (vM μ) b (s * m)) ∨ (r = -1 ∧ ∀ m : Nat, ((s * m : Nat) : Int) < μ.2.2 53 b → μ.2.2 56 (pt (vM μ) b (s * m)) ≠ g)
theorem tmod_nat (q s : Nat) (hs : s = 1 ∨ s = 2) : ((q : Int).tmod (s : Int) = 0) ↔ ∃ m : Nat, q = s * m := by
  rw [← Int.ofNat_tmod]
  constructor
  · intro h
    have h : q % s = 0 := by omega
    exact ⟨q / s, by rcases hs with rfl | rfl <;> omega⟩
  · rintro ⟨m, rfl⟩
    rcases hs with rfl | rfl <;> omega
theorem m_partOf_l {sc : Nat × (Nat → Int32)} {fr lo : Nat} {μ : Mem} {ρ : Nat × Nat × Nat} {b g : Int} {s : Nat} (hs : s = 1 ∨ s = 2) (hb : 0 ≤ b ∧ b < 384) (mb : mok μ b) (hg : -1 ≤ g ∧ g < 384) (hp0 : ∀ n : Nat, (n : Int) < μ.2.2 53 b → (0 ≤ pt (vM μ) b n ∧ pt (vM μ) b n < 384) ∧ mok μ (pt (vM μ) b n)) : ∀ (m : Nat) (q : Nat), (μ.2.2 53 b - q).toNat = m → (q : Int) ≤ μ.2.2 53 b → (∀ m : Nat, s * m < q → μ.2.2 56 (pt (vM μ) b (s * m)) ≠ g) → w_P sc fr lo 139 7 6 false ((some FieldType.int)) prog_9_method_11_code 8 [some (.ref 46), some (.int (ji b)), some (.int (ji g)), some (.int (ji (s : Int))), some (.int (ji (pt (vM μ) b q))), some (.int (ji (q : Int)))] [] (hp (μ), ρ) (fun o t' => ∃ r : Int, o = .inl (some (.int (ji r))) ∧ pof μ b g s r ∧ t' = (hp μ, ρ)) := by
  intro m
  induction m using Nat.strongRecOn with
  | ind m ih =>
    intro q hm hq hqs
    obtain ⟨b1, b2, b3, b4, b5, b6, b7⟩ := mb
    refine w_ld d_139_8 rfl rfl rfl ?_
    refine w_ld d_139_10 rfl rfl rfl ?_
    refine w_getF d_139_11 (by rfl) (by first | rfl | assumption) (by rfl) (by rfl) ?_
    refine w_ld d_139_14 rfl rfl rfl ?_
    refine w_aI d_139_15 (by first | rfl | assumption) (by omega) (by (try simp [stI, stA, stR]) <;> rfl) ?_
    refine w_icmp_ge (g := 58) d_139_16 (by decide) (by omega) (fun h16 => ?_) (fun h16 => ?_)
    · refine w_con d_139_58 ?_
      refine w_iret d_139_59 rfl ?_
      exact ⟨_, rfl, Or.inr ⟨rfl, fun m hm2 => hqs m (by omega)⟩, rfl⟩
    · have p1 := hp0 q h16
      obtain ⟨c1, c2, c3, c4, c5, c6, c7⟩ := p1.2
      have hmod : -2147483648 ≤ (q : Int).tmod (s : Int) ∧ (q : Int).tmod (s : Int) < 2147483648 := by
        rw [← Int.ofNat_tmod]
        have : q % s < 2 := by rcases hs with rfl | rfl <;> omega
        omega
      refine w_ld d_139_19 rfl rfl rfl ?_
      refine w_ld d_139_21 rfl rfl rfl ?_
      refine w_irem d_139_22 (by omega) (by rcases hs with rfl | rfl <;> decide) ?_
      refine w_if_ne (g := 40) d_139_23 (by decide) hmod (fun h23 => ?_) (fun h23 => ?_)
      · refine w_ld d_139_40 rfl rfl rfl ?_
        refine w_ld d_139_42 rfl rfl rfl ?_
        refine w_getF d_139_43 (by rfl) (by first | rfl | assumption) (by rfl) (by rfl) ?_
        refine w_ld d_139_46 rfl rfl rfl ?_
        refine w_aI d_139_48 (by first | rfl | assumption) (by omega) (by (try simp [stI, stA, stR]) <;> rfl) ?_
        refine w_iadd d_139_49 ?_
        refine w_st1 (L' := [_, _, _, _, _, _]) d_139_50 rfl (by decide) rfl (by decide) rfl ?_
        refine w_inc (L' := [_, _, _, _, _, _]) d_139_52 rfl (by decide) rfl ?_
        refine w_goto (g := 8) d_139_55 (by decide) ?_
        refine ih _ (by omega) (q + 1) rfl (by omega) (fun m hm2 => ?_)
        by_cases hq : s * m = q
        · first
          | (rw [hq]; exact h34)
          | exact absurd ((tmod_nat q s hs).mpr ⟨m, hq.symm⟩) h23
        · exact hqs m (by omega)
      · refine w_ld d_139_26 rfl rfl rfl ?_
        refine w_getF d_139_27 (by rfl) (by first | rfl | assumption) (by rfl) (by rfl) ?_
        refine w_ld d_139_30 rfl rfl rfl ?_
        refine w_aI d_139_32 (by first | rfl | assumption) (by omega) (by (try simp [stI, stA, stR]) <;> rfl) ?_
        refine w_ld d_139_33 rfl rfl rfl ?_
        refine w_icmp_ne (g := 40) d_139_34 (by decide) (by omega) (fun h34 => ?_) (fun h34 => ?_)
        · refine w_ld d_139_40 rfl rfl rfl ?_
          refine w_ld d_139_42 rfl rfl rfl ?_
          refine w_getF d_139_43 (by rfl) (by first | rfl | assumption) (by rfl) (by rfl) ?_
          refine w_ld d_139_46 rfl rfl rfl ?_
          refine w_aI d_139_48 (by first | rfl | assumption) (by omega) (by (try simp [stI, stA, stR]) <;> rfl) ?_
          refine w_iadd d_139_49 ?_
          refine w_st1 (L' := [_, _, _, _, _, _]) d_139_50 rfl (by decide) rfl (by decide) rfl ?_
          refine w_inc (L' := [_, _, _, _, _, _]) d_139_52 rfl (by decide) rfl ?_
          refine w_goto (g := 8) d_139_55 (by decide) ?_
          refine ih _ (by omega) (q + 1) rfl (by omega) (fun m hm2 => ?_)
          by_cases hq : s * m = q
          · first
            | (rw [hq]; exact h34)
            | exact absurd ((tmod_nat q s hs).mpr ⟨m, hq.symm⟩) h23
          · exact hqs m (by omega)
        · refine w_ld d_139_37 rfl rfl rfl ?_
          refine w_iret d_139_39 rfl ?_
          obtain ⟨m, hm2⟩ := (tmod_nat q s hs).mp h23
          subst hm2
          exact ⟨_, rfl, Or.inl ⟨m, h16, h34, rfl⟩, rfl⟩
theorem m_partOf {sc : Nat × (Nat → Int32)} {fr lo : Nat} {μ : Mem} {ρ : Nat × Nat × Nat} {b g : Int} {s : Nat} (hs : s = 1 ∨ s = 2) (hb : 0 ≤ b ∧ b < 384) (mb : mok μ b) (hg : -1 ≤ g ∧ g < 384) (hp0 : ∀ n : Nat, (n : Int) < μ.2.2 53 b → (0 ≤ pt (vM μ) b n ∧ pt (vM μ) b n < 384) ∧ mok μ (pt (vM μ) b n)) : w_S sc fr lo 139 [.ref 46, .int (ji b), .int (ji g), .int (ji (s : Int))] (hp μ, ρ) (fun o t' => ∃ r : Int, o = .inl (some (.int (ji r))) ∧ pof μ b g s r ∧ t' = (hp μ, ρ)) := by
  refine w_S.of (L0 := [some (.ref 46), some (.int (ji b)), some (.int (ji g)), some (.int (ji (s : Int))), none, none]) rfl rfl (Nat.le_of_ble_eq_true rfl) (by rfl) ?_
  refine w_ld d_139_0 rfl rfl rfl ?_
  refine w_con d_139_1 ?_
  refine w_iadd d_139_2 ?_
  refine w_st1 (L' := [_, _, _, _, _, _]) d_139_3 rfl (by decide) rfl (by decide) rfl ?_
  refine w_con d_139_5 ?_
  refine w_st1 (L' := [_, _, _, _, _, _]) d_139_6 rfl (by decide) rfl (by decide) rfl ?_
  exact m_partOf_l hs hb mb hg hp0 _ 0 rfl (by have := mb.2.2.1; show (0 : Int) ≤ _; omega) (fun m hm => absurd hm (Nat.not_lt_zero _))
theorem m_sp10_l {sc : Nat × (Nat → Int32)} {fr lo : Nat} {μ : Mem} {ρ : Nat × Nat × Nat} {a b : Int} (ha : 0 ≤ a ∧ a < 384) (hb : 0 ≤ b ∧ b < 384) (ma : mok μ a) (mb : mok μ b) (hPP : μ.2.2 53 a = μ.2.2 53 b) (pa : ∀ n : Nat, (n : Int) < μ.2.2 53 a → (0 ≤ pt (vM μ) a n ∧ pt (vM μ) a n < 384) ∧ mok μ (pt (vM μ) a n)) (pb : ∀ n : Nat, (n : Int) < μ.2.2 53 b → (0 ≤ pt (vM μ) b n ∧ pt (vM μ) b n < 384) ∧ mok μ (pt (vM μ) b n)) (hf : 3 ≤ fr) (hl : 100 ≤ lo) (hK : μ.2.2 49 a = 10) : ∀ (m : Nat) (q : Nat) (qv : Int), (μ.2.2 53 a - q).toNat = m → (q : Int) ≤ μ.2.2 53 a → (-1 ≤ qv ∧ qv ≤ 1000) → (∀ n : Nat, n < q → ∃ m : Nat, (m : Int) < μ.2.2 53 b ∧ μ.2.2 56 (pt (vM μ) a n) = μ.2.2 56 (pt (vM μ) b m)) → w_P sc fr lo 138 7 6 false ((some FieldType.boolean)) prog_9_method_12_code 12 [some (.ref 46), some (.int (ji a)), some (.int (ji b)), some (.int (ji (pt (vM μ) a q))), some (.int (ji qv)), some (.int (ji (q : Int)))] [] (hp (μ), ρ) (fun o t' => o = .inl (some (.int (ji (b01 (∀ n : Nat, (n : Int) < μ.2.2 53 a → ∃ m : Nat, (m : Int) < μ.2.2 53 b ∧ μ.2.2 56 (pt (vM μ) a n) = μ.2.2 56 (pt (vM μ) b m)))))) ∧ t' = (hp μ, ρ)) := by
  intro m
  induction m using Nat.strongRecOn with
  | ind m ih =>
    intro q qv hm hq hqv hqs
    obtain ⟨a1, a2, a3, a4, a5, a6, a7⟩ := ma
    obtain ⟨b1, b2, b3, b4, b5, b6, b7⟩ := mb
    refine w_ld d_138_12 rfl rfl rfl ?_
    refine w_ld d_138_14 rfl rfl rfl ?_
    refine w_getF d_138_15 (by rfl) (by first | rfl | assumption) (by rfl) (by rfl) ?_
    refine w_ld d_138_18 rfl rfl rfl ?_
    refine w_aI d_138_19 (by first | rfl | assumption) (by omega) (by (try simp [stI, stA, stR]) <;> rfl) ?_
    refine w_icmp_ge (g := 130) d_138_20 (by decide) (by omega) (fun h20 => ?_) (fun h20 => ?_)
    · refine w_con d_138_130 ?_
      refine w_zret d_138_131 rfl (by decide) ?_
      rw [b01_t (fun n hn => hqs n (by omega))]
      exact ⟨rfl, rfl⟩
    · have p1 := pa q h20
      obtain ⟨c1, c2, c3, c4, c5, c6, c7⟩ := p1.2
      refine w_ld d_138_23 rfl rfl rfl ?_
      refine w_getF d_138_24 (by rfl) (by first | rfl | assumption) (by rfl) (by rfl) ?_
      refine w_ld d_138_27 rfl rfl rfl ?_
      refine w_aI d_138_28 (by first | rfl | assumption) (by omega) (by (try simp [stI, stA, stR]) <;> rfl) ?_
      refine w_bip d_138_29 (by decide) ?_
      refine w_icmp_ne (g := 48) d_138_31 (by decide) (by omega) (fun h31 => ?_) (fun h31 => ?_)
      · exact absurd hK h31
      · refine w_ld d_138_34 rfl rfl rfl ?_
        refine w_ld d_138_35 rfl rfl rfl ?_
        refine w_ld d_138_36 rfl rfl rfl ?_
        refine w_getF d_138_37 (by rfl) (by first | rfl | assumption) (by rfl) (by rfl) ?_
        refine w_ld d_138_40 rfl rfl rfl ?_
        refine w_aI d_138_41 (by first | rfl | assumption) (by omega) (by (try simp [stI, stA, stR]) <;> rfl) ?_
        refine w_con d_138_42 ?_
        refine w_cVr (as := [_, _, _]) (rest := _) rfl d_138_43 (by rfl) (by rfl) (by first | rfl | assumption) (by rfl) (by rfl) (Nat.le_of_ble_eq_true rfl) (by omega) (by omega) (m_partOf (s := 1) (Or.inl rfl) hb ⟨b1, b2, b3, b4, b5, b6, b7⟩ c7 pb) (fun r hr => ?_)
        refine w_st1 (L' := [_, _, _, _, _, _]) d_138_46 rfl (by decide) rfl (by decide) rfl ?_
        have hr2 : -1 ≤ r ∧ r < 384 := by
          rcases hr with ⟨m, z1, z2, z3⟩ | z
          · have := pb (1 * m) z1
            rw [z3]
            omega
          · omega
        refine w_ld d_138_48 rfl rfl rfl ?_
        refine w_getF d_138_49 (by rfl) (by first | rfl | assumption) (by rfl) (by rfl) ?_
        refine w_ld d_138_52 rfl rfl rfl ?_
        refine w_aI d_138_53 (by first | rfl | assumption) (by omega) (by (try simp [stI, stA, stR]) <;> rfl) ?_
        refine w_bip d_138_54 (by decide) ?_
        refine w_icmp_ne (g := 80) d_138_56 (by decide) (by omega) (fun h56 => ?_) (fun h56 => ?_)
        · refine w_ld d_138_80 rfl rfl rfl ?_
          refine w_if_lt (g := 101) d_138_82 (by decide) (by omega) (fun h82 => ?_) (fun h82 => ?_)
          · refine w_con d_138_101 ?_
            refine w_zret d_138_102 rfl (by decide) ?_
            have hr3 : ∀ m : Nat, (m : Int) < μ.2.2 53 b → μ.2.2 56 (pt (vM μ) b m) ≠ μ.2.2 56 (pt (vM μ) a q) := by
              rcases hr with ⟨m, z1, z2, z3⟩ | z
              · have := pb (1 * m) z1
                omega
              · intro m hm2
                have := z.2 m (by simpa using hm2)
                simpa using this
            rw [b01_f (fun z => by obtain ⟨m, z1, z2⟩ := z q h20; exact hr3 m z1 z2.symm)]
            exact ⟨rfl, rfl⟩
          · have hr3 : ∃ m : Nat, (m : Int) < μ.2.2 53 b ∧ μ.2.2 56 r = μ.2.2 56 (pt (vM μ) a q) ∧ r = pt (vM μ) b m := by
              rcases hr with ⟨m, z1, z2, z3⟩ | z
              · exact ⟨1 * m, z1, by rw [z3]; exact z2, z3⟩
              · omega
            obtain ⟨m3, r1, r2, r3⟩ := hr3
            have hmr : mok μ r := by rw [r3]; exact (pb m3 r1).2
            obtain ⟨d1, d2, d3, d4, d5, d6, d7⟩ := hmr
            refine w_ld d_138_85 rfl rfl rfl ?_
            refine w_getF d_138_86 (by rfl) (by first | rfl | assumption) (by rfl) (by rfl) ?_
            refine w_ld d_138_89 rfl rfl rfl ?_
            refine w_aI d_138_90 (by first | rfl | assumption) (by omega) (by (try simp [stI, stA, stR]) <;> rfl) ?_
            refine w_ld d_138_91 rfl rfl rfl ?_
            refine w_getF d_138_92 (by rfl) (by first | rfl | assumption) (by rfl) (by rfl) ?_
            refine w_ld d_138_95 rfl rfl rfl ?_
            refine w_aI d_138_97 (by first | rfl | assumption) (by omega) (by (try simp [stI, stA, stR]) <;> rfl) ?_
            refine w_icmp_eq (g := 103) d_138_98 (by decide) (by omega) (fun h98 => ?_) (fun h98 => ?_)
            · refine w_ld d_138_103 rfl rfl rfl ?_
              refine w_ld d_138_104 rfl rfl rfl ?_
              refine w_getF d_138_105 (by rfl) (by first | rfl | assumption) (by rfl) (by rfl) ?_
              refine w_ld d_138_108 rfl rfl rfl ?_
              refine w_aI d_138_109 (by first | rfl | assumption) (by omega) (by (try simp [stI, stA, stR]) <;> rfl) ?_
              refine w_iadd d_138_110 ?_
              refine w_st1 (L' := [_, _, _, _, _, _]) d_138_111 rfl (by decide) rfl (by decide) rfl ?_
              refine w_ld d_138_112 rfl rfl rfl ?_
              refine w_ld d_138_114 rfl rfl rfl ?_
              refine w_getF d_138_115 (by rfl) (by first | rfl | assumption) (by rfl) (by rfl) ?_
              refine w_ld d_138_118 rfl rfl rfl ?_
              refine w_aI d_138_120 (by first | rfl | assumption) (by omega) (by (try simp [stI, stA, stR]) <;> rfl) ?_
              refine w_iadd d_138_121 ?_
              refine w_st1 (L' := [_, _, _, _, _, _]) d_138_122 rfl (by decide) rfl (by decide) rfl ?_
              refine w_inc (L' := [_, _, _, _, _, _]) d_138_124 rfl (by decide) rfl ?_
              refine w_goto (g := 12) d_138_127 (by decide) ?_
              refine ih _ (by omega) (q + 1) _ rfl (by omega) (by omega) (fun n hn => ?_)
              by_cases hq2 : n = q
              · rw [hq2]; exact ⟨m3, r1, by rw [← r3]; exact r2.symm⟩
              · exact hqs n (by omega)
            · exact absurd r2.symm h98
        · exact absurd (hK.symm.trans h56) (by decide)
theorem m_sp11_l {sc : Nat × (Nat → Int32)} {fr lo : Nat} {μ : Mem} {ρ : Nat × Nat × Nat} {a b : Int} (ha : 0 ≤ a ∧ a < 384) (hb : 0 ≤ b ∧ b < 384) (ma : mok μ a) (mb : mok μ b) (hPP : μ.2.2 53 a = μ.2.2 53 b) (pa : ∀ n : Nat, (n : Int) < μ.2.2 53 a → (0 ≤ pt (vM μ) a n ∧ pt (vM μ) a n < 384) ∧ mok μ (pt (vM μ) a n)) (pb : ∀ n : Nat, (n : Int) < μ.2.2 53 b → (0 ≤ pt (vM μ) b n ∧ pt (vM μ) b n < 384) ∧ mok μ (pt (vM μ) b n)) (hf : 3 ≤ fr) (hl : 100 ≤ lo) (hK : μ.2.2 49 a = 11) (hev : μ.2.2 53 a % 2 = 0) (huq : ∀ m m2 : Nat, ((2 * m : Nat) : Int) < μ.2.2 53 b → ((2 * m2 : Nat) : Int) < μ.2.2 53 b → μ.2.2 56 (pt (vM μ) b (2 * m)) = μ.2.2 56 (pt (vM μ) b (2 * m2)) → m = m2) : ∀ (m : Nat) (q : Nat) (qv : Int), (μ.2.2 53 a - q).toNat = m → (q : Int) ≤ μ.2.2 53 a → (-1 ≤ qv ∧ qv ≤ 1000) → (∀ n : Nat, 2 * n + 1 < q → (∃ m : Nat, ((2 * m : Nat) : Int) < μ.2.2 53 b ∧ μ.2.2 56 (pt (vM μ) a (2 * n)) = μ.2.2 56 (pt (vM μ) b (2 * m)) ∧ μ.2.2 56 (pt (vM μ) a (2 * n + 1)) = μ.2.2 56 (pt (vM μ) b (2 * m + 1)))) → (∀ n : Nat, q = 2 * n + 1 → ∃ m : Nat, ((2 * m : Nat) : Int) < μ.2.2 53 b ∧ μ.2.2 56 (pt (vM μ) a (2 * n)) = μ.2.2 56 (pt (vM μ) b (2 * m)) ∧ qv = pt (vM μ) b (2 * m + 1)) → w_P sc fr lo 138 7 6 false ((some FieldType.boolean)) prog_9_method_12_code 12 [some (.ref 46), some (.int (ji a)), some (.int (ji b)), some (.int (ji (pt (vM μ) a q))), some (.int (ji qv)), some (.int (ji (q : Int)))] [] (hp (μ), ρ) (fun o t' => o = .inl (some (.int (ji (b01 (∀ n : Nat, ((2 * n : Nat) : Int) < μ.2.2 53 a → (∃ m : Nat, ((2 * m : Nat) : Int) < μ.2.2 53 b ∧ μ.2.2 56 (pt (vM μ) a (2 * n)) = μ.2.2 56 (pt (vM μ) b (2 * m)) ∧ μ.2.2 56 (pt (vM μ) a (2 * n + 1)) = μ.2.2 56 (pt (vM μ) b (2 * m + 1)))))))) ∧ t' = (hp μ, ρ)) := by
  intro m
  induction m using Nat.strongRecOn with
  | ind m ih =>
    intro q qv hm hq hqv hqs hodd
    obtain ⟨a1, a2, a3, a4, a5, a6, a7⟩ := ma
    obtain ⟨b1, b2, b3, b4, b5, b6, b7⟩ := mb
    refine w_ld d_138_12 rfl rfl rfl ?_
    refine w_ld d_138_14 rfl rfl rfl ?_
    refine w_getF d_138_15 (by rfl) (by first | rfl | assumption) (by rfl) (by rfl) ?_
    refine w_ld d_138_18 rfl rfl rfl ?_
    refine w_aI d_138_19 (by first | rfl | assumption) (by omega) (by (try simp [stI, stA, stR]) <;> rfl) ?_
    refine w_icmp_ge (g := 130) d_138_20 (by decide) (by omega) (fun h20 => ?_) (fun h20 => ?_)
    · refine w_con d_138_130 ?_
      refine w_zret d_138_131 rfl (by decide) ?_
      rw [b01_t (fun n hn => hqs n (by omega))]
      exact ⟨rfl, rfl⟩
    · have p1 := pa q h20
      obtain ⟨c1, c2, c3, c4, c5, c6, c7⟩ := p1.2
      refine w_ld d_138_23 rfl rfl rfl ?_
      refine w_getF d_138_24 (by rfl) (by first | rfl | assumption) (by rfl) (by rfl) ?_
      refine w_ld d_138_27 rfl rfl rfl ?_
      refine w_aI d_138_28 (by first | rfl | assumption) (by omega) (by (try simp [stI, stA, stR]) <;> rfl) ?_
      refine w_bip d_138_29 (by decide) ?_
      refine w_icmp_ne (g := 48) d_138_31 (by decide) (by omega) (fun h31 => ?_) (fun h31 => ?_)
      · refine w_ld d_138_48 rfl rfl rfl ?_
        refine w_getF d_138_49 (by rfl) (by first | rfl | assumption) (by rfl) (by rfl) ?_
        refine w_ld d_138_52 rfl rfl rfl ?_
        refine w_aI d_138_53 (by first | rfl | assumption) (by omega) (by (try simp [stI, stA, stR]) <;> rfl) ?_
        refine w_bip d_138_54 (by decide) ?_
        refine w_icmp_ne (g := 80) d_138_56 (by decide) (by omega) (fun h56 => ?_) (fun h56 => ?_)
        · exact absurd hK h56
        · refine w_ld d_138_59 rfl rfl rfl ?_
          refine w_con d_138_61 ?_
          refine w_irem d_138_62 (by omega) (by decide) ?_
          refine w_if_ne (g := 80) d_138_63 (by decide) (by have := Int.tmod_lt_of_pos (q : Int) (show (0 : Int) < 2 by decide); have := Int.tmod_nonneg (a := (q : Int)) 2 (by omega); omega) (fun h63 => ?_) (fun h63 => ?_)
          · have hod : ∃ n : Nat, q = 2 * n + 1 := by
              have hz : ¬ ∃ m : Nat, q = 2 * m := fun z => h63 ((tmod_nat q 2 (Or.inr rfl)).mpr z)
              exact ⟨q / 2, by
                have := Nat.mod_two_eq_zero_or_one q
                rcases this with z | z
                · exact absurd ⟨q / 2, by omega⟩ hz
                · omega⟩
            obtain ⟨n, hn⟩ := hod
            obtain ⟨m, r1, r2, r3⟩ := hodd n hn
            subst hn
            have p2 := pb (2 * m + 1) (by omega)
            rw [← r3] at p2
            obtain ⟨d1, d2, d3, d4, d5, d6, d7⟩ := p2.2
            refine w_ld d_138_80 rfl rfl rfl ?_
            refine w_if_lt (g := 101) d_138_82 (by decide) (by omega) (fun h82 => ?_) (fun h82 => ?_)
            · exact absurd h82 (by omega)
            · refine w_ld d_138_85 rfl rfl rfl ?_
              refine w_getF d_138_86 (by rfl) (by first | rfl | assumption) (by rfl) (by rfl) ?_
              refine w_ld d_138_89 rfl rfl rfl ?_
              refine w_aI d_138_90 (by first | rfl | assumption) (by omega) (by (try simp [stI, stA, stR]) <;> rfl) ?_
              refine w_ld d_138_91 rfl rfl rfl ?_
              refine w_getF d_138_92 (by rfl) (by first | rfl | assumption) (by rfl) (by rfl) ?_
              refine w_ld d_138_95 rfl rfl rfl ?_
              refine w_aI d_138_97 (by first | rfl | assumption) (by omega) (by (try simp [stI, stA, stR]) <;> rfl) ?_
              refine w_icmp_eq (g := 103) d_138_98 (by decide) (by omega) (fun h98 => ?_) (fun h98 => ?_)
              · refine w_ld d_138_103 rfl rfl rfl ?_
                refine w_ld d_138_104 rfl rfl rfl ?_
                refine w_getF d_138_105 (by rfl) (by first | rfl | assumption) (by rfl) (by rfl) ?_
                refine w_ld d_138_108 rfl rfl rfl ?_
                refine w_aI d_138_109 (by first | rfl | assumption) (by omega) (by (try simp [stI, stA, stR]) <;> rfl) ?_
                refine w_iadd d_138_110 ?_
                refine w_st1 (L' := [_, _, _, _, _, _]) d_138_111 rfl (by decide) rfl (by decide) rfl ?_
                refine w_ld d_138_112 rfl rfl rfl ?_
                refine w_ld d_138_114 rfl rfl rfl ?_
                refine w_getF d_138_115 (by rfl) (by first | rfl | assumption) (by rfl) (by rfl) ?_
                refine w_ld d_138_118 rfl rfl rfl ?_
                refine w_aI d_138_120 (by first | rfl | assumption) (by omega) (by (try simp [stI, stA, stR]) <;> rfl) ?_
                refine w_iadd d_138_121 ?_
                refine w_st1 (L' := [_, _, _, _, _, _]) d_138_122 rfl (by decide) rfl (by decide) rfl ?_
                refine w_inc (L' := [_, _, _, _, _, _]) d_138_124 rfl (by decide) rfl ?_
                refine w_goto (g := 12) d_138_127 (by decide) ?_
                refine ih _ (by omega) (2 * n + 1 + 1) _ rfl (by omega) (by omega) (fun k hk => ?_) (fun k hk => by omega)
                by_cases hq2 : k = n
                · rw [hq2]; exact ⟨m, r1, r2, by rw [← r3]; exact h98⟩
                · exact hqs k (by omega)
              · refine w_con d_138_101 ?_
                refine w_zret d_138_102 rfl (by decide) ?_
                rw [b01_f (fun z => by
                  obtain ⟨m2, z1, z2, z3⟩ := z n (by omega)
                  have := huq m m2 r1 z1 (r2.symm.trans z2)
                  subst this
                  exact h98 (by rw [r3]; exact z3))]
                exact ⟨rfl, rfl⟩
          · obtain ⟨n, hn⟩ := (tmod_nat q 2 (Or.inr rfl)).mp h63
            subst hn
            refine w_ld d_138_66 rfl rfl rfl ?_
            refine w_ld d_138_67 rfl rfl rfl ?_
            refine w_ld d_138_68 rfl rfl rfl ?_
            refine w_getF d_138_69 (by rfl) (by first | rfl | assumption) (by rfl) (by rfl) ?_
            refine w_ld d_138_72 rfl rfl rfl ?_
            refine w_aI d_138_73 (by first | rfl | assumption) (by omega) (by (try simp [stI, stA, stR]) <;> rfl) ?_
            refine w_con d_138_74 ?_
            refine w_cVr (as := [_, _, _]) (rest := _) rfl d_138_75 (by rfl) (by rfl) (by first | rfl | assumption) (by rfl) (by rfl) (Nat.le_of_ble_eq_true rfl) (by omega) (by omega) (m_partOf (s := 2) (Or.inr rfl) hb ⟨b1, b2, b3, b4, b5, b6, b7⟩ c7 pb) (fun r hr => ?_)
            have hr2 : -1 ≤ r ∧ r < 384 := by
              rcases hr with ⟨m, z1, z2, z3⟩ | z
              · have := pb (2 * m) z1
                rw [z3]
                omega
              · omega
            refine w_st1 (L' := [_, _, _, _, _, _]) d_138_78 rfl (by decide) rfl (by decide) rfl ?_
            refine w_ld d_138_80 rfl rfl rfl ?_
            refine w_if_lt (g := 101) d_138_82 (by decide) (by omega) (fun h82 => ?_) (fun h82 => ?_)
            · refine w_con d_138_101 ?_
              refine w_zret d_138_102 rfl (by decide) ?_
              have hr3 : ∀ m : Nat, ((2 * m : Nat) : Int) < μ.2.2 53 b → μ.2.2 56 (pt (vM μ) b (2 * m)) ≠ μ.2.2 56 (pt (vM μ) a (2 * n)) := by
                rcases hr with ⟨m, z1, z2, z3⟩ | z
                · have := pb (2 * m) z1
                  omega
                · exact z.2
              rw [b01_f (fun z => by obtain ⟨m, z1, z2, z3⟩ := z n h20; exact hr3 m z1 z2.symm)]
              exact ⟨rfl, rfl⟩
            · have hr3 : ∃ m : Nat, ((2 * m : Nat) : Int) < μ.2.2 53 b ∧ μ.2.2 56 r = μ.2.2 56 (pt (vM μ) a (2 * n)) ∧ r = pt (vM μ) b (2 * m) := by
                rcases hr with ⟨m, z1, z2, z3⟩ | z
                · exact ⟨m, z1, by rw [z3]; exact z2, z3⟩
                · omega
              obtain ⟨m, r1, r2, r3⟩ := hr3
              have hmr : mok μ r := by rw [r3]; exact (pb (2 * m) r1).2
              obtain ⟨d1, d2, d3, d4, d5, d6, d7⟩ := hmr
              refine w_ld d_138_85 rfl rfl rfl ?_
              refine w_getF d_138_86 (by rfl) (by first | rfl | assumption) (by rfl) (by rfl) ?_
              refine w_ld d_138_89 rfl rfl rfl ?_
              refine w_aI d_138_90 (by first | rfl | assumption) (by omega) (by (try simp [stI, stA, stR]) <;> rfl) ?_
              refine w_ld d_138_91 rfl rfl rfl ?_
              refine w_getF d_138_92 (by rfl) (by first | rfl | assumption) (by rfl) (by rfl) ?_
              refine w_ld d_138_95 rfl rfl rfl ?_
              refine w_aI d_138_97 (by first | rfl | assumption) (by omega) (by (try simp [stI, stA, stR]) <;> rfl) ?_
              refine w_icmp_eq (g := 103) d_138_98 (by decide) (by omega) (fun h98 => ?_) (fun h98 => ?_)
              · refine w_ld d_138_103 rfl rfl rfl ?_
                refine w_ld d_138_104 rfl rfl rfl ?_
                refine w_getF d_138_105 (by rfl) (by first | rfl | assumption) (by rfl) (by rfl) ?_
                refine w_ld d_138_108 rfl rfl rfl ?_
                refine w_aI d_138_109 (by first | rfl | assumption) (by omega) (by (try simp [stI, stA, stR]) <;> rfl) ?_
                refine w_iadd d_138_110 ?_
                refine w_st1 (L' := [_, _, _, _, _, _]) d_138_111 rfl (by decide) rfl (by decide) rfl ?_
                refine w_ld d_138_112 rfl rfl rfl ?_
                refine w_ld d_138_114 rfl rfl rfl ?_
                refine w_getF d_138_115 (by rfl) (by first | rfl | assumption) (by rfl) (by rfl) ?_
                refine w_ld d_138_118 rfl rfl rfl ?_
                refine w_aI d_138_120 (by first | rfl | assumption) (by omega) (by (try simp [stI, stA, stR]) <;> rfl) ?_
                refine w_iadd d_138_121 ?_
                refine w_st1 (L' := [_, _, _, _, _, _]) d_138_122 rfl (by decide) rfl (by decide) rfl ?_
                refine w_inc (L' := [_, _, _, _, _, _]) d_138_124 rfl (by decide) rfl ?_
                refine w_goto (g := 12) d_138_127 (by decide) ?_
                refine ih _ (by omega) (2 * n + 1) _ rfl (by omega) (by omega) (fun k hk => hqs k (by omega)) (fun k hk => ?_)
                have hkn : k = n := by omega
                subst hkn
                exact ⟨m, r1, by rw [← r3]; exact r2.symm, by rw [r3]; rfl⟩
              · exact absurd r2.symm h98
      · exact absurd (hK.symm.trans h31) (by decide)
theorem m_sp8_l {sc : Nat × (Nat → Int32)} {fr lo : Nat} {μ : Mem} {ρ : Nat × Nat × Nat} {a b : Int} (ha : 0 ≤ a ∧ a < 384) (hb : 0 ≤ b ∧ b < 384) (ma : mok μ a) (mb : mok μ b) (hPP : μ.2.2 53 a = μ.2.2 53 b) (pa : ∀ n : Nat, (n : Int) < μ.2.2 53 a → (0 ≤ pt (vM μ) a n ∧ pt (vM μ) a n < 384) ∧ mok μ (pt (vM μ) a n)) (pb : ∀ n : Nat, (n : Int) < μ.2.2 53 b → (0 ≤ pt (vM μ) b n ∧ pt (vM μ) b n < 384) ∧ mok μ (pt (vM μ) b n)) (hf : 3 ≤ fr) (hl : 100 ≤ lo) (hK : μ.2.2 49 a ≠ 10) (hK2 : μ.2.2 49 a ≠ 11) : ∀ (m : Nat) (q : Nat), (μ.2.2 53 a - q).toNat = m → (q : Int) ≤ μ.2.2 53 a → (∀ n : Nat, n < q → μ.2.2 56 (pt (vM μ) a n) = μ.2.2 56 (pt (vM μ) b n)) → w_P sc fr lo 138 7 6 false ((some FieldType.boolean)) prog_9_method_12_code 12 [some (.ref 46), some (.int (ji a)), some (.int (ji b)), some (.int (ji (pt (vM μ) a q))), some (.int (ji (pt (vM μ) b q))), some (.int (ji (q : Int)))] [] (hp (μ), ρ) (fun o t' => o = .inl (some (.int (ji (b01 (∀ n : Nat, (n : Int) < μ.2.2 53 a → μ.2.2 56 (pt (vM μ) a n) = μ.2.2 56 (pt (vM μ) b n)))))) ∧ t' = (hp μ, ρ)) := by
  intro m
  induction m using Nat.strongRecOn with
  | ind m ih =>
    intro q hm hq hqs
    obtain ⟨a1, a2, a3, a4, a5, a6, a7⟩ := ma
    obtain ⟨b1, b2, b3, b4, b5, b6, b7⟩ := mb
    refine w_ld d_138_12 rfl rfl rfl ?_
    refine w_ld d_138_14 rfl rfl rfl ?_
    refine w_getF d_138_15 (by rfl) (by first | rfl | assumption) (by rfl) (by rfl) ?_
    refine w_ld d_138_18 rfl rfl rfl ?_
    refine w_aI d_138_19 (by first | rfl | assumption) (by omega) (by (try simp [stI, stA, stR]) <;> rfl) ?_
    refine w_icmp_ge (g := 130) d_138_20 (by decide) (by omega) (fun h20 => ?_) (fun h20 => ?_)
    · refine w_con d_138_130 ?_
      refine w_zret d_138_131 rfl (by decide) ?_
      rw [b01_t (fun n hn => hqs n (by omega))]
      exact ⟨rfl, rfl⟩
    · have p1 := pa q h20
      obtain ⟨c1, c2, c3, c4, c5, c6, c7⟩ := p1.2
      have p2 := pb q (by omega)
      obtain ⟨d1, d2, d3, d4, d5, d6, d7⟩ := p2.2
      refine w_ld d_138_23 rfl rfl rfl ?_
      refine w_getF d_138_24 (by rfl) (by first | rfl | assumption) (by rfl) (by rfl) ?_
      refine w_ld d_138_27 rfl rfl rfl ?_
      refine w_aI d_138_28 (by first | rfl | assumption) (by omega) (by (try simp [stI, stA, stR]) <;> rfl) ?_
      refine w_bip d_138_29 (by decide) ?_
      refine w_icmp_ne (g := 48) d_138_31 (by decide) (by omega) (fun h31 => ?_) (fun h31 => ?_)
      · refine w_ld d_138_48 rfl rfl rfl ?_
        refine w_getF d_138_49 (by rfl) (by first | rfl | assumption) (by rfl) (by rfl) ?_
        refine w_ld d_138_52 rfl rfl rfl ?_
        refine w_aI d_138_53 (by first | rfl | assumption) (by omega) (by (try simp [stI, stA, stR]) <;> rfl) ?_
        refine w_bip d_138_54 (by decide) ?_
        refine w_icmp_ne (g := 80) d_138_56 (by decide) (by omega) (fun h56 => ?_) (fun h56 => ?_)
        · refine w_ld d_138_80 rfl rfl rfl ?_
          refine w_if_lt (g := 101) d_138_82 (by decide) (by omega) (fun h82 => ?_) (fun h82 => ?_)
          · exact absurd h82 (by omega)
          · refine w_ld d_138_85 rfl rfl rfl ?_
            refine w_getF d_138_86 (by rfl) (by first | rfl | assumption) (by rfl) (by rfl) ?_
            refine w_ld d_138_89 rfl rfl rfl ?_
            refine w_aI d_138_90 (by first | rfl | assumption) (by omega) (by (try simp [stI, stA, stR]) <;> rfl) ?_
            refine w_ld d_138_91 rfl rfl rfl ?_
            refine w_getF d_138_92 (by rfl) (by first | rfl | assumption) (by rfl) (by rfl) ?_
            refine w_ld d_138_95 rfl rfl rfl ?_
            refine w_aI d_138_97 (by first | rfl | assumption) (by omega) (by (try simp [stI, stA, stR]) <;> rfl) ?_
            refine w_icmp_eq (g := 103) d_138_98 (by decide) (by omega) (fun h98 => ?_) (fun h98 => ?_)
            · refine w_ld d_138_103 rfl rfl rfl ?_
              refine w_ld d_138_104 rfl rfl rfl ?_
              refine w_getF d_138_105 (by rfl) (by first | rfl | assumption) (by rfl) (by rfl) ?_
              refine w_ld d_138_108 rfl rfl rfl ?_
              refine w_aI d_138_109 (by first | rfl | assumption) (by omega) (by (try simp [stI, stA, stR]) <;> rfl) ?_
              refine w_iadd d_138_110 ?_
              refine w_st1 (L' := [_, _, _, _, _, _]) d_138_111 rfl (by decide) rfl (by decide) rfl ?_
              refine w_ld d_138_112 rfl rfl rfl ?_
              refine w_ld d_138_114 rfl rfl rfl ?_
              refine w_getF d_138_115 (by rfl) (by first | rfl | assumption) (by rfl) (by rfl) ?_
              refine w_ld d_138_118 rfl rfl rfl ?_
              refine w_aI d_138_120 (by first | rfl | assumption) (by omega) (by (try simp [stI, stA, stR]) <;> rfl) ?_
              refine w_iadd d_138_121 ?_
              refine w_st1 (L' := [_, _, _, _, _, _]) d_138_122 rfl (by decide) rfl (by decide) rfl ?_
              refine w_inc (L' := [_, _, _, _, _, _]) d_138_124 rfl (by decide) rfl ?_
              refine w_goto (g := 12) d_138_127 (by decide) ?_
              refine ih _ (by omega) (q + 1) rfl (by omega) (fun n hn => ?_)
              by_cases hq2 : n = q
              · rw [hq2]; exact h98
              · exact hqs n (by omega)
            · refine w_con d_138_101 ?_
              refine w_zret d_138_102 rfl (by decide) ?_
              rw [b01_f (fun z => h98 (z q h20))]
              exact ⟨rfl, rfl⟩
        · exact absurd h56 hK2
      · exact absurd h31 hK
theorem m_sp10 {sc : Nat × (Nat → Int32)} {fr lo : Nat} {μ : Mem} {ρ : Nat × Nat × Nat} {a b : Int} (ha : 0 ≤ a ∧ a < 384) (hb : 0 ≤ b ∧ b < 384) (ma : mok μ a) (mb : mok μ b) (hPP : μ.2.2 53 a = μ.2.2 53 b) (pa : ∀ n : Nat, (n : Int) < μ.2.2 53 a → (0 ≤ pt (vM μ) a n ∧ pt (vM μ) a n < 384) ∧ mok μ (pt (vM μ) a n)) (pb : ∀ n : Nat, (n : Int) < μ.2.2 53 b → (0 ≤ pt (vM μ) b n ∧ pt (vM μ) b n < 384) ∧ mok μ (pt (vM μ) b n)) (hf : 3 ≤ fr) (hl : 100 ≤ lo) (hK : μ.2.2 49 a = 10) : w_E sc fr lo 138 [.ref 46, .int (ji a), .int (ji b)] (hp μ, ρ) (.inl (some (.int (ji (b01 (∀ n : Nat, (n : Int) < μ.2.2 53 a → ∃ m : Nat, (m : Int) < μ.2.2 53 b ∧ μ.2.2 56 (pt (vM μ) a n) = μ.2.2 56 (pt (vM μ) b m))))))) (hp μ, ρ) := by
  obtain ⟨a1, a2, a3, a4, a5, a6, a7⟩ := ma
  obtain ⟨b1, b2, b3, b4, b5, b6, b7⟩ := mb
  refine w_S.of (L0 := [some (.ref 46), some (.int (ji a)), some (.int (ji b)), none, none, none]) rfl rfl (Nat.le_of_ble_eq_true rfl) (by rfl) ?_
  refine w_ld d_138_0 rfl rfl rfl ?_
  refine w_con d_138_1 ?_
  refine w_iadd d_138_2 ?_
  refine w_st1 (L' := [_, _, _, _, _, _]) d_138_3 rfl (by decide) rfl (by decide) rfl ?_
  refine w_ld d_138_4 rfl rfl rfl ?_
  refine w_con d_138_5 ?_
  refine w_iadd d_138_6 ?_
  refine w_st1 (L' := [_, _, _, _, _, _]) d_138_7 rfl (by decide) rfl (by decide) rfl ?_
  refine w_con d_138_9 ?_
  refine w_st1 (L' := [_, _, _, _, _, _]) d_138_10 rfl (by decide) rfl (by decide) rfl ?_
  exact m_sp10_l ha hb ⟨a1, a2, a3, a4, a5, a6, a7⟩ ⟨b1, b2, b3, b4, b5, b6, b7⟩ hPP pa pb hf hl hK _ 0 _ rfl (by show (0 : Int) ≤ _; omega) (by omega) (fun n hn => absurd hn (Nat.not_lt_zero n))
theorem m_sp11 {sc : Nat × (Nat → Int32)} {fr lo : Nat} {μ : Mem} {ρ : Nat × Nat × Nat} {a b : Int} (ha : 0 ≤ a ∧ a < 384) (hb : 0 ≤ b ∧ b < 384) (ma : mok μ a) (mb : mok μ b) (hPP : μ.2.2 53 a = μ.2.2 53 b) (pa : ∀ n : Nat, (n : Int) < μ.2.2 53 a → (0 ≤ pt (vM μ) a n ∧ pt (vM μ) a n < 384) ∧ mok μ (pt (vM μ) a n)) (pb : ∀ n : Nat, (n : Int) < μ.2.2 53 b → (0 ≤ pt (vM μ) b n ∧ pt (vM μ) b n < 384) ∧ mok μ (pt (vM μ) b n)) (hf : 3 ≤ fr) (hl : 100 ≤ lo) (hK : μ.2.2 49 a = 11) (hev : μ.2.2 53 a % 2 = 0) (huq : ∀ m m2 : Nat, ((2 * m : Nat) : Int) < μ.2.2 53 b → ((2 * m2 : Nat) : Int) < μ.2.2 53 b → μ.2.2 56 (pt (vM μ) b (2 * m)) = μ.2.2 56 (pt (vM μ) b (2 * m2)) → m = m2) : w_E sc fr lo 138 [.ref 46, .int (ji a), .int (ji b)] (hp μ, ρ) (.inl (some (.int (ji (b01 (∀ n : Nat, ((2 * n : Nat) : Int) < μ.2.2 53 a → (∃ m : Nat, ((2 * m : Nat) : Int) < μ.2.2 53 b ∧ μ.2.2 56 (pt (vM μ) a (2 * n)) = μ.2.2 56 (pt (vM μ) b (2 * m)) ∧ μ.2.2 56 (pt (vM μ) a (2 * n + 1)) = μ.2.2 56 (pt (vM μ) b (2 * m + 1))))))))) (hp μ, ρ) := by
  obtain ⟨a1, a2, a3, a4, a5, a6, a7⟩ := ma
  obtain ⟨b1, b2, b3, b4, b5, b6, b7⟩ := mb
  refine w_S.of (L0 := [some (.ref 46), some (.int (ji a)), some (.int (ji b)), none, none, none]) rfl rfl (Nat.le_of_ble_eq_true rfl) (by rfl) ?_
  refine w_ld d_138_0 rfl rfl rfl ?_
  refine w_con d_138_1 ?_
  refine w_iadd d_138_2 ?_
  refine w_st1 (L' := [_, _, _, _, _, _]) d_138_3 rfl (by decide) rfl (by decide) rfl ?_
  refine w_ld d_138_4 rfl rfl rfl ?_
  refine w_con d_138_5 ?_
  refine w_iadd d_138_6 ?_
  refine w_st1 (L' := [_, _, _, _, _, _]) d_138_7 rfl (by decide) rfl (by decide) rfl ?_
  refine w_con d_138_9 ?_
  refine w_st1 (L' := [_, _, _, _, _, _]) d_138_10 rfl (by decide) rfl (by decide) rfl ?_
  exact m_sp11_l ha hb ⟨a1, a2, a3, a4, a5, a6, a7⟩ ⟨b1, b2, b3, b4, b5, b6, b7⟩ hPP pa pb hf hl hK hev huq _ 0 _ rfl (by show (0 : Int) ≤ _; omega) (by omega) (fun n hn => absurd hn (Nat.not_lt_zero _)) (fun n hn => by omega)
theorem m_sp8 {sc : Nat × (Nat → Int32)} {fr lo : Nat} {μ : Mem} {ρ : Nat × Nat × Nat} {a b : Int} (ha : 0 ≤ a ∧ a < 384) (hb : 0 ≤ b ∧ b < 384) (ma : mok μ a) (mb : mok μ b) (hPP : μ.2.2 53 a = μ.2.2 53 b) (pa : ∀ n : Nat, (n : Int) < μ.2.2 53 a → (0 ≤ pt (vM μ) a n ∧ pt (vM μ) a n < 384) ∧ mok μ (pt (vM μ) a n)) (pb : ∀ n : Nat, (n : Int) < μ.2.2 53 b → (0 ≤ pt (vM μ) b n ∧ pt (vM μ) b n < 384) ∧ mok μ (pt (vM μ) b n)) (hf : 3 ≤ fr) (hl : 100 ≤ lo) (hK : μ.2.2 49 a ≠ 10) (hK2 : μ.2.2 49 a ≠ 11) : w_E sc fr lo 138 [.ref 46, .int (ji a), .int (ji b)] (hp μ, ρ) (.inl (some (.int (ji (b01 (∀ n : Nat, (n : Int) < μ.2.2 53 a → μ.2.2 56 (pt (vM μ) a n) = μ.2.2 56 (pt (vM μ) b n))))))) (hp μ, ρ) := by
  obtain ⟨a1, a2, a3, a4, a5, a6, a7⟩ := ma
  obtain ⟨b1, b2, b3, b4, b5, b6, b7⟩ := mb
  refine w_S.of (L0 := [some (.ref 46), some (.int (ji a)), some (.int (ji b)), none, none, none]) rfl rfl (Nat.le_of_ble_eq_true rfl) (by rfl) ?_
  refine w_ld d_138_0 rfl rfl rfl ?_
  refine w_con d_138_1 ?_
  refine w_iadd d_138_2 ?_
  refine w_st1 (L' := [_, _, _, _, _, _]) d_138_3 rfl (by decide) rfl (by decide) rfl ?_
  refine w_ld d_138_4 rfl rfl rfl ?_
  refine w_con d_138_5 ?_
  refine w_iadd d_138_6 ?_
  refine w_st1 (L' := [_, _, _, _, _, _]) d_138_7 rfl (by decide) rfl (by decide) rfl ?_
  refine w_con d_138_9 ?_
  refine w_st1 (L' := [_, _, _, _, _, _]) d_138_10 rfl (by decide) rfl (by decide) rfl ?_
  exact m_sp8_l ha hb ⟨a1, a2, a3, a4, a5, a6, a7⟩ ⟨b1, b2, b3, b4, b5, b6, b7⟩ hPP pa pb hf hl hK hK2 _ 0 rfl (by show (0 : Int) ≤ _; omega) (fun n hn => absurd hn (Nat.not_lt_zero n))
