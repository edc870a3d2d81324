/-! THE PURE PART, 99c: contracts: the reference writes words -/
def nof (N : List (List Int)) (w : List Int) : Int := if fnd N w < N.length then (fnd N w : Int) else -1
theorem tkl_eq (w : List Int) (key : Int) : tkl w key = b01 (3 < (w.length : Int) ∧ (key = 1 ∨ w.getD 0 0 = 126 ∧ (w.getD 1 0 = 58 ∨ w.getD 1 0 = 36 ∨ w.getD 1 0 = 35))) := by
  refine b01_iff ?_
  unfold tks
  have e : 3 < (w.length : Int) → wl (fun i => w.getD i.toNat 0) w.length 0 = w.getD 0 0 ∧ wl (fun i => w.getD i.toNat 0) w.length 1 = w.getD 1 0 := fun h => ⟨if_pos (by omega), if_pos (by omega)⟩
  constructor
  · rintro ⟨h, g⟩
    rw [(e h).1, (e h).2] at g
    exact ⟨h, g⟩
  · rintro ⟨h, g⟩
    rw [← (e h).1, ← (e h).2] at g
    exact ⟨h, g⟩
def wst (D l : List Int) (M : List (List Int)) : Option (List Int × List (List Int)) := if D.length + l.length ≤ 240 then some (D ++ l, M) else none
theorem MS_big {D l : List Int} {N M : List (List Int)} {μ : Mem} (h : MS (wap (some (D, N)) l) μ) (hb : ¬ μ.1 46 31 = 0) : MS (wst D l M) μ := by
  by_cases z : D.length + l.length ≤ 240
  · rw [wap_s z] at h
    exact absurd h.1 hb
  · rw [wap_x z] at h
    rw [show wst D l M = none from if_neg z]
    exact h
theorem MS_fit {D l : List Int} {N : List (List Int)} {μ : Mem} (h : MS (wap (some (D, N)) l) μ) (hb : μ.1 46 31 = 0) : D.length + l.length ≤ 240 ∧ MS (some (D ++ l, N)) μ := by
  by_cases z : D.length + l.length ≤ 240
  · rw [wap_s z] at h
    exact ⟨z, h⟩
  · rw [wap_x z] at h
    have := h.1
    omega
theorem MS_ex {s : Option (List Int × List (List Int))} {μ : Mem} (h : MS s μ) (hb : μ.1 46 31 = 0) : ∃ D N, s = some (D, N) := by
  cases s with
  | none =>
    have := h.1
    omega
  | some p => exact ⟨p.1, p.2, rfl⟩
theorem MS_no {s : Option (List Int × List (List Int))} {μ : Mem} (h : MS s μ) (hb : ¬ μ.1 46 31 = 0) : s = none := by
  cases s with
  | none => rfl
  | some p => exact absurd h.1 hb
theorem m_nof_i {sc : Nat × (Nat → Int32)} {fr lo : Nat} {μ : Mem} {ρ : Nat × Nat × Nat} {N : List (List Int)} (hN : MNt N μ) (hm0 : mnd N μ ≤ 240) {w : List Int} (hR : RW w μ) {n : Nat} (hn : n < N.length) {Q : z_O → z_T → Prop} (hY : N.getD n [] = w → w_P sc fr lo 161 7 4 false ((some FieldType.int)) prog_9_method_53_code 77 [some (.ref 46), some (.int (ji (n : Int))), some (.int (ji 1)), some (.int (ji (w.length : Int)))] [] (hp μ, ρ) Q) (hNo : N.getD n [] ≠ w → ∀ k : Nat, w_P sc fr lo 161 7 4 false ((some FieldType.int)) prog_9_method_53_code 77 [some (.ref 46), some (.int (ji (n : Int))), some (.int (ji 0)), some (.int (ji (k : Int)))] [] (hp μ, ρ) Q) : ∀ (m : Nat) (k : Nat) (s : Int), ((w.length : Int) - k).toNat = m → k ≤ w.length → (s = 0 ∧ N.getD n [] ≠ w ∨ s = 1 ∧ (N.getD n []).length = w.length ∧ ∀ i : Nat, i < k → (N.getD n []).getD i 0 = w.getD i 0) → w_P sc fr lo 161 7 4 false ((some FieldType.int)) prog_9_method_53_code 31 [some (.ref 46), some (.int (ji (n : Int))), some (.int (ji s)), some (.int (ji (k : Int)))] [] (hp (μ), ρ) Q := by
  intro m
  induction m using Nat.strongRecOn with
  | ind m ih =>
    intro k s hm hk hs
    have hw3 := hR.1.2
    have hs01 : s = 0 ∨ s = 1 := hs.elim (fun z => Or.inl z.1) (fun z => Or.inr z.1)
    refine w_ld d_161_31 rfl rfl rfl ?_
    refine w_ld d_161_32 rfl rfl rfl ?_
    refine w_gI d_161_33 (by rfl) (by first | rfl | assumption) (by rfl) hR.1.1 ?_
    refine w_icmp_ge (g := 77) d_161_36 (by decide) (by omega) (fun h36 => ?_) (fun h36 => ?_)
    · rcases hs with ⟨rfl, hs⟩ | ⟨rfl, hs1, hs2⟩
      · exact hNo hs k
      · obtain rfl : k = w.length := by omega
        exact hY (list_eq hs1 (fun i hi => hs2 i (by omega)))
    · refine w_ld d_161_39 rfl rfl rfl ?_
      refine w_if_eq (g := 77) d_161_40 (by decide) (by omega) (fun h40 => ?_) (fun h40 => ?_)
      · obtain rfl := h40
        exact hNo (hs.elim (fun z => z.2) (fun z => absurd z.1 (by omega))) k
      · obtain ⟨hs0, hs1, hs2⟩ : s = 1 ∧ (N.getD n []).length = w.length ∧ ∀ i : Nat, i < k → (N.getD n []).getD i 0 = w.getD i 0 := hs.resolve_left (fun z => h40 z.1)
        subst hs0
        obtain ⟨n1, n2, n3, n4, n5⟩ := hN.2 n hn
        have c1 := n4 k
        have c2 := hR.2.1 k
        have h24 := hN.1.2
        refine w_ld d_161_43 rfl rfl rfl ?_
        refine w_getF d_161_44 (by rfl) (by first | rfl | assumption) (by rfl) (by rfl) ?_
        refine w_ld d_161_47 rfl rfl rfl ?_
        refine w_getF d_161_48 (by rfl) (by first | rfl | assumption) (by rfl) (by rfl) ?_
        refine w_ld d_161_51 rfl rfl rfl ?_
        refine w_aI d_161_52 (by first | rfl | assumption) (by omega) (show _ = μ.2.2 62 (n : Int) from rfl) ?_
        refine w_ld d_161_53 rfl rfl rfl ?_
        refine w_iadd d_161_54 ?_
        refine w_aI d_161_55 (by first | rfl | assumption) (by omega) (n5 k (by omega)) ?_
        refine w_ld d_161_56 rfl rfl rfl ?_
        refine w_getF d_161_57 (by rfl) (by first | rfl | assumption) (by rfl) (by rfl) ?_
        refine w_ld d_161_60 rfl rfl rfl ?_
        refine w_aI d_161_61 (by first | rfl | assumption) (by omega) (hR.2.2 k (by omega)) ?_
        refine w_icmp_ne (g := 69) d_161_62 (by decide) (by omega) (fun h62 => ?_) (fun h62 => ?_)
        · refine w_con d_161_69 ?_
          refine w_st1 (L' := [_, _, _, _]) d_161_70 rfl (by decide) rfl (by decide) rfl ?_
          refine w_inc (L' := [_, _, _, _]) d_161_71 rfl (by decide) rfl ?_
          refine w_goto (g := 31) d_161_74 (by decide) ?_
          exact ih _ (by omega) (k + 1) 0 rfl (by omega) (Or.inl ⟨rfl, fun e => h62 (by rw [e])⟩)
        · refine w_con d_161_65 ?_
          refine w_goto (g := 70) d_161_66 (by decide) ?_
          refine w_st1 (L' := [_, _, _, _]) d_161_70 rfl (by decide) rfl (by decide) rfl ?_
          refine w_inc (L' := [_, _, _, _]) d_161_71 rfl (by decide) rfl ?_
          refine w_goto (g := 31) d_161_74 (by decide) ?_
          exact ih _ (by omega) (k + 1) 1 rfl (by omega) (Or.inr ⟨rfl, hs1, fun i hi => by
            by_cases z : i = k
            · rw [z]; exact h62
            · exact hs2 i (by omega)⟩)
theorem m_nof_l {sc : Nat × (Nat → Int32)} {fr lo : Nat} {μ : Mem} {ρ : Nat × Nat × Nat} {N : List (List Int)} (hN : MNt N μ) (hm0 : mnd N μ ≤ 240) {w : List Int} (hR : RW w μ) : ∀ (m : Nat) (n : Nat), ((N.length : Int) - n).toNat = m → n ≤ N.length → (∀ m, m < n → N.getD m [] ≠ w) → w_P sc fr lo 161 7 4 false ((some FieldType.int)) prog_9_method_53_code 2 [some (.ref 46), some (.int (ji (n : Int))), none, none] [] (hp (μ), ρ) (fun o τ => o = .inl (some (.int (ji (nof N w)))) ∧ τ = (hp μ, ρ)) := by
  intro m
  induction m using Nat.strongRecOn with
  | ind m ih =>
    intro n hm hnl hno
    have h24 := hN.1.2
    have hw3 := hR.1.2
    refine w_ld d_161_2 rfl rfl rfl ?_
    refine w_ld d_161_3 rfl rfl rfl ?_
    refine w_gI d_161_4 (by rfl) (by first | rfl | assumption) (by rfl) hN.1.1 ?_
    refine w_icmp_ge (g := 89) d_161_7 (by decide) (by omega) (fun h7 => ?_) (fun h7 => ?_)
    · refine w_con d_161_89 ?_
      refine w_iret d_161_90 rfl ?_
      rw [show nof N w = -1 by unfold nof; rw [fnd_no (fun m hm2 => hno m (by omega)), if_neg (by omega)]]
      exact ⟨rfl, rfl⟩
    · obtain ⟨n1, n2, n3, n4, n5⟩ := hN.2 n (by omega)
      have hY : N.getD n [] = w → w_P sc fr lo 161 7 4 false ((some FieldType.int)) prog_9_method_53_code 77 [some (.ref 46), some (.int (ji (n : Int))), some (.int (ji 1)), some (.int (ji (w.length : Int)))] [] (hp μ, ρ) (fun o τ => o = .inl (some (.int (ji (nof N w)))) ∧ τ = (hp μ, ρ)) := fun e => by
        refine w_ld d_161_77 rfl rfl rfl ?_
        refine w_if_eq (g := 83) d_161_78 (by decide) (by omega) (fun h78 => ?_) (fun h78 => ?_)
        · exact absurd h78 (by omega)
        · refine w_ld d_161_81 rfl rfl rfl ?_
          refine w_iret d_161_82 rfl ?_
          have e2 : fnd N w = n := fnd_at (by omega) e hno
          rw [show nof N w = (n : Int) by unfold nof; rw [e2, if_pos (by omega)]]
          exact ⟨rfl, rfl⟩
      have hNo : N.getD n [] ≠ w → ∀ k : Nat, w_P sc fr lo 161 7 4 false ((some FieldType.int)) prog_9_method_53_code 77 [some (.ref 46), some (.int (ji (n : Int))), some (.int (ji 0)), some (.int (ji (k : Int)))] [] (hp μ, ρ) (fun o τ => o = .inl (some (.int (ji (nof N w)))) ∧ τ = (hp μ, ρ)) := fun e k => by
        refine w_ld d_161_77 rfl rfl rfl ?_
        refine w_if_eq (g := 83) d_161_78 (by decide) (by omega) (fun h78 => ?_) (fun h78 => ?_)
        · refine w_inc (L' := [_, _, _, _]) d_161_83 rfl (by decide) rfl ?_
          refine w_goto (g := 2) d_161_86 (by decide) ?_
          exact w_P.le (ih _ (by omega) (n + 1) rfl (by omega) (fun m hm2 => by
            by_cases z : m = n
            · rw [z]; exact e
            · exact hno m (by omega))) ⟨rfl, rfl, trivial⟩
        · exact absurd h78 (by omega)
      refine w_ld d_161_10 rfl rfl rfl ?_
      refine w_getF d_161_11 (by rfl) (by first | rfl | assumption) (by rfl) (by rfl) ?_
      refine w_ld d_161_14 rfl rfl rfl ?_
      refine w_aI d_161_15 (by first | rfl | assumption) (by omega) n1 ?_
      refine w_ld d_161_16 rfl rfl rfl ?_
      refine w_gI d_161_17 (by rfl) (by first | rfl | assumption) (by rfl) hR.1.1 ?_
      refine w_icmp_ne (g := 27) d_161_20 (by decide) (by omega) (fun h20 => ?_) (fun h20 => ?_)
      · refine w_con d_161_27 ?_
        refine w_st1 (L' := [_, _, _, _]) d_161_28 rfl (by decide) rfl (by decide) rfl ?_
        refine w_con d_161_29 ?_
        refine w_st1 (L' := [_, _, _, _]) d_161_30 rfl (by decide) rfl (by decide) rfl ?_
        exact m_nof_i hN hm0 hR (by omega) hY hNo _ 0 0 rfl (Nat.zero_le _) (Or.inl ⟨rfl, fun e => h20 (by rw [e])⟩)
      · refine w_con d_161_23 ?_
        refine w_goto (g := 28) d_161_24 (by decide) ?_
        refine w_st1 (L' := [_, _, _, _]) d_161_28 rfl (by decide) rfl (by decide) rfl ?_
        refine w_con d_161_29 ?_
        refine w_st1 (L' := [_, _, _, _]) d_161_30 rfl (by decide) rfl (by decide) rfl ?_
        exact m_nof_i hN hm0 hR (by omega) hY hNo _ 0 1 rfl (Nat.zero_le _) (Or.inr ⟨rfl, by omega, fun i hi => absurd hi (Nat.not_lt_zero i)⟩)
theorem m_nof {sc : Nat × (Nat → Int32)} {fr lo : Nat} {μ : Mem} {ρ : Nat × Nat × Nat} {N : List (List Int)} (hN : MNt N μ) (hm0 : mnd N μ ≤ 240) {w : List Int} (hR : RW w μ) : w_E sc fr lo 161 [.ref 46] (hp μ, ρ) (.inl (some (.int (ji (nof N w))))) (hp μ, ρ) := by
  refine w_S.of (L0 := [some (.ref 46), none, none, none]) rfl rfl (Nat.le_of_ble_eq_true rfl) (by rfl) ?_
  refine w_con d_161_0 ?_
  refine w_st1 (L' := [_, _, _, _]) d_161_1 rfl (by decide) rfl (by decide) rfl ?_
  exact m_nof_l hN hm0 hR _ 0 rfl (Nat.zero_le _) (fun m hm2 => absurd hm2 (Nat.not_lt_zero _))
/-- while the word is kept -/
def KI (N : List (List Int)) (w : List Int) (k : Nat) (μ μ1 : Mem) : Prop := μ1.1 = μ.1 ∧ μ1.2.1 = μ.2.1 ∧ (∀ a, a ≠ 62 → a ≠ 63 → a ≠ 72 → μ1.2.2 a = μ.2.2 a) ∧ (∀ i, i ≠ (N.length : Int) → μ1.2.2 62 i = μ.2.2 62 i ∧ μ1.2.2 63 i = μ.2.2 63 i) ∧ (μ1.2.2 62 (N.length : Int) = mnd N μ ∧ μ1.2.2 63 (N.length : Int) = w.length) ∧ (∀ i, i < mnd N μ → μ1.2.2 72 i = μ.2.2 72 i) ∧ ∀ i : Nat, i < k → μ1.2.2 72 (mnd N μ + i) = w.getD i 0
theorem KI_0 (N : List (List Int)) (w : List Int) (μ : Mem) : KI N w 0 μ (stA (stA μ 62 (N.length : Int) (mnd N μ)) 63 (N.length : Int) (w.length : Int)) := by
  refine ⟨rfl, rfl, fun a h1 h2 h3 => (stA_o2 h2).trans (stA_o2 h1), fun i hi => ⟨?_, ?_⟩, ⟨?_, stA_at _ _ _ _⟩, fun i _ => ?_, fun i hi => absurd hi (Nat.not_lt_zero i)⟩
  · rw [stA_ne (by omega), stA_ne (by omega)]
  · rw [stA_ne (by omega), stA_ne (by omega)]
  · rw [stA_ne (by omega), stA_at]
  · rw [stA_ne (by omega), stA_ne (by omega)]
theorem KI_s {N : List (List Int)} {w : List Int} {k : Nat} {μ μ1 : Mem} (h : KI N w k μ μ1) : KI N w (k + 1) μ (stA μ1 72 (mnd N μ + (k : Int)) (w.getD k 0)) := by
  obtain ⟨h1, h2, h3, h4, h5, h6, h7⟩ := h
  refine ⟨h1, h2, fun a a1 a2 a3 => (stA_o2 a3).trans (h3 a a1 a2 a3), fun i hi => ⟨?_, ?_⟩, ⟨?_, ?_⟩, fun i hi => ?_, fun i hi => ?_⟩
  · rw [stA_ne (by omega)]; exact (h4 i hi).1
  · rw [stA_ne (by omega)]; exact (h4 i hi).2
  · rw [stA_ne (by omega)]; exact h5.1
  · rw [stA_ne (by omega)]; exact h5.2
  · rw [stA_ne (by omega)]; exact h6 i hi
  · by_cases z : i = k
    · rw [z, stA_at]
    · rw [stA_ne (by omega)]; exact h7 i (by omega)
theorem mnd_0 {N : List (List Int)} {μ : Mem} (h : MNt N μ) : 0 ≤ mnd N μ := by
  unfold mnd
  by_cases z : N.length = 0
  · rw [if_pos z]; decide
  · rw [if_neg z]
    obtain ⟨n1, n2, _⟩ := h.2 (N.length - 1) (by omega)
    rw [show ((N.length - 1 : Nat) : Int) = (N.length : Int) - 1 by omega] at n1 n2
    omega
theorem getD_lt {N : List (List Int)} {w : List Int} {n : Nat} (h : n < N.length) : (N ++ [w]).getD n [] = N.getD n [] := by
  simp [List.getD_eq_getElem?_getD, List.getElem?_append_left h]
theorem getD_eq {N : List (List Int)} {w : List Int} : (N ++ [w]).getD N.length [] = w := by
  simp [List.getD_eq_getElem?_getD]
theorem KI_e {D : List Int} {N : List (List Int)} {w : List Int} {μ μ1 : Mem} (hS : MS (some (D, N)) μ) (hR : RW w μ) (hk : mnd N μ + w.length ≤ D.length) (hn : N.length < 24) (h : KI N w w.length μ μ1) : MS (some (D, N ++ [w])) (stI μ1 46 26 ((N.length : Int) + 1)) ∧ mw0 μ (stI μ1 46 26 ((N.length : Int) + 1)) := by
  obtain ⟨h1, h2, h3, h4, h5, h6, h7⟩ := h
  obtain ⟨s1, s2, s3, s4, s5⟩ := hS
  have eI : ∀ a q, ¬ (a = 46 ∧ q = 26) → (stI μ1 46 26 ((N.length : Int) + 1)).1 a q = μ.1 a q := fun a q z => (stI_ne z).trans (by rw [h1])
  have em : mnd (N ++ [w]) (stI μ1 46 26 ((N.length : Int) + 1)) = mnd N μ + w.length := by
    show (if (N ++ [w]).length = 0 then 0 else μ1.2.2 62 (((N ++ [w]).length : Int) - 1) + μ1.2.2 63 (((N ++ [w]).length : Int) - 1)) = _
    rw [if_neg (by rw [List.length_append]; show ¬ N.length + 1 = 0; omega), show ((N ++ [w]).length : Int) - 1 = (N.length : Int) by rw [List.length_append]; show ((N.length + 1 : Nat) : Int) - 1 = _; omega, h5.1, h5.2]
  have m0 := mnd_0 s4
  refine ⟨⟨(eI 46 31 (by omega)).trans s1, by rw [eI 46 30 (by omega)]; exact s2, fun i hi => ?_, ⟨⟨(stI_at _ _ _ _).trans (by rw [List.length_append]; rfl), by rw [List.length_append]; exact hn⟩, fun n hn2 => ?_⟩, by rw [em]; exact hk⟩, fun a q z => eI a q (by omega), h2, fun a z1 z2 z3 z4 z5 => h3 a z1 z2 z5⟩
  · show μ1.2.2 64 i = _
    rw [h3 64 (by omega) (by omega) (by omega)]
    exact s3 i hi
  · rw [em]
    rw [List.length_append] at hn2
    have hn2 : n < N.length + 1 := hn2
    by_cases z : n < N.length
    · obtain ⟨n1, n2, n3, n4, n5⟩ := s4.2 n z
      rw [getD_lt z]
      refine ⟨?_, ?_, ?_, n4, fun i hi => ?_⟩
      · exact ((h4 n (by omega)).2).trans n1
      · show 0 ≤ μ1.2.2 62 n
        rw [(h4 n (by omega)).1]; exact n2
      · show μ1.2.2 62 n + _ ≤ _
        rw [(h4 n (by omega)).1]; omega
      · show μ1.2.2 72 (μ1.2.2 62 n + i) = _
        rw [(h4 n (by omega)).1, h6 _ (by omega)]
        exact n5 i hi
    · obtain rfl : n = N.length := by omega
      rw [getD_eq]
      refine ⟨h5.2, ?_, ?_, hR.2.1, fun i hi => ?_⟩
      · show 0 ≤ μ1.2.2 62 (N.length : Int)
        rw [h5.1]; exact m0
      · show μ1.2.2 62 (N.length : Int) + _ ≤ _
        rw [h5.1]; exact Int.le_refl _
      · show μ1.2.2 72 (μ1.2.2 62 (N.length : Int) + i) = _
        rw [h5.1]
        exact h7 i hi
theorem m_keep_l {sc : Nat × (Nat → Int32)} {fr lo : Nat} {ρ : Nat × Nat × Nat} {μ : Mem} {D : List Int} {N : List (List Int)} (hS : MS (some (D, N)) μ) {w : List Int} (hR : RW w μ) (hk : mnd N μ + w.length ≤ D.length) (hn : N.length < 24) : ∀ (m : Nat) (k : Nat) (μ1 : Mem), ((w.length : Int) - k).toNat = m → k ≤ w.length → KI N w k μ μ1 → w_P sc fr lo 162 7 3 false (none) prog_9_method_54_code 81 [some (.ref 46), some (.int (ji (mnd N μ))), some (.int (ji (k : Int)))] [] (hp (μ1), ρ) (fun o τ => o = .inl none ∧ ∃ μ', τ = (hp μ', ρ) ∧ MS (some (D, N ++ [w])) μ' ∧ mw0 μ μ') := by
  intro m
  induction m using Nat.strongRecOn with
  | ind m ih =>
    intro k μ1 hm hk2 hi
    have m0 := mnd_0 hS.2.2.2.1
    have hD := hS.2.1
    have h26 := hS.2.2.2.1.1
    have hw3 := hR.1.2
    refine w_ld d_162_81 rfl rfl rfl ?_
    refine w_ld d_162_82 rfl rfl rfl ?_
    refine w_gI d_162_83 (by rfl) (by first | rfl | assumption) (by rfl) (show _ = (w.length : Int) by rw [hi.1]; exact hR.1.1) ?_
    refine w_icmp_ge (g := 109) d_162_86 (by decide) (by omega) (fun h86 => ?_) (fun h86 => ?_)
    · refine w_ld d_162_109 rfl rfl rfl ?_
      refine w_stk d_162_110 rfl ?_
      refine w_gI d_162_111 (by rfl) (by first | rfl | assumption) (by rfl) (show _ = (N.length : Int) by rw [hi.1]; exact h26.1) ?_
      refine w_con d_162_114 ?_
      refine w_iadd d_162_115 ?_
      refine w_putI d_162_116 (by rfl) (by first | rfl | assumption) (by rfl) (fit_I (by rfl)) (by rfl) ?_
      refine w_ret d_162_119 rfl ?_
      obtain rfl : k = w.length := by omega
      exact ⟨rfl, _, rfl, KI_e hS hR hk hn hi⟩
    · refine w_ld d_162_89 rfl rfl rfl ?_
      refine w_getF d_162_90 (by rfl) (by first | rfl | assumption) (by rfl) (by rfl) ?_
      refine w_ld d_162_93 rfl rfl rfl ?_
      refine w_ld d_162_94 rfl rfl rfl ?_
      refine w_iadd d_162_95 ?_
      refine w_ld d_162_96 rfl rfl rfl ?_
      refine w_getF d_162_97 (by rfl) (by first | rfl | assumption) (by rfl) (by rfl) ?_
      refine w_ld d_162_100 rfl rfl rfl ?_
      refine w_aI d_162_101 (by first | rfl | assumption) (by omega) (show _ = w.getD k 0 by rw [hi.2.2.1 71 (by omega) (by omega) (by omega)]; exact hR.2.2 k (by omega)) ?_
      refine w_iast d_162_102 (by first | rfl | assumption) (by omega) ?_
      refine w_inc (L' := [_, _, _]) d_162_103 rfl (by decide) rfl ?_
      refine w_goto (g := 81) d_162_106 (by decide) ?_
      exact ih _ (by omega) (k + 1) _ rfl (by omega) (KI_s hi)
theorem m_keep3 {sc : Nat × (Nat → Int32)} {fr lo : Nat} {ρ : Nat × Nat × Nat} {μ : Mem} {D : List Int} {N : List (List Int)} (hS : MS (some (D, N)) μ) {w : List Int} (hR : RW w μ) (hk : mnd N μ + w.length ≤ D.length) (hn : N.length < 24) : w_P sc fr lo 162 7 3 false (none) prog_9_method_54_code 55 [some (.ref 46), none, none] [.int (ji (mnd N μ))] (hp (μ), ρ) (fun o τ => o = .inl none ∧ ∃ μ', τ = (hp μ', ρ) ∧ MS (some (D, N ++ [w])) μ' ∧ mw0 μ μ') := by
  have m0 := mnd_0 hS.2.2.2.1
  have hD := hS.2.1
  have h26 := hS.2.2.2.1.1
  have hw3 := hR.1.2
  refine w_st1 (L' := [_, _, _]) d_162_55 rfl (by decide) rfl (by decide) rfl ?_
  refine w_ld d_162_56 rfl rfl rfl ?_
  refine w_getF d_162_57 (by rfl) (by first | rfl | assumption) (by rfl) (by rfl) ?_
  refine w_ld d_162_60 rfl rfl rfl ?_
  refine w_gI d_162_61 (by rfl) (by first | rfl | assumption) (by rfl) h26.1 ?_
  refine w_ld d_162_64 rfl rfl rfl ?_
  refine w_iast d_162_65 (by first | rfl | assumption) (by omega) ?_
  refine w_ld d_162_66 rfl rfl rfl ?_
  refine w_getF d_162_67 (by rfl) (by first | rfl | assumption) (by rfl) (by rfl) ?_
  refine w_ld d_162_70 rfl rfl rfl ?_
  refine w_gI d_162_71 (by rfl) (by first | rfl | assumption) (by rfl) h26.1 ?_
  refine w_ld d_162_74 rfl rfl rfl ?_
  refine w_gI d_162_75 (by rfl) (by first | rfl | assumption) (by rfl) hR.1.1 ?_
  refine w_iast d_162_78 (by first | rfl | assumption) (by omega) ?_
  refine w_con d_162_79 ?_
  refine w_st1 (L' := [_, _, _]) d_162_80 rfl (by decide) rfl (by decide) rfl ?_
  exact m_keep_l hS hR hk hn _ 0 _ rfl (Nat.zero_le _) (KI_0 N w μ)
theorem m_keep2 {sc : Nat × (Nat → Int32)} {fr lo : Nat} {ρ : Nat × Nat × Nat} {μ : Mem} {D : List Int} {N : List (List Int)} (hS : MS (some (D, N)) μ) {w : List Int} (hR : RW w μ) (hk : mnd N μ + w.length ≤ D.length) (hn : N.length < 24) : w_P sc fr lo 162 7 3 false (none) prog_9_method_54_code 21 [some (.ref 46), none, none] [] (hp (μ), ρ) (fun o τ => o = .inl none ∧ ∃ μ', τ = (hp μ', ρ) ∧ MS (some (D, N ++ [w])) μ' ∧ mw0 μ μ') := by
  have m0 := mnd_0 hS.2.2.2.1
  have hD := hS.2.1
  have h26 := hS.2.2.2.1.1
  have hw3 := hR.1.2
  refine w_ld d_162_21 rfl rfl rfl ?_
  refine w_gI d_162_22 (by rfl) (by first | rfl | assumption) (by rfl) h26.1 ?_
  refine w_if_ne (g := 32) d_162_25 (by decide) (by omega) (fun h25 => ?_) (fun h25 => ?_)
  · have em : mnd N μ = μ.2.2 62 ((N.length : Int) - 1) + μ.2.2 63 ((N.length : Int) - 1) := if_neg (by omega)
    refine w_ld d_162_32 rfl rfl rfl ?_
    refine w_getF d_162_33 (by rfl) (by first | rfl | assumption) (by rfl) (by rfl) ?_
    refine w_ld d_162_36 rfl rfl rfl ?_
    refine w_gI d_162_37 (by rfl) (by first | rfl | assumption) (by rfl) h26.1 ?_
    refine w_con d_162_40 ?_
    refine w_isub d_162_41 ?_
    refine w_aI d_162_42 (by first | rfl | assumption) (by omega) rfl ?_
    refine w_ld d_162_43 rfl rfl rfl ?_
    refine w_getF d_162_44 (by rfl) (by first | rfl | assumption) (by rfl) (by rfl) ?_
    refine w_ld d_162_47 rfl rfl rfl ?_
    refine w_gI d_162_48 (by rfl) (by first | rfl | assumption) (by rfl) h26.1 ?_
    refine w_con d_162_51 ?_
    refine w_isub d_162_52 ?_
    refine w_aI d_162_53 (by first | rfl | assumption) (by omega) rfl ?_
    refine w_iadd d_162_54 ?_
    rw [← em]
    exact m_keep3 hS hR hk hn
  · refine w_con d_162_28 ?_
    refine w_goto (g := 55) d_162_29 (by decide) ?_
    have em : mnd N μ = 0 := if_pos (by omega)
    have e := m_keep3 (sc := sc) (fr := fr) (lo := lo) (ρ := ρ) hS hR hk hn
    rw [em] at e
    exact e
theorem MS_forget {D : List Int} {N : List (List Int)} {μ : Mem} (h : MS (some (D, N)) μ) : MS (some (D, [])) (stI μ 46 26 0) := by
  obtain ⟨s1, s2, s3, s4, s5⟩ := h
  refine ⟨(stI_ne (by omega)).trans s1, by rw [stI_ne (by omega)]; exact s2, s3, ⟨⟨stI_at _ _ _ _, by decide⟩, fun n hn => absurd hn (Nat.not_lt_zero n)⟩, ?_⟩
  show (0 : Int) ≤ _
  omega
theorem MS_same {D : List Int} {N : List (List Int)} {μ : Mem} (h : MS (some (D, N)) μ) : MS (some (D, N)) (stI μ 46 26 (N.length : Int)) :=
  MS_eq ⟨stI_ne (by omega), stI_ne (by omega)⟩ ((stI_at _ _ _ _).trans h.2.2.2.1.1.1.symm) rfl rfl rfl rfl h
theorem RW_26 {w : List Int} {μ : Mem} {x : Int} (h : RW w μ) : RW w (stI μ 46 26 x) := by
  unfold RW at h ⊢
  rw [stI_ne (by omega)]
  exact h
theorem mw0_26 {μ : Mem} {x : Int} : mw0 μ (stI μ 46 26 x) := ⟨fun a q z => stI_ne (by omega), rfl, fun _ _ _ _ _ _ => rfl⟩
theorem m_keep {sc : Nat × (Nat → Int32)} {fr lo : Nat} {μ : Mem} {ρ : Nat × Nat × Nat} {D : List Int} {N : List (List Int)} (hS : MS (some (D, N)) μ) {w : List Int} (hR : RW w μ) (hk : mnd N μ + w.length ≤ D.length) : w_S sc fr lo 162 [.ref 46] (hp μ, ρ) (fun o τ => o = .inl none ∧ ∃ μ', τ = (hp μ', ρ) ∧ MS (some (D, (if N.length = 24 then [] else N) ++ [w])) μ' ∧ mw0 μ μ') := by
  have m0 := mnd_0 hS.2.2.2.1
  have hD := hS.2.1
  have h26 := hS.2.2.2.1.1
  have hw3 := hR.1.2
  refine w_S.of (L0 := [some (.ref 46), none, none]) rfl rfl (Nat.le_of_ble_eq_true rfl) (by rfl) ?_
  refine w_ld d_162_0 rfl rfl rfl ?_
  refine w_ld d_162_1 rfl rfl rfl ?_
  refine w_gI d_162_2 (by rfl) (by first | rfl | assumption) (by rfl) h26.1 ?_
  refine w_bip d_162_5 (by decide) ?_
  refine w_icmp_ne (g := 14) d_162_7 (by decide) (by omega) (fun h7 => ?_) (fun h7 => ?_)
  · refine w_ld d_162_14 rfl rfl rfl ?_
    refine w_gI d_162_15 (by rfl) (by first | rfl | assumption) (by rfl) h26.1 ?_
    refine w_putI d_162_18 (by rfl) (by first | rfl | assumption) (by rfl) (fit_I (by rfl)) (by rfl) ?_
    rw [if_neg (by omega)]
    exact (m_keep2 (MS_same hS) (RW_26 hR) hk (by omega)).mono (fun o τ ⟨h1, μ2, h2, h3, h4⟩ => ⟨h1, μ2, h2, h3, mw0_trans mw0_26 h4⟩)
  · refine w_con d_162_10 ?_
    refine w_goto (g := 18) d_162_11 (by decide) ?_
    refine w_putI d_162_18 (by rfl) (by first | rfl | assumption) (by rfl) (fit_I (by rfl)) (by rfl) ?_
    rw [if_pos (by omega)]
    exact (m_keep2 (MS_forget hS) (RW_26 hR) (by show (0 : Int) + (w.length : Int) ≤ _; omega) (by decide)).mono (fun o τ ⟨h1, μ2, h2, h3, h4⟩ => ⟨h1, μ2, h2, h3, mw0_trans mw0_26 h4⟩)
theorem m_wrA {sc : Nat × (Nat → Int32)} {fr lo : Nat} {ρ : Nat × Nat × Nat} {μ : Mem} {D : List Int} {N : List (List Int)} (hS : MS (some (D, N)) μ) {w : List Int} (hR : RW w μ) {key : Int} {j : Nat} (hj : j < 24) (hw : 3 < w.length) (hf : 6 ≤ fr) (hl : 200 ≤ lo) : w_P sc fr lo 160 7 5 false (none) prog_9_method_55_code 83 [some (.ref 46), some (.int (ji key)), some (.int (ji 1)), some (.int (ji (j : Int))), none] [] (hp (μ), ρ) (fun o τ => o = .inl none ∧ ∃ μ', τ = (hp μ', ρ) ∧ MS (wap (some (D, N)) (34 :: (cdt j ++ [34]))) μ' ∧ pfr μ μ') := by
  have hw3 := hR.1.2
  refine w_ld d_160_83 rfl rfl rfl ?_
  refine w_bip d_160_84 (by decide) ?_
  refine w_cVq (a := 46) (as := [_]) (rest := _) rfl d_160_86 (by rfl) (by rfl) (by first | rfl | assumption) (by rfl) (by rfl) (Nat.le_of_ble_eq_true rfl) (by omega) (by omega) (m_pu hS) ?_ ?_
  rotate_left
  · rintro r τ ⟨hv9, _⟩
    cases hv9
  rintro vv1 τ1 ⟨hv1, μ1, rfl, hS1, hf1⟩
  obtain rfl := Sum.inl.inj hv1
  refine w_ld d_160_89 rfl rfl rfl ?_
  refine w_if_lt (g := 126) d_160_90 (by decide) (by omega) (fun h90 => ?_) (fun h90 => ?_)
  · exact absurd h90 (by omega)
  · refine w_ld d_160_93 rfl rfl rfl ?_
    refine w_bip d_160_94 (by decide) ?_
    refine w_cVq (a := 46) (as := [_]) (rest := _) rfl d_160_96 (by rfl) (by rfl) (by first | rfl | assumption) (by rfl) (by rfl) (Nat.le_of_ble_eq_true rfl) (by omega) (by omega) (m_pu hS1) ?_ ?_
    rotate_left
    · rintro r τ ⟨hv9, _⟩
      cases hv9
    rintro vv2 τ2 ⟨hv2, μ2, rfl, hS2, hf2⟩
    obtain rfl := Sum.inl.inj hv2
    refine w_ld d_160_99 rfl rfl rfl ?_
    refine w_con d_160_100 ?_
    refine w_icmp_le (g := 115) d_160_101 (by decide) (by omega) (fun h101 => ?_) (fun h101 => ?_)
    · refine w_ld d_160_115 rfl rfl rfl ?_
      refine w_bip d_160_116 (by decide) ?_
      refine w_ld d_160_118 rfl rfl rfl ?_
      refine w_bip d_160_119 (by decide) ?_
      refine w_irem d_160_121 (by omega) (by decide) ?_
      refine w_iadd d_160_122 ?_
      refine w_cVq (a := 46) (as := [_]) (rest := _) rfl d_160_123 (by rfl) (by rfl) (by first | rfl | assumption) (by rfl) (by rfl) (Nat.le_of_ble_eq_true rfl) (by omega) (by omega) (m_pu (c := 48 + ((j % 6 : Nat) : Int)) hS2) ?_ ?_
      rotate_left
      · rintro r τ ⟨hv9, _⟩
        cases hv9
      rintro vv3 τ3 ⟨hv3, μ3, rfl, hS3, hf3⟩
      obtain rfl := Sum.inl.inj hv3
      refine w_con d_160_126 ?_
      refine w_st1 (L' := [_, _, _, _, _]) d_160_127 rfl (by decide) rfl (by decide) rfl ?_
      refine w_ld d_160_129 rfl rfl rfl ?_
      refine w_ld d_160_131 rfl rfl rfl ?_
      refine w_gI d_160_132 (by rfl) (by first | rfl | assumption) (by rfl) (show _ = (w.length : Int) from (RW_p hR (pfr_trans (pfr_trans (hf1) hf2) hf3)).1.1) ?_
      refine w_icmp_ge (g := 189) d_160_135 (by decide) (by omega) (fun h135 => ?_) (fun h135 => ?_)
      · exact absurd h135 (by omega)
      · refine w_ld d_160_138 rfl rfl rfl ?_
        refine w_if_ge (g := 189) d_160_139 (by decide) (by omega) (fun h139 => ?_) (fun h139 => ?_)
        · refine w_ld d_160_189 rfl rfl rfl ?_
          refine w_bip d_160_190 (by decide) ?_
          refine w_cVq (a := 46) (as := [_]) (rest := _) rfl d_160_192 (by rfl) (by rfl) (by first | rfl | assumption) (by rfl) (by rfl) (Nat.le_of_ble_eq_true rfl) (by omega) (by omega) (m_pu hS3) ?_ ?_
          rotate_left
          · rintro r τ ⟨hv9, _⟩
            cases hv9
          rintro vv4 τ4 ⟨hv4, μ4, rfl, hS4, hf4⟩
          obtain rfl := Sum.inl.inj hv4
          refine w_ld d_160_195 rfl rfl rfl ?_
          refine w_if_eq (g := 214) d_160_196 (by decide) (by omega) (fun h196 => ?_) (fun h196 => ?_)
          · exact absurd h196 (by omega)
          · refine w_ld d_160_199 rfl rfl rfl ?_
            refine w_if_ge (g := 214) d_160_200 (by decide) (by omega) (fun h200 => ?_) (fun h200 => ?_)
            · refine w_ret d_160_214 rfl ?_
              rw [wap_wap, wap_wap, wap_wap] at hS4
              rw [show cdt j = [94, 48 + ((j % 6 : Nat) : Int)] from if_neg (by omega)]
              exact ⟨rfl, _, rfl, hS4, pfr_trans (pfr_trans (pfr_trans (hf1) hf2) hf3) hf4⟩
            · exact absurd h200 (by omega)
        · exact absurd h139 (by omega)
    · refine w_ld d_160_104 rfl rfl rfl ?_
      refine w_bip d_160_105 (by decide) ?_
      refine w_ld d_160_107 rfl rfl rfl ?_
      refine w_bip d_160_108 (by decide) ?_
      refine w_idiv d_160_110 (by omega) (by decide) ?_
      refine w_iadd d_160_111 ?_
      refine w_cVq (a := 46) (as := [_]) (rest := _) rfl d_160_112 (by rfl) (by rfl) (by first | rfl | assumption) (by rfl) (by rfl) (Nat.le_of_ble_eq_true rfl) (by omega) (by omega) (m_pu (c := 48 + ((j / 6 : Nat) : Int)) hS2) ?_ ?_
      rotate_left
      · rintro r τ ⟨hv9, _⟩
        cases hv9
      rintro vv3 τ3 ⟨hv3, μ3, rfl, hS3, hf3⟩
      obtain rfl := Sum.inl.inj hv3
      refine w_ld d_160_115 rfl rfl rfl ?_
      refine w_bip d_160_116 (by decide) ?_
      refine w_ld d_160_118 rfl rfl rfl ?_
      refine w_bip d_160_119 (by decide) ?_
      refine w_irem d_160_121 (by omega) (by decide) ?_
      refine w_iadd d_160_122 ?_
      refine w_cVq (a := 46) (as := [_]) (rest := _) rfl d_160_123 (by rfl) (by rfl) (by first | rfl | assumption) (by rfl) (by rfl) (Nat.le_of_ble_eq_true rfl) (by omega) (by omega) (m_pu (c := 48 + ((j % 6 : Nat) : Int)) hS3) ?_ ?_
      rotate_left
      · rintro r τ ⟨hv9, _⟩
        cases hv9
      rintro vv4 τ4 ⟨hv4, μ4, rfl, hS4, hf4⟩
      obtain rfl := Sum.inl.inj hv4
      refine w_con d_160_126 ?_
      refine w_st1 (L' := [_, _, _, _, _]) d_160_127 rfl (by decide) rfl (by decide) rfl ?_
      refine w_ld d_160_129 rfl rfl rfl ?_
      refine w_ld d_160_131 rfl rfl rfl ?_
      refine w_gI d_160_132 (by rfl) (by first | rfl | assumption) (by rfl) (show _ = (w.length : Int) from (RW_p hR (pfr_trans (pfr_trans (pfr_trans (hf1) hf2) hf3) hf4)).1.1) ?_
      refine w_icmp_ge (g := 189) d_160_135 (by decide) (by omega) (fun h135 => ?_) (fun h135 => ?_)
      · exact absurd h135 (by omega)
      · refine w_ld d_160_138 rfl rfl rfl ?_
        refine w_if_ge (g := 189) d_160_139 (by decide) (by omega) (fun h139 => ?_) (fun h139 => ?_)
        · refine w_ld d_160_189 rfl rfl rfl ?_
          refine w_bip d_160_190 (by decide) ?_
          refine w_cVq (a := 46) (as := [_]) (rest := _) rfl d_160_192 (by rfl) (by rfl) (by first | rfl | assumption) (by rfl) (by rfl) (Nat.le_of_ble_eq_true rfl) (by omega) (by omega) (m_pu hS4) ?_ ?_
          rotate_left
          · rintro r τ ⟨hv9, _⟩
            cases hv9
          rintro vv5 τ5 ⟨hv5, μ5, rfl, hS5, hf5⟩
          obtain rfl := Sum.inl.inj hv5
          refine w_ld d_160_195 rfl rfl rfl ?_
          refine w_if_eq (g := 214) d_160_196 (by decide) (by omega) (fun h196 => ?_) (fun h196 => ?_)
          · exact absurd h196 (by omega)
          · refine w_ld d_160_199 rfl rfl rfl ?_
            refine w_if_ge (g := 214) d_160_200 (by decide) (by omega) (fun h200 => ?_) (fun h200 => ?_)
            · refine w_ret d_160_214 rfl ?_
              rw [wap_wap, wap_wap, wap_wap, wap_wap] at hS5
              rw [show cdt j = [94, 48 + ((j / 6 : Nat) : Int), 48 + ((j % 6 : Nat) : Int)] from if_pos (by omega)]
              exact ⟨rfl, _, rfl, hS5, pfr_trans (pfr_trans (pfr_trans (pfr_trans (hf1) hf2) hf3) hf4) hf5⟩
            · exact absurd h200 (by omega)
        · exact absurd h139 (by omega)
theorem m_wrB_l {sc : Nat × (Nat → Int32)} {fr lo : Nat} {ρ : Nat × Nat × Nat} {μ : Mem} {D : List Int} {N : List (List Int)} (hS : MS (some (D, N)) μ) {w : List Int} (hR : RW w μ) {key : Int} {c : Int} {M : List (List Int)} (hc : c = 0 ∧ M = N ∨ c = 1 ∧ M = (if N.length = 24 then [] else N) ++ [w]) (hf : 6 ≤ fr) (hl : 200 ≤ lo) : ∀ (m : Nat) (i : Nat) (μ1 : Mem), ((w.length : Int) - i).toNat = m → i ≤ w.length → MS (wap (some (D, N)) (34 :: esc (w.take i))) μ1 → pfr μ μ1 → w_P sc fr lo 160 7 5 false (none) prog_9_method_55_code 129 [some (.ref 46), some (.int (ji key)), some (.int (ji c)), some (.int (ji (-1))), some (.int (ji (i : Int)))] [] (hp (μ1), ρ) (fun o τ => o = .inl none ∧ ∃ μ', τ = (hp μ', ρ) ∧ MS (wst D (34 :: (esc w ++ [34])) M) μ' ∧ mw0 μ μ') := by
  intro m
  induction m using Nat.strongRecOn with
  | ind m ih =>
    intro i μ1 hm hi hS1 hp1
    have hR1 := RW_p hR hp1
    have hw3 := hR.1.2
    have hcc := hR.2.1 i
    refine w_ld d_160_129 rfl rfl rfl ?_
    refine w_ld d_160_131 rfl rfl rfl ?_
    refine w_gI d_160_132 (by rfl) (by first | rfl | assumption) (by rfl) hR1.1.1 ?_
    refine w_icmp_ge (g := 189) d_160_135 (by decide) (by omega) (fun h135 => ?_) (fun h135 => ?_)
    · obtain rfl : i = w.length := by omega
      rw [List.take_length] at hS1
      refine w_ld d_160_189 rfl rfl rfl ?_
      refine w_bip d_160_190 (by decide) ?_
      refine w_cVq (a := 46) (as := [_]) (rest := _) rfl d_160_192 (by rfl) (by rfl) (by first | rfl | assumption) (by rfl) (by rfl) (Nat.le_of_ble_eq_true rfl) (by omega) (by omega) (m_pu hS1) ?_ ?_
      rotate_left
      · rintro r τ ⟨hv9, _⟩
        cases hv9
      rintro vv4 τ4 ⟨hv4, μ4, rfl, hS4, hf4⟩
      obtain rfl := Sum.inl.inj hv4
      rw [wap_wap] at hS4
      have hp4 := pfr_trans hp1 hf4
      have hR4 := RW_p hR hp4
      have hb4 := MS_b hS4
      refine w_ld d_160_195 rfl rfl rfl ?_
      refine w_if_eq (g := 214) d_160_196 (by decide) (by omega) (fun h196 => ?_) (fun h196 => ?_)
      · refine w_ret d_160_214 rfl ?_
        obtain rfl : M = N := hc.elim (fun z => z.2) (fun z => absurd z.1 (by omega))
        exact ⟨rfl, _, rfl, hS4, hp4.mw⟩
      · refine w_ld d_160_199 rfl rfl rfl ?_
        refine w_if_ge (g := 214) d_160_200 (by decide) (by omega) (fun h200 => ?_) (fun h200 => ?_)
        · exact absurd h200 (by omega)
        · refine w_ld d_160_203 rfl rfl rfl ?_
          refine w_gI d_160_204 (by rfl) (by first | rfl | assumption) (by rfl) rfl ?_
          refine w_if_ne (g := 214) d_160_207 (by decide) (by omega) (fun h207 => ?_) (fun h207 => ?_)
          · refine w_ret d_160_214 rfl ?_
            exact ⟨rfl, _, rfl, MS_big hS4 h207, hp4.mw⟩
          · have hx := MS_fit hS4 h207
            have hkk : mnd N μ4 + w.length ≤ ((D ++ (34 :: esc w ++ [34])).length : Int) := by
              rw [mnd_eq (hp4.2.2 62 (by omega)) (hp4.2.2 63 (by omega))]
              have := hS.2.2.2.2
              have := esc_len w
              simp only [List.length_append, List.length_cons]
              omega
            refine w_ld d_160_210 rfl rfl rfl ?_
            refine w_cVq (a := 46) (as := []) (rest := _) rfl d_160_211 (by rfl) (by rfl) (by first | rfl | assumption) (by rfl) (by rfl) (Nat.le_of_ble_eq_true rfl) (by omega) (by omega) (m_keep hx.2 hR4 hkk) ?_ ?_
            rotate_left
            · rintro r τ ⟨hv9, _⟩
              cases hv9
            rintro vv5 τ5 ⟨hv5, μ5, rfl, hS5, hf5⟩
            obtain rfl := Sum.inl.inj hv5
            refine w_ret d_160_214 rfl ?_
            obtain rfl : M = (if N.length = 24 then [] else N) ++ [w] := hc.elim (fun z => absurd z.1 (by omega)) (fun z => z.2)
            refine ⟨rfl, _, rfl, ?_, mw0_trans hp4.mw hf5⟩
            rw [show wst D (34 :: (esc w ++ [34])) ((if N.length = 24 then [] else N) ++ [w]) = some (D ++ (34 :: esc w ++ [34]), (if N.length = 24 then [] else N) ++ [w]) from if_pos hx.1]
            exact hS5
    · refine w_ld d_160_138 rfl rfl rfl ?_
      refine w_if_ge (g := 189) d_160_139 (by decide) (by omega) (fun h139 => ?_) (fun h139 => ?_)
      · exact absurd h139 (by omega)
      · refine w_ld d_160_142 rfl rfl rfl ?_
        refine w_getF d_160_143 (by rfl) (by first | rfl | assumption) (by rfl) (by rfl) ?_
        refine w_ld d_160_146 rfl rfl rfl ?_
        refine w_aI d_160_148 (by first | rfl | assumption) (by omega) (hR1.2.2 i (by omega)) ?_
        refine w_bip d_160_149 (by decide) ?_
        refine w_icmp_eq (g := 166) d_160_151 (by decide) (by omega) (fun h151 => ?_) (fun h151 => ?_)
        · have hs : w.getD i 0 = 34 ∨ w.getD i 0 = 92 := by omega
          have e : esc (w.take (i + 1)) = esc (w.take i) ++ ([92] ++ [w.getD i 0]) := by
            rw [take_getD (by omega), esc_app]
            show _ ++ ((if w.getD i 0 = 34 ∨ w.getD i 0 = 92 then [92, w.getD i 0] else [w.getD i 0]) ++ []) = _
            rw [if_pos hs]
            rfl
          refine w_ld d_160_166 rfl rfl rfl ?_
          refine w_bip d_160_167 (by decide) ?_
          refine w_cVq (a := 46) (as := [_]) (rest := _) rfl d_160_169 (by rfl) (by rfl) (by first | rfl | assumption) (by rfl) (by rfl) (Nat.le_of_ble_eq_true rfl) (by omega) (by omega) (m_pu hS1) ?_ ?_
          rotate_left
          · rintro r τ ⟨hv9, _⟩
            cases hv9
          rintro vv2 τ2 ⟨hv2, μ2, rfl, hS2, hf2⟩
          obtain rfl := Sum.inl.inj hv2
          refine w_ld d_160_172 rfl rfl rfl ?_
          refine w_ld d_160_173 rfl rfl rfl ?_
          refine w_getF d_160_174 (by rfl) (by first | rfl | assumption) (by rfl) (by rfl) ?_
          refine w_ld d_160_177 rfl rfl rfl ?_
          refine w_aI d_160_179 (by first | rfl | assumption) (by omega) ((RW_p hR1 hf2).2.2 i (by omega)) ?_
          refine w_cVq (a := 46) (as := [_]) (rest := _) rfl d_160_180 (by rfl) (by rfl) (by first | rfl | assumption) (by rfl) (by rfl) (Nat.le_of_ble_eq_true rfl) (by omega) (by omega) (m_pu hS2) ?_ ?_
          rotate_left
          · rintro r τ ⟨hv9, _⟩
            cases hv9
          rintro vv3 τ3 ⟨hv3, μ3, rfl, hS3, hf3⟩
          obtain rfl := Sum.inl.inj hv3
          refine w_inc (L' := [_, _, _, _, _]) d_160_183 rfl (by decide) rfl ?_
          refine w_goto (g := 129) d_160_186 (by decide) ?_
          rw [wap_wap, wap_wap] at hS3
          exact ih _ (by omega) (i + 1) μ3 rfl (by omega) (by rw [e]; exact hS3) (pfr_trans hp1 (pfr_trans hf2 hf3))
        · refine w_ld d_160_154 rfl rfl rfl ?_
          refine w_getF d_160_155 (by rfl) (by first | rfl | assumption) (by rfl) (by rfl) ?_
          refine w_ld d_160_158 rfl rfl rfl ?_
          refine w_aI d_160_160 (by first | rfl | assumption) (by omega) (hR1.2.2 i (by omega)) ?_
          refine w_bip d_160_161 (by decide) ?_
          refine w_icmp_ne (g := 172) d_160_163 (by decide) (by omega) (fun h163 => ?_) (fun h163 => ?_)
          · have hs : ¬ (w.getD i 0 = 34 ∨ w.getD i 0 = 92) := by omega
            have e : esc (w.take (i + 1)) = esc (w.take i) ++ ([w.getD i 0]) := by
              rw [take_getD (by omega), esc_app]
              show _ ++ ((if w.getD i 0 = 34 ∨ w.getD i 0 = 92 then [92, w.getD i 0] else [w.getD i 0]) ++ []) = _
              rw [if_neg hs]
              rfl
            refine w_ld d_160_172 rfl rfl rfl ?_
            refine w_ld d_160_173 rfl rfl rfl ?_
            refine w_getF d_160_174 (by rfl) (by first | rfl | assumption) (by rfl) (by rfl) ?_
            refine w_ld d_160_177 rfl rfl rfl ?_
            refine w_aI d_160_179 (by first | rfl | assumption) (by omega) (hR1.2.2 i (by omega)) ?_
            refine w_cVq (a := 46) (as := [_]) (rest := _) rfl d_160_180 (by rfl) (by rfl) (by first | rfl | assumption) (by rfl) (by rfl) (Nat.le_of_ble_eq_true rfl) (by omega) (by omega) (m_pu hS1) ?_ ?_
            rotate_left
            · rintro r τ ⟨hv9, _⟩
              cases hv9
            rintro vv3 τ3 ⟨hv3, μ3, rfl, hS3, hf3⟩
            obtain rfl := Sum.inl.inj hv3
            refine w_inc (L' := [_, _, _, _, _]) d_160_183 rfl (by decide) rfl ?_
            refine w_goto (g := 129) d_160_186 (by decide) ?_
            rw [wap_wap] at hS3
            exact ih _ (by omega) (i + 1) μ3 rfl (by omega) (by rw [e]; exact hS3) (pfr_trans hp1 hf3)
          · have hs : w.getD i 0 = 34 ∨ w.getD i 0 = 92 := by omega
            have e : esc (w.take (i + 1)) = esc (w.take i) ++ ([92] ++ [w.getD i 0]) := by
              rw [take_getD (by omega), esc_app]
              show _ ++ ((if w.getD i 0 = 34 ∨ w.getD i 0 = 92 then [92, w.getD i 0] else [w.getD i 0]) ++ []) = _
              rw [if_pos hs]
              rfl
            refine w_ld d_160_166 rfl rfl rfl ?_
            refine w_bip d_160_167 (by decide) ?_
            refine w_cVq (a := 46) (as := [_]) (rest := _) rfl d_160_169 (by rfl) (by rfl) (by first | rfl | assumption) (by rfl) (by rfl) (Nat.le_of_ble_eq_true rfl) (by omega) (by omega) (m_pu hS1) ?_ ?_
            rotate_left
            · rintro r τ ⟨hv9, _⟩
              cases hv9
            rintro vv2 τ2 ⟨hv2, μ2, rfl, hS2, hf2⟩
            obtain rfl := Sum.inl.inj hv2
            refine w_ld d_160_172 rfl rfl rfl ?_
            refine w_ld d_160_173 rfl rfl rfl ?_
            refine w_getF d_160_174 (by rfl) (by first | rfl | assumption) (by rfl) (by rfl) ?_
            refine w_ld d_160_177 rfl rfl rfl ?_
            refine w_aI d_160_179 (by first | rfl | assumption) (by omega) ((RW_p hR1 hf2).2.2 i (by omega)) ?_
            refine w_cVq (a := 46) (as := [_]) (rest := _) rfl d_160_180 (by rfl) (by rfl) (by first | rfl | assumption) (by rfl) (by rfl) (Nat.le_of_ble_eq_true rfl) (by omega) (by omega) (m_pu hS2) ?_ ?_
            rotate_left
            · rintro r τ ⟨hv9, _⟩
              cases hv9
            rintro vv3 τ3 ⟨hv3, μ3, rfl, hS3, hf3⟩
            obtain rfl := Sum.inl.inj hv3
            refine w_inc (L' := [_, _, _, _, _]) d_160_183 rfl (by decide) rfl ?_
            refine w_goto (g := 129) d_160_186 (by decide) ?_
            rw [wap_wap, wap_wap] at hS3
            exact ih _ (by omega) (i + 1) μ3 rfl (by omega) (by rw [e]; exact hS3) (pfr_trans hp1 (pfr_trans hf2 hf3))
theorem m_wrB {sc : Nat × (Nat → Int32)} {fr lo : Nat} {ρ : Nat × Nat × Nat} {μ : Mem} {D : List Int} {N : List (List Int)} (hS : MS (some (D, N)) μ) {w : List Int} (hR : RW w μ) {key : Int} {c : Int} {M : List (List Int)} (hc : c = 0 ∧ M = N ∨ c = 1 ∧ M = (if N.length = 24 then [] else N) ++ [w]) (hf : 6 ≤ fr) (hl : 200 ≤ lo) : w_P sc fr lo 160 7 5 false (none) prog_9_method_55_code 83 [some (.ref 46), some (.int (ji key)), some (.int (ji c)), some (.int (ji (-1))), none] [] (hp (μ), ρ) (fun o τ => o = .inl none ∧ ∃ μ', τ = (hp μ', ρ) ∧ MS (wst D (34 :: (esc w ++ [34])) M) μ' ∧ mw0 μ μ') := by
  refine w_ld d_160_83 rfl rfl rfl ?_
  refine w_bip d_160_84 (by decide) ?_
  refine w_cVq (a := 46) (as := [_]) (rest := _) rfl d_160_86 (by rfl) (by rfl) (by first | rfl | assumption) (by rfl) (by rfl) (Nat.le_of_ble_eq_true rfl) (by omega) (by omega) (m_pu hS) ?_ ?_
  rotate_left
  · rintro r τ ⟨hv9, _⟩
    cases hv9
  rintro vv1 τ1 ⟨hv1, μ1, rfl, hS1, hf1⟩
  obtain rfl := Sum.inl.inj hv1
  refine w_ld d_160_89 rfl rfl rfl ?_
  refine w_if_lt (g := 126) d_160_90 (by decide) (by omega) (fun h90 => ?_) (fun h90 => ?_)
  · refine w_con d_160_126 ?_
    refine w_st1 (L' := [_, _, _, _, _]) d_160_127 rfl (by decide) rfl (by decide) rfl ?_
    exact m_wrB_l hS hR hc hf hl _ 0 μ1 rfl (Nat.zero_le _) (by rw [List.take_zero]; exact hS1) hf1
  · exact absurd h90 (by omega)
theorem m_wrC {sc : Nat × (Nat → Int32)} {fr lo : Nat} {ρ : Nat × Nat × Nat} {μ : Mem} {D : List Int} {N : List (List Int)} (hS : MS (some (D, N)) μ) {w : List Int} (hR : RW w μ) {key : Int} {c : Int} (hc : c = tkl w key) (hf : 6 ≤ fr) (hl : 200 ≤ lo) : w_P sc fr lo 160 7 5 false (none) prog_9_method_55_code 69 [some (.ref 46), some (.int (ji key)), none, none, none] [.int (ji c)] (hp (μ), ρ) (fun o τ => o = .inl none ∧ ∃ μ', τ = (hp μ', ρ) ∧ MS (wst D (txt N w key) (nts N w key)) μ' ∧ mw0 μ μ') := by
  refine w_st1 (L' := [_, _, _, _, _]) d_160_69 rfl (by decide) rfl (by decide) rfl ?_
  refine w_ld d_160_70 rfl rfl rfl ?_
  refine w_if_eq (g := 81) d_160_71 (by decide) (by have := b01_01 (3 < (w.length : Int) ∧ (key = 1 ∨ w.getD 0 0 = 126 ∧ (w.getD 1 0 = 58 ∨ w.getD 1 0 = 36 ∨ w.getD 1 0 = 35))); rw [hc, tkl_eq]; omega) (fun h71 => ?_) (fun h71 => ?_)
  · refine w_con d_160_81 ?_
    refine w_st1 (L' := [_, _, _, _, _]) d_160_82 rfl (by decide) rfl (by decide) rfl ?_
    have et : txt N w key = 34 :: (esc w ++ [34]) := if_neg (fun z => by omega)
    have en : nts N w key = N := if_neg (fun z => by omega)
    rw [et, en]
    exact m_wrB hS hR (Or.inl ⟨h71, rfl⟩) hf hl
  · refine w_ld d_160_74 rfl rfl rfl ?_
    refine w_cV1 (as := []) (rest := _) rfl d_160_75 (by rfl) (by rfl) (by first | rfl | assumption) (by rfl) (by rfl) (Nat.le_of_ble_eq_true rfl) (by omega) (by omega) (m_nof hS.2.2.2.1 (by have := hS.2.2.2.2; have := hS.2.1; omega) hR) ?_
    refine w_goto (g := 82) d_160_78 (by decide) ?_
    refine w_st1 (L' := [_, _, _, _, _]) d_160_82 rfl (by decide) rfl (by decide) rfl ?_
    have hc1 : c = 1 := by
      have := b01_01 (3 < (w.length : Int) ∧ (key = 1 ∨ w.getD 0 0 = 126 ∧ (w.getD 1 0 = 58 ∨ w.getD 1 0 = 36 ∨ w.getD 1 0 = 35)))
      rw [← tkl_eq, ← hc] at this
      omega
    have hcx := hc1
    rw [hc, tkl_eq] at hcx
    have h3 := (b01_ne (P := 3 < (w.length : Int) ∧ (key = 1 ∨ w.getD 0 0 = 126 ∧ (w.getD 1 0 = 58 ∨ w.getD 1 0 = 36 ∨ w.getD 1 0 = 35))) (by rw [hcx]; decide)).1
    by_cases hz : fnd N w < N.length
    · have et : txt N w key = 34 :: (cdt (fnd N w) ++ [34]) := if_pos ⟨by omega, hz⟩
      have en : nts N w key = N := if_neg (fun z => z.2 hz)
      rw [et, en, show nof N w = ((fnd N w : Nat) : Int) from if_pos hz, hc1]
      exact (m_wrA hS hR (by have := hS.2.2.2.1.1.2; omega) (by omega) hf hl).mono (fun o τ ⟨h1, μ2, h2, h3, h4⟩ => ⟨h1, μ2, h2, h3, h4.mw⟩)
    · have et : txt N w key = 34 :: (esc w ++ [34]) := if_neg (fun z => hz z.2)
      have en : nts N w key = (if N.length = 24 then [] else N) ++ [w] := if_pos ⟨by omega, hz⟩
      rw [et, en, show nof N w = -1 from if_neg hz]
      exact m_wrB hS hR (Or.inr ⟨hc1, rfl⟩) hf hl
theorem m_writeRaw {sc : Nat × (Nat → Int32)} {fr lo : Nat} {μ : Mem} {ρ : Nat × Nat × Nat} {s : Option (List Int × List (List Int))} (hS : MS s μ) {w : List Int} (hR : RW w μ) {key : Int} (hkey : key = 0 ∨ key = 1) (hf : 6 ≤ fr) (hl : 200 ≤ lo) : w_S sc fr lo 160 [.ref 46, .int (ji key)] (hp μ, ρ) (fun o τ => o = .inl none ∧ ∃ μ', τ = (hp μ', ρ) ∧ MS (wrn (fun N => some (txt N w key, nts N w key)) s) μ' ∧ mw0 μ μ') := by
  have hb := MS_b hS
  have hw3 := hR.1.2
  have hc0 := hR.2.1 0
  have hc1 := hR.2.1 1
  refine w_S.of (L0 := [some (.ref 46), some (.int (ji key)), none, none, none]) rfl rfl (Nat.le_of_ble_eq_true rfl) (by rfl) ?_
  refine w_ld d_160_0 rfl rfl rfl ?_
  refine w_gI d_160_1 (by rfl) (by first | rfl | assumption) (by rfl) rfl ?_
  refine w_if_eq (g := 8) d_160_4 (by decide) (by omega) (fun h4 => ?_) (fun h4 => ?_)
  · obtain ⟨D, N, rfl⟩ := MS_ex hS h4
    show w_P _ _ _ _ _ _ _ _ _ _ _ _ _ (fun o τ => o = .inl none ∧ ∃ μ', τ = (hp μ', ρ) ∧ MS (wst D (txt N w key) (nts N w key)) μ' ∧ mw0 μ μ')
    refine w_ld d_160_8 rfl rfl rfl ?_
    refine w_gI d_160_9 (by rfl) (by first | rfl | assumption) (by rfl) hR.1.1 ?_
    refine w_con d_160_12 ?_
    refine w_icmp_le (g := 68) d_160_13 (by decide) (by omega) (fun h13 => ?_) (fun h13 => ?_)
    · refine w_con d_160_68 ?_
      exact m_wrC hS hR (by rw [tkl_eq]; exact (b01_f (by omega)).symm) hf hl
    · refine w_ld d_160_16 rfl rfl rfl ?_
      refine w_if_ne (g := 64) d_160_17 (by decide) (by omega) (fun h17 => ?_) (fun h17 => ?_)
      · refine w_con d_160_64 ?_
        refine w_goto (g := 69) d_160_65 (by decide) ?_
        exact m_wrC hS hR (by rw [tkl_eq]; exact (b01_t (by omega)).symm) hf hl
      · refine w_ld d_160_20 rfl rfl rfl ?_
        refine w_getF d_160_21 (by rfl) (by first | rfl | assumption) (by rfl) (by rfl) ?_
        refine w_con d_160_24 ?_
        refine w_aI d_160_25 (by first | rfl | assumption) (by omega) (show μ.2.2 71 0 = w.getD 0 0 from hR.2.2 0 (by omega)) ?_
        refine w_bip d_160_26 (by decide) ?_
        refine w_icmp_ne (g := 68) d_160_28 (by decide) (by omega) (fun h28 => ?_) (fun h28 => ?_)
        · refine w_con d_160_68 ?_
          exact m_wrC hS hR (by rw [tkl_eq]; exact (b01_f (by omega)).symm) hf hl
        · refine w_ld d_160_31 rfl rfl rfl ?_
          refine w_getF d_160_32 (by rfl) (by first | rfl | assumption) (by rfl) (by rfl) ?_
          refine w_con d_160_35 ?_
          refine w_aI d_160_36 (by first | rfl | assumption) (by omega) (show μ.2.2 71 1 = w.getD 1 0 from hR.2.2 1 (by omega)) ?_
          refine w_bip d_160_37 (by decide) ?_
          refine w_icmp_eq (g := 64) d_160_39 (by decide) (by omega) (fun h39 => ?_) (fun h39 => ?_)
          · refine w_con d_160_64 ?_
            refine w_goto (g := 69) d_160_65 (by decide) ?_
            exact m_wrC hS hR (by rw [tkl_eq]; exact (b01_t (by omega)).symm) hf hl
          · refine w_ld d_160_42 rfl rfl rfl ?_
            refine w_getF d_160_43 (by rfl) (by first | rfl | assumption) (by rfl) (by rfl) ?_
            refine w_con d_160_46 ?_
            refine w_aI d_160_47 (by first | rfl | assumption) (by omega) (show μ.2.2 71 1 = w.getD 1 0 from hR.2.2 1 (by omega)) ?_
            refine w_bip d_160_48 (by decide) ?_
            refine w_icmp_eq (g := 64) d_160_50 (by decide) (by omega) (fun h50 => ?_) (fun h50 => ?_)
            · refine w_con d_160_64 ?_
              refine w_goto (g := 69) d_160_65 (by decide) ?_
              exact m_wrC hS hR (by rw [tkl_eq]; exact (b01_t (by omega)).symm) hf hl
            · refine w_ld d_160_53 rfl rfl rfl ?_
              refine w_getF d_160_54 (by rfl) (by first | rfl | assumption) (by rfl) (by rfl) ?_
              refine w_con d_160_57 ?_
              refine w_aI d_160_58 (by first | rfl | assumption) (by omega) (show μ.2.2 71 1 = w.getD 1 0 from hR.2.2 1 (by omega)) ?_
              refine w_bip d_160_59 (by decide) ?_
              refine w_icmp_ne (g := 68) d_160_61 (by decide) (by omega) (fun h61 => ?_) (fun h61 => ?_)
              · refine w_con d_160_68 ?_
                exact m_wrC hS hR (by rw [tkl_eq]; exact (b01_f (by omega)).symm) hf hl
              · refine w_con d_160_64 ?_
                refine w_goto (g := 69) d_160_65 (by decide) ?_
                exact m_wrC hS hR (by rw [tkl_eq]; exact (b01_t (by omega)).symm) hf hl
  · refine w_ret d_160_7 rfl ?_
    obtain rfl := MS_no hS h4
    exact ⟨rfl, _, rfl, hS, mw0_refl μ⟩
theorem m_let4 {sc : Nat × (Nat → Int32)} {fr lo : Nat} {μ : Mem} {ρ : Nat × Nat × Nat} {s : Option (List Int × List (List Int))} (hS : MS s μ) {a b c d e : Int} (he : e = 0) (hf : 3 ≤ fr) (hl : 100 ≤ lo) : w_S sc fr lo 164 [.ref 46, .int (ji a), .int (ji b), .int (ji c), .int (ji d), .int (ji e)] (hp μ, ρ) (fun o τ => o = .inl none ∧ ∃ μ', τ = (hp μ', ρ) ∧ MS (wap s [a, b, c, d]) μ' ∧ pfr μ μ') := by
  refine w_S.of (L0 := [some (.ref 46), some (.int (ji a)), some (.int (ji b)), some (.int (ji c)), some (.int (ji d)), some (.int (ji e))]) rfl rfl (Nat.le_of_ble_eq_true rfl) (by rfl) ?_
  refine w_ld d_164_0 rfl rfl rfl ?_
  refine w_ld d_164_1 rfl rfl rfl ?_
  refine w_cVq (a := 46) (as := [_]) (rest := _) rfl d_164_2 (by rfl) (by rfl) (by first | rfl | assumption) (by rfl) (by rfl) (Nat.le_of_ble_eq_true rfl) (by omega) (by omega) (m_pu hS) ?_ ?_
  rotate_left
  · rintro r τ ⟨hv9, _⟩
    cases hv9
  rintro vv1 τ1 ⟨hv1, μ1, rfl, hS1, hf1⟩
  obtain rfl := Sum.inl.inj hv1
  refine w_ld d_164_5 rfl rfl rfl ?_
  refine w_ld d_164_6 rfl rfl rfl ?_
  refine w_cVq (a := 46) (as := [_]) (rest := _) rfl d_164_7 (by rfl) (by rfl) (by first | rfl | assumption) (by rfl) (by rfl) (Nat.le_of_ble_eq_true rfl) (by omega) (by omega) (m_pu hS1) ?_ ?_
  rotate_left
  · rintro r τ ⟨hv9, _⟩
    cases hv9
  rintro vv2 τ2 ⟨hv2, μ2, rfl, hS2, hf2⟩
  obtain rfl := Sum.inl.inj hv2
  refine w_ld d_164_10 rfl rfl rfl ?_
  refine w_ld d_164_11 rfl rfl rfl ?_
  refine w_cVq (a := 46) (as := [_]) (rest := _) rfl d_164_12 (by rfl) (by rfl) (by first | rfl | assumption) (by rfl) (by rfl) (Nat.le_of_ble_eq_true rfl) (by omega) (by omega) (m_pu hS2) ?_ ?_
  rotate_left
  · rintro r τ ⟨hv9, _⟩
    cases hv9
  rintro vv3 τ3 ⟨hv3, μ3, rfl, hS3, hf3⟩
  obtain rfl := Sum.inl.inj hv3
  refine w_ld d_164_15 rfl rfl rfl ?_
  refine w_ld d_164_16 rfl rfl rfl ?_
  refine w_cVq (a := 46) (as := [_]) (rest := _) rfl d_164_18 (by rfl) (by rfl) (by first | rfl | assumption) (by rfl) (by rfl) (Nat.le_of_ble_eq_true rfl) (by omega) (by omega) (m_pu hS3) ?_ ?_
  rotate_left
  · rintro r τ ⟨hv9, _⟩
    cases hv9
  rintro vv4 τ4 ⟨hv4, μ4, rfl, hS4, hf4⟩
  obtain rfl := Sum.inl.inj hv4
  refine w_ld d_164_21 rfl rfl rfl ?_
  refine w_if_le (g := 32) d_164_23 (by decide) (by omega) (fun h23 => ?_) (fun h23 => ?_)
  · refine w_ret d_164_32 rfl ?_
    rw [wap_wap, wap_wap, wap_wap] at hS4
    exact ⟨rfl, _, rfl, hS4, pfr_trans (pfr_trans (pfr_trans (hf1) hf2) hf3) hf4⟩
  · exact absurd h23 (by omega)
theorem m_let5 {sc : Nat × (Nat → Int32)} {fr lo : Nat} {μ : Mem} {ρ : Nat × Nat × Nat} {s : Option (List Int × List (List Int))} (hS : MS s μ) {a b c d e : Int} (he : 0 < e ∧ e < 65536) (hf : 3 ≤ fr) (hl : 100 ≤ lo) : w_S sc fr lo 164 [.ref 46, .int (ji a), .int (ji b), .int (ji c), .int (ji d), .int (ji e)] (hp μ, ρ) (fun o τ => o = .inl none ∧ ∃ μ', τ = (hp μ', ρ) ∧ MS (wap s [a, b, c, d, e]) μ' ∧ pfr μ μ') := by
  refine w_S.of (L0 := [some (.ref 46), some (.int (ji a)), some (.int (ji b)), some (.int (ji c)), some (.int (ji d)), some (.int (ji e))]) rfl rfl (Nat.le_of_ble_eq_true rfl) (by rfl) ?_
  refine w_ld d_164_0 rfl rfl rfl ?_
  refine w_ld d_164_1 rfl rfl rfl ?_
  refine w_cVq (a := 46) (as := [_]) (rest := _) rfl d_164_2 (by rfl) (by rfl) (by first | rfl | assumption) (by rfl) (by rfl) (Nat.le_of_ble_eq_true rfl) (by omega) (by omega) (m_pu hS) ?_ ?_
  rotate_left
  · rintro r τ ⟨hv9, _⟩
    cases hv9
  rintro vv1 τ1 ⟨hv1, μ1, rfl, hS1, hf1⟩
  obtain rfl := Sum.inl.inj hv1
  refine w_ld d_164_5 rfl rfl rfl ?_
  refine w_ld d_164_6 rfl rfl rfl ?_
  refine w_cVq (a := 46) (as := [_]) (rest := _) rfl d_164_7 (by rfl) (by rfl) (by first | rfl | assumption) (by rfl) (by rfl) (Nat.le_of_ble_eq_true rfl) (by omega) (by omega) (m_pu hS1) ?_ ?_
  rotate_left
  · rintro r τ ⟨hv9, _⟩
    cases hv9
  rintro vv2 τ2 ⟨hv2, μ2, rfl, hS2, hf2⟩
  obtain rfl := Sum.inl.inj hv2
  refine w_ld d_164_10 rfl rfl rfl ?_
  refine w_ld d_164_11 rfl rfl rfl ?_
  refine w_cVq (a := 46) (as := [_]) (rest := _) rfl d_164_12 (by rfl) (by rfl) (by first | rfl | assumption) (by rfl) (by rfl) (Nat.le_of_ble_eq_true rfl) (by omega) (by omega) (m_pu hS2) ?_ ?_
  rotate_left
  · rintro r τ ⟨hv9, _⟩
    cases hv9
  rintro vv3 τ3 ⟨hv3, μ3, rfl, hS3, hf3⟩
  obtain rfl := Sum.inl.inj hv3
  refine w_ld d_164_15 rfl rfl rfl ?_
  refine w_ld d_164_16 rfl rfl rfl ?_
  refine w_cVq (a := 46) (as := [_]) (rest := _) rfl d_164_18 (by rfl) (by rfl) (by first | rfl | assumption) (by rfl) (by rfl) (Nat.le_of_ble_eq_true rfl) (by omega) (by omega) (m_pu hS3) ?_ ?_
  rotate_left
  · rintro r τ ⟨hv9, _⟩
    cases hv9
  rintro vv4 τ4 ⟨hv4, μ4, rfl, hS4, hf4⟩
  obtain rfl := Sum.inl.inj hv4
  refine w_ld d_164_21 rfl rfl rfl ?_
  refine w_if_le (g := 32) d_164_23 (by decide) (by omega) (fun h23 => ?_) (fun h23 => ?_)
  · exact absurd h23 (by omega)
  · refine w_ld d_164_26 rfl rfl rfl ?_
    refine w_ld d_164_27 rfl rfl rfl ?_
    refine w_cVq (a := 46) (as := [_]) (rest := _) rfl d_164_29 (by rfl) (by rfl) (by first | rfl | assumption) (by rfl) (by rfl) (Nat.le_of_ble_eq_true rfl) (by omega) (by omega) (m_pu hS4) ?_ ?_
    rotate_left
    · rintro r τ ⟨hv9, _⟩
      cases hv9
    rintro vv5 τ5 ⟨hv5, μ5, rfl, hS5, hf5⟩
    obtain rfl := Sum.inl.inj hv5
    refine w_ret d_164_32 rfl ?_
    rw [wap_wap, wap_wap, wap_wap, wap_wap] at hS5
    exact ⟨rfl, _, rfl, hS5, pfr_trans (pfr_trans (pfr_trans (pfr_trans (hf1) hf2) hf3) hf4) hf5⟩
theorem m_tag1 {sc : Nat × (Nat → Int32)} {fr lo : Nat} {μ : Mem} {ρ : Nat × Nat × Nat} {s : Option (List Int × List (List Int))} (hS : MS s μ) {a b c d : Int} (ha : 0 < a ∧ a < 65536) (hb : b = 0) (hd : d = 0) (hf : 7 ≤ fr) (hl : 250 ≤ lo) : w_S sc fr lo 157 [.ref 46, .int (ji a), .int (ji b), .int (ji c), .int (ji d)] (hp μ, ρ) (fun o τ => o = .inl none ∧ ∃ μ', τ = (hp μ', ρ) ∧ MS (wrn (fun N => some (txt N [126, 35, a] 0, nts N [126, 35, a] 0)) s) μ' ∧ mw0 μ μ') := by
  refine w_S.of (L0 := [some (.ref 46), some (.int (ji a)), some (.int (ji b)), some (.int (ji c)), some (.int (ji d))]) rfl rfl (Nat.le_of_ble_eq_true rfl) (by rfl) ?_
  refine w_ld d_157_0 rfl rfl rfl ?_
  refine w_bip d_157_1 (by decide) ?_
  refine w_bip d_157_3 (by decide) ?_
  refine w_cVq (a := 46) (as := [_, _]) (rest := _) rfl d_157_5 (by rfl) (by rfl) (by first | rfl | assumption) (by rfl) (by rfl) (Nat.le_of_ble_eq_true rfl) (by omega) (by omega) (m_rawBegin (by decide) (by decide) (by omega) (by omega)) ?_ ?_
  rotate_left
  · rintro r τ ⟨hv9, _⟩
    cases hv9
  rintro vv1 τ1 ⟨hv1, μ1, rfl, hR1, hf1⟩
  obtain rfl := Sum.inl.inj hv1
  refine w_ld d_157_8 rfl rfl rfl ?_
  refine w_ld d_157_9 rfl rfl rfl ?_
  refine w_cVq (a := 46) (as := [_]) (rest := _) rfl d_157_10 (by rfl) (by rfl) (by first | rfl | assumption) (by rfl) (by rfl) (Nat.le_of_ble_eq_true rfl) (by omega) (by omega) (m_rpu hR1 (by omega) (by decide)) ?_ ?_
  rotate_left
  · rintro r τ ⟨hv9, _⟩
    cases hv9
  rintro vv2 τ2 ⟨hv2, μ2, rfl, hR2, hf2⟩
  obtain rfl := Sum.inl.inj hv2
  refine w_ld d_157_13 rfl rfl rfl ?_
  refine w_if_le (g := 27) d_157_14 (by decide) (by omega) (fun h14 => ?_) (fun h14 => ?_)
  · refine w_ld d_157_27 rfl rfl rfl ?_
    refine w_if_le (g := 38) d_157_29 (by decide) (by omega) (fun h29 => ?_) (fun h29 => ?_)
    · refine w_ld d_157_38 rfl rfl rfl ?_
      refine w_con d_157_39 ?_
      refine w_cVq (a := 46) (as := [_]) (rest := _) rfl d_157_40 (by rfl) (by rfl) (by first | rfl | assumption) (by rfl) (by rfl) (Nat.le_of_ble_eq_true rfl) (by omega) (by omega) (m_writeRaw (MS_r hS (rfr_trans (hf1) hf2)) hR2 (key := 0) (by decide) (by omega) (by omega)) ?_ ?_
      rotate_left
      · rintro r τ ⟨hv9, _⟩
        cases hv9
      rintro vv9 τ9 ⟨hv9, μ9, rfl, hS9, hf9⟩
      obtain rfl := Sum.inl.inj hv9
      refine w_ret d_157_43 rfl ?_
      exact ⟨rfl, _, rfl, hS9, mw0_trans (rfr.mw (rfr_trans (hf1) hf2)) hf9⟩
    · exact absurd h29 (by omega)
  · exact absurd h14 (by omega)
theorem m_tag3 {sc : Nat × (Nat → Int32)} {fr lo : Nat} {μ : Mem} {ρ : Nat × Nat × Nat} {s : Option (List Int × List (List Int))} (hS : MS s μ) {a b c d : Int} (ha : 0 < a ∧ a < 65536) (hb : 0 < b ∧ b < 65536) (hc : 0 < c ∧ c < 65536) (hd : d = 0) (hf : 7 ≤ fr) (hl : 250 ≤ lo) : w_S sc fr lo 157 [.ref 46, .int (ji a), .int (ji b), .int (ji c), .int (ji d)] (hp μ, ρ) (fun o τ => o = .inl none ∧ ∃ μ', τ = (hp μ', ρ) ∧ MS (wrn (fun N => some (txt N [126, 35, a, b, c] 0, nts N [126, 35, a, b, c] 0)) s) μ' ∧ mw0 μ μ') := by
  refine w_S.of (L0 := [some (.ref 46), some (.int (ji a)), some (.int (ji b)), some (.int (ji c)), some (.int (ji d))]) rfl rfl (Nat.le_of_ble_eq_true rfl) (by rfl) ?_
  refine w_ld d_157_0 rfl rfl rfl ?_
  refine w_bip d_157_1 (by decide) ?_
  refine w_bip d_157_3 (by decide) ?_
  refine w_cVq (a := 46) (as := [_, _]) (rest := _) rfl d_157_5 (by rfl) (by rfl) (by first | rfl | assumption) (by rfl) (by rfl) (Nat.le_of_ble_eq_true rfl) (by omega) (by omega) (m_rawBegin (by decide) (by decide) (by omega) (by omega)) ?_ ?_
  rotate_left
  · rintro r τ ⟨hv9, _⟩
    cases hv9
  rintro vv1 τ1 ⟨hv1, μ1, rfl, hR1, hf1⟩
  obtain rfl := Sum.inl.inj hv1
  refine w_ld d_157_8 rfl rfl rfl ?_
  refine w_ld d_157_9 rfl rfl rfl ?_
  refine w_cVq (a := 46) (as := [_]) (rest := _) rfl d_157_10 (by rfl) (by rfl) (by first | rfl | assumption) (by rfl) (by rfl) (Nat.le_of_ble_eq_true rfl) (by omega) (by omega) (m_rpu hR1 (by omega) (by decide)) ?_ ?_
  rotate_left
  · rintro r τ ⟨hv9, _⟩
    cases hv9
  rintro vv2 τ2 ⟨hv2, μ2, rfl, hR2, hf2⟩
  obtain rfl := Sum.inl.inj hv2
  refine w_ld d_157_13 rfl rfl rfl ?_
  refine w_if_le (g := 27) d_157_14 (by decide) (by omega) (fun h14 => ?_) (fun h14 => ?_)
  · exact absurd h14 (by omega)
  · refine w_ld d_157_17 rfl rfl rfl ?_
    refine w_ld d_157_18 rfl rfl rfl ?_
    refine w_cVq (a := 46) (as := [_]) (rest := _) rfl d_157_19 (by rfl) (by rfl) (by first | rfl | assumption) (by rfl) (by rfl) (Nat.le_of_ble_eq_true rfl) (by omega) (by omega) (m_rpu hR2 (by omega) (by simp)) ?_ ?_
    rotate_left
    · rintro r τ ⟨hv9, _⟩
      cases hv9
    rintro vv3 τ3 ⟨hv3, μ3, rfl, hR3, hf3⟩
    obtain rfl := Sum.inl.inj hv3
    refine w_ld d_157_22 rfl rfl rfl ?_
    refine w_ld d_157_23 rfl rfl rfl ?_
    refine w_cVq (a := 46) (as := [_]) (rest := _) rfl d_157_24 (by rfl) (by rfl) (by first | rfl | assumption) (by rfl) (by rfl) (Nat.le_of_ble_eq_true rfl) (by omega) (by omega) (m_rpu hR3 (by omega) (by simp)) ?_ ?_
    rotate_left
    · rintro r τ ⟨hv9, _⟩
      cases hv9
    rintro vv4 τ4 ⟨hv4, μ4, rfl, hR4, hf4⟩
    obtain rfl := Sum.inl.inj hv4
    refine w_ld d_157_27 rfl rfl rfl ?_
    refine w_if_le (g := 38) d_157_29 (by decide) (by omega) (fun h29 => ?_) (fun h29 => ?_)
    · refine w_ld d_157_38 rfl rfl rfl ?_
      refine w_con d_157_39 ?_
      refine w_cVq (a := 46) (as := [_]) (rest := _) rfl d_157_40 (by rfl) (by rfl) (by first | rfl | assumption) (by rfl) (by rfl) (Nat.le_of_ble_eq_true rfl) (by omega) (by omega) (m_writeRaw (MS_r hS (rfr_trans (rfr_trans (rfr_trans (hf1) hf2) hf3) hf4)) hR4 (key := 0) (by decide) (by omega) (by omega)) ?_ ?_
      rotate_left
      · rintro r τ ⟨hv9, _⟩
        cases hv9
      rintro vv9 τ9 ⟨hv9, μ9, rfl, hS9, hf9⟩
      obtain rfl := Sum.inl.inj hv9
      refine w_ret d_157_43 rfl ?_
      exact ⟨rfl, _, rfl, hS9, mw0_trans (rfr.mw (rfr_trans (rfr_trans (rfr_trans (hf1) hf2) hf3) hf4)) hf9⟩
    · exact absurd h29 (by omega)
theorem m_tag4 {sc : Nat × (Nat → Int32)} {fr lo : Nat} {μ : Mem} {ρ : Nat × Nat × Nat} {s : Option (List Int × List (List Int))} (hS : MS s μ) {a b c d : Int} (ha : 0 < a ∧ a < 65536) (hb : 0 < b ∧ b < 65536) (hc : 0 < c ∧ c < 65536) (hd : 0 < d ∧ d < 65536) (hf : 7 ≤ fr) (hl : 250 ≤ lo) : w_S sc fr lo 157 [.ref 46, .int (ji a), .int (ji b), .int (ji c), .int (ji d)] (hp μ, ρ) (fun o τ => o = .inl none ∧ ∃ μ', τ = (hp μ', ρ) ∧ MS (wrn (fun N => some (txt N [126, 35, a, b, c, d] 0, nts N [126, 35, a, b, c, d] 0)) s) μ' ∧ mw0 μ μ') := by
  refine w_S.of (L0 := [some (.ref 46), some (.int (ji a)), some (.int (ji b)), some (.int (ji c)), some (.int (ji d))]) rfl rfl (Nat.le_of_ble_eq_true rfl) (by rfl) ?_
  refine w_ld d_157_0 rfl rfl rfl ?_
  refine w_bip d_157_1 (by decide) ?_
  refine w_bip d_157_3 (by decide) ?_
  refine w_cVq (a := 46) (as := [_, _]) (rest := _) rfl d_157_5 (by rfl) (by rfl) (by first | rfl | assumption) (by rfl) (by rfl) (Nat.le_of_ble_eq_true rfl) (by omega) (by omega) (m_rawBegin (by decide) (by decide) (by omega) (by omega)) ?_ ?_
  rotate_left
  · rintro r τ ⟨hv9, _⟩
    cases hv9
  rintro vv1 τ1 ⟨hv1, μ1, rfl, hR1, hf1⟩
  obtain rfl := Sum.inl.inj hv1
  refine w_ld d_157_8 rfl rfl rfl ?_
  refine w_ld d_157_9 rfl rfl rfl ?_
  refine w_cVq (a := 46) (as := [_]) (rest := _) rfl d_157_10 (by rfl) (by rfl) (by first | rfl | assumption) (by rfl) (by rfl) (Nat.le_of_ble_eq_true rfl) (by omega) (by omega) (m_rpu hR1 (by omega) (by decide)) ?_ ?_
  rotate_left
  · rintro r τ ⟨hv9, _⟩
    cases hv9
  rintro vv2 τ2 ⟨hv2, μ2, rfl, hR2, hf2⟩
  obtain rfl := Sum.inl.inj hv2
  refine w_ld d_157_13 rfl rfl rfl ?_
  refine w_if_le (g := 27) d_157_14 (by decide) (by omega) (fun h14 => ?_) (fun h14 => ?_)
  · exact absurd h14 (by omega)
  · refine w_ld d_157_17 rfl rfl rfl ?_
    refine w_ld d_157_18 rfl rfl rfl ?_
    refine w_cVq (a := 46) (as := [_]) (rest := _) rfl d_157_19 (by rfl) (by rfl) (by first | rfl | assumption) (by rfl) (by rfl) (Nat.le_of_ble_eq_true rfl) (by omega) (by omega) (m_rpu hR2 (by omega) (by simp)) ?_ ?_
    rotate_left
    · rintro r τ ⟨hv9, _⟩
      cases hv9
    rintro vv3 τ3 ⟨hv3, μ3, rfl, hR3, hf3⟩
    obtain rfl := Sum.inl.inj hv3
    refine w_ld d_157_22 rfl rfl rfl ?_
    refine w_ld d_157_23 rfl rfl rfl ?_
    refine w_cVq (a := 46) (as := [_]) (rest := _) rfl d_157_24 (by rfl) (by rfl) (by first | rfl | assumption) (by rfl) (by rfl) (Nat.le_of_ble_eq_true rfl) (by omega) (by omega) (m_rpu hR3 (by omega) (by simp)) ?_ ?_
    rotate_left
    · rintro r τ ⟨hv9, _⟩
      cases hv9
    rintro vv4 τ4 ⟨hv4, μ4, rfl, hR4, hf4⟩
    obtain rfl := Sum.inl.inj hv4
    refine w_ld d_157_27 rfl rfl rfl ?_
    refine w_if_le (g := 38) d_157_29 (by decide) (by omega) (fun h29 => ?_) (fun h29 => ?_)
    · exact absurd h29 (by omega)
    · refine w_ld d_157_32 rfl rfl rfl ?_
      refine w_ld d_157_33 rfl rfl rfl ?_
      refine w_cVq (a := 46) (as := [_]) (rest := _) rfl d_157_35 (by rfl) (by rfl) (by first | rfl | assumption) (by rfl) (by rfl) (Nat.le_of_ble_eq_true rfl) (by omega) (by omega) (m_rpu hR4 (by omega) (by simp)) ?_ ?_
      rotate_left
      · rintro r τ ⟨hv9, _⟩
        cases hv9
      rintro vv5 τ5 ⟨hv5, μ5, rfl, hR5, hf5⟩
      obtain rfl := Sum.inl.inj hv5
      refine w_ld d_157_38 rfl rfl rfl ?_
      refine w_con d_157_39 ?_
      refine w_cVq (a := 46) (as := [_]) (rest := _) rfl d_157_40 (by rfl) (by rfl) (by first | rfl | assumption) (by rfl) (by rfl) (Nat.le_of_ble_eq_true rfl) (by omega) (by omega) (m_writeRaw (MS_r hS (rfr_trans (rfr_trans (rfr_trans (rfr_trans (hf1) hf2) hf3) hf4) hf5)) hR5 (key := 0) (by decide) (by omega) (by omega)) ?_ ?_
      rotate_left
      · rintro r τ ⟨hv9, _⟩
        cases hv9
      rintro vv9 τ9 ⟨hv9, μ9, rfl, hS9, hf9⟩
      obtain rfl := Sum.inl.inj hv9
      refine w_ret d_157_43 rfl ?_
      exact ⟨rfl, _, rfl, hS9, mw0_trans (rfr.mw (rfr_trans (rfr_trans (rfr_trans (rfr_trans (hf1) hf2) hf3) hf4) hf5)) hf9⟩
