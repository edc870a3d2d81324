/-! THE PURE PART, 13: contracts: the reference's take and pick; fewer locals -/
def l_le : List (Option Value) → List (Option Value) → Prop
  | [], _ => True
  | none :: t, _ :: u => l_le t u
  | some v :: t, x :: u => x = some v ∧ l_le t u
  | _ :: _, [] => False
theorem l_le.get : ∀ {K L : List (Option Value)}, l_le K L → ∀ (i : Nat) (v : Value), K[i]? = some (some v) → L[i]? = some (some v)
  | [], _, _, i, v, h => by simp at h
  | none :: t, _ :: u, hl, 0, v, h => by simp at h
  | none :: t, _ :: u, hl, i + 1, v, h => by simpa using l_le.get (K := t) (L := u) hl i v (by simpa using h)
  | some w :: t, x :: u, hl, 0, v, h => by
    simp at h
    simp [hl.1, h]
  | some w :: t, x :: u, hl, i + 1, v, h => by simpa using l_le.get (K := t) (L := u) hl.2 i v (by simpa using h)
  | none :: _, [], hl, _, _, _ => hl.elim
  | some _ :: _, [], hl, _, _, _ => hl.elim
theorem w_P.le {sc : Nat × (Nat → Int32)} {fr lo y own nL : Nat} {cons : Bool} {ret : Option FieldType} {cc : ByteArray} {pc : Nat} {L L' : List (Option Value)} {st : List Value} {τ : z_T} {Q : z_O → z_T → Prop} (k : w_P sc fr lo y own nL cons ret cc pc L' st τ Q) (h : l_le L' L) : w_P sc fr lo y own nL cons ret cc pc L st τ Q := w_P.less h.get k
/-- the reference's rows when n values from g on have been taken to the area r; words' places moved by s -/
def tko (μ : Mem) (r g s n : Int) : Mem := (μ.1, μ.2.1, fun b q => if 128 * r ≤ q ∧ q < 128 * r + n ∧ (b = 49 ∨ b = 50 ∨ b = 51 ∨ b = 52 ∨ b = 53 ∨ b = 54) then (if b = 51 then μ.2.2 b (g + (q - 128 * r)) + s else μ.2.2 b (g + (q - 128 * r))) else μ.2.2 b q)
theorem tko_0 (μ : Mem) (r g s : Int) : tko μ r g s 0 = μ := by
  refine Prod.ext rfl (Prod.ext rfl ?_)
  funext b j
  exact if_neg (by omega)
theorem tko_rd {μ : Mem} {b : Nat} {r g s i : Int} (hg : 128 * r ≤ g) : (tko μ r g s i).2.2 b (g + i) = μ.2.2 b (g + i) := if_neg (by omega)
theorem tko_s {μ : Mem} {r g s i : Int} (hi : 0 ≤ i) : stA (stA (stA (stA (stA (stA (tko μ r g s i) 49 (128 * r + i) (μ.2.2 49 (g + i))) 50 (128 * r + i) (μ.2.2 50 (g + i))) 51 (128 * r + i) (μ.2.2 51 (g + i) + s)) 52 (128 * r + i) (μ.2.2 52 (g + i))) 53 (128 * r + i) (μ.2.2 53 (g + i))) 54 (128 * r + i) (μ.2.2 54 (g + i)) = tko μ r g s (i + 1) := by
  refine Prod.ext rfl (Prod.ext rfl ?_)
  funext b j
  by_cases hb : b = 49 ∨ b = 50 ∨ b = 51 ∨ b = 52 ∨ b = 53 ∨ b = 54
  · by_cases hj : j = 128 * r + i
    · subst hj
      have h1 : 128 * r + i < 128 * r + (i + 1) := by omega
      have h2 : 128 * r ≤ 128 * r + i := by omega
      have h3 : 128 * r + i - 128 * r = i := by omega
      rcases hb with rfl | rfl | rfl | rfl | rfl | rfl <;> simp [stA, tko, h1, h2, h3]
    · have h1 : (j < 128 * r + (i + 1)) ↔ (j < 128 * r + i) := by omega
      simp [stA, tko, hj, h1]
  · have e1 : ¬ b = 49 := fun z => hb (Or.inl z)
    have e2 : ¬ b = 50 := fun z => hb (Or.inr (Or.inl z))
    have e3 : ¬ b = 51 := fun z => hb (Or.inr (Or.inr (Or.inl z)))
    have e4 : ¬ b = 52 := fun z => hb (Or.inr (Or.inr (Or.inr (Or.inl z))))
    have e5 : ¬ b = 53 := fun z => hb (Or.inr (Or.inr (Or.inr (Or.inr (Or.inl z)))))
    have e6 : ¬ b = 54 := fun z => hb (Or.inr (Or.inr (Or.inr (Or.inr (Or.inr z)))))
    simp [stA, tko, e1, e2, e3, e4, e5, e6]
theorem m_take_l {sc : Nat × (Nat → Int32)} {fr lo : Nat} {ρ : Nat × Nat × Nat} {μ : Mem} {r g s n : Int} (hr : r = 0 ∨ r = 1) (hk : 128 * r ≤ g ∧ 0 ≤ n ∧ n ≤ 128 ∧ g + n ≤ 384) : ∀ (m : Nat) (i : Int), (n - i).toNat = m → 0 ≤ i ∧ i ≤ n → w_P sc fr lo 151 7 7 false (none) prog_9_method_42_code 3 [some (.ref 46), some (.int (ji r)), some (.int (ji g)), some (.int (ji n)), some (.int (ji s)), some (.int (ji i)), none] [] (hp (tko μ r g s i), ρ) (fun o t => o = .inl none ∧ t = (hp (stA (tko μ r g s n) 48 r n), ρ)) := by
  intro m
  induction m using Nat.strongRecOn with
  | ind m ih =>
    intro i hm hi
    refine w_ld d_151_3 rfl rfl rfl ?_
    refine w_ld d_151_5 rfl rfl rfl ?_
    refine w_icmp_ge (g := 124) d_151_6 (by decide) (by omega) (fun h6 => ?_) (fun h6 => ?_)
    · refine w_ld d_151_124 rfl rfl rfl ?_
      refine w_getF d_151_125 (by rfl) (by first | rfl | assumption) (by rfl) (by rfl) ?_
      refine w_ld d_151_128 rfl rfl rfl ?_
      refine w_ld d_151_129 rfl rfl rfl ?_
      refine w_iast d_151_130 (by first | rfl | assumption) (by omega) ?_
      refine w_ret d_151_131 rfl ?_
      rw [show i = n by omega]
      exact ⟨rfl, rfl⟩
    · refine w_sip d_151_9 (by decide) ?_
      refine w_ld d_151_12 rfl rfl rfl ?_
      refine w_imul d_151_13 ?_
      refine w_ld d_151_14 rfl rfl rfl ?_
      refine w_iadd d_151_16 ?_
      refine w_st1 (L' := [_, _, _, _, _, _, _]) d_151_17 rfl (by decide) rfl (by decide) rfl ?_
      refine w_ld d_151_19 rfl rfl rfl ?_
      refine w_getF d_151_20 (by rfl) (by first | rfl | assumption) (by rfl) (by rfl) ?_
      refine w_ld d_151_23 rfl rfl rfl ?_
      refine w_ld d_151_25 rfl rfl rfl ?_
      refine w_getF d_151_26 (by rfl) (by first | rfl | assumption) (by rfl) (by rfl) ?_
      refine w_ld d_151_29 rfl rfl rfl ?_
      refine w_ld d_151_30 rfl rfl rfl ?_
      refine w_iadd d_151_32 ?_
      refine w_aI d_151_33 (by first | rfl | assumption) (by omega) (by first | (simp [stI, stA, stR]; exact tko_rd hk.1) | exact tko_rd hk.1) ?_
      refine w_iast d_151_34 (by first | rfl | assumption) (by omega) ?_
      refine w_ld d_151_35 rfl rfl rfl ?_
      refine w_getF d_151_36 (by rfl) (by first | rfl | assumption) (by rfl) (by rfl) ?_
      refine w_ld d_151_39 rfl rfl rfl ?_
      refine w_ld d_151_41 rfl rfl rfl ?_
      refine w_getF d_151_42 (by rfl) (by first | rfl | assumption) (by rfl) (by rfl) ?_
      refine w_ld d_151_45 rfl rfl rfl ?_
      refine w_ld d_151_46 rfl rfl rfl ?_
      refine w_iadd d_151_48 ?_
      refine w_aL d_151_49 (by first | rfl | assumption) (by omega) (by first | (simp [stI, stA, stR]; exact tko_rd hk.1) | exact tko_rd hk.1) ?_
      refine w_last d_151_50 (by first | rfl | assumption) (by omega) ?_
      refine w_ld d_151_51 rfl rfl rfl ?_
      refine w_getF d_151_52 (by rfl) (by first | rfl | assumption) (by rfl) (by rfl) ?_
      refine w_ld d_151_55 rfl rfl rfl ?_
      refine w_ld d_151_57 rfl rfl rfl ?_
      refine w_getF d_151_58 (by rfl) (by first | rfl | assumption) (by rfl) (by rfl) ?_
      refine w_ld d_151_61 rfl rfl rfl ?_
      refine w_ld d_151_62 rfl rfl rfl ?_
      refine w_iadd d_151_64 ?_
      refine w_aI d_151_65 (by first | rfl | assumption) (by omega) (by first | (simp [stI, stA, stR]; exact tko_rd hk.1) | exact tko_rd hk.1) ?_
      refine w_ld d_151_66 rfl rfl rfl ?_
      refine w_iadd d_151_68 ?_
      refine w_iast d_151_69 (by first | rfl | assumption) (by omega) ?_
      refine w_ld d_151_70 rfl rfl rfl ?_
      refine w_getF d_151_71 (by rfl) (by first | rfl | assumption) (by rfl) (by rfl) ?_
      refine w_ld d_151_74 rfl rfl rfl ?_
      refine w_ld d_151_76 rfl rfl rfl ?_
      refine w_getF d_151_77 (by rfl) (by first | rfl | assumption) (by rfl) (by rfl) ?_
      refine w_ld d_151_80 rfl rfl rfl ?_
      refine w_ld d_151_81 rfl rfl rfl ?_
      refine w_iadd d_151_83 ?_
      refine w_aI d_151_84 (by first | rfl | assumption) (by omega) (by first | (simp [stI, stA, stR]; exact tko_rd hk.1) | exact tko_rd hk.1) ?_
      refine w_iast d_151_85 (by first | rfl | assumption) (by omega) ?_
      refine w_ld d_151_86 rfl rfl rfl ?_
      refine w_getF d_151_87 (by rfl) (by first | rfl | assumption) (by rfl) (by rfl) ?_
      refine w_ld d_151_90 rfl rfl rfl ?_
      refine w_ld d_151_92 rfl rfl rfl ?_
      refine w_getF d_151_93 (by rfl) (by first | rfl | assumption) (by rfl) (by rfl) ?_
      refine w_ld d_151_96 rfl rfl rfl ?_
      refine w_ld d_151_97 rfl rfl rfl ?_
      refine w_iadd d_151_99 ?_
      refine w_aI d_151_100 (by first | rfl | assumption) (by omega) (by first | (simp [stI, stA, stR]; exact tko_rd hk.1) | exact tko_rd hk.1) ?_
      refine w_iast d_151_101 (by first | rfl | assumption) (by omega) ?_
      refine w_ld d_151_102 rfl rfl rfl ?_
      refine w_getF d_151_103 (by rfl) (by first | rfl | assumption) (by rfl) (by rfl) ?_
      refine w_ld d_151_106 rfl rfl rfl ?_
      refine w_ld d_151_108 rfl rfl rfl ?_
      refine w_getF d_151_109 (by rfl) (by first | rfl | assumption) (by rfl) (by rfl) ?_
      refine w_ld d_151_112 rfl rfl rfl ?_
      refine w_ld d_151_113 rfl rfl rfl ?_
      refine w_iadd d_151_115 ?_
      refine w_aI d_151_116 (by first | rfl | assumption) (by omega) (by first | (simp [stI, stA, stR]; exact tko_rd hk.1) | exact tko_rd hk.1) ?_
      refine w_iast d_151_117 (by first | rfl | assumption) (by omega) ?_
      refine w_inc (L' := [_, _, _, _, _, _, _]) d_151_118 rfl (by decide) rfl ?_
      refine w_goto (g := 3) d_151_121 (by decide) ?_
      rw [tko_s hi.1]
      exact (ih _ (by omega) (i + 1) rfl (by omega)).le ⟨rfl, rfl, rfl, rfl, rfl, rfl, trivial⟩
theorem m_take {sc : Nat × (Nat → Int32)} {fr lo : Nat} {μ : Mem} {ρ : Nat × Nat × Nat} {r g s n : Int} (hr : r = 0 ∨ r = 1) (hk : 128 * r ≤ g ∧ 0 ≤ n ∧ n ≤ 128 ∧ g + n ≤ 384) : w_E sc fr lo 151 [.ref 46, .int (ji r), .int (ji g), .int (ji n), .int (ji s)] (hp μ, ρ) (.inl none) (hp (stA (tko μ r g s n) 48 r n), ρ) := by
  refine w_S.of (L0 := [some (.ref 46), some (.int (ji r)), some (.int (ji g)), some (.int (ji n)), some (.int (ji s)), none, none]) rfl rfl (Nat.le_of_ble_eq_true rfl) (by rfl) ?_
  refine w_con d_151_0 ?_
  refine w_st1 (L' := [_, _, _, _, _, _, _]) d_151_1 rfl (by decide) rfl (by decide) rfl ?_
  have h := m_take_l (sc := sc) (fr := fr) (lo := lo) (μ := μ) (ρ := ρ) (s := s) hr hk _ 0 rfl (by omega)
  rw [tko_0] at h
  exact h
theorem m_pick {sc : Nat × (Nat → Int32)} {fr lo : Nat} {μ : Mem} {ρ : Nat × Nat × Nat} {k : Int} (hk : k = 0 ∨ k = 1) {ar : Int} (hA : μ.1 46 4 = 0 ∧ ar = k ∨ μ.1 46 4 = 1 ∧ ar = 1 - k) (hm : 0 ≤ μ.2.2 48 ar ∧ μ.2.2 48 ar ≤ 128) {v : Int} (hv : 0 ≤ v ∧ v < μ.2.2 48 ar) (hsp : 0 < μ.2.2 54 (128 * ar + v) ∧ v + μ.2.2 54 (128 * ar + v) ≤ 128) (hf : 6 ≤ fr) (hl : 250 ≤ lo) : w_E sc fr lo 178 [.ref 46, .int (ji k), .int (ji v)] (hp μ, ρ) (.inl (some (.int (ji (μ.2.2 54 (128 * ar + v)))))) (hp (stA (tko (stI μ 46 0 0) ar (128 * ar + v) 0 (μ.2.2 54 (128 * ar + v))) 48 ar (μ.2.2 54 (128 * ar + v))), ρ) := by
  refine w_S.of (L0 := [some (.ref 46), some (.int (ji k)), some (.int (ji v)), none]) rfl rfl (Nat.le_of_ble_eq_true rfl) (by rfl) ?_
  refine w_ld d_178_0 rfl rfl rfl ?_
  refine w_ld d_178_1 rfl rfl rfl ?_
  refine w_ld d_178_2 rfl rfl rfl ?_
  refine w_cV1 (as := [_, _]) (rest := _) rfl d_178_3 (by rfl) (by rfl) (by first | rfl | assumption) (by rfl) (by rfl) (Nat.le_of_ble_eq_true rfl) (by omega) (by omega) (m_none hk hA hm hv (by omega) (by omega)) ?_
  refine w_if_eq (g := 11) d_178_6 (by decide) (by omega) (fun h6 => ?_) (fun h6 => ?_)
  · refine w_ld d_178_11 rfl rfl rfl ?_
    refine w_ld d_178_12 rfl rfl rfl ?_
    refine w_cV1 (as := [_]) (rest := _) rfl d_178_13 (by rfl) (by rfl) (by first | rfl | assumption) (by rfl) (by rfl) (Nat.le_of_ble_eq_true rfl) (by omega) (by omega) (m_are (ar := ar) (by simpa [stI] using hA)) ?_
    refine w_st1 (L' := [_, _, _, _]) d_178_16 rfl (by decide) rfl (by decide) rfl ?_
    refine w_ld d_178_17 rfl rfl rfl ?_
    refine w_ld d_178_18 rfl rfl rfl ?_
    refine w_sip d_178_19 (by decide) ?_
    refine w_ld d_178_22 rfl rfl rfl ?_
    refine w_imul d_178_23 ?_
    refine w_ld d_178_24 rfl rfl rfl ?_
    refine w_iadd d_178_25 ?_
    refine w_ld d_178_26 rfl rfl rfl ?_
    refine w_getF d_178_27 (by rfl) (by first | rfl | assumption) (by rfl) (by rfl) ?_
    refine w_sip d_178_30 (by decide) ?_
    refine w_ld d_178_33 rfl rfl rfl ?_
    refine w_imul d_178_34 ?_
    refine w_ld d_178_35 rfl rfl rfl ?_
    refine w_iadd d_178_36 ?_
    refine w_aI d_178_37 (by first | rfl | assumption) (by omega) (by (try simp [stI, stA, stR]) <;> rfl) ?_
    refine w_con d_178_38 ?_
    refine w_cV0 (as := [_, _, _, _]) (rest := _) rfl d_178_39 (by rfl) (by rfl) (by first | rfl | assumption) (by rfl) (by rfl) (Nat.le_of_ble_eq_true rfl) (by omega) (by omega) (m_take (by omega) (by omega)) ?_
    refine w_ld d_178_42 rfl rfl rfl ?_
    refine w_getF d_178_43 (by rfl) (by first | rfl | assumption) (by rfl) (by rfl) ?_
    refine w_ld d_178_46 rfl rfl rfl ?_
    refine w_aI d_178_47 (by first | rfl | assumption) (by omega) (by (try simp [stI, stA, stR]) <;> rfl) ?_
    refine w_iret d_178_48 rfl ?_
    exact ⟨rfl, rfl⟩
  · omega
theorem m_pickx1 {sc : Nat × (Nat → Int32)} {fr lo : Nat} {μ : Mem} {ρ : Nat × Nat × Nat} {k : Int} (hk : -2147483648 ≤ k ∧ k < 2147483648) {v : Int} (h01 : ¬ (k = 0 ∨ k = 1)) (hf : 6 ≤ fr) (hl : 250 ≤ lo) : w_E sc fr lo 178 [.ref 46, .int (ji k), .int (ji v)] (hp μ, ρ) (.inl (some (.int (ji 0)))) (hp (stI μ 46 0 1), ρ) := by
  refine w_S.of (L0 := [some (.ref 46), some (.int (ji k)), some (.int (ji v)), none]) rfl rfl (Nat.le_of_ble_eq_true rfl) (by rfl) ?_
  refine w_ld d_178_0 rfl rfl rfl ?_
  refine w_ld d_178_1 rfl rfl rfl ?_
  refine w_ld d_178_2 rfl rfl rfl ?_
  refine w_cV1 (as := [_, _]) (rest := _) rfl d_178_3 (by rfl) (by rfl) (by first | rfl | assumption) (by rfl) (by rfl) (Nat.le_of_ble_eq_true rfl) (by omega) (by omega) (m_nonex1 hk h01 (by omega) (by omega)) ?_
  refine w_if_eq (g := 11) d_178_6 (by decide) (by omega) (fun h6 => ?_) (fun h6 => ?_)
  · omega
  · refine w_con d_178_9 ?_
    refine w_iret d_178_10 rfl ?_
    exact ⟨rfl, rfl⟩
theorem m_pickx2 {sc : Nat × (Nat → Int32)} {fr lo : Nat} {μ : Mem} {ρ : Nat × Nat × Nat} {k : Int} (hk : k = 0 ∨ k = 1) {ar : Int} (hA : μ.1 46 4 = 0 ∧ ar = k ∨ μ.1 46 4 = 1 ∧ ar = 1 - k) (hm : 0 ≤ μ.2.2 48 ar ∧ μ.2.2 48 ar ≤ 128) {v : Int} (hv0 : -2147483648 ≤ v ∧ v < 2147483648) (hv : ¬ (0 ≤ v ∧ v < μ.2.2 48 ar)) (hf : 6 ≤ fr) (hl : 250 ≤ lo) : w_E sc fr lo 178 [.ref 46, .int (ji k), .int (ji v)] (hp μ, ρ) (.inl (some (.int (ji 0)))) (hp (stI μ 46 0 1), ρ) := by
  refine w_S.of (L0 := [some (.ref 46), some (.int (ji k)), some (.int (ji v)), none]) rfl rfl (Nat.le_of_ble_eq_true rfl) (by rfl) ?_
  refine w_ld d_178_0 rfl rfl rfl ?_
  refine w_ld d_178_1 rfl rfl rfl ?_
  refine w_ld d_178_2 rfl rfl rfl ?_
  refine w_cV1 (as := [_, _]) (rest := _) rfl d_178_3 (by rfl) (by rfl) (by first | rfl | assumption) (by rfl) (by rfl) (Nat.le_of_ble_eq_true rfl) (by omega) (by omega) (m_nonex2 hk hA hm hv0 hv (by omega) (by omega)) ?_
  refine w_if_eq (g := 11) d_178_6 (by decide) (by omega) (fun h6 => ?_) (fun h6 => ?_)
  · omega
  · refine w_con d_178_9 ?_
    refine w_iret d_178_10 rfl ?_
    exact ⟨rfl, rfl⟩
