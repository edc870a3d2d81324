/-! THE PURE PART, 38: the other easy cases of the law, one round of its loop -/
theorem lc_type {sc : Nat × (Nat → Int32)} {μ μ1 μ2 : Mem} {ρ ρ1 ρ2 : Nat × Nat × Nat} {Q : z_O → z_T → Prop} {i c b : Int} (hi : 0 ≤ i ∧ i + 3 < sc.1 ∧ sc.1 ≤ 2048) (hC : w_E sc (2048 - 1) (84000 - (19 + 5)) 7 [.ref 0, .int (ji (scv sc (i + 1)))] (hp μ, ρ) (.inl (some (.int (ji c)))) (hp μ1, ρ1)) (hM : w_E sc (2048 - 1) (84000 - (19 + 5)) 111 [.ref 46, .int (ji (scv sc (i + 1)))] (hp μ1, ρ1) (.inl (some (.int (ji b)))) (hp μ2, ρ2)) (he : c = b) (hb : -2147483648 ≤ b ∧ b < 2147483648) (K : w_P sc 2048 84000 9999 8 8 false ret code 742 [some (.float 1000), some (.ref 0), some (.ref 46), some (.ref 73), some (.int (ji i)), none, none, none] [] (hp μ2, ρ2) Q) : w_P sc 2048 84000 9999 8 8 false ret code 112 [some (.float 1000), some (.ref 0), some (.ref 46), some (.ref 73), some (.int (ji i)), none, none, none] [] (hp μ, ρ) Q := by
  refine w_ld d_L_112 rfl rfl rfl ?_
  refine w_ld d_L_113 rfl rfl rfl ?_
  refine w_ld d_L_114 rfl rfl rfl ?_
  refine w_con d_L_116 ?_
  refine w_iadd d_L_117 ?_
  refine w_scr d_L_118 (by omega) ?_
  refine w_cV1 (as := [_]) (rest := _) (by decide) d_L_119 (by rfl) (by rfl) rfl (by rfl) (by rfl) (Nat.le_of_ble_eq_true rfl) (by omega) (by omega) hC ?_
  refine w_ld d_L_122 rfl rfl rfl ?_
  refine w_ld d_L_123 rfl rfl rfl ?_
  refine w_ld d_L_124 rfl rfl rfl ?_
  refine w_con d_L_126 ?_
  refine w_iadd d_L_127 ?_
  refine w_scr d_L_128 (by omega) ?_
  refine w_cV1 (as := [_]) (rest := _) (by decide) d_L_129 (by rfl) (by rfl) rfl (by rfl) (by rfl) (Nat.le_of_ble_eq_true rfl) (by omega) (by omega) hM ?_
  exact w_icmp_eq (g := 742) d_L_132 (by decide) (by omega) (fun _ => K) (fun h => absurd he h)
theorem lc_length {sc : Nat × (Nat → Int32)} {μ μ1 μ2 : Mem} {ρ ρ1 ρ2 : Nat × Nat × Nat} {Q : z_O → z_T → Prop} {i c b : Int} (hi : 0 ≤ i ∧ i + 3 < sc.1 ∧ sc.1 ≤ 2048) (hC : w_E sc (2048 - 1) (84000 - (19 + 1)) 11 [.ref 0] (hp μ, ρ) (.inl (some (.int (ji c)))) (hp μ1, ρ1)) (hM : w_E sc (2048 - 1) (84000 - (19 + 1)) 113 [.ref 46] (hp μ1, ρ1) (.inl (some (.int (ji b)))) (hp μ2, ρ2)) (he : c = b) (hb : -2147483648 ≤ b ∧ b < 2147483648) (K : w_P sc 2048 84000 9999 8 8 false ret code 742 [some (.float 1000), some (.ref 0), some (.ref 46), some (.ref 73), some (.int (ji i)), none, none, none] [] (hp μ2, ρ2) Q) : w_P sc 2048 84000 9999 8 8 false ret code 148 [some (.float 1000), some (.ref 0), some (.ref 46), some (.ref 73), some (.int (ji i)), none, none, none] [] (hp μ, ρ) Q := by
  refine w_ld d_L_148 rfl rfl rfl ?_
  refine w_cV1 (as := []) (rest := _) (by decide) d_L_149 (by rfl) (by rfl) rfl (by rfl) (by rfl) (Nat.le_of_ble_eq_true rfl) (by omega) (by omega) hC ?_
  refine w_ld d_L_152 rfl rfl rfl ?_
  refine w_cV1 (as := []) (rest := _) (by decide) d_L_153 (by rfl) (by rfl) rfl (by rfl) (by rfl) (Nat.le_of_ble_eq_true rfl) (by omega) (by omega) hM ?_
  exact w_icmp_eq (g := 742) d_L_156 (by decide) (by omega) (fun _ => K) (fun h => absurd he h)
theorem lc_at {sc : Nat × (Nat → Int32)} {μ μ1 μ2 : Mem} {ρ ρ1 ρ2 : Nat × Nat × Nat} {Q : z_O → z_T → Prop} {i c b : Int} (hi : 0 ≤ i ∧ i + 3 < sc.1 ∧ sc.1 ≤ 2048) (hC : w_E sc (2048 - 1) (84000 - (19 + 2)) 12 [.ref 0, .int (ji (scv sc (i + 1)))] (hp μ, ρ) (.inl (some (.int (ji c)))) (hp μ1, ρ1)) (hM : w_E sc (2048 - 1) (84000 - (19 + 2)) 114 [.ref 46, .int (ji (scv sc (i + 1)))] (hp μ1, ρ1) (.inl (some (.int (ji b)))) (hp μ2, ρ2)) (he : c = b) (hb : -2147483648 ≤ b ∧ b < 2147483648) (K : w_P sc 2048 84000 9999 8 8 false ret code 742 [some (.float 1000), some (.ref 0), some (.ref 46), some (.ref 73), some (.int (ji i)), none, none, none] [] (hp μ2, ρ2) Q) : w_P sc 2048 84000 9999 8 8 false ret code 161 [some (.float 1000), some (.ref 0), some (.ref 46), some (.ref 73), some (.int (ji i)), none, none, none] [] (hp μ, ρ) Q := by
  refine w_ld d_L_161 rfl rfl rfl ?_
  refine w_ld d_L_162 rfl rfl rfl ?_
  refine w_ld d_L_163 rfl rfl rfl ?_
  refine w_con d_L_165 ?_
  refine w_iadd d_L_166 ?_
  refine w_scr d_L_167 (by omega) ?_
  refine w_cV1 (as := [_]) (rest := _) (by decide) d_L_168 (by rfl) (by rfl) rfl (by rfl) (by rfl) (Nat.le_of_ble_eq_true rfl) (by omega) (by omega) hC ?_
  refine w_ld d_L_171 rfl rfl rfl ?_
  refine w_ld d_L_172 rfl rfl rfl ?_
  refine w_ld d_L_173 rfl rfl rfl ?_
  refine w_con d_L_175 ?_
  refine w_iadd d_L_176 ?_
  refine w_scr d_L_177 (by omega) ?_
  refine w_cV1 (as := [_]) (rest := _) (by decide) d_L_178 (by rfl) (by rfl) rfl (by rfl) (by rfl) (Nat.le_of_ble_eq_true rfl) (by omega) (by omega) hM ?_
  exact w_icmp_eq (g := 742) d_L_181 (by decide) (by omega) (fun _ => K) (fun h => absurd he h)
theorem lc_fault {sc : Nat × (Nat → Int32)} {μ μ1 μ2 : Mem} {ρ ρ1 ρ2 : Nat × Nat × Nat} {Q : z_O → z_T → Prop} {i c b : Int} (hi : 0 ≤ i ∧ i + 3 < sc.1 ∧ sc.1 ≤ 2048) (hC : w_E sc (2048 - 1) (84000 - (19 + 1)) 14 [.ref 0] (hp μ, ρ) (.inl (some (.int (ji c)))) (hp μ1, ρ1)) (hM : w_E sc (2048 - 1) (84000 - (19 + 1)) 152 [.ref 46] (hp μ1, ρ1) (.inl (some (.int (ji b)))) (hp μ2, ρ2)) (he : c = b) (hb : -2147483648 ≤ b ∧ b < 2147483648) (K : w_P sc 2048 84000 9999 8 8 false ret code 742 [some (.float 1000), some (.ref 0), some (.ref 46), some (.ref 73), some (.int (ji i)), none, none, none] [] (hp μ2, ρ2) Q) : w_P sc 2048 84000 9999 8 8 false ret code 242 [some (.float 1000), some (.ref 0), some (.ref 46), some (.ref 73), some (.int (ji i)), none, none, none] [] (hp μ, ρ) Q := by
  refine w_ld d_L_242 rfl rfl rfl ?_
  refine w_cV1 (as := []) (rest := _) (by decide) d_L_243 (by rfl) (by rfl) rfl (by rfl) (by rfl) (Nat.le_of_ble_eq_true rfl) (by omega) (by omega) hC ?_
  refine w_ld d_L_246 rfl rfl rfl ?_
  refine w_cV1 (as := []) (rest := _) (by decide) d_L_247 (by rfl) (by rfl) rfl (by rfl) (by rfl) (Nat.le_of_ble_eq_true rfl) (by omega) (by omega) hM ?_
  exact w_icmp_eq (g := 742) d_L_250 (by decide) (by omega) (fun _ => K) (fun h => absurd he h)
theorem lc_same {sc : Nat × (Nat → Int32)} {μ μ1 μ2 : Mem} {ρ ρ1 ρ2 : Nat × Nat × Nat} {Q : z_O → z_T → Prop} {i c b : Int} (hi : 0 ≤ i ∧ i + 3 < sc.1 ∧ sc.1 ≤ 2048) (hC : w_E sc (2048 - 1) (84000 - (19 + 1)) 15 [.ref 0] (hp μ, ρ) (.inl (some (.int (ji c)))) (hp μ1, ρ1)) (hM : w_E sc (2048 - 1) (84000 - (19 + 3)) 179 [.ref 46] (hp μ1, ρ1) (.inl (some (.int (ji b)))) (hp μ2, ρ2)) (he : c = b) (hb : -2147483648 ≤ b ∧ b < 2147483648) (K : w_P sc 2048 84000 9999 8 8 false ret code 742 [some (.float 1000), some (.ref 0), some (.ref 46), some (.ref 73), some (.int (ji i)), none, none, none] [] (hp μ2, ρ2) Q) : w_P sc 2048 84000 9999 8 8 false ret code 718 [some (.float 1000), some (.ref 0), some (.ref 46), some (.ref 73), some (.int (ji i)), none, none, none] [] (hp μ, ρ) Q := by
  refine w_ld d_L_718 rfl rfl rfl ?_
  refine w_cV1 (as := []) (rest := _) (by decide) d_L_719 (by rfl) (by rfl) rfl (by rfl) (by rfl) (Nat.le_of_ble_eq_true rfl) (by omega) (by omega) hC ?_
  refine w_ld d_L_722 rfl rfl rfl ?_
  refine w_cV1 (as := []) (rest := _) (by decide) d_L_723 (by rfl) (by rfl) rfl (by rfl) (by rfl) (Nat.le_of_ble_eq_true rfl) (by omega) (by omega) hM ?_
  exact w_icmp_eq (g := 742) d_L_726 (by decide) (by omega) (fun _ => K) (fun h => absurd he h)
theorem lc_wipe {sc : Nat × (Nat → Int32)} {μ μ1 μ2 : Mem} {ρ ρ1 ρ2 : Nat × Nat × Nat} {Q : z_O → z_T → Prop} {i : Int} (hC : w_E sc (2048 - 1) (84000 - (19 + 1)) 9 [.ref 0] (hp μ, ρ) (.inl none) (hp μ1, ρ1)) (hM : w_E sc (2048 - 1) (84000 - (19 + 1)) 112 [.ref 46] (hp μ1, ρ1) (.inl none) (hp μ2, ρ2)) (K : w_P sc 2048 84000 9999 8 8 false ret code 742 [some (.float 1000), some (.ref 0), some (.ref 46), some (.ref 73), some (.int (ji i)), none, none, none] [] (hp μ2, ρ2) Q) : w_P sc 2048 84000 9999 8 8 false ret code 137 [some (.float 1000), some (.ref 0), some (.ref 46), some (.ref 73), some (.int (ji i)), none, none, none] [] (hp μ, ρ) Q := by
  refine w_ld d_L_137 rfl rfl rfl ?_
  refine w_cV0 (as := []) (rest := _) (by decide) d_L_138 (by rfl) (by rfl) rfl (by rfl) (by rfl) (Nat.le_of_ble_eq_true rfl) (by omega) (by omega) hC ?_
  refine w_ld d_L_141 rfl rfl rfl ?_
  refine w_cV0 (as := []) (rest := _) (by decide) d_L_142 (by rfl) (by rfl) rfl (by rfl) (by rfl) (Nat.le_of_ble_eq_true rfl) (by omega) (by omega) hM ?_
  refine w_goto (g := 742) d_L_145 (by decide) ?_
  exact K
theorem lc_swap {sc : Nat × (Nat → Int32)} {μ μ1 μ2 : Mem} {ρ ρ1 ρ2 : Nat × Nat × Nat} {Q : z_O → z_T → Prop} {i : Int} (hC : w_E sc (2048 - 1) (84000 - (19 + 2)) 22 [.ref 0] (hp μ, ρ) (.inl none) (hp μ1, ρ1)) (hM : w_E sc (2048 - 1) (84000 - (19 + 1)) 180 [.ref 46] (hp μ1, ρ1) (.inl none) (hp μ2, ρ2)) (K : w_P sc 2048 84000 9999 8 8 false ret code 742 [some (.float 1000), some (.ref 0), some (.ref 46), some (.ref 73), some (.int (ji i)), none, none, none] [] (hp μ2, ρ2) Q) : w_P sc 2048 84000 9999 8 8 false ret code 731 [some (.float 1000), some (.ref 0), some (.ref 46), some (.ref 73), some (.int (ji i)), none, none, none] [] (hp μ, ρ) Q := by
  refine w_ld d_L_731 rfl rfl rfl ?_
  refine w_cV0 (as := []) (rest := _) (by decide) d_L_732 (by rfl) (by rfl) rfl (by rfl) (by rfl) (Nat.le_of_ble_eq_true rfl) (by omega) (by omega) hC ?_
  refine w_ld d_L_735 rfl rfl rfl ?_
  refine w_cV0 (as := []) (rest := _) (by decide) d_L_736 (by rfl) (by rfl) rfl (by rfl) (by rfl) (Nat.le_of_ble_eq_true rfl) (by omega) (by omega) hM ?_
  refine w_goto (g := 742) d_L_739 (by decide) ?_
  exact K
theorem la_length {sc : Nat × (Nat → Int32)} {μ : Mem} {ρ : Nat × Nat × Nat} {Q : z_O → z_T → Prop} {i : Int} (hi : 0 ≤ i ∧ i + 3 < sc.1 ∧ sc.1 ≤ 2048) (h : IvL μ) (hρ : 1 ≤ ρ.2.1 ∧ 6 ≤ ρ.2.2) (K : ∀ μ' ρ', IvL μ' → (ρ.2.1 ≤ ρ'.2.1 + 1 ∧ ρ.2.2 ≤ ρ'.2.2 + 6) → w_P sc 2048 84000 9999 8 8 false ret code 742 [some (.float 1000), some (.ref 0), some (.ref 46), some (.ref 73), some (.int (ji i)), none, none, none] [] (hp μ', ρ') Q) : w_P sc 2048 84000 9999 8 8 false ret code 148 [some (.float 1000), some (.ref 0), some (.ref 46), some (.ref 73), some (.int (ji i)), none, none, none] [] (hp μ, ρ) Q := by
  obtain ⟨k1, ⟨x, hx, q1, q2, q3, q4⟩, k3, k4⟩ := id h
  have hL : isL x 240 := Or.inl ⟨by omega, rfl⟩
  have g1 := (k1 x 240 hL).1
  have hp1 := scv_in sc (i + 1)
  have K0 := K (stI μ 46 0 0) ρ (IvL_code h 0) (by omega)
  exact lc_length hi (t_length hL q1) m_length q3.symm (by omega) K0
theorem la_fault {sc : Nat × (Nat → Int32)} {μ : Mem} {ρ : Nat × Nat × Nat} {Q : z_O → z_T → Prop} {i : Int} (hi : 0 ≤ i ∧ i + 3 < sc.1 ∧ sc.1 ≤ 2048) (h : IvL μ) (hρ : 1 ≤ ρ.2.1 ∧ 6 ≤ ρ.2.2) (K : ∀ μ' ρ', IvL μ' → (ρ.2.1 ≤ ρ'.2.1 + 1 ∧ ρ.2.2 ≤ ρ'.2.2 + 6) → w_P sc 2048 84000 9999 8 8 false ret code 742 [some (.float 1000), some (.ref 0), some (.ref 46), some (.ref 73), some (.int (ji i)), none, none, none] [] (hp μ', ρ') Q) : w_P sc 2048 84000 9999 8 8 false ret code 242 [some (.float 1000), some (.ref 0), some (.ref 46), some (.ref 73), some (.int (ji i)), none, none, none] [] (hp μ, ρ) Q := by
  obtain ⟨k1, ⟨x, hx, q1, q2, q3, q4⟩, k3, k4⟩ := id h
  have hL : isL x 240 := Or.inl ⟨by omega, rfl⟩
  have g1 := (k1 x 240 hL).1
  have hp1 := scv_in sc (i + 1)
  have K0 := K (stI μ 46 0 0) ρ (IvL_code h 0) (by omega)
  exact lc_fault hi t_fault m_fault k3.1 (by omega) K0
theorem la_at {sc : Nat × (Nat → Int32)} {μ : Mem} {ρ : Nat × Nat × Nat} {Q : z_O → z_T → Prop} {i : Int} (hi : 0 ≤ i ∧ i + 3 < sc.1 ∧ sc.1 ≤ 2048) (h : IvL μ) (hρ : 1 ≤ ρ.2.1 ∧ 6 ≤ ρ.2.2) (K : ∀ μ' ρ', IvL μ' → (ρ.2.1 ≤ ρ'.2.1 + 1 ∧ ρ.2.2 ≤ ρ'.2.2 + 6) → w_P sc 2048 84000 9999 8 8 false ret code 742 [some (.float 1000), some (.ref 0), some (.ref 46), some (.ref 73), some (.int (ji i)), none, none, none] [] (hp μ', ρ') Q) : w_P sc 2048 84000 9999 8 8 false ret code 161 [some (.float 1000), some (.ref 0), some (.ref 46), some (.ref 73), some (.int (ji i)), none, none, none] [] (hp μ, ρ) Q := by
  obtain ⟨k1, ⟨x, hx, q1, q2, q3, q4⟩, k3, k4⟩ := id h
  have hL : isL x 240 := Or.inl ⟨by omega, rfl⟩
  have g1 := (k1 x 240 hL).1
  have hp1 := scv_in sc (i + 1)
  have K0 := K (stI μ 46 0 0) ρ (IvL_code h 0) (by omega)
  have hc := (k1 x 240 hL).2 (scv sc (i + 1))
  refine lc_at hi (t_at hL q1 (by omega) (by omega) g1 hp1) (m_at (by omega) hp1) ?_ ?_ K0
  · by_cases z : 0 ≤ scv sc (i + 1) ∧ scv sc (i + 1) < μ.1 x 1
    · rw [if_pos z, if_neg (by omega), (q4 _ z.1 z.2).1]
    · rw [if_neg z, if_pos (by omega)]
  · split
    · decide
    · rw [(q4 _ (by omega) (by omega)).1]
      omega
theorem la_wipe {sc : Nat × (Nat → Int32)} {μ : Mem} {ρ : Nat × Nat × Nat} {Q : z_O → z_T → Prop} {i : Int} (hi : 0 ≤ i ∧ i + 3 < sc.1 ∧ sc.1 ≤ 2048) (h : IvL μ) (hρ : 1 ≤ ρ.2.1 ∧ 6 ≤ ρ.2.2) (K : ∀ μ' ρ', IvL μ' → (ρ.2.1 ≤ ρ'.2.1 + 1 ∧ ρ.2.2 ≤ ρ'.2.2 + 6) → w_P sc 2048 84000 9999 8 8 false ret code 742 [some (.float 1000), some (.ref 0), some (.ref 46), some (.ref 73), some (.int (ji i)), none, none, none] [] (hp μ', ρ') Q) : w_P sc 2048 84000 9999 8 8 false ret code 137 [some (.float 1000), some (.ref 0), some (.ref 46), some (.ref 73), some (.int (ji i)), none, none, none] [] (hp μ, ρ) Q := by
  obtain ⟨k1, ⟨x, hx, q1, q2, q3, q4⟩, k3, k4⟩ := id h
  have hL : isL x 240 := Or.inl ⟨by omega, rfl⟩
  have g1 := (k1 x 240 hL).1
  have hp1 := scv_in sc (i + 1)
  have K0 := K (stI μ 46 0 0) ρ (IvL_code h 0) (by omega)
  exact lc_wipe (t_wipe hL q1 (by omega) (by omega) g1) m_wipe (K _ ρ (IvL_wipe hx h q1) (by omega))
theorem la_swap {sc : Nat × (Nat → Int32)} {μ : Mem} {ρ : Nat × Nat × Nat} {Q : z_O → z_T → Prop} {i : Int} (hi : 0 ≤ i ∧ i + 3 < sc.1 ∧ sc.1 ≤ 2048) (h : IvL μ) (hρ : 1 ≤ ρ.2.1 ∧ 6 ≤ ρ.2.2) (K : ∀ μ' ρ', IvL μ' → (ρ.2.1 ≤ ρ'.2.1 + 1 ∧ ρ.2.2 ≤ ρ'.2.2 + 6) → w_P sc 2048 84000 9999 8 8 false ret code 742 [some (.float 1000), some (.ref 0), some (.ref 46), some (.ref 73), some (.int (ji i)), none, none, none] [] (hp μ', ρ') Q) : w_P sc 2048 84000 9999 8 8 false ret code 731 [some (.float 1000), some (.ref 0), some (.ref 46), some (.ref 73), some (.int (ji i)), none, none, none] [] (hp μ, ρ) Q := by
  obtain ⟨-, -, -, t0, t1, t2, a0, a1, a2, -, -, -, c0, c1, c2, k4⟩ := id h
  exact lc_swap (t_swap a0 a1 c0 c1) (m_swap (μ := stR (stR μ 1 0 (.ref t1)) 1 1 (.ref t0)) (by
    rcases k4 with ⟨z, _⟩ | ⟨z, _⟩
    · exact Or.inl z
    · exact Or.inr z)) (K _ ρ (IvL_swap h c0 c1) (by omega))
theorem la_type {sc : Nat × (Nat → Int32)} {μ : Mem} {ρ : Nat × Nat × Nat} {Q : z_O → z_T → Prop} {i : Int} (hi : 0 ≤ i ∧ i + 3 < sc.1 ∧ sc.1 ≤ 2048) (h : IvL μ) (hρ : 1 ≤ ρ.2.1 ∧ 6 ≤ ρ.2.2) (K : ∀ μ' ρ', IvL μ' → (ρ.2.1 ≤ ρ'.2.1 + 1 ∧ ρ.2.2 ≤ ρ'.2.2 + 6) → w_P sc 2048 84000 9999 8 8 false ret code 742 [some (.float 1000), some (.ref 0), some (.ref 46), some (.ref 73), some (.int (ji i)), none, none, none] [] (hp μ', ρ') Q) : w_P sc 2048 84000 9999 8 8 false ret code 112 [some (.float 1000), some (.ref 0), some (.ref 46), some (.ref 73), some (.int (ji i)), none, none, none] [] (hp μ, ρ) Q := by
  obtain ⟨k1, ⟨x, hx, q1, q2, q3, q4⟩, k3, k4⟩ := id h
  have hL : isL x 240 := Or.inl ⟨by omega, rfl⟩
  have g1 := (k1 x 240 hL).1
  have hp1 := scv_in sc (i + 1)
  have K0 := K (stI μ 46 0 0) ρ (IvL_code h 0) (by omega)
  have hbb : ∀ j, j = 24 ∨ j = 16 ∨ j = 8 ∨ j = 0 → bL (ji (scv sc (i + 1))) j = bA (ji (scv sc (i + 1))) j := fun j hj => bLA hj
  have hcn : cnt (bL (ji (scv sc (i + 1)))) 24 = cnt (bA (ji (scv sc (i + 1)))) 24 := by
    show nz _ + nz _ + nz _ + nz _ = nz _ + nz _ + nz _ + nz _
    rw [hbb 0 (by omega), hbb 8 (by omega), hbb 16 (by omega), hbb 24 (by omega)]
  by_cases hB : ∃ j, 0 ≤ j ∧ j ≤ 24 ∧ j % 8 = 0 ∧ bad (bL (ji (scv sc (i + 1))) j)
  · have hB2 : ∃ j, 0 ≤ j ∧ j ≤ 24 ∧ j % 8 = 0 ∧ bad (bA (ji (scv sc (i + 1))) j) := by
      obtain ⟨j, j0, j1, j2, j3⟩ := hB
      exact ⟨j, j0, j1, j2, by rw [← hbb j (by omega)]; exact j3⟩
    exact lc_type hi (t_type_bad hL q1 g1 (by omega) (by omega) hB) (m_type_bad (by omega) hB2) rfl (by decide) K0
  · have hG : ∀ j, 0 ≤ j → j ≤ 24 → j % 8 = 0 → ¬ bad (bL (ji (scv sc (i + 1))) j) := fun j j0 j1 j2 j3 => hB ⟨j, j0, j1, j2, j3⟩
    have hG2 : ∀ j, 0 ≤ j → j ≤ 24 → j % 8 = 0 → ¬ bad (bA (ji (scv sc (i + 1))) j) := fun j j0 j1 j2 => by
      rw [← hbb j (by omega)]
      exact hG j j0 j1 j2
    by_cases hn : μ.1 x 1 + cnt (bL (ji (scv sc (i + 1)))) 24 ≤ 240
    · have e : tyf μ (x + 1) x 1 (bL (ji (scv sc (i + 1)))) 24 = tyf μ (x + 1) x 1 (bA (ji (scv sc (i + 1)))) 24 := by
        show ty1 _ _ _ _ _ = ty1 _ _ _ _ _
        rw [hbb 0 (by omega), hbb 8 (by omega), hbb 16 (by omega), hbb 24 (by omega)]
      have e2 : (tyf μ (x + 1) x 1 (bA (ji (scv sc (i + 1)))) 24).1 46 3 = μ.1 46 3 := tyf_o.1 46 3 (by omega)
      have hc := t_type_ok (sc := sc) (fr := 2048 - 1) (lo := 84000 - (19 + 5)) (ρ := ρ) hL q1 g1 (by omega) (by omega) hG hn
      rw [e] at hc
      exact lc_type hi hc (m_type_ok (by rw [e2]; omega) hG2 (by rw [e2]; omega)) rfl (by decide) (K _ ρ (IvL_type hx h q1 hG2 (fun j => a255_r _) (by omega)) (by omega))
    · exact lc_type hi (t_type_full hL q1 g1 (by omega) (by omega) hG (by omega)) (m_type_full (by omega) hG2 (by omega)) rfl (by decide) K0
theorem la_pick {sc : Nat × (Nat → Int32)} {μ : Mem} {ρ : Nat × Nat × Nat} {Q : z_O → z_T → Prop} {i : Int} (hi : 0 ≤ i ∧ i + 3 < sc.1 ∧ sc.1 ≤ 2048) (h : IvL μ) (hρ : 1 ≤ ρ.2.1 ∧ 6 ≤ ρ.2.2) (K : ∀ μ' ρ', IvL μ' → (ρ.2.1 ≤ ρ'.2.1 + 1 ∧ ρ.2.2 ≤ ρ'.2.2 + 6) → w_P sc 2048 84000 9999 8 8 false ret code 742 [some (.float 1000), some (.ref 0), some (.ref 46), some (.ref 73), some (.int (ji i)), none, none, none] [] (hp μ', ρ') Q) : w_P sc 2048 84000 9999 8 8 false ret code 650 [some (.float 1000), some (.ref 0), some (.ref 46), some (.ref 73), some (.int (ji i)), none, none, none] [] (hp μ, ρ) Q := by
  have hp1 := scv_in sc (i + 1)
  have hp2 := scv_in sc (i + 2)
  have KX := K (stI μ 46 0 1) (ρ.1 + 1, ρ.2.1 - 1, ρ.2.2 - 6) (IvL_code h 1) (by show _ ≤ ρ.2.1 - 1 + 1 ∧ _ ≤ ρ.2.2 - 6 + 6; omega)
  by_cases hk : (scv sc (i + 1)) = 0 ∨ (scv sc (i + 1)) = 1
  · obtain ⟨t, r, hT, ht, hA, hS⟩ := h.slot hk
    obtain ⟨s1, s2, s3, s4, s5⟩ := id hS
    have hr : r = 0 ∨ r = 1 := by omega
    have hT9 : t = 2 ∨ t = 11 ∨ t = 26 := hT
    by_cases hv : 0 ≤ (scv sc (i + 2)) ∧ (scv sc (i + 2)) < μ.1 t 7
    · have g1 := s3.2 (scv sc (i + 2)) hv.1 hv.2
      obtain ⟨s6, s7, s8⟩ := s5 (scv sc (i + 2)) hv.1 hv.2
      obtain ⟨r1, r2, r3, r4, r5, r6, r7⟩ := s8
      have hC := l_pick (sc := sc) (fr := 2048 - 1) (lo := 84000 - (19 + 5)) (ρ := ρ) hk hT ht (by omega) hv (by omega) (by omega) (by omega)
      have hN : ∃ n, n = μ.2.2 (t + 6) (scv sc (i + 2)) - (scv sc (i + 2)) := ⟨_, rfl⟩
      obtain ⟨n, hn⟩ := hN
      rw [← hn] at hC
      have e1 : ∀ a, (49 ≤ a ∧ a ≤ 54) ∨ a = 48 → (stA (stI (kpo μ t (scv sc (i + 2)) n) t 7 n) 73 0 n).2.2 a = μ.2.2 a := fun a ha => by
        funext m
        simp only [stA, stI, kpo]
        rw [if_neg (by omega), if_neg (by omega)]
      have e2 : (stA (stI (kpo μ t (scv sc (i + 2)) n) t 7 n) 73 0 n).1 46 4 = μ.1 46 4 := by
        simp only [stA, stI, kpo]
        rw [if_neg (by omega)]
      have hM := m_pick (sc := sc) (fr := 2048 - 1) (lo := 84000 - (19 + 4)) (μ := stA (stI (kpo μ t (scv sc (i + 2)) n) t 7 n) 73 0 n) (ρ := ρ) hk (ar := r) (by rw [e2]; exact hA) (by rw [e1 48 (by omega)]; omega) (v := (scv sc (i + 2))) (by rw [e1 48 (by omega)]; omega) (by rw [e1 54 (by omega)]; omega) (by omega) (by omega)
      rw [e1 54 (by omega), r5, ← hn] at hM
      have e3 : (stA (tko (stI (stA (stI (kpo μ t (scv sc (i + 2)) n) t 7 n) 73 0 n) 46 0 0) r (128 * r + (scv sc (i + 2))) 0 n) 48 r n).2.2 73 0 = n := by
        rw [stA_o2 (by decide)]
        show (if 128 * r ≤ 0 ∧ 0 < 128 * r + n ∧ (73 = 49 ∨ 73 = 50 ∨ 73 = 51 ∨ 73 = 52 ∨ 73 = 53 ∨ 73 = 54) then _ else (stA (stI (kpo μ t (scv sc (i + 2)) n) t 7 n) 73 0 n).2.2 73 0) = n
        rw [if_neg (by omega)]
        exact stA_at _ _ _ _
      refine lc_pick hi hC hM ?_ (by decide) (fun _ => ?_) (by omega) (fun _ => ?_) (K _ ρ (IvL_pick h hk hT ht hA hS hv hn) (by omega))
      · simp only [stA, stI, tko, kpo]
        rfl
      · exact e3
      · rw [e3]
        omega
    · exact lc_pick hi (l_pickx2 hk hT ht (by omega) hp2 hv (by omega) (by omega) hρ) (m_pickx2 hk (ar := r) hA (by omega) hp2 (by rw [s2]; exact hv) (by omega) (by omega)) rfl (by decide) (fun z => by cases z) (by decide) (fun z => by cases z) KX
  · exact lc_pick hi (l_pickx1 hp1 hk (by omega) (by omega) hρ) (m_pickx1 hp1 hk (by omega) (by omega)) rfl (by decide) (fun z => by cases z) (by decide) (fun z => by cases z) KX
theorem law_step {sc : Nat × (Nat → Int32)} {μ : Mem} {ρ : Nat × Nat × Nat} {Q : z_O → z_T → Prop} {i : Int} (hi : 0 ≤ i ∧ i + 3 < sc.1 ∧ sc.1 ≤ 2048) (h : IvL μ) (hρ : 1 ≤ ρ.2.1 ∧ 6 ≤ ρ.2.2) (HR : w_P sc 2048 84000 9999 8 8 false ret code 186 [some (.float 1000), some (.ref 0), some (.ref 46), some (.ref 73), some (.int (ji i)), none, none, none] [] (hp μ, ρ) Q) (HW : w_P sc 2048 84000 9999 8 8 false ret code 255 [some (.float 1000), some (.ref 0), some (.ref 46), some (.ref 73), some (.int (ji i)), none, none, none] [] (hp μ, ρ) Q) (HS : w_P sc 2048 84000 9999 8 8 false ret code 718 [some (.float 1000), some (.ref 0), some (.ref 46), some (.ref 73), some (.int (ji i)), none, none, none] [] (hp μ, ρ) Q) (K : ∀ μ' ρ', IvL μ' → (ρ.2.1 ≤ ρ'.2.1 + 1 ∧ ρ.2.2 ≤ ρ'.2.2 + 6) → w_P sc 2048 84000 9999 8 8 false ret code 742 [some (.float 1000), some (.ref 0), some (.ref 46), some (.ref 73), some (.int (ji i)), none, none, none] [] (hp μ', ρ') Q) : w_P sc 2048 84000 9999 8 8 false ret code 32 [some (.float 1000), some (.ref 0), some (.ref 46), some (.ref 73), some (.int (ji i)), none, none, none] [] (hp μ, ρ) Q := by
  refine w_ld d_L_32 rfl rfl rfl ?_
  refine w_ld d_L_33 rfl rfl rfl ?_
  refine w_scr d_L_35 (by omega) ?_
  refine w_bip d_L_36 (by decide) ?_
  refine w_and15 d_L_38 ?_
  have hr := a15_r (ji (scv sc i))
  rcases (show a15 (ji (scv sc i)) = 0 ∨ a15 (ji (scv sc i)) = 1 ∨ a15 (ji (scv sc i)) = 2 ∨ a15 (ji (scv sc i)) = 3 ∨ a15 (ji (scv sc i)) = 4 ∨ a15 (ji (scv sc i)) = 5 ∨ a15 (ji (scv sc i)) = 6 ∨ a15 (ji (scv sc i)) = 7 ∨ a15 (ji (scv sc i)) = 8 ∨ a15 (ji (scv sc i)) = 9 ∨ a15 (ji (scv sc i)) = 10 ∨ a15 (ji (scv sc i)) = 11 ∨ a15 (ji (scv sc i)) = 12 ∨ a15 (ji (scv sc i)) = 13 ∨ a15 (ji (scv sc i)) = 14 ∨ a15 (ji (scv sc i)) = 15 by omega) with hc | hc | hc | hc | hc | hc | hc | hc | hc | hc | hc | hc | hc | hc | hc | hc
  · exact w_tsw (g := 112) d_L_39 (by omega) (by rw [hc]; decide) (la_type hi h hρ K)
  · exact w_tsw (g := 137) d_L_39 (by omega) (by rw [hc]; decide) (la_wipe hi h hρ K)
  · exact w_tsw (g := 148) d_L_39 (by omega) (by rw [hc]; decide) (la_length hi h hρ K)
  · exact w_tsw (g := 161) d_L_39 (by omega) (by rw [hc]; decide) (la_at hi h hρ K)
  · exact w_tsw (g := 186) d_L_39 (by omega) (by rw [hc]; decide) HR
  · exact w_tsw (g := 242) d_L_39 (by omega) (by rw [hc]; decide) (la_fault hi h hρ K)
  · exact w_tsw (g := 255) d_L_39 (by omega) (by rw [hc]; decide) HW
  · exact w_tsw (g := 311) d_L_39 (by omega) (by rw [hc]; decide) (la_values hi h hρ K)
  · exact w_tsw (g := 367) d_L_39 (by omega) (by rw [hc]; decide) (la_kind hi h hρ K)
  · exact w_tsw (g := 435) d_L_39 (by omega) (by rw [hc]; decide) (la_size hi h hρ K)
  · exact w_tsw (g := 503) d_L_39 (by omega) (by rw [hc]; decide) (la_number hi h hρ K)
  · exact w_tsw (g := 570) d_L_39 (by omega) (by rw [hc]; decide) (la_letter hi h hρ K)
  · exact w_tsw (g := 650) d_L_39 (by omega) (by rw [hc]; decide) (la_pick hi h hρ K)
  · exact w_tsw (g := 718) d_L_39 (by omega) (by rw [hc]; decide) HS
  · exact w_tsw (g := 731) d_L_39 (by omega) (by rw [hc]; decide) (la_swap hi h hρ K)
  · exact w_tsw (g := 742) d_L_39 (by omega) (by rw [hc]; decide) (K μ ρ h (by omega))
/-- from the loop's head -/
theorem law_head {sc : Nat × (Nat → Int32)} {μ : Mem} {ρ : Nat × Nat × Nat} {i : Int} (hi : 0 ≤ i ∧ i ≤ 2052 ∧ sc.1 ≤ 2048) (K : i + 3 < sc.1 → w_P sc 2048 84000 9999 8 8 false ret code 32 [some (.float 1000), some (.ref 0), some (.ref 46), some (.ref 73), some (.int (ji i)), none, none, none] [] (hp μ, ρ) (fun o _ => o = .inl (some (.int 1)))) : w_P sc 2048 84000 9999 8 8 false ret code 23 [some (.float 1000), some (.ref 0), some (.ref 46), some (.ref 73), some (.int (ji i)), none, none, none] [] (hp μ, ρ) (fun o _ => o = .inl (some (.int 1))) := by
  refine w_ld d_L_23 rfl rfl rfl ?_
  refine w_ld d_L_25 rfl rfl rfl ?_
  refine w_scl d_L_26 ?_
  refine w_con d_L_27 ?_
  refine w_isub d_L_28 ?_
  refine w_icmp_gt (g := 748) d_L_29 (by decide) (by omega) (fun h => ?_) (fun h => K (by omega))
  refine w_con d_L_748 ?_
  exact w_zret d_L_749 rfl (by decide) rfl
theorem law_next {sc : Nat × (Nat → Int32)} {μ : Mem} {ρ : Nat × Nat × Nat} {i : Int} {Q : z_O → z_T → Prop} (K : w_P sc 2048 84000 9999 8 8 false ret code 23 [some (.float 1000), some (.ref 0), some (.ref 46), some (.ref 73), some (.int (ji (i + 4))), none, none, none] [] (hp μ, ρ) Q) : w_P sc 2048 84000 9999 8 8 false ret code 742 [some (.float 1000), some (.ref 0), some (.ref 46), some (.ref 73), some (.int (ji i)), none, none, none] [] (hp μ, ρ) Q := by
  refine w_inc (L' := [_, _, _, _, _, _, _, _]) d_L_742 rfl (by decide) rfl ?_
  exact w_goto (g := 23) d_L_745 (by decide) K
/-- the law's whole run, out of its loop -/
theorem law_of {L : Nat} {xs : Nat → Int32} (K : w_P (L, xs) 2048 84000 9999 8 8 false ret code 23 [some (.float 1000), some (.ref 0), some (.ref 46), some (.ref 73), some (.int (ji 0)), none, none, none] [] (hp mu0, 74, 600002 - 74, 7302232 - 11796) (fun o _ => o = .inl (some (.int 1)))) : ∃ N τ', z_exec (L, xs) 2048 84000 9999 8 8 false ret code (z_run (L, xs) N 2047) N 0 [(0, .float 1000)] [] (fun _ => none, 0, 600002, 7302232) = some (.inl (some (.int 1)), τ') := by
  have h1 : w_P (L, xs) 2048 84000 9999 8 8 false ret code 20 [some (.float 1000), some (.ref 0), some (.ref 46), some (.ref 73), none, none, none, none] [] (hp mu0, 74, 600002 - 74, 7302232 - 11796) (fun o _ => o = .inl (some (.int 1))) := by
    refine w_con d_L_20 ?_
    exact w_st1 d_L_21 rfl (by decide) rfl (by decide) rfl K
  obtain ⟨o, τ', ho, N0, h0⟩ := law_start h1
  have h2 := h0 N0 N0 [(0, .float 1000)] (Nat.le_refl _) (Nat.le_refl _) (fun i v hv => by
    match i, hv with
    | 0, hv => simpa [z_lk] using hv
    | 1, hv => simp at hv
    | 2, hv => simp at hv
    | 3, hv => simp at hv
    | 4, hv => simp at hv
    | 5, hv => simp at hv
    | 6, hv => simp at hv
    | 7, hv => simp at hv
    | i + 8, hv => simp at hv)
  subst ho
  refine ⟨N0, τ', ?_⟩
  have e : LH [] [] 600002 7302232 = (fun _ => none, 0, 600002, 7302232) := by
    unfold LH
    refine Prod.ext ?_ rfl
    funext q
    simp
  rw [e] at h2
  exact h2
