/-! THE PURE PART, 36: the law's cases that only ask -/
theorem IvL.slot {μ : Mem} (h : IvL μ) {p : Int} (hk : p = 0 ∨ p = 1) : ∃ (t : Nat) (r : Int), isT t ∧ μ.2.1 1 p.toNat = .ref t ∧ (μ.1 46 4 = 0 ∧ r = p ∨ μ.1 46 4 = 1 ∧ r = 1 - p) ∧ Si μ t r := by
  obtain ⟨-, -, -, t0, t1, t2, a0, a1, a2, -, -, -, c0, c1, c2, k⟩ := h
  rcases hk with rfl | rfl
  · rcases k with ⟨z, z1, z2⟩ | ⟨z, z1, z2⟩
    · exact ⟨t0, 0, a0, c0, Or.inl ⟨z, rfl⟩, z1⟩
    · exact ⟨t0, 1, a0, c0, Or.inr ⟨z, rfl⟩, z1⟩
  · rcases k with ⟨z, z1, z2⟩ | ⟨z, z1, z2⟩
    · exact ⟨t1, 1, a1, c1, Or.inl ⟨z, rfl⟩, z2⟩
    · exact ⟨t1, 0, a1, c1, Or.inr ⟨z, rfl⟩, z2⟩
theorem la_values {sc : Nat × (Nat → Int32)} {μ : Mem} {ρ : Nat × Nat × Nat} {Q : z_O → z_T → Prop} {i : Int} (hi : 0 ≤ i ∧ i + 3 < sc.1 ∧ sc.1 ≤ 2048) (h : IvL μ) (hρ : 1 ≤ ρ.2.1 ∧ 6 ≤ ρ.2.2) (K : ∀ μ' ρ', IvL μ' → (ρ.2.1 ≤ ρ'.2.1 + 1 ∧ ρ.2.2 ≤ ρ'.2.2 + 6) → w_P sc 2048 84000 9999 8 8 false ret code 742 [some (.float 1000), some (.ref 0), some (.ref 46), some (.ref 73), some (.int (ji i)), none, none, none] [] (hp μ', ρ') Q) : w_P sc 2048 84000 9999 8 8 false ret code 311 [some (.float 1000), some (.ref 0), some (.ref 46), some (.ref 73), some (.int (ji i)), none, none, none] [] (hp μ, ρ) Q := by
  have hp1 := scv_in sc (i + 1)
  have hp2 := scv_in sc (i + 2)
  have hp3 := scv_in sc (i + 3)
  have KX := K (stI μ 46 0 1) (ρ.1 + 1, ρ.2.1 - 1, ρ.2.2 - 6) (IvL_code h 1) (by show _ ≤ ρ.2.1 - 1 + 1 ∧ _ ≤ ρ.2.2 - 6 + 6; omega)
  by_cases hk : (scv sc (i + 1)) = 0 ∨ (scv sc (i + 1)) = 1
  · obtain ⟨t, r, hT, ht, hA, hS⟩ := h.slot hk
    obtain ⟨s1, s2, s3, s4, s5⟩ := hS
    have hr : r = 0 ∨ r = 1 := by omega
    have hT9 : t = 2 ∨ t = 11 ∨ t = 26 := hT
    have g0 := s3.1
    refine lc_values hi (l_values hk hT ht (by omega) (by omega) (by omega)) (m_values (μ := stA μ 73 0 (μ.1 t 7)) hk (ar := r) hA (by omega) (by omega)) rfl (by decide) (fun _ => by show μ.1 t 7 = μ.2.2 48 r; omega) (by show _ ≤ μ.2.2 48 r ∧ μ.2.2 48 r < _; omega) (fun _ => ?_) (K _ _ (IvL_code (IvL_out h _ _) 0) (by omega))
    show _ ≤ μ.1 t 7 ∧ μ.1 t 7 < _; omega
  · exact lc_values hi (l_valuesx hp1 hk (by omega) (by omega) hρ) (m_valuesx hp1 hk (by omega) (by omega)) rfl (by decide) (fun z => by cases z) (by decide) (fun z => by cases z) KX
theorem la_kind {sc : Nat × (Nat → Int32)} {μ : Mem} {ρ : Nat × Nat × Nat} {Q : z_O → z_T → Prop} {i : Int} (hi : 0 ≤ i ∧ i + 3 < sc.1 ∧ sc.1 ≤ 2048) (h : IvL μ) (hρ : 1 ≤ ρ.2.1 ∧ 6 ≤ ρ.2.2) (K : ∀ μ' ρ', IvL μ' → (ρ.2.1 ≤ ρ'.2.1 + 1 ∧ ρ.2.2 ≤ ρ'.2.2 + 6) → w_P sc 2048 84000 9999 8 8 false ret code 742 [some (.float 1000), some (.ref 0), some (.ref 46), some (.ref 73), some (.int (ji i)), none, none, none] [] (hp μ', ρ') Q) : w_P sc 2048 84000 9999 8 8 false ret code 367 [some (.float 1000), some (.ref 0), some (.ref 46), some (.ref 73), some (.int (ji i)), none, none, none] [] (hp μ, ρ) Q := by
  have hp1 := scv_in sc (i + 1)
  have hp2 := scv_in sc (i + 2)
  have hp3 := scv_in sc (i + 3)
  have KX := K (stI μ 46 0 1) (ρ.1 + 1, ρ.2.1 - 1, ρ.2.2 - 6) (IvL_code h 1) (by show _ ≤ ρ.2.1 - 1 + 1 ∧ _ ≤ ρ.2.2 - 6 + 6; omega)
  by_cases hk : (scv sc (i + 1)) = 0 ∨ (scv sc (i + 1)) = 1
  · obtain ⟨t, r, hT, ht, hA, hS⟩ := h.slot hk
    obtain ⟨s1, s2, s3, s4, s5⟩ := hS
    have hr : r = 0 ∨ r = 1 := by omega
    have hT9 : t = 2 ∨ t = 11 ∨ t = 26 := hT
    have g0 := s3.1
    by_cases hv : 0 ≤ (scv sc (i + 2)) ∧ (scv sc (i + 2)) < μ.1 t 7
    · have g1 := s3.2 (scv sc (i + 2)) hv.1 hv.2
      obtain ⟨s6, s7, s8⟩ := s5 (scv sc (i + 2)) hv.1 hv.2
      obtain ⟨r1, r2, r3, r4, r5, r6, r7⟩ := s8
      refine lc_kind hi (l_kind hk hT ht (by omega) hv (by omega) (by omega) (by omega)) (m_kind (μ := stA μ 73 0 (μ.2.2 (t + 1) (scv sc (i + 2)))) hk (ar := r) hA (by show 0 ≤ μ.2.2 48 r ∧ μ.2.2 48 r ≤ 128; omega) (by show 0 ≤ (scv sc (i + 2)) ∧ (scv sc (i + 2)) < μ.2.2 48 r; omega) (by omega) (by omega)) rfl (by decide) (fun _ => r1.symm) (by show _ ≤ μ.2.2 49 (128 * r + (scv sc (i + 2))) ∧ μ.2.2 49 (128 * r + (scv sc (i + 2))) < _; omega) (fun _ => ?_) (K _ _ (IvL_code (IvL_out h _ _) 0) (by omega))
      show _ ≤ μ.2.2 (t + 1) (scv sc (i + 2)) ∧ μ.2.2 (t + 1) (scv sc (i + 2)) < _; omega
    · exact lc_kind hi (l_kindx2 hk hT ht (by omega) hp2 hv (by omega) (by omega) hρ) (m_kindx2 hk (ar := r) hA (by omega) hp2 (by rw [s2]; exact hv) (by omega) (by omega)) rfl (by decide) (fun z => by cases z) (by decide) (fun z => by cases z) KX
  · exact lc_kind hi (l_kindx1 hp1 hk (by omega) (by omega) hρ) (m_kindx1 hp1 hk (by omega) (by omega)) rfl (by decide) (fun z => by cases z) (by decide) (fun z => by cases z) KX
theorem la_number {sc : Nat × (Nat → Int32)} {μ : Mem} {ρ : Nat × Nat × Nat} {Q : z_O → z_T → Prop} {i : Int} (hi : 0 ≤ i ∧ i + 3 < sc.1 ∧ sc.1 ≤ 2048) (h : IvL μ) (hρ : 1 ≤ ρ.2.1 ∧ 6 ≤ ρ.2.2) (K : ∀ μ' ρ', IvL μ' → (ρ.2.1 ≤ ρ'.2.1 + 1 ∧ ρ.2.2 ≤ ρ'.2.2 + 6) → w_P sc 2048 84000 9999 8 8 false ret code 742 [some (.float 1000), some (.ref 0), some (.ref 46), some (.ref 73), some (.int (ji i)), none, none, none] [] (hp μ', ρ') Q) : w_P sc 2048 84000 9999 8 8 false ret code 503 [some (.float 1000), some (.ref 0), some (.ref 46), some (.ref 73), some (.int (ji i)), none, none, none] [] (hp μ, ρ) Q := by
  have hp1 := scv_in sc (i + 1)
  have hp2 := scv_in sc (i + 2)
  have hp3 := scv_in sc (i + 3)
  have KX := K (stI μ 46 0 1) (ρ.1 + 1, ρ.2.1 - 1, ρ.2.2 - 6) (IvL_code h 1) (by show _ ≤ ρ.2.1 - 1 + 1 ∧ _ ≤ ρ.2.2 - 6 + 6; omega)
  by_cases hk : (scv sc (i + 1)) = 0 ∨ (scv sc (i + 1)) = 1
  · obtain ⟨t, r, hT, ht, hA, hS⟩ := h.slot hk
    obtain ⟨s1, s2, s3, s4, s5⟩ := hS
    have hr : r = 0 ∨ r = 1 := by omega
    have hT9 : t = 2 ∨ t = 11 ∨ t = 26 := hT
    have g0 := s3.1
    by_cases hv : 0 ≤ (scv sc (i + 2)) ∧ (scv sc (i + 2)) < μ.1 t 7
    · have g1 := s3.2 (scv sc (i + 2)) hv.1 hv.2
      obtain ⟨s6, s7, s8⟩ := s5 (scv sc (i + 2)) hv.1 hv.2
      obtain ⟨r1, r2, r3, r4, r5, r6, r7⟩ := s8
      refine lc_number hi (l_number hk hT ht (by omega) hv (by omega) (by omega)) (m_number (μ := stA μ 73 0 (μ.2.2 (t + 2) (scv sc (i + 2)))) hk (ar := r) hA (by show 0 ≤ μ.2.2 48 r ∧ μ.2.2 48 r ≤ 128; omega) (by show 0 ≤ (scv sc (i + 2)) ∧ (scv sc (i + 2)) < μ.2.2 48 r; omega) (by omega) (by omega)) rfl (by decide) (fun _ => r2.symm) (by show _ ≤ μ.2.2 50 (128 * r + (scv sc (i + 2))) ∧ μ.2.2 50 (128 * r + (scv sc (i + 2))) < _; omega) (fun _ => ?_) (K _ _ (IvL_code (IvL_out h _ _) 0) (by omega))
      show _ ≤ μ.2.2 (t + 2) (scv sc (i + 2)) ∧ μ.2.2 (t + 2) (scv sc (i + 2)) < _; omega
    · exact lc_number hi (l_numberx2 hk hT ht (by omega) hp2 hv (by omega) (by omega) hρ) (m_numberx2 hk (ar := r) hA (by omega) hp2 (by rw [s2]; exact hv) (by omega) (by omega)) rfl (by decide) (fun z => by cases z) (by decide) (fun z => by cases z) KX
  · exact lc_number hi (l_numberx1 hp1 hk (by omega) (by omega) hρ) (m_numberx1 hp1 hk (by omega) (by omega)) rfl (by decide) (fun z => by cases z) (by decide) (fun z => by cases z) KX
theorem la_size {sc : Nat × (Nat → Int32)} {μ : Mem} {ρ : Nat × Nat × Nat} {Q : z_O → z_T → Prop} {i : Int} (hi : 0 ≤ i ∧ i + 3 < sc.1 ∧ sc.1 ≤ 2048) (h : IvL μ) (hρ : 1 ≤ ρ.2.1 ∧ 6 ≤ ρ.2.2) (K : ∀ μ' ρ', IvL μ' → (ρ.2.1 ≤ ρ'.2.1 + 1 ∧ ρ.2.2 ≤ ρ'.2.2 + 6) → w_P sc 2048 84000 9999 8 8 false ret code 742 [some (.float 1000), some (.ref 0), some (.ref 46), some (.ref 73), some (.int (ji i)), none, none, none] [] (hp μ', ρ') Q) : w_P sc 2048 84000 9999 8 8 false ret code 435 [some (.float 1000), some (.ref 0), some (.ref 46), some (.ref 73), some (.int (ji i)), none, none, none] [] (hp μ, ρ) Q := by
  have hp1 := scv_in sc (i + 1)
  have hp2 := scv_in sc (i + 2)
  have hp3 := scv_in sc (i + 3)
  have KX := K (stI μ 46 0 1) (ρ.1 + 1, ρ.2.1 - 1, ρ.2.2 - 6) (IvL_code h 1) (by show _ ≤ ρ.2.1 - 1 + 1 ∧ _ ≤ ρ.2.2 - 6 + 6; omega)
  by_cases hk : (scv sc (i + 1)) = 0 ∨ (scv sc (i + 1)) = 1
  · obtain ⟨t, r, hT, ht, hA, hS⟩ := h.slot hk
    obtain ⟨s1, s2, s3, s4, s5⟩ := hS
    have hr : r = 0 ∨ r = 1 := by omega
    have hT9 : t = 2 ∨ t = 11 ∨ t = 26 := hT
    have g0 := s3.1
    by_cases hv : 0 ≤ (scv sc (i + 2)) ∧ (scv sc (i + 2)) < μ.1 t 7
    · have g1 := s3.2 (scv sc (i + 2)) hv.1 hv.2
      obtain ⟨s6, s7, s8⟩ := s5 (scv sc (i + 2)) hv.1 hv.2
      obtain ⟨r1, r2, r3, r4, r5, r6, r7⟩ := s8
      refine lc_size hi (l_size hk hT ht (by omega) hv g1.1 (by omega) (by omega) (by omega)) (m_size (μ := stA μ 73 0 (if μ.2.2 (t + 1) (scv sc (i + 2)) < 8 then μ.2.2 (t + 4) (scv sc (i + 2)) else μ.2.2 (t + 5) (scv sc (i + 2)))) hk (ar := r) hA (by show 0 ≤ μ.2.2 48 r ∧ μ.2.2 48 r ≤ 128; omega) (by show 0 ≤ (scv sc (i + 2)) ∧ (scv sc (i + 2)) < μ.2.2 48 r; omega) (by omega) (by omega) (by show 0 ≤ μ.2.2 49 (128 * r + (scv sc (i + 2))) ∧ μ.2.2 49 (128 * r + (scv sc (i + 2))) ≤ 12; omega)) rfl (by decide) (fun _ => by show (if μ.2.2 (t + 1) (scv sc (i + 2)) < 8 then μ.2.2 (t + 4) (scv sc (i + 2)) else μ.2.2 (t + 5) (scv sc (i + 2))) = (if μ.2.2 49 (128 * r + (scv sc (i + 2))) < 8 then μ.2.2 52 (128 * r + (scv sc (i + 2))) else μ.2.2 53 (128 * r + (scv sc (i + 2)))); rw [r1, r3, r4]) (by show _ ≤ (if μ.2.2 49 (128 * r + (scv sc (i + 2))) < 8 then μ.2.2 52 (128 * r + (scv sc (i + 2))) else μ.2.2 53 (128 * r + (scv sc (i + 2)))) ∧ (if μ.2.2 49 (128 * r + (scv sc (i + 2))) < 8 then μ.2.2 52 (128 * r + (scv sc (i + 2))) else μ.2.2 53 (128 * r + (scv sc (i + 2)))) < _; split <;> omega) (fun _ => ?_) (K _ _ (IvL_code (IvL_out h _ _) 0) (by omega))
      show _ ≤ (if μ.2.2 (t + 1) (scv sc (i + 2)) < 8 then μ.2.2 (t + 4) (scv sc (i + 2)) else μ.2.2 (t + 5) (scv sc (i + 2))) ∧ (if μ.2.2 (t + 1) (scv sc (i + 2)) < 8 then μ.2.2 (t + 4) (scv sc (i + 2)) else μ.2.2 (t + 5) (scv sc (i + 2))) < _; split <;> omega
    · exact lc_size hi (l_sizex2 hk hT ht (by omega) hp2 hv (by omega) (by omega) hρ) (m_sizex2 hk (ar := r) hA (by omega) hp2 (by rw [s2]; exact hv) (by omega) (by omega)) rfl (by decide) (fun z => by cases z) (by decide) (fun z => by cases z) KX
  · exact lc_size hi (l_sizex1 hp1 hk (by omega) (by omega) hρ) (m_sizex1 hp1 hk (by omega) (by omega)) rfl (by decide) (fun z => by cases z) (by decide) (fun z => by cases z) KX
theorem la_letter {sc : Nat × (Nat → Int32)} {μ : Mem} {ρ : Nat × Nat × Nat} {Q : z_O → z_T → Prop} {i : Int} (hi : 0 ≤ i ∧ i + 3 < sc.1 ∧ sc.1 ≤ 2048) (h : IvL μ) (hρ : 1 ≤ ρ.2.1 ∧ 6 ≤ ρ.2.2) (K : ∀ μ' ρ', IvL μ' → (ρ.2.1 ≤ ρ'.2.1 + 1 ∧ ρ.2.2 ≤ ρ'.2.2 + 6) → w_P sc 2048 84000 9999 8 8 false ret code 742 [some (.float 1000), some (.ref 0), some (.ref 46), some (.ref 73), some (.int (ji i)), none, none, none] [] (hp μ', ρ') Q) : w_P sc 2048 84000 9999 8 8 false ret code 570 [some (.float 1000), some (.ref 0), some (.ref 46), some (.ref 73), some (.int (ji i)), none, none, none] [] (hp μ, ρ) Q := by
  have hp1 := scv_in sc (i + 1)
  have hp2 := scv_in sc (i + 2)
  have hp3 := scv_in sc (i + 3)
  have KX := K (stI μ 46 0 1) (ρ.1 + 1, ρ.2.1 - 1, ρ.2.2 - 6) (IvL_code h 1) (by show _ ≤ ρ.2.1 - 1 + 1 ∧ _ ≤ ρ.2.2 - 6 + 6; omega)
  by_cases hk : (scv sc (i + 1)) = 0 ∨ (scv sc (i + 1)) = 1
  · obtain ⟨t, r, hT, ht, hA, hS⟩ := h.slot hk
    obtain ⟨s1, s2, s3, s4, s5⟩ := hS
    have hr : r = 0 ∨ r = 1 := by omega
    have hT9 : t = 2 ∨ t = 11 ∨ t = 26 := hT
    have g0 := s3.1
    by_cases hv : 0 ≤ (scv sc (i + 2)) ∧ (scv sc (i + 2)) < μ.1 t 7
    · have g1 := s3.2 (scv sc (i + 2)) hv.1 hv.2
      obtain ⟨s6, s7, s8⟩ := s5 (scv sc (i + 2)) hv.1 hv.2
      obtain ⟨r1, r2, r3, r4, r5, r6, r7⟩ := s8
      have hLC : -2147483648 ≤ (if 0 ≤ (scv sc (i + 3)) ∧ (scv sc (i + 3)) < μ.2.2 (t + 4) (scv sc (i + 2)) then (if 0 ≤ μ.2.2 (t + 3) (scv sc (i + 2)) + (scv sc (i + 3)) ∧ μ.2.2 (t + 3) (scv sc (i + 2)) + (scv sc (i + 3)) < μ.1 (t + 7) 1 then μ.2.2 (t + 7 + 1) (μ.2.2 (t + 3) (scv sc (i + 2)) + (scv sc (i + 3))) else -1) else -1) ∧ (if 0 ≤ (scv sc (i + 3)) ∧ (scv sc (i + 3)) < μ.2.2 (t + 4) (scv sc (i + 2)) then (if 0 ≤ μ.2.2 (t + 3) (scv sc (i + 2)) + (scv sc (i + 3)) ∧ μ.2.2 (t + 3) (scv sc (i + 2)) + (scv sc (i + 3)) < μ.1 (t + 7) 1 then μ.2.2 (t + 7 + 1) (μ.2.2 (t + 3) (scv sc (i + 2)) + (scv sc (i + 3))) else -1) else -1) < 2147483648 := by
        have hc := (h.1 _ _ hT.toL).2 (μ.2.2 (t + 3) (scv sc (i + 2)) + (scv sc (i + 3)))
        split
        · split
          · omega
          · decide
        · decide
      have hLM : (if 0 ≤ (scv sc (i + 3)) ∧ (scv sc (i + 3)) < μ.2.2 (t + 4) (scv sc (i + 2)) then (if 0 ≤ μ.2.2 (t + 3) (scv sc (i + 2)) + (scv sc (i + 3)) ∧ μ.2.2 (t + 3) (scv sc (i + 2)) + (scv sc (i + 3)) < μ.1 (t + 7) 1 then μ.2.2 (t + 7 + 1) (μ.2.2 (t + 3) (scv sc (i + 2)) + (scv sc (i + 3))) else -1) else -1) = (if 0 ≤ (scv sc (i + 3)) ∧ (scv sc (i + 3)) < μ.2.2 52 (128 * r + (scv sc (i + 2))) then μ.2.2 57 (μ.2.2 51 (128 * r + (scv sc (i + 2))) + (scv sc (i + 3))) else -1) := by
        rw [r3]
        by_cases z : 0 ≤ (scv sc (i + 3)) ∧ (scv sc (i + 3)) < μ.2.2 (t + 4) (scv sc (i + 2))
        · rw [if_pos z, if_pos z, if_pos (by omega), r6 _ z.1 z.2]
        · rw [if_neg z, if_neg z]
      refine lc_letter hi (l_letter hk hT ht (by omega) hv hp3 (by omega) (by omega) (by omega) (h.1 _ _ hT.toL).2 (by omega) (by omega)) (m_letter (μ := stA μ 73 0 (if 0 ≤ (scv sc (i + 3)) ∧ (scv sc (i + 3)) < μ.2.2 (t + 4) (scv sc (i + 2)) then (if 0 ≤ μ.2.2 (t + 3) (scv sc (i + 2)) + (scv sc (i + 3)) ∧ μ.2.2 (t + 3) (scv sc (i + 2)) + (scv sc (i + 3)) < μ.1 (t + 7) 1 then μ.2.2 (t + 7 + 1) (μ.2.2 (t + 3) (scv sc (i + 2)) + (scv sc (i + 3))) else -1) else -1)) hk (ar := r) hA (by show 0 ≤ μ.2.2 48 r ∧ μ.2.2 48 r ≤ 128; omega) (by show 0 ≤ (scv sc (i + 2)) ∧ (scv sc (i + 2)) < μ.2.2 48 r; omega) (by omega) (by omega) hp3 (by show 0 ≤ μ.2.2 52 (128 * r + (scv sc (i + 2))) ∧ μ.2.2 52 (128 * r + (scv sc (i + 2))) ≤ 240; omega) (fun z1 z2 => by
        have z1 : (scv sc (i + 3)) < μ.2.2 52 (128 * r + (scv sc (i + 2))) := z1
        show 0 ≤ μ.2.2 51 (128 * r + (scv sc (i + 2))) + (scv sc (i + 3)) ∧ μ.2.2 51 (128 * r + (scv sc (i + 2))) + (scv sc (i + 3)) < 720
        omega)) rfl (by decide) (fun _ => hLM) (by show _ ≤ (if 0 ≤ (scv sc (i + 3)) ∧ (scv sc (i + 3)) < μ.2.2 52 (128 * r + (scv sc (i + 2))) then μ.2.2 57 (μ.2.2 51 (128 * r + (scv sc (i + 2))) + (scv sc (i + 3))) else -1) ∧ (if 0 ≤ (scv sc (i + 3)) ∧ (scv sc (i + 3)) < μ.2.2 52 (128 * r + (scv sc (i + 2))) then μ.2.2 57 (μ.2.2 51 (128 * r + (scv sc (i + 2))) + (scv sc (i + 3))) else -1) < _; rw [← hLM]; exact hLC) (fun _ => ?_) (K _ _ (IvL_code (IvL_out h _ _) 0) (by omega))
      show _ ≤ (if 0 ≤ (scv sc (i + 3)) ∧ (scv sc (i + 3)) < μ.2.2 (t + 4) (scv sc (i + 2)) then (if 0 ≤ μ.2.2 (t + 3) (scv sc (i + 2)) + (scv sc (i + 3)) ∧ μ.2.2 (t + 3) (scv sc (i + 2)) + (scv sc (i + 3)) < μ.1 (t + 7) 1 then μ.2.2 (t + 7 + 1) (μ.2.2 (t + 3) (scv sc (i + 2)) + (scv sc (i + 3))) else -1) else -1) ∧ (if 0 ≤ (scv sc (i + 3)) ∧ (scv sc (i + 3)) < μ.2.2 (t + 4) (scv sc (i + 2)) then (if 0 ≤ μ.2.2 (t + 3) (scv sc (i + 2)) + (scv sc (i + 3)) ∧ μ.2.2 (t + 3) (scv sc (i + 2)) + (scv sc (i + 3)) < μ.1 (t + 7) 1 then μ.2.2 (t + 7 + 1) (μ.2.2 (t + 3) (scv sc (i + 2)) + (scv sc (i + 3))) else -1) else -1) < _; omega
    · exact lc_letter hi (l_letterx2 hk hT ht (by omega) hp2 hv (by omega) (by omega) hρ) (m_letterx2 hk (ar := r) hA (by omega) hp2 (by rw [s2]; exact hv) (by omega) (by omega)) rfl (by decide) (fun z => by cases z) (by decide) (fun z => by cases z) KX
  · exact lc_letter hi (l_letterx1 hp1 hk (by omega) (by omega) hρ) (m_letterx1 hp1 hk (by omega) (by omega)) rfl (by decide) (fun z => by cases z) (by decide) (fun z => by cases z) KX
