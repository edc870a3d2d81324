/-! THE PURE PART, 20: contracts: a word's letters in the reader -/
theorem t_wordLetter {sc : Nat × (Nat → Int32)} {fr lo : Nat} {μ : Mem} {ρ : Nat × Nat × Nat} {t : Nat} (hT : isT t) (ht : μ.2.1 20 4 = .ref t) (hc : 0 ≤ μ.1 (t + 7) 1 ∧ μ.1 (t + 7) 1 ≤ 240) (hw : 0 ≤ μ.1 20 8 ∧ μ.1 20 8 ≤ 240 ∧ 0 ≤ μ.1 20 9 ∧ μ.1 20 9 ≤ 240) (hf : 1 ≤ fr) (hl : 60 ≤ lo) {k : Int} (hk : 0 ≤ k ∧ k < 1000) : w_E sc fr lo 43 [.ref 20, .int (ji k)] (hp μ, ρ) (.inl (some (.int (ji (if k < μ.1 20 9 then (if 0 ≤ μ.1 20 8 + k ∧ μ.1 20 8 + k < μ.1 (t + 7) 1 then μ.2.2 (t + 7 + 1) (μ.1 20 8 + k) else -1) else -1))))) (hp μ, ρ) := by
  obtain ⟨hT0, h1, h2, h3, h4, h5, h6, h7, h8⟩ := hT.sh
  refine w_S.of (L0 := [some (.ref 20), some (.int (ji k))]) rfl rfl (Nat.le_of_ble_eq_true rfl) (by rfl) ?_
  refine w_ld d_43_0 rfl rfl rfl ?_
  refine w_ld d_43_1 rfl rfl rfl ?_
  refine w_gI d_43_2 (by rfl) (by first | rfl | assumption) (by rfl) (by (try simp [stI, stA, stR]) <;> rfl) ?_
  refine w_icmp_ge (g := 27) d_43_5 (by decide) (by omega) (fun h5 => ?_) (fun h5 => ?_)
  · refine w_con d_43_27 ?_
    refine w_iret d_43_28 rfl ?_
    first | (rw [if_pos (show k < μ.1 20 9 by omega)]; exact ⟨rfl, rfl⟩) | (rw [if_neg (show ¬ k < μ.1 20 9 by omega)]; exact ⟨rfl, rfl⟩)
  · refine w_ld d_43_8 rfl rfl rfl ?_
    refine w_getR d_43_9 (by rfl) (by first | rfl | assumption) (by rfl) (by assumption) ?_
    refine w_getF d_43_12 (by rfl) (by first | rfl | assumption) (by rfl) (by rfl) ?_
    refine w_ld d_43_15 rfl rfl rfl ?_
    refine w_gI d_43_16 (by rfl) (by first | rfl | assumption) (by rfl) (by (try simp [stI, stA, stR]) <;> rfl) ?_
    refine w_ld d_43_19 rfl rfl rfl ?_
    refine w_iadd d_43_20 ?_
    refine w_cV1 (as := [_]) (rest := _) rfl d_43_21 (by rfl) (by rfl) (by first | rfl | assumption) (by rfl) (by rfl) (Nat.le_of_ble_eq_true rfl) (by omega) (by omega) (t_peek h7 h8 (by omega) (by omega)) ?_
    refine w_goto (g := 28) d_43_24 (by decide) ?_
    refine w_iret d_43_28 rfl ?_
    first | (rw [if_pos (show k < μ.1 20 9 by omega)]; exact ⟨rfl, rfl⟩) | (rw [if_neg (show ¬ k < μ.1 20 9 by omega)]; exact ⟨rfl, rfl⟩)
