/-! FRESH OBJECTS, 2: the law on a script of one call -/
theorem mC_hch (k : Int) : 0 ≤ mC.2.2 47 k ∧ mC.2.2 47 k < 65536 := ⟨show (0 : Int) ≤ 0 by decide, show (0 : Int) < 65536 by decide⟩
theorem law_fresh (sc : Nat × (Nat → Int32)) (hL : sc.1 ≤ 4) : w_P sc 2048 84000 9999 8 8 false ret code 23 [some (.float 1000), some (.ref 0), some (.ref 46), some (.ref 73), some (.int (ji 0)), none, none, none] [] (hp mu0, 74, 600002 - 74, 7302232 - 11796) (fun o _ => o = .inl (some (.int 1))) := by
  refine law_head (by omega) (fun h3 => ?_)
  have K : ∀ (μ' : Mem) (ρ' : Nat × Nat × Nat), w_P sc 2048 84000 9999 8 8 false ret code 742 [some (.float 1000), some (.ref 0), some (.ref 46), some (.ref 73), some (.int (ji 0)), none, none, none] [] (hp μ', ρ') (fun o _ => o = .inl (some (.int 1))) := fun μ' ρ' => law_next (law_head (by omega) (fun h => by omega))
  have hi : 0 ≤ (0 : Int) ∧ 0 + 3 < (sc.1 : Int) ∧ sc.1 ≤ 2048 := by omega
  have hρ : 1 ≤ ((74, 600002 - 74, 7302232 - 11796) : Nat × Nat × Nat).2.1 ∧ 6 ≤ ((74, 600002 - 74, 7302232 - 11796) : Nat × Nat × Nat).2.2 := ⟨by decide, by decide⟩
  have hp1 := scv_in sc (0 + 1)
  refine law_step hi IvL_mu0 hρ ?_ ?_ ?_ (fun μ' ρ' _ _ => K μ' ρ')
  · by_cases hk : scv sc (0 + 1) = 0 ∨ scv sc (0 + 1) = 1
    · obtain ⟨μ', hc, hM⟩ := w_S.ex (f_mread (sc := sc) (fr := 2048 - 1) (lo := 84000 - (19 + 4)) (μ := mC) (ρ := (74 + 1, 600002 - 74 - 1, 7302232 - 11796 - 6)) hk rfl mC_hch (by omega) (by omega))
      exact lc_read hi (f_lread hk (by omega) (by omega) hρ) hM hc (by decide) (fun z => by cases z) (by decide) (fun z => by cases z) (K _ _)
    · exact lc_read hi (f_lreadx hp1 hk (by omega) (by omega) hρ) (f_mreadx hp1 hk (by omega) (by omega)) (stI_at _ _ _ _) (by decide) (fun z => by cases z) (by decide) (fun z => by cases z) (K _ _)
  · by_cases hk : scv sc (0 + 1) = 0 ∨ scv sc (0 + 1) = 1
    · exact lc_write hi (f_lwrite hk (by omega) (by omega) hρ) (f_mwrite hk rfl rfl (by omega) (by omega)) (stI_at _ _ _ _) (by decide) (fun z => by cases z) (by decide) (fun z => by cases z) (K _ _)
    · exact lc_write hi (f_lwritex hp1 hk (by omega) (by omega) hρ) (f_mwritex hp1 hk (by omega) (by omega)) (stI_at _ _ _ _) (by decide) (fun z => by cases z) (by decide) (fun z => by cases z) (K _ _)
  · exact lc_same hi (f_same (by omega) (by omega) hρ) (f_msame rfl rfl) rfl (by decide) (K _ _)
