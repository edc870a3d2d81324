/-! THE PURE PART, 15: the bytes of an int; the first half of type -/
def a255 (x : Int32) : Int := (x &&& 255).toInt
theorem a255_r (x : Int32) : 0 ≤ a255 x ∧ a255 x ≤ 255 := by
  have h1 : (x &&& 255).toBitVec.toNat ≤ 255 := by
    rw [Int32.toBitVec_and, BitVec.toNat_and]
    exact Nat.and_le_right
  have h2 : a255 x = ((x &&& 255).toBitVec.toNat : Int) := by
    show (x &&& 255).toBitVec.toInt = _
    exact BitVec.toInt_eq_toNat_of_lt (by omega)
  omega
abbrev bA (w : Int32) (k : Int) : Int := a255 (w >>> (ji k &&& 31))
abbrev bL (w : Int32) (k : Int) : Int := a255 (w.toUInt32 >>> ((ji k).toUInt32 &&& Int32.toUInt32 31)).toInt32
def bad (c : Int) : Prop := ¬ c = 0 ∧ (c < 32 ∨ 126 < c)
def nz (c : Int) : Int := if c = 0 then 0 else 1
def cnt (c : Int → Int) (k : Int) : Int := (if 0 ≤ k then nz (c 0) else 0) + (if 8 ≤ k then nz (c 8) else 0) + (if 16 ≤ k then nz (c 16) else 0) + (if 24 ≤ k then nz (c 24) else 0)
theorem cnt_n {c : Int → Int} {k : Int} (h : k < 0) : cnt c k = 0 := by
  unfold cnt
  rw [if_neg (by omega), if_neg (by omega), if_neg (by omega), if_neg (by omega)]
  rfl
theorem cnt_s {c : Int → Int} {k : Int} (h : k = 24 ∨ k = 16 ∨ k = 8 ∨ k = 0) : cnt c k = nz (c k) + cnt c (k + -8) := by
  rcases h with rfl | rfl | rfl | rfl <;> simp [cnt] <;> omega
theorem w_and {sc : Nat × (Nat → Int32)} {fr lo y own nL : Nat} {cons : Bool} {ret : Option FieldType} {cc : ByteArray} {pc : Nat} {L : List (Option Value)} {st : List Value} {τ : z_T} {Q : z_O → z_T → Prop} {x : Int32} (hd : decode cc pc = .ok (.iand, 1)) (k : w_P sc fr lo y own nL cons ret cc (pc + 1) L (.int (ji (a255 x)) :: st) τ Q) : w_P sc fr lo y own nL cons ret cc pc L (.int (ji 255) :: .int x :: st) τ Q := w_stk hd (by
  show some (Value.int (x &&& 255) :: st) = some (Value.int (Int32.ofInt (x &&& 255).toInt) :: st)
  rw [Int32.ofInt_toInt]) k
theorem t_type_1 {sc : Nat × (Nat → Int32)} {fr lo : Nat} {μ : Mem} {ρ : Nat × Nat × Nat} {Q : z_O → z_T → Prop} {w : Int32} : ∀ (m : Nat) (k n : Int), (k + 8).toNat = m → ((k = 24 ∨ k = 16 ∨ k = 8 ∨ k = 0 ∨ k = -8) ∧ 0 ≤ n ∧ n ≤ 100 - k) → ((∃ j, 0 ≤ j ∧ j ≤ k ∧ j % 8 = 0 ∧ bad (bL w j)) → Q (.inl (some (.int (ji 0)))) (hp μ, ρ)) → ((∀ j, 0 ≤ j → j ≤ k → j % 8 = 0 → ¬ bad (bL w j)) → w_P sc fr lo 7 0 5 false ((some FieldType.boolean)) prog_1_method_2_code 58 [some (.ref 0), some (.int w), some (.int (ji (n + cnt (bL w) k))), none, none] [] (hp μ, ρ) Q) → w_P sc fr lo 7 0 5 false ((some FieldType.boolean)) prog_1_method_2_code 5 [some (.ref 0), some (.int w), some (.int (ji n)), some (.int (ji k)), none] [] (hp (μ), ρ) Q := by
  intro m
  induction m using Nat.strongRecOn with
  | ind m ih =>
    intro k n hm hk hb hg
    refine w_ld d_7_5 rfl rfl rfl ?_
    refine w_if_lt (g := 58) d_7_6 (by decide) (by omega) (fun h6 => ?_) (fun h6 => ?_)
    · have e := hg (fun j z1 z2 z3 => by omega)
      rw [cnt_n (by omega), Int.add_zero] at e
      exact e.le ⟨rfl, rfl, rfl, trivial⟩
    · refine w_ld d_7_9 rfl rfl rfl ?_
      refine w_ld d_7_10 rfl rfl rfl ?_
      refine w_stk d_7_11 rfl ?_
      refine w_sip d_7_12 (by decide) ?_
      refine w_and d_7_15 ?_
      refine w_st1 (L' := [_, _, _, _, _]) d_7_16 rfl (by decide) rfl (by decide) rfl ?_
      have hc0 := a255_r (w.toUInt32 >>> ((ji k).toUInt32 &&& Int32.toUInt32 31)).toInt32
      generalize hcc : a255 (w.toUInt32 >>> ((ji k).toUInt32 &&& Int32.toUInt32 31)).toInt32 = c at hc0 ⊢
      have hcb : bL w k = c := hcc
      refine w_ld d_7_18 rfl rfl rfl ?_
      refine w_if_eq (g := 39) d_7_20 (by decide) (by omega) (fun h20 => ?_) (fun h20 => ?_)
      · refine w_ld d_7_39 rfl rfl rfl ?_
        refine w_ld d_7_40 rfl rfl rfl ?_
        refine w_if_eq (g := 49) d_7_42 (by decide) (by omega) (fun h42 => ?_) (fun h42 => ?_)
        · refine w_con d_7_49 ?_
          refine w_iadd d_7_50 ?_
          refine w_st1 (L' := [_, _, _, _, _]) d_7_51 rfl (by decide) rfl (by decide) rfl ?_
          refine w_inc (L' := [_, _, _, _, _]) d_7_52 rfl (by decide) rfl ?_
          refine w_goto (g := 5) d_7_55 (by decide) ?_
          refine (ih _ (by omega) (k + -8) _ rfl (by omega) (fun z => hb ?_) (fun z => ?_)).le ⟨rfl, rfl, rfl, rfl, trivial⟩
          · obtain ⟨j, z1, z2, z3, z4⟩ := z
            exact ⟨j, z1, by omega, z3, z4⟩
          · have e := hg (fun j z1 z2 z3 z4 => by
              by_cases hj : j = k
              · rw [hj, hcb] at z4
                obtain ⟨y1, y2⟩ := z4
                omega
              · exact z j z1 (by omega) z3 z4)
            first
            | (rw [show n + cnt (bL w) k = n + 1 + cnt (bL w) (k + -8) by rw [cnt_s (by omega), show nz (bL w k) = 1 by rw [hcb]; exact if_neg (by assumption)]; omega] at e; exact e)
            | (rw [show n + cnt (bL w) k = n + 0 + cnt (bL w) (k + -8) by rw [cnt_s (by omega), show nz (bL w k) = 0 by rw [hcb]; exact if_pos (by assumption)]; omega] at e; exact e)
        · refine w_con d_7_45 ?_
          refine w_goto (g := 50) d_7_46 (by decide) ?_
          refine w_iadd d_7_50 ?_
          refine w_st1 (L' := [_, _, _, _, _]) d_7_51 rfl (by decide) rfl (by decide) rfl ?_
          refine w_inc (L' := [_, _, _, _, _]) d_7_52 rfl (by decide) rfl ?_
          refine w_goto (g := 5) d_7_55 (by decide) ?_
          refine (ih _ (by omega) (k + -8) _ rfl (by omega) (fun z => hb ?_) (fun z => ?_)).le ⟨rfl, rfl, rfl, rfl, trivial⟩
          · obtain ⟨j, z1, z2, z3, z4⟩ := z
            exact ⟨j, z1, by omega, z3, z4⟩
          · have e := hg (fun j z1 z2 z3 z4 => by
              by_cases hj : j = k
              · rw [hj, hcb] at z4
                obtain ⟨y1, y2⟩ := z4
                omega
              · exact z j z1 (by omega) z3 z4)
            first
            | (rw [show n + cnt (bL w) k = n + 1 + cnt (bL w) (k + -8) by rw [cnt_s (by omega), show nz (bL w k) = 1 by rw [hcb]; exact if_neg (by assumption)]; omega] at e; exact e)
            | (rw [show n + cnt (bL w) k = n + 0 + cnt (bL w) (k + -8) by rw [cnt_s (by omega), show nz (bL w k) = 0 by rw [hcb]; exact if_pos (by assumption)]; omega] at e; exact e)
      · refine w_ld d_7_23 rfl rfl rfl ?_
        refine w_bip d_7_25 (by decide) ?_
        refine w_icmp_lt (g := 37) d_7_27 (by decide) (by omega) (fun h27 => ?_) (fun h27 => ?_)
        · refine w_con d_7_37 ?_
          refine w_zret d_7_38 rfl (by omega) ?_
          exact hb ⟨k, by omega, by omega, by omega, by rw [hcb]; unfold bad; omega⟩
        · refine w_ld d_7_30 rfl rfl rfl ?_
          refine w_bip d_7_32 (by decide) ?_
          refine w_icmp_le (g := 39) d_7_34 (by decide) (by omega) (fun h34 => ?_) (fun h34 => ?_)
          · refine w_ld d_7_39 rfl rfl rfl ?_
            refine w_ld d_7_40 rfl rfl rfl ?_
            refine w_if_eq (g := 49) d_7_42 (by decide) (by omega) (fun h42 => ?_) (fun h42 => ?_)
            · refine w_con d_7_49 ?_
              refine w_iadd d_7_50 ?_
              refine w_st1 (L' := [_, _, _, _, _]) d_7_51 rfl (by decide) rfl (by decide) rfl ?_
              refine w_inc (L' := [_, _, _, _, _]) d_7_52 rfl (by decide) rfl ?_
              refine w_goto (g := 5) d_7_55 (by decide) ?_
              refine (ih _ (by omega) (k + -8) _ rfl (by omega) (fun z => hb ?_) (fun z => ?_)).le ⟨rfl, rfl, rfl, rfl, trivial⟩
              · obtain ⟨j, z1, z2, z3, z4⟩ := z
                exact ⟨j, z1, by omega, z3, z4⟩
              · have e := hg (fun j z1 z2 z3 z4 => by
                  by_cases hj : j = k
                  · rw [hj, hcb] at z4
                    obtain ⟨y1, y2⟩ := z4
                    omega
                  · exact z j z1 (by omega) z3 z4)
                first
                | (rw [show n + cnt (bL w) k = n + 1 + cnt (bL w) (k + -8) by rw [cnt_s (by omega), show nz (bL w k) = 1 by rw [hcb]; exact if_neg (by assumption)]; omega] at e; exact e)
                | (rw [show n + cnt (bL w) k = n + 0 + cnt (bL w) (k + -8) by rw [cnt_s (by omega), show nz (bL w k) = 0 by rw [hcb]; exact if_pos (by assumption)]; omega] at e; exact e)
            · refine w_con d_7_45 ?_
              refine w_goto (g := 50) d_7_46 (by decide) ?_
              refine w_iadd d_7_50 ?_
              refine w_st1 (L' := [_, _, _, _, _]) d_7_51 rfl (by decide) rfl (by decide) rfl ?_
              refine w_inc (L' := [_, _, _, _, _]) d_7_52 rfl (by decide) rfl ?_
              refine w_goto (g := 5) d_7_55 (by decide) ?_
              refine (ih _ (by omega) (k + -8) _ rfl (by omega) (fun z => hb ?_) (fun z => ?_)).le ⟨rfl, rfl, rfl, rfl, trivial⟩
              · obtain ⟨j, z1, z2, z3, z4⟩ := z
                exact ⟨j, z1, by omega, z3, z4⟩
              · have e := hg (fun j z1 z2 z3 z4 => by
                  by_cases hj : j = k
                  · rw [hj, hcb] at z4
                    obtain ⟨y1, y2⟩ := z4
                    omega
                  · exact z j z1 (by omega) z3 z4)
                first
                | (rw [show n + cnt (bL w) k = n + 1 + cnt (bL w) (k + -8) by rw [cnt_s (by omega), show nz (bL w k) = 1 by rw [hcb]; exact if_neg (by assumption)]; omega] at e; exact e)
                | (rw [show n + cnt (bL w) k = n + 0 + cnt (bL w) (k + -8) by rw [cnt_s (by omega), show nz (bL w k) = 0 by rw [hcb]; exact if_pos (by assumption)]; omega] at e; exact e)
          · refine w_con d_7_37 ?_
            refine w_zret d_7_38 rfl (by omega) ?_
            exact hb ⟨k, by omega, by omega, by omega, by rw [hcb]; unfold bad; omega⟩
theorem m_type_1 {sc : Nat × (Nat → Int32)} {fr lo : Nat} {μ : Mem} {ρ : Nat × Nat × Nat} {Q : z_O → z_T → Prop} {w : Int32} : ∀ (m : Nat) (k n : Int), (k + 8).toNat = m → ((k = 24 ∨ k = 16 ∨ k = 8 ∨ k = 0 ∨ k = -8) ∧ 0 ≤ n ∧ n ≤ 100 - k) → ((∃ j, 0 ≤ j ∧ j ≤ k ∧ j % 8 = 0 ∧ bad (bA w j)) → Q (.inl (some (.int (ji 0)))) (hp μ, ρ)) → ((∀ j, 0 ≤ j → j ≤ k → j % 8 = 0 → ¬ bad (bA w j)) → w_P sc fr lo 111 7 5 false ((some FieldType.boolean)) prog_9_method_3_code 63 [some (.ref 46), some (.int w), some (.int (ji (n + cnt (bA w) k))), none, none] [] (hp μ, ρ) Q) → w_P sc fr lo 111 7 5 false ((some FieldType.boolean)) prog_9_method_3_code 10 [some (.ref 46), some (.int w), some (.int (ji n)), some (.int (ji k)), none] [] (hp (μ), ρ) Q := by
  intro m
  induction m using Nat.strongRecOn with
  | ind m ih =>
    intro k n hm hk hb hg
    refine w_ld d_111_10 rfl rfl rfl ?_
    refine w_if_lt (g := 63) d_111_11 (by decide) (by omega) (fun h11 => ?_) (fun h11 => ?_)
    · have e := hg (fun j z1 z2 z3 => by omega)
      rw [cnt_n (by omega), Int.add_zero] at e
      exact e.le ⟨rfl, rfl, rfl, trivial⟩
    · refine w_ld d_111_14 rfl rfl rfl ?_
      refine w_ld d_111_15 rfl rfl rfl ?_
      refine w_stk d_111_16 rfl ?_
      refine w_sip d_111_17 (by decide) ?_
      refine w_and d_111_20 ?_
      refine w_st1 (L' := [_, _, _, _, _]) d_111_21 rfl (by decide) rfl (by decide) rfl ?_
      have hc0 := a255_r (w >>> (ji k &&& 31))
      generalize hcc : a255 (w >>> (ji k &&& 31)) = c at hc0 ⊢
      have hcb : bA w k = c := hcc
      refine w_ld d_111_23 rfl rfl rfl ?_
      refine w_if_eq (g := 44) d_111_25 (by decide) (by omega) (fun h25 => ?_) (fun h25 => ?_)
      · refine w_ld d_111_44 rfl rfl rfl ?_
        refine w_ld d_111_45 rfl rfl rfl ?_
        refine w_if_eq (g := 54) d_111_47 (by decide) (by omega) (fun h47 => ?_) (fun h47 => ?_)
        · refine w_con d_111_54 ?_
          refine w_iadd d_111_55 ?_
          refine w_st1 (L' := [_, _, _, _, _]) d_111_56 rfl (by decide) rfl (by decide) rfl ?_
          refine w_inc (L' := [_, _, _, _, _]) d_111_57 rfl (by decide) rfl ?_
          refine w_goto (g := 10) d_111_60 (by decide) ?_
          refine (ih _ (by omega) (k + -8) _ rfl (by omega) (fun z => hb ?_) (fun z => ?_)).le ⟨rfl, rfl, rfl, rfl, trivial⟩
          · obtain ⟨j, z1, z2, z3, z4⟩ := z
            exact ⟨j, z1, by omega, z3, z4⟩
          · have e := hg (fun j z1 z2 z3 z4 => by
              by_cases hj : j = k
              · rw [hj, hcb] at z4
                obtain ⟨y1, y2⟩ := z4
                omega
              · exact z j z1 (by omega) z3 z4)
            first
            | (rw [show n + cnt (bA w) k = n + 1 + cnt (bA w) (k + -8) by rw [cnt_s (by omega), show nz (bA w k) = 1 by rw [hcb]; exact if_neg (by assumption)]; omega] at e; exact e)
            | (rw [show n + cnt (bA w) k = n + 0 + cnt (bA w) (k + -8) by rw [cnt_s (by omega), show nz (bA w k) = 0 by rw [hcb]; exact if_pos (by assumption)]; omega] at e; exact e)
        · refine w_con d_111_50 ?_
          refine w_goto (g := 55) d_111_51 (by decide) ?_
          refine w_iadd d_111_55 ?_
          refine w_st1 (L' := [_, _, _, _, _]) d_111_56 rfl (by decide) rfl (by decide) rfl ?_
          refine w_inc (L' := [_, _, _, _, _]) d_111_57 rfl (by decide) rfl ?_
          refine w_goto (g := 10) d_111_60 (by decide) ?_
          refine (ih _ (by omega) (k + -8) _ rfl (by omega) (fun z => hb ?_) (fun z => ?_)).le ⟨rfl, rfl, rfl, rfl, trivial⟩
          · obtain ⟨j, z1, z2, z3, z4⟩ := z
            exact ⟨j, z1, by omega, z3, z4⟩
          · have e := hg (fun j z1 z2 z3 z4 => by
              by_cases hj : j = k
              · rw [hj, hcb] at z4
                obtain ⟨y1, y2⟩ := z4
                omega
              · exact z j z1 (by omega) z3 z4)
            first
            | (rw [show n + cnt (bA w) k = n + 1 + cnt (bA w) (k + -8) by rw [cnt_s (by omega), show nz (bA w k) = 1 by rw [hcb]; exact if_neg (by assumption)]; omega] at e; exact e)
            | (rw [show n + cnt (bA w) k = n + 0 + cnt (bA w) (k + -8) by rw [cnt_s (by omega), show nz (bA w k) = 0 by rw [hcb]; exact if_pos (by assumption)]; omega] at e; exact e)
      · refine w_ld d_111_28 rfl rfl rfl ?_
        refine w_bip d_111_30 (by decide) ?_
        refine w_icmp_lt (g := 42) d_111_32 (by decide) (by omega) (fun h32 => ?_) (fun h32 => ?_)
        · refine w_con d_111_42 ?_
          refine w_zret d_111_43 rfl (by omega) ?_
          exact hb ⟨k, by omega, by omega, by omega, by rw [hcb]; unfold bad; omega⟩
        · refine w_ld d_111_35 rfl rfl rfl ?_
          refine w_bip d_111_37 (by decide) ?_
          refine w_icmp_le (g := 44) d_111_39 (by decide) (by omega) (fun h39 => ?_) (fun h39 => ?_)
          · refine w_ld d_111_44 rfl rfl rfl ?_
            refine w_ld d_111_45 rfl rfl rfl ?_
            refine w_if_eq (g := 54) d_111_47 (by decide) (by omega) (fun h47 => ?_) (fun h47 => ?_)
            · refine w_con d_111_54 ?_
              refine w_iadd d_111_55 ?_
              refine w_st1 (L' := [_, _, _, _, _]) d_111_56 rfl (by decide) rfl (by decide) rfl ?_
              refine w_inc (L' := [_, _, _, _, _]) d_111_57 rfl (by decide) rfl ?_
              refine w_goto (g := 10) d_111_60 (by decide) ?_
              refine (ih _ (by omega) (k + -8) _ rfl (by omega) (fun z => hb ?_) (fun z => ?_)).le ⟨rfl, rfl, rfl, rfl, trivial⟩
              · obtain ⟨j, z1, z2, z3, z4⟩ := z
                exact ⟨j, z1, by omega, z3, z4⟩
              · have e := hg (fun j z1 z2 z3 z4 => by
                  by_cases hj : j = k
                  · rw [hj, hcb] at z4
                    obtain ⟨y1, y2⟩ := z4
                    omega
                  · exact z j z1 (by omega) z3 z4)
                first
                | (rw [show n + cnt (bA w) k = n + 1 + cnt (bA w) (k + -8) by rw [cnt_s (by omega), show nz (bA w k) = 1 by rw [hcb]; exact if_neg (by assumption)]; omega] at e; exact e)
                | (rw [show n + cnt (bA w) k = n + 0 + cnt (bA w) (k + -8) by rw [cnt_s (by omega), show nz (bA w k) = 0 by rw [hcb]; exact if_pos (by assumption)]; omega] at e; exact e)
            · refine w_con d_111_50 ?_
              refine w_goto (g := 55) d_111_51 (by decide) ?_
              refine w_iadd d_111_55 ?_
              refine w_st1 (L' := [_, _, _, _, _]) d_111_56 rfl (by decide) rfl (by decide) rfl ?_
              refine w_inc (L' := [_, _, _, _, _]) d_111_57 rfl (by decide) rfl ?_
              refine w_goto (g := 10) d_111_60 (by decide) ?_
              refine (ih _ (by omega) (k + -8) _ rfl (by omega) (fun z => hb ?_) (fun z => ?_)).le ⟨rfl, rfl, rfl, rfl, trivial⟩
              · obtain ⟨j, z1, z2, z3, z4⟩ := z
                exact ⟨j, z1, by omega, z3, z4⟩
              · have e := hg (fun j z1 z2 z3 z4 => by
                  by_cases hj : j = k
                  · rw [hj, hcb] at z4
                    obtain ⟨y1, y2⟩ := z4
                    omega
                  · exact z j z1 (by omega) z3 z4)
                first
                | (rw [show n + cnt (bA w) k = n + 1 + cnt (bA w) (k + -8) by rw [cnt_s (by omega), show nz (bA w k) = 1 by rw [hcb]; exact if_neg (by assumption)]; omega] at e; exact e)
                | (rw [show n + cnt (bA w) k = n + 0 + cnt (bA w) (k + -8) by rw [cnt_s (by omega), show nz (bA w k) = 0 by rw [hcb]; exact if_pos (by assumption)]; omega] at e; exact e)
          · refine w_con d_111_42 ?_
            refine w_zret d_111_43 rfl (by omega) ?_
            exact hb ⟨k, by omega, by omega, by omega, by rw [hcb]; unfold bad; omega⟩
