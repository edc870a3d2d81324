/-! THE PURE PART, 45: contracts: what a word means becomes a value -/
theorem dru_sh (R : Int → Int) (f b : Int) : ∀ (m : Nat) (p : Int), (b - p).toNat = m → dru R (f + b) (f + p) = f + dru (fun i => R (f + i)) b p := by
  intro m
  induction m using Nat.strongRecOn with
  | ind m ih =>
    intro p hm
    rw [dru_eq, dru_eq (fun i => R (f + i))]
    by_cases h : p < b ∧ 48 ≤ R (f + p) ∧ R (f + p) ≤ 57
    · rw [if_pos ⟨by omega, h.2⟩, if_pos h, Int.add_assoc]
      exact ih (b - (p + 1)).toNat (by omega) (p + 1) rfl
    · rw [if_neg (fun z => h ⟨by omega, z.2⟩), if_neg h]
theorem dvl_sh (R : Int → Int) (f : Int) : ∀ (k : Nat) (p : Int) (c : Bool × Int), dvl R k (f + p) c = dvl (fun i => R (f + i)) k p c
  | 0, _, _ => rfl
  | k + 1, p, c => by
    show dvl R k (f + p + 1) (tkd c (R (f + p) - 48)) = dvl (fun i => R (f + i)) k (p + 1) (tkd c (R (f + p) - 48))
    rw [Int.add_assoc]
    exact dvl_sh R f k (p + 1) _
theorem scn_sh (R : Int → Int) (f a b : Int) : scn R (f + a) (f + b) = ((scn (fun i => R (f + i)) a b).1, f + (scn (fun i => R (f + i)) a b).2.1, (scn (fun i => R (f + i)) a b).2.2) := by
  have e1 : dru R (f + b) (f + (a + 1)) = f + dru (fun i => R (f + i)) b (a + 1) := dru_sh R f b _ _ rfl
  have e2 : dru R (f + b) (f + a) = f + dru (fun i => R (f + i)) b a := dru_sh R f b _ _ rfl
  unfold scn
  by_cases h1 : a < b ∧ R (f + a) = 45
  · rw [if_pos (show f + a < f + b ∧ R (f + a) = 45 from ⟨by omega, h1.2⟩), if_pos h1]
    by_cases h2 : a + 1 < b ∧ 49 ≤ R (f + (a + 1)) ∧ R (f + (a + 1)) ≤ 57
    · rw [Int.add_assoc, if_pos ⟨by omega, h2.2⟩, if_pos h2, e1, dvl_sh, show (f + dru (fun i => R (f + i)) b (a + 1) - (f + (a + 1))).toNat = (dru (fun i => R (f + i)) b (a + 1) - (a + 1)).toNat by omega]
    · rw [Int.add_assoc, if_neg (fun z => h2 ⟨by omega, z.2⟩), if_neg h2]
  · rw [if_neg (show ¬ (f + a < f + b ∧ R (f + a) = 45) from fun z => h1 ⟨by omega, z.2⟩), if_neg h1]
    by_cases h2 : a < b ∧ 49 ≤ R (f + a) ∧ R (f + a) ≤ 57
    · rw [if_pos ⟨by omega, h2.2⟩, if_pos h2, e2, dvl_sh, show (f + dru (fun i => R (f + i)) b a - (f + a)).toNat = (dru (fun i => R (f + i)) b a - a).toNat by omega]
    · rw [if_neg (fun z => h2 ⟨by omega, z.2⟩), if_neg h2]
      by_cases h3 : a < b ∧ R (f + a) = 48
      · rw [if_pos ⟨by omega, h3.2⟩, if_pos h3, Int.add_assoc]
      · rw [if_neg (fun z => h3 ⟨by omega, z.2⟩), if_neg h3]
/-- the numeral alone may have changed -/
def nux (μ ν : Mem) : Prop := ν = μ ∨ ∃ p c, ν = nu μ p c
theorem nux_o {μ ν : Mem} (h : nux μ ν) : (∀ a q, a ≠ 24 → ν.1 a q = μ.1 a q) ∧ ν.2 = μ.2 := by
  rcases h with rfl | ⟨p, c, rfl⟩
  · exact ⟨fun _ _ _ => rfl, rfl⟩
  · exact ⟨fun a q h => nu_o h, rfl⟩
theorem t_addNumber {sc : Nat × (Nat → Int32)} {fr lo : Nat} {μ : Mem} {ρ : Nat × Nat × Nat} {t : Nat} (hT : isT t) (ht : μ.2.1 20 4 = .ref t) (hc : 0 ≤ μ.1 (t + 7) 1 ∧ μ.1 (t + 7) 1 ≤ 240) (hw : 0 ≤ μ.1 20 8 ∧ 0 ≤ μ.1 20 9 ∧ μ.1 20 8 + μ.1 20 9 ≤ μ.1 (t + 7) 1) (hch : ∀ k, 0 ≤ μ.2.2 (t + 7 + 1) k ∧ μ.2.2 (t + 7 + 1) k < 65536) (hcn : 0 ≤ μ.1 t 7 ∧ μ.1 t 7 < 239) (hs2 : 2 ≤ μ.1 20 9) {k : Int} (hok : ((scn (fun i => μ.2.2 (t + 7 + 1) (μ.1 20 8 + i)) 2 (μ.1 20 9)).1 = true ∧ (scn (fun i => μ.2.2 (t + 7 + 1) (μ.1 20 8 + i)) 2 (μ.1 20 9)).2.2.1 = true ∧ (scn (fun i => μ.2.2 (t + 7 + 1) (μ.1 20 8 + i)) 2 (μ.1 20 9)).2.1 = μ.1 20 9)) (hf : 14 ≤ fr) (hl : 500 ≤ lo) : w_E sc fr lo 60 [.ref 20, .int (ji k)] (hp μ, ρ) (.inl none) (hp (adw (nu μ (μ.1 20 8 + (scn (fun i => μ.2.2 (t + 7 + 1) (μ.1 20 8 + i)) 2 (μ.1 20 9)).2.1) ((scn (fun i => μ.2.2 (t + 7 + 1) (μ.1 20 8 + i)) 2 (μ.1 20 9)).2.2.1, (scn (fun i => μ.2.2 (t + 7 + 1) (μ.1 20 8 + i)) 2 (μ.1 20 9)).2.2.2)) t k (scn (fun i => μ.2.2 (t + 7 + 1) (μ.1 20 8 + i)) 2 (μ.1 20 9)).2.2.2 0 0 (μ.1 20 7)), ρ) := by
  obtain ⟨hT0, hT1, hT2, hT3, hT4, hT5, hT6, hT7, hT8⟩ := hT.sh
  have hT9 : t = 2 ∨ t = 11 ∨ t = 26 := hT
  obtain ⟨S, hS⟩ : ∃ S, S = (scn (fun i => μ.2.2 (t + 7 + 1) (μ.1 20 8 + i)) 2 (μ.1 20 9)) := ⟨_, rfl⟩
  have sc0 : w_E sc (fr - 1) (lo - (19 + 5)) 61 [.ref 24, .ref (t + 7), .int (ji (μ.1 20 8 + 2)), .int (ji (μ.1 20 8 + μ.1 20 9))] (hp μ, ρ) (.inl (some (.int (ji (bi S.1))))) (hp (nu μ (μ.1 20 8 + S.2.1) (S.2.2.1, S.2.2.2)), ρ) := by
    have e := t_scan (sc := sc) (fr := fr - 1) (lo := lo - (19 + 5)) (μ := μ) (ρ := ρ) hT.toL hc (f := μ.1 20 8 + 2) (to := μ.1 20 8 + μ.1 20 9) (by omega) hch (by omega) (by omega)
    rw [scn_sh, ← hS] at e
    exact e
  have n1 : ∀ p c, (nu μ p c).2.1 20 4 = .ref t := fun _ _ => ht
  have b1 := bi_01 S.1
  have b2 := bi_01 S.2.2.1
  have st := scn_stop (R := (fun i => μ.2.2 (t + 7 + 1) (μ.1 20 8 + i))) (a := 2) (b := μ.1 20 9) hs2
  rw [← hS] at st
  rw [← hS] at hok ⊢
  refine w_S.of (L0 := [some (.ref 20), some (.int (ji k)), none, none]) rfl rfl (Nat.le_of_ble_eq_true rfl) (by rfl) ?_
  refine w_ld d_60_0 rfl rfl rfl ?_
  refine w_gI d_60_1 (by rfl) (by first | rfl | assumption) (by rfl) (by first | exact nu_g1 | exact nu_g2 | exact nu_g0 | exact (nu_o (by omega)) | rfl) ?_
  refine w_ld d_60_4 rfl rfl rfl ?_
  refine w_gI d_60_5 (by rfl) (by first | rfl | assumption) (by rfl) (by first | exact nu_g1 | exact nu_g2 | exact nu_g0 | exact (nu_o (by omega)) | rfl) ?_
  refine w_iadd d_60_8 ?_
  refine w_st1 (L' := [_, _, _, _]) d_60_9 rfl (by decide) rfl (by decide) rfl ?_
  refine w_ld d_60_10 rfl rfl rfl ?_
  refine w_getF d_60_11 (by rfl) (by first | rfl | assumption) (by rfl) (by rfl) ?_
  refine w_ld d_60_14 rfl rfl rfl ?_
  refine w_getR d_60_15 (by rfl) (by first | rfl | assumption) (by rfl) (show _ = Value.ref t from ht) ?_
  refine w_getF d_60_18 (by rfl) (by first | rfl | assumption) (by rfl) (by rfl) ?_
  refine w_ld d_60_21 rfl rfl rfl ?_
  refine w_gI d_60_22 (by rfl) (by first | rfl | assumption) (by rfl) (by first | exact nu_g1 | exact nu_g2 | exact nu_g0 | exact (nu_o (by omega)) | rfl) ?_
  refine w_con d_60_25 ?_
  refine w_iadd d_60_26 ?_
  refine w_ld d_60_27 rfl rfl rfl ?_
  refine w_cV1 (a := 24) (as := [_, _, _]) (rest := _) rfl d_60_28 (by rfl) (by rfl) (by first | rfl | assumption) (by rfl) (by rfl) (Nat.le_of_ble_eq_true rfl) (by omega) (by omega) sc0 ?_
  refine w_st1 (L' := [_, _, _, _]) d_60_31 rfl (by decide) rfl (by decide) rfl ?_
  refine w_ld d_60_32 rfl rfl rfl ?_
  refine w_ld d_60_33 rfl rfl rfl ?_
  refine w_if_eq (g := 62) d_60_34 (by decide) (by omega) (fun h34 => ?_) (fun h34 => ?_)
  · exact absurd (bi_f.mp h34) (by rw [hok.1]; decide)
  · refine w_ld d_60_37 rfl rfl rfl ?_
    refine w_getF d_60_38 (by rfl) (by first | rfl | assumption) (by rfl) (by rfl) ?_
    refine w_gI d_60_41 (by rfl) (by first | rfl | assumption) (by rfl) (show _ = bi S.2.2.1 from nu_g2) ?_
    refine w_if_eq (g := 62) d_60_44 (by decide) (by omega) (fun h44 => ?_) (fun h44 => ?_)
    · exact absurd (bi_f.mp h44) (by rw [hok.2.1]; decide)
    · refine w_ld d_60_47 rfl rfl rfl ?_
      refine w_getF d_60_48 (by rfl) (by first | rfl | assumption) (by rfl) (by rfl) ?_
      refine w_gI d_60_51 (by rfl) (by first | rfl | assumption) (by rfl) (by first | exact nu_g1 | exact nu_g2 | exact nu_g0 | exact (nu_o (by omega)) | rfl) ?_
      refine w_ld d_60_54 rfl rfl rfl ?_
      refine w_icmp_ne (g := 62) d_60_55 (by decide) (by omega) (fun h55 => ?_) (fun h55 => ?_)
      · exact absurd (by rw [hok.2.2]) h55
      · refine w_con d_60_58 ?_
        refine w_goto (g := 63) d_60_59 (by decide) ?_
        refine w_cV0 (as := [_]) (rest := _) rfl d_60_63 (by rfl) (by rfl) (by first | rfl | assumption) (by rfl) (by rfl) (Nat.le_of_ble_eq_true rfl) (by omega) (by omega) (t_req rfl) ?_
        refine w_ld d_60_66 rfl rfl rfl ?_
        refine w_ld d_60_67 rfl rfl rfl ?_
        refine w_ld d_60_68 rfl rfl rfl ?_
        refine w_getF d_60_69 (by rfl) (by first | rfl | assumption) (by rfl) (by rfl) ?_
        refine w_gJ d_60_72 (by rfl) (by first | rfl | assumption) (by rfl) (by first | exact nu_g1 | exact nu_g2 | exact nu_g0 | exact (nu_o (by omega)) | rfl) ?_
        refine w_ld d_60_75 rfl rfl rfl ?_
        refine w_gI d_60_76 (by rfl) (by first | rfl | assumption) (by rfl) (by first | exact nu_g1 | exact nu_g2 | exact nu_g0 | exact (nu_o (by omega)) | rfl) ?_
        refine w_cV1 (a := 20) (as := [_, _, _]) (rest := _) rfl d_60_79 (by rfl) (by rfl) (by first | rfl | assumption) (by rfl) (by rfl) (Nat.le_of_ble_eq_true rfl) (by omega) (by omega) (by have e := t_radd (sc := sc) (fr := fr - 1) (lo := lo - (19 + 6)) (μ := nu μ (μ.1 20 8 + S.2.1) (S.2.2.1, S.2.2.2)) (ρ := ρ) hT ht (by rw [nu_o (by omega)]; omega) (k := k) (v := S.2.2.2) (s := μ.1 20 7) (by omega) (by omega); exact e) ?_
        refine w_stk d_60_82 rfl ?_
        refine w_ret d_60_83 rfl ?_
        exact ⟨rfl, rfl⟩
theorem t_addNumberx {sc : Nat × (Nat → Int32)} {fr lo : Nat} {μ : Mem} {ρ : Nat × Nat × Nat} {t : Nat} (hT : isT t) (ht : μ.2.1 20 4 = .ref t) (hc : 0 ≤ μ.1 (t + 7) 1 ∧ μ.1 (t + 7) 1 ≤ 240) (hw : 0 ≤ μ.1 20 8 ∧ 0 ≤ μ.1 20 9 ∧ μ.1 20 8 + μ.1 20 9 ≤ μ.1 (t + 7) 1) (hch : ∀ k, 0 ≤ μ.2.2 (t + 7 + 1) k ∧ μ.2.2 (t + 7 + 1) k < 65536) (hs2 : 2 ≤ μ.1 20 9) {k : Int} (hok : ¬ ((scn (fun i => μ.2.2 (t + 7 + 1) (μ.1 20 8 + i)) 2 (μ.1 20 9)).1 = true ∧ (scn (fun i => μ.2.2 (t + 7 + 1) (μ.1 20 8 + i)) 2 (μ.1 20 9)).2.2.1 = true ∧ (scn (fun i => μ.2.2 (t + 7 + 1) (μ.1 20 8 + i)) 2 (μ.1 20 9)).2.1 = μ.1 20 9)) (hf : 14 ≤ fr) (hl : 500 ≤ lo) (hr : 1 ≤ ρ.2.1 ∧ 6 ≤ ρ.2.2) : w_E sc fr lo 60 [.ref 20, .int (ji k)] (hp μ, ρ) (.inr (1, ρ.1)) (hp (stI (nu μ (μ.1 20 8 + (scn (fun i => μ.2.2 (t + 7 + 1) (μ.1 20 8 + i)) 2 (μ.1 20 9)).2.1) ((scn (fun i => μ.2.2 (t + 7 + 1) (μ.1 20 8 + i)) 2 (μ.1 20 9)).2.2.1, (scn (fun i => μ.2.2 (t + 7 + 1) (μ.1 20 8 + i)) 2 (μ.1 20 9)).2.2.2)) 20 6 (μ.1 20 7)), ρ.1 + 1, ρ.2.1 - 1, ρ.2.2 - 6) := by
  obtain ⟨hT0, hT1, hT2, hT3, hT4, hT5, hT6, hT7, hT8⟩ := hT.sh
  have hT9 : t = 2 ∨ t = 11 ∨ t = 26 := hT
  obtain ⟨S, hS⟩ : ∃ S, S = (scn (fun i => μ.2.2 (t + 7 + 1) (μ.1 20 8 + i)) 2 (μ.1 20 9)) := ⟨_, rfl⟩
  have sc0 : w_E sc (fr - 1) (lo - (19 + 5)) 61 [.ref 24, .ref (t + 7), .int (ji (μ.1 20 8 + 2)), .int (ji (μ.1 20 8 + μ.1 20 9))] (hp μ, ρ) (.inl (some (.int (ji (bi S.1))))) (hp (nu μ (μ.1 20 8 + S.2.1) (S.2.2.1, S.2.2.2)), ρ) := by
    have e := t_scan (sc := sc) (fr := fr - 1) (lo := lo - (19 + 5)) (μ := μ) (ρ := ρ) hT.toL hc (f := μ.1 20 8 + 2) (to := μ.1 20 8 + μ.1 20 9) (by omega) hch (by omega) (by omega)
    rw [scn_sh, ← hS] at e
    exact e
  have n1 : ∀ p c, (nu μ p c).2.1 20 4 = .ref t := fun _ _ => ht
  have b1 := bi_01 S.1
  have b2 := bi_01 S.2.2.1
  have st := scn_stop (R := (fun i => μ.2.2 (t + 7 + 1) (μ.1 20 8 + i))) (a := 2) (b := μ.1 20 9) hs2
  rw [← hS] at st
  rw [← hS] at hok ⊢
  refine w_S.of (L0 := [some (.ref 20), some (.int (ji k)), none, none]) rfl rfl (Nat.le_of_ble_eq_true rfl) (by rfl) ?_
  refine w_ld d_60_0 rfl rfl rfl ?_
  refine w_gI d_60_1 (by rfl) (by first | rfl | assumption) (by rfl) (by first | exact nu_g1 | exact nu_g2 | exact nu_g0 | exact (nu_o (by omega)) | rfl) ?_
  refine w_ld d_60_4 rfl rfl rfl ?_
  refine w_gI d_60_5 (by rfl) (by first | rfl | assumption) (by rfl) (by first | exact nu_g1 | exact nu_g2 | exact nu_g0 | exact (nu_o (by omega)) | rfl) ?_
  refine w_iadd d_60_8 ?_
  refine w_st1 (L' := [_, _, _, _]) d_60_9 rfl (by decide) rfl (by decide) rfl ?_
  refine w_ld d_60_10 rfl rfl rfl ?_
  refine w_getF d_60_11 (by rfl) (by first | rfl | assumption) (by rfl) (by rfl) ?_
  refine w_ld d_60_14 rfl rfl rfl ?_
  refine w_getR d_60_15 (by rfl) (by first | rfl | assumption) (by rfl) (show _ = Value.ref t from ht) ?_
  refine w_getF d_60_18 (by rfl) (by first | rfl | assumption) (by rfl) (by rfl) ?_
  refine w_ld d_60_21 rfl rfl rfl ?_
  refine w_gI d_60_22 (by rfl) (by first | rfl | assumption) (by rfl) (by first | exact nu_g1 | exact nu_g2 | exact nu_g0 | exact (nu_o (by omega)) | rfl) ?_
  refine w_con d_60_25 ?_
  refine w_iadd d_60_26 ?_
  refine w_ld d_60_27 rfl rfl rfl ?_
  refine w_cV1 (a := 24) (as := [_, _, _]) (rest := _) rfl d_60_28 (by rfl) (by rfl) (by first | rfl | assumption) (by rfl) (by rfl) (Nat.le_of_ble_eq_true rfl) (by omega) (by omega) sc0 ?_
  refine w_st1 (L' := [_, _, _, _]) d_60_31 rfl (by decide) rfl (by decide) rfl ?_
  refine w_ld d_60_32 rfl rfl rfl ?_
  refine w_ld d_60_33 rfl rfl rfl ?_
  refine w_if_eq (g := 62) d_60_34 (by decide) (by omega) (fun h34 => ?_) (fun h34 => ?_)
  · refine w_con d_60_62 ?_
    refine w_cVx (a := 20) (as := [_]) (rest := _) rfl d_60_63 (by rfl) (by rfl) (by first | rfl | assumption) (by rfl) (by rfl) (Nat.le_of_ble_eq_true rfl) (by omega) (by omega) (t_reqx (μ := nu μ (μ.1 20 8 + S.2.1) (S.2.2.1, S.2.2.2)) rfl (by omega) (by omega) hr) ?_
    exact ⟨rfl, rfl⟩
  · refine w_ld d_60_37 rfl rfl rfl ?_
    refine w_getF d_60_38 (by rfl) (by first | rfl | assumption) (by rfl) (by rfl) ?_
    refine w_gI d_60_41 (by rfl) (by first | rfl | assumption) (by rfl) (show _ = bi S.2.2.1 from nu_g2) ?_
    refine w_if_eq (g := 62) d_60_44 (by decide) (by omega) (fun h44 => ?_) (fun h44 => ?_)
    · refine w_con d_60_62 ?_
      refine w_cVx (a := 20) (as := [_]) (rest := _) rfl d_60_63 (by rfl) (by rfl) (by first | rfl | assumption) (by rfl) (by rfl) (Nat.le_of_ble_eq_true rfl) (by omega) (by omega) (t_reqx (μ := nu μ (μ.1 20 8 + S.2.1) (S.2.2.1, S.2.2.2)) rfl (by omega) (by omega) hr) ?_
      exact ⟨rfl, rfl⟩
    · refine w_ld d_60_47 rfl rfl rfl ?_
      refine w_getF d_60_48 (by rfl) (by first | rfl | assumption) (by rfl) (by rfl) ?_
      refine w_gI d_60_51 (by rfl) (by first | rfl | assumption) (by rfl) (by first | exact nu_g1 | exact nu_g2 | exact nu_g0 | exact (nu_o (by omega)) | rfl) ?_
      refine w_ld d_60_54 rfl rfl rfl ?_
      refine w_icmp_ne (g := 62) d_60_55 (by decide) (by omega) (fun h55 => ?_) (fun h55 => ?_)
      · refine w_con d_60_62 ?_
        refine w_cVx (a := 20) (as := [_]) (rest := _) rfl d_60_63 (by rfl) (by rfl) (by first | rfl | assumption) (by rfl) (by rfl) (Nat.le_of_ble_eq_true rfl) (by omega) (by omega) (t_reqx (μ := nu μ (μ.1 20 8 + S.2.1) (S.2.2.1, S.2.2.2)) rfl (by omega) (by omega) hr) ?_
        exact ⟨rfl, rfl⟩
      · exact absurd ⟨bi_t.mp (by omega), bi_t.mp (by omega), by omega⟩ hok
theorem t_addTagged {sc : Nat × (Nat → Int32)} {fr lo : Nat} {μ : Mem} {ρ : Nat × Nat × Nat} {t : Nat} (hT : isT t) (ht : μ.2.1 20 4 = .ref t) (hcn : 0 ≤ μ.1 t 7 ∧ μ.1 t 7 < 239) (hf : 14 ≤ fr) (hl : 500 ≤ lo) : w_E sc fr lo 65 [.ref 20] (hp μ, ρ) (.inl none) (hp (cls (adw (adw μ t 12 0 (μ.1 20 8 + 1) 1 (μ.1 20 7)) t 4 0 (μ.1 20 8 + 2) (μ.1 20 9 - 2) (μ.1 20 7)) t (μ.1 t 7) 12 1), ρ) := by
  obtain ⟨hT0, hT1, hT2, hT3, hT4, hT5, hT6, hT7, hT8⟩ := hT.sh
  have hT9 : t = 2 ∨ t = 11 ∨ t = 26 := hT
  have q1 : (adw μ t 12 0 (μ.1 20 8 + 1) 1 (μ.1 20 7)).1 t 7 = μ.1 t 7 + 1 := by unfold adw; exact if_pos ⟨rfl, rfl⟩
  have q7 : (adw μ t 12 0 (μ.1 20 8 + 1) 1 (μ.1 20 7)).1 20 7 = μ.1 20 7 := by simp only [adw]; rw [if_neg (by omega)]
  have q8 : (adw μ t 12 0 0 0 (μ.1 20 7)).1 20 8 = μ.1 20 8 := by simp only [adw]; rw [if_neg (by omega)]
  have q9 : (adw μ t 12 0 (μ.1 20 8 + 1) 1 (μ.1 20 7)).1 20 9 = μ.1 20 9 := by simp only [adw]; rw [if_neg (by omega)]
  have q8b : (adw (adw μ t 12 0 (μ.1 20 8 + 1) 1 (μ.1 20 7)) t 4 0 0 0 (μ.1 20 7)).1 20 8 = μ.1 20 8 := by simp only [adw]; rw [if_neg (by omega), if_neg (by omega)]
  have q9b : (adw (adw μ t 12 0 (μ.1 20 8 + 1) 1 (μ.1 20 7)) t 4 0 0 0 (μ.1 20 7)).1 20 9 = μ.1 20 9 := by simp only [adw]; rw [if_neg (by omega), if_neg (by omega)]
  refine w_S.of (L0 := [some (.ref 20), none, none]) rfl rfl (Nat.le_of_ble_eq_true rfl) (by rfl) ?_
  refine w_ld d_65_0 rfl rfl rfl ?_
  refine w_bip d_65_1 (by decide) ?_
  refine w_lcon0 d_65_3 ?_
  refine w_ld d_65_4 rfl rfl rfl ?_
  refine w_gI d_65_5 (by rfl) (by first | rfl | assumption) (by rfl) (by first | rfl | exact q7 | exact q8 | exact q9 | (simp only [adw]; rw [if_neg (by omega)])) ?_
  refine w_cV1 (as := [_, _, _]) (rest := _) rfl d_65_8 (by rfl) (by rfl) (by first | rfl | assumption) (by rfl) (by rfl) (Nat.le_of_ble_eq_true rfl) (by omega) (by omega) (t_radd hT ht (by omega) (by omega) (by omega)) ?_
  refine w_st1 (L' := [_, _, _]) d_65_11 rfl (by decide) rfl (by decide) rfl ?_
  refine w_ld d_65_12 rfl rfl rfl ?_
  refine w_getR d_65_13 (by rfl) (by first | rfl | assumption) (by rfl) (show _ = Value.ref t from ht) ?_
  refine w_ld d_65_16 rfl rfl rfl ?_
  refine w_ld d_65_17 rfl rfl rfl ?_
  refine w_gI d_65_18 (by rfl) (by first | rfl | assumption) (by rfl) q8 ?_
  refine w_con d_65_21 ?_
  refine w_iadd d_65_22 ?_
  refine w_con d_65_23 ?_
  refine w_cV0 (as := [_, _, _]) (rest := _) rfl d_65_24 (by rfl) (by rfl) (by first | rfl | assumption) (by rfl) (by rfl) (Nat.le_of_ble_eq_true rfl) (by omega) (by omega) (t_giveWord hT (by omega)) ?_
  rw [adw_word]
  refine w_ld d_65_27 rfl rfl rfl ?_
  refine w_con d_65_28 ?_
  refine w_lcon0 d_65_29 ?_
  refine w_ld d_65_30 rfl rfl rfl ?_
  refine w_gI d_65_31 (by rfl) (by first | rfl | assumption) (by rfl) q7 ?_
  refine w_cV1 (a := 20) (as := [_, _, _]) (rest := _) rfl d_65_34 (by rfl) (by rfl) (by first | rfl | assumption) (by rfl) (by rfl) (Nat.le_of_ble_eq_true rfl) (by omega) (by omega) (t_radd (fr := fr - 1) (lo := lo - (19 + 6)) (μ := (adw μ t 12 0 (μ.1 20 8 + 1) 1 (μ.1 20 7))) hT ht (by rw [q1]; omega) (by omega) (by omega)) ?_
  refine w_st1 (L' := [_, _, _]) d_65_37 rfl (by decide) rfl (by decide) rfl ?_
  refine w_ld d_65_38 rfl rfl rfl ?_
  refine w_getR d_65_39 (by rfl) (by first | rfl | assumption) (by rfl) (show _ = Value.ref t from ht) ?_
  refine w_ld d_65_42 rfl rfl rfl ?_
  refine w_ld d_65_43 rfl rfl rfl ?_
  refine w_gI d_65_44 (by rfl) (by first | rfl | assumption) (by rfl) (show _ = μ.1 20 8 from q8b) ?_
  refine w_con d_65_47 ?_
  refine w_iadd d_65_48 ?_
  refine w_ld d_65_49 rfl rfl rfl ?_
  refine w_gI d_65_50 (by rfl) (by first | rfl | assumption) (by rfl) (show _ = μ.1 20 9 from q9b) ?_
  refine w_con d_65_53 ?_
  refine w_isub d_65_54 ?_
  refine w_cV0 (a := t) (as := [_, _, _]) (rest := _) rfl d_65_55 (by rfl) (by rfl) (by first | rfl | assumption) (by rfl) (by rfl) (Nat.le_of_ble_eq_true rfl) (by omega) (by omega) (t_giveWord hT (by rw [q1]; omega)) ?_
  rw [adw_word]
  refine w_ld d_65_58 rfl rfl rfl ?_
  refine w_getR d_65_59 (by rfl) (by first | rfl | assumption) (by rfl) (show _ = Value.ref t from ht) ?_
  refine w_ld d_65_62 rfl rfl rfl ?_
  refine w_bip d_65_63 (by decide) ?_
  refine w_con d_65_65 ?_
  refine w_cV0 (a := t) (as := [_, _, _]) (rest := _) rfl d_65_66 (by rfl) (by rfl) (by first | rfl | assumption) (by rfl) (by rfl) (Nat.le_of_ble_eq_true rfl) (by omega) (by omega) (t_close hT (by omega)) ?_
  refine w_ret d_65_69 rfl ?_
  exact ⟨rfl, rfl⟩
/-- the words of a kind stand in the row of words -/
def wkf (k f a : Int) : Int := if k = 4 ∨ k = 5 ∨ k = 6 then f + a else 0
/-- what meaning comes to -/
def mnQ (μ : Mem) (t : Nat) (ρ : Nat × Nat × Nat) (w : Int → Int) (s f q : Int) (o : z_O) (τ : z_T) : Prop :=
  match mn w s with
  | none => o = .inr (1, ρ.1) ∧ ∃ ν, nux μ ν ∧ τ = (hp (stI ν 20 6 q), ρ.1 + 1, ρ.2.1 - 1, ρ.2.2 - 6)
  | some (k, v, a, z) => o = .inl none ∧ ∃ ν, nux μ ν ∧ if k = 12 then τ = (hp (cls (adw (adw ν t 12 0 (f + 1) 1 q) t 4 0 (f + 2) (s - 2) q) t (μ.1 t 7) 12 1), ρ) else τ = (hp (adw ν t k v (wkf k f a) z q), ρ)
theorem mnQ_none {μ : Mem} {t : Nat} {ρ : Nat × Nat × Nat} {w : Int → Int} {s f q : Int} {o : z_O} {τ : z_T} (h : mn w s = none) (k : o = .inr (1, ρ.1) ∧ ∃ ν, nux μ ν ∧ τ = (hp (stI ν 20 6 q), ρ.1 + 1, ρ.2.1 - 1, ρ.2.2 - 6)) : mnQ μ t ρ w s f q o τ := by
  unfold mnQ
  rw [h]
  exact k
theorem mnQ_some {μ : Mem} {t : Nat} {ρ : Nat × Nat × Nat} {w : Int → Int} {s f q : Int} {o : z_O} {τ : z_T} {k v a z : Int} (h : mn w s = some (k, v, a, z)) (hk : k ≠ 12) (ho : o = .inl none ∧ ∃ ν, nux μ ν ∧ τ = (hp (adw ν t k v (wkf k f a) z q), ρ)) : mnQ μ t ρ w s f q o τ := by
  unfold mnQ
  rw [h]
  obtain ⟨h1, ν, h2, h3⟩ := ho
  exact ⟨h1, ν, h2, by rw [if_neg hk]; exact h3⟩
theorem mnQ_tag {μ : Mem} {t : Nat} {ρ : Nat × Nat × Nat} {w : Int → Int} {s f q : Int} {o : z_O} {τ : z_T} {v a z : Int} (h : mn w s = some (12, v, a, z)) (ho : o = .inl none ∧ τ = (hp (cls (adw (adw μ t 12 0 (f + 1) 1 q) t 4 0 (f + 2) (s - 2) q) t (μ.1 t 7) 12 1), ρ)) : mnQ μ t ρ w s f q o τ := by
  unfold mnQ
  rw [h]
  exact ⟨ho.1, μ, Or.inl rfl, by rw [if_pos rfl]; exact ho.2⟩
theorem t_meaning {sc : Nat × (Nat → Int32)} {fr lo : Nat} {μ : Mem} {ρ : Nat × Nat × Nat} {t : Nat} (hT : isT t) (ht : μ.2.1 20 4 = .ref t) (hc : 0 ≤ μ.1 (t + 7) 1 ∧ μ.1 (t + 7) 1 ≤ 240) (hw : 0 ≤ μ.1 20 8 ∧ 0 ≤ μ.1 20 9 ∧ μ.1 20 8 + μ.1 20 9 ≤ μ.1 (t + 7) 1) (hch : ∀ k, 0 ≤ μ.2.2 (t + 7 + 1) k ∧ μ.2.2 (t + 7 + 1) k < 65536) (hcn : 0 ≤ μ.1 t 7 ∧ μ.1 t 7 < 239) (hf : 18 ≤ fr) (hl : 700 ≤ lo) (hr : 1 ≤ ρ.2.1 ∧ 6 ≤ ρ.2.2) : w_S sc fr lo 58 [.ref 20] (hp μ, ρ) (mnQ μ t ρ (fun i => μ.2.2 (t + 7 + 1) (μ.1 20 8 + i)) (μ.1 20 9) (μ.1 20 8) (μ.1 20 7)) := by
  obtain ⟨hT0, hT1, hT2, hT3, hT4, hT5, hT6, hT7, hT8⟩ := hT.sh
  have hT9 : t = 2 ∨ t = 11 ∨ t = 26 := hT
  have l0 := wl_in (w := (fun i => μ.2.2 (t + 7 + 1) (μ.1 20 8 + i))) (fun i => hch _) (μ.1 20 9) 0
  have l1 := wl_in (w := (fun i => μ.2.2 (t + 7 + 1) (μ.1 20 8 + i))) (fun i => hch _) (μ.1 20 9) 1
  have l2 := wl_in (w := (fun i => μ.2.2 (t + 7 + 1) (μ.1 20 8 + i))) (fun i => hch _) (μ.1 20 9) 2
  refine w_S.of (L0 := [some (.ref 20), none, none, none]) rfl rfl (Nat.le_of_ble_eq_true rfl) (by rfl) ?_
  refine w_ld d_58_0 rfl rfl rfl ?_
  refine w_con d_58_1 ?_
  refine w_cV1 (as := [_]) (rest := _) rfl d_58_2 (by rfl) (by rfl) (by first | rfl | assumption) (by rfl) (by rfl) (Nat.le_of_ble_eq_true rfl) (by omega) (by omega) (t_wl hT ht hc hw hch (by omega) (by omega) (by decide)) ?_
  refine w_st1 (L' := [_, _, _, _]) d_58_5 rfl (by decide) rfl (by decide) rfl ?_
  refine w_ld d_58_6 rfl rfl rfl ?_
  refine w_ld d_58_7 rfl rfl rfl ?_
  refine w_bip d_58_8 (by decide) ?_
  refine w_icmp_eq (g := 23) d_58_10 (by decide) (by omega) (fun h10 => ?_) (fun h10 => ?_)
  · refine w_con d_58_23 ?_
    refine w_cVx (a := 20) (as := [_]) (rest := _) rfl d_58_24 (by rfl) (by rfl) (by first | rfl | assumption) (by rfl) (by rfl) (Nat.le_of_ble_eq_true rfl) (by omega) (by omega) (t_reqx rfl (by omega) (by omega) hr) ?_
    refine mnQ_none (show (mn (fun i => μ.2.2 (t + 7 + 1) (μ.1 20 8 + i)) (μ.1 20 9)) = none by unfold mn; rw [if_pos (by omega)]) ⟨rfl, μ, Or.inl rfl, rfl⟩
  · refine w_ld d_58_13 rfl rfl rfl ?_
    refine w_bip d_58_14 (by decide) ?_
    refine w_icmp_eq (g := 23) d_58_16 (by decide) (by omega) (fun h16 => ?_) (fun h16 => ?_)
    · refine w_con d_58_23 ?_
      refine w_cVx (a := 20) (as := [_]) (rest := _) rfl d_58_24 (by rfl) (by rfl) (by first | rfl | assumption) (by rfl) (by rfl) (Nat.le_of_ble_eq_true rfl) (by omega) (by omega) (t_reqx rfl (by omega) (by omega) hr) ?_
      refine mnQ_none (show (mn (fun i => μ.2.2 (t + 7 + 1) (μ.1 20 8 + i)) (μ.1 20 9)) = none by unfold mn; rw [if_pos (by omega)]) ⟨rfl, μ, Or.inl rfl, rfl⟩
    · refine w_con d_58_19 ?_
      refine w_goto (g := 24) d_58_20 (by decide) ?_
      refine w_cV0 (as := [_]) (rest := _) rfl d_58_24 (by rfl) (by rfl) (by first | rfl | assumption) (by rfl) (by rfl) (Nat.le_of_ble_eq_true rfl) (by omega) (by omega) (t_req rfl) ?_
      refine w_ld d_58_27 rfl rfl rfl ?_
      refine w_bip d_58_28 (by decide) ?_
      refine w_icmp_eq (g := 40) d_58_30 (by decide) (by omega) (fun h30 => ?_) (fun h30 => ?_)
      · refine w_ld d_58_40 rfl rfl rfl ?_
        refine w_con d_58_41 ?_
        refine w_cV1 (as := [_]) (rest := _) rfl d_58_42 (by rfl) (by rfl) (by first | rfl | assumption) (by rfl) (by rfl) (Nat.le_of_ble_eq_true rfl) (by omega) (by omega) (t_wl hT ht hc hw hch (by omega) (by omega) (by decide)) ?_
        refine w_st1 (L' := [_, _, _, _]) d_58_45 rfl (by decide) rfl (by decide) rfl ?_
        refine w_ld d_58_46 rfl rfl rfl ?_
        refine w_con d_58_47 ?_
        refine w_cV1 (as := [_]) (rest := _) rfl d_58_48 (by rfl) (by rfl) (by first | rfl | assumption) (by rfl) (by rfl) (Nat.le_of_ble_eq_true rfl) (by omega) (by omega) (t_wl hT ht hc hw hch (by omega) (by omega) (by decide)) ?_
        refine w_st1 (L' := [_, _, _, _]) d_58_51 rfl (by decide) rfl (by decide) rfl ?_
        refine w_ld d_58_52 rfl rfl rfl ?_
        rcases (show (wl (fun i => μ.2.2 (t + 7 + 1) (μ.1 20 8 + i)) (μ.1 20 9) 1) = 36 ∨ (wl (fun i => μ.2.2 (t + 7 + 1) (μ.1 20 8 + i)) (μ.1 20 9) 1) = 58 ∨ (wl (fun i => μ.2.2 (t + 7 + 1) (μ.1 20 8 + i)) (μ.1 20 9) 1) = 63 ∨ (wl (fun i => μ.2.2 (t + 7 + 1) (μ.1 20 8 + i)) (μ.1 20 9) 1) = 94 ∨ (wl (fun i => μ.2.2 (t + 7 + 1) (μ.1 20 8 + i)) (μ.1 20 9) 1) = 95 ∨ (wl (fun i => μ.2.2 (t + 7 + 1) (μ.1 20 8 + i)) (μ.1 20 9) 1) = 96 ∨ (wl (fun i => μ.2.2 (t + 7 + 1) (μ.1 20 8 + i)) (μ.1 20 9) 1) = 99 ∨ (wl (fun i => μ.2.2 (t + 7 + 1) (μ.1 20 8 + i)) (μ.1 20 9) 1) = 105 ∨ (wl (fun i => μ.2.2 (t + 7 + 1) (μ.1 20 8 + i)) (μ.1 20 9) 1) = 109 ∨ (wl (fun i => μ.2.2 (t + 7 + 1) (μ.1 20 8 + i)) (μ.1 20 9) 1) = 126 ∨ ((wl (fun i => μ.2.2 (t + 7 + 1) (μ.1 20 8 + i)) (μ.1 20 9) 1) ≠ 36 ∧ (wl (fun i => μ.2.2 (t + 7 + 1) (μ.1 20 8 + i)) (μ.1 20 9) 1) ≠ 58 ∧ (wl (fun i => μ.2.2 (t + 7 + 1) (μ.1 20 8 + i)) (μ.1 20 9) 1) ≠ 63 ∧ (wl (fun i => μ.2.2 (t + 7 + 1) (μ.1 20 8 + i)) (μ.1 20 9) 1) ≠ 94 ∧ (wl (fun i => μ.2.2 (t + 7 + 1) (μ.1 20 8 + i)) (μ.1 20 9) 1) ≠ 95 ∧ (wl (fun i => μ.2.2 (t + 7 + 1) (μ.1 20 8 + i)) (μ.1 20 9) 1) ≠ 96 ∧ (wl (fun i => μ.2.2 (t + 7 + 1) (μ.1 20 8 + i)) (μ.1 20 9) 1) ≠ 99 ∧ (wl (fun i => μ.2.2 (t + 7 + 1) (μ.1 20 8 + i)) (μ.1 20 9) 1) ≠ 105 ∧ (wl (fun i => μ.2.2 (t + 7 + 1) (μ.1 20 8 + i)) (μ.1 20 9) 1) ≠ 109 ∧ (wl (fun i => μ.2.2 (t + 7 + 1) (μ.1 20 8 + i)) (μ.1 20 9) 1) ≠ 126) by omega) with h53 | h53 | h53 | h53 | h53 | h53 | h53 | h53 | h53 | h53 | h53
        · refine w_lsw (g := 279) d_58_53 (by omega) (by decide) (by rw [h53]; decide) ?_
          refine w_ld d_58_279 rfl rfl rfl ?_
          refine w_ld d_58_280 rfl rfl rfl ?_
          refine w_gI d_58_281 (by rfl) (by first | rfl | assumption) (by rfl) (by (try simp [stI, stA, stR]) <;> rfl) ?_
          refine w_con d_58_284 ?_
          refine w_icmp_le (g := 292) d_58_285 (by decide) (by omega) (fun h285 => ?_) (fun h285 => ?_)
          · refine w_con d_58_292 ?_
            refine w_cVx (a := 20) (as := [_]) (rest := _) rfl d_58_293 (by rfl) (by rfl) (by first | rfl | assumption) (by rfl) (by rfl) (Nat.le_of_ble_eq_true rfl) (by omega) (by omega) (t_reqx rfl (by omega) (by omega) hr) ?_
            refine mnQ_none (show (mn (fun i => μ.2.2 (t + 7 + 1) (μ.1 20 8 + i)) (μ.1 20 9)) = none by unfold mn; rw [if_neg (by omega), if_neg (fun z => z h30), if_neg (by omega), if_neg (by omega), if_neg (by omega), if_neg (by omega), if_neg (by omega), if_neg (by omega), if_pos (by omega), if_neg (by omega)]) ⟨rfl, μ, Or.inl rfl, rfl⟩
          · refine w_con d_58_288 ?_
            refine w_goto (g := 293) d_58_289 (by decide) ?_
            refine w_cV0 (as := [_]) (rest := _) rfl d_58_293 (by rfl) (by rfl) (by first | rfl | assumption) (by rfl) (by rfl) (Nat.le_of_ble_eq_true rfl) (by omega) (by omega) (t_req rfl) ?_
            refine w_ld d_58_296 rfl rfl rfl ?_
            refine w_bip d_58_297 (by decide) ?_
            refine w_con d_58_299 ?_
            refine w_cV0 (as := [_, _]) (rest := _) rfl d_58_300 (by rfl) (by rfl) (by first | rfl | assumption) (by rfl) (by rfl) (Nat.le_of_ble_eq_true rfl) (by omega) (by omega) (t_addWord hT ht (by omega) (by omega) (by omega)) ?_
            refine w_goto (g := 351) d_58_303 (by decide) ?_
            refine w_ret d_58_351 rfl ?_
            refine mnQ_some (show (mn (fun i => μ.2.2 (t + 7 + 1) (μ.1 20 8 + i)) (μ.1 20 9)) = some (6, 0, 2, μ.1 20 9 - 2) by unfold mn; rw [if_neg (by omega), if_neg (fun z => z h30), if_neg (by omega), if_neg (by omega), if_neg (by omega), if_neg (by omega), if_neg (by omega), if_neg (by omega), if_pos (by omega), if_pos (by omega)]) (by decide) ⟨rfl, μ, Or.inl rfl, ?_⟩
            rw [show wkf 6 (μ.1 20 8) 2 = μ.1 20 8 + 2 from if_pos (by decide)]
        · refine w_lsw (g := 253) d_58_53 (by omega) (by decide) (by rw [h53]; decide) ?_
          refine w_ld d_58_253 rfl rfl rfl ?_
          refine w_ld d_58_254 rfl rfl rfl ?_
          refine w_gI d_58_255 (by rfl) (by first | rfl | assumption) (by rfl) (by (try simp [stI, stA, stR]) <;> rfl) ?_
          refine w_con d_58_258 ?_
          refine w_icmp_le (g := 266) d_58_259 (by decide) (by omega) (fun h259 => ?_) (fun h259 => ?_)
          · refine w_con d_58_266 ?_
            refine w_cVx (a := 20) (as := [_]) (rest := _) rfl d_58_267 (by rfl) (by rfl) (by first | rfl | assumption) (by rfl) (by rfl) (Nat.le_of_ble_eq_true rfl) (by omega) (by omega) (t_reqx rfl (by omega) (by omega) hr) ?_
            refine mnQ_none (show (mn (fun i => μ.2.2 (t + 7 + 1) (μ.1 20 8 + i)) (μ.1 20 9)) = none by unfold mn; rw [if_neg (by omega), if_neg (fun z => z h30), if_neg (by omega), if_neg (by omega), if_neg (by omega), if_neg (by omega), if_neg (by omega), if_pos (by omega), if_neg (by omega)]) ⟨rfl, μ, Or.inl rfl, rfl⟩
          · refine w_con d_58_262 ?_
            refine w_goto (g := 267) d_58_263 (by decide) ?_
            refine w_cV0 (as := [_]) (rest := _) rfl d_58_267 (by rfl) (by rfl) (by first | rfl | assumption) (by rfl) (by rfl) (Nat.le_of_ble_eq_true rfl) (by omega) (by omega) (t_req rfl) ?_
            refine w_ld d_58_270 rfl rfl rfl ?_
            refine w_con d_58_271 ?_
            refine w_con d_58_272 ?_
            refine w_cV0 (as := [_, _]) (rest := _) rfl d_58_273 (by rfl) (by rfl) (by first | rfl | assumption) (by rfl) (by rfl) (Nat.le_of_ble_eq_true rfl) (by omega) (by omega) (t_addWord hT ht (by omega) (by omega) (by omega)) ?_
            refine w_goto (g := 351) d_58_276 (by decide) ?_
            refine w_ret d_58_351 rfl ?_
            refine mnQ_some (show (mn (fun i => μ.2.2 (t + 7 + 1) (μ.1 20 8 + i)) (μ.1 20 9)) = some (5, 0, 2, μ.1 20 9 - 2) by unfold mn; rw [if_neg (by omega), if_neg (fun z => z h30), if_neg (by omega), if_neg (by omega), if_neg (by omega), if_neg (by omega), if_neg (by omega), if_pos (by omega), if_pos (by omega)]) (by decide) ⟨rfl, μ, Or.inl rfl, ?_⟩
            rw [show wkf 5 (μ.1 20 8) 2 = μ.1 20 8 + 2 from if_pos (by decide)]
        · refine w_lsw (g := 184) d_58_53 (by omega) (by decide) (by rw [h53]; decide) ?_
          refine w_ld d_58_184 rfl rfl rfl ?_
          refine w_ld d_58_185 rfl rfl rfl ?_
          refine w_gI d_58_186 (by rfl) (by first | rfl | assumption) (by rfl) (by (try simp [stI, stA, stR]) <;> rfl) ?_
          refine w_con d_58_189 ?_
          refine w_icmp_ne (g := 209) d_58_190 (by decide) (by omega) (fun h190 => ?_) (fun h190 => ?_)
          · refine w_con d_58_209 ?_
            refine w_cVx (a := 20) (as := [_]) (rest := _) rfl d_58_210 (by rfl) (by rfl) (by first | rfl | assumption) (by rfl) (by rfl) (Nat.le_of_ble_eq_true rfl) (by omega) (by omega) (t_reqx rfl (by omega) (by omega) hr) ?_
            refine mnQ_none (show (mn (fun i => μ.2.2 (t + 7 + 1) (μ.1 20 8 + i)) (μ.1 20 9)) = none by unfold mn; rw [if_neg (by omega), if_neg (fun z => z h30), if_neg (by omega), if_neg (by omega), if_pos (by omega), if_neg (by omega)]) ⟨rfl, μ, Or.inl rfl, rfl⟩
          · refine w_ld d_58_193 rfl rfl rfl ?_
            refine w_bip d_58_194 (by decide) ?_
            refine w_icmp_eq (g := 205) d_58_196 (by decide) (by omega) (fun h196 => ?_) (fun h196 => ?_)
            · refine w_con d_58_205 ?_
              refine w_goto (g := 210) d_58_206 (by decide) ?_
              refine w_cV0 (as := [_]) (rest := _) rfl d_58_210 (by rfl) (by rfl) (by first | rfl | assumption) (by rfl) (by rfl) (Nat.le_of_ble_eq_true rfl) (by omega) (by omega) (t_req rfl) ?_
              refine w_ld d_58_213 rfl rfl rfl ?_
              refine w_con d_58_214 ?_
              refine w_ld d_58_215 rfl rfl rfl ?_
              refine w_bip d_58_216 (by decide) ?_
              refine w_icmp_ne (g := 225) d_58_218 (by decide) (by omega) (fun h218 => ?_) (fun h218 => ?_)
              · exact absurd h196 h218
              · refine w_lcon1 d_58_221 ?_
                refine w_goto (g := 226) d_58_222 (by decide) ?_
                refine w_ld d_58_226 rfl rfl rfl ?_
                refine w_gI d_58_227 (by rfl) (by first | rfl | assumption) (by rfl) (by (try simp [stI, stA, stR]) <;> rfl) ?_
                refine w_cV1 (as := [_, _, _]) (rest := _) rfl d_58_230 (by rfl) (by rfl) (by first | rfl | assumption) (by rfl) (by rfl) (Nat.le_of_ble_eq_true rfl) (by omega) (by omega) (t_radd hT ht (by omega) (by omega) (by omega)) ?_
                refine w_stk d_58_233 rfl ?_
                refine w_goto (g := 351) d_58_234 (by decide) ?_
                refine w_ret d_58_351 rfl ?_
                refine mnQ_some (show (mn (fun i => μ.2.2 (t + 7 + 1) (μ.1 20 8 + i)) (μ.1 20 9)) = some (1, 1, 0, 0) by unfold mn; rw [if_neg (by omega), if_neg (fun z => z h30), if_neg (by omega), if_neg (by omega), if_pos (by omega), if_pos (by omega), if_pos (by omega)]) (by decide) ⟨rfl, μ, Or.inl rfl, ?_⟩
                rw [show wkf 1 (μ.1 20 8) 0 = 0 from if_neg (by decide)]
            · refine w_ld d_58_199 rfl rfl rfl ?_
              refine w_bip d_58_200 (by decide) ?_
              refine w_icmp_ne (g := 209) d_58_202 (by decide) (by omega) (fun h202 => ?_) (fun h202 => ?_)
              · refine w_con d_58_209 ?_
                refine w_cVx (a := 20) (as := [_]) (rest := _) rfl d_58_210 (by rfl) (by rfl) (by first | rfl | assumption) (by rfl) (by rfl) (Nat.le_of_ble_eq_true rfl) (by omega) (by omega) (t_reqx rfl (by omega) (by omega) hr) ?_
                refine mnQ_none (show (mn (fun i => μ.2.2 (t + 7 + 1) (μ.1 20 8 + i)) (μ.1 20 9)) = none by unfold mn; rw [if_neg (by omega), if_neg (fun z => z h30), if_neg (by omega), if_neg (by omega), if_pos (by omega), if_neg (by omega)]) ⟨rfl, μ, Or.inl rfl, rfl⟩
              · refine w_con d_58_205 ?_
                refine w_goto (g := 210) d_58_206 (by decide) ?_
                refine w_cV0 (as := [_]) (rest := _) rfl d_58_210 (by rfl) (by rfl) (by first | rfl | assumption) (by rfl) (by rfl) (Nat.le_of_ble_eq_true rfl) (by omega) (by omega) (t_req rfl) ?_
                refine w_ld d_58_213 rfl rfl rfl ?_
                refine w_con d_58_214 ?_
                refine w_ld d_58_215 rfl rfl rfl ?_
                refine w_bip d_58_216 (by decide) ?_
                refine w_icmp_ne (g := 225) d_58_218 (by decide) (by omega) (fun h218 => ?_) (fun h218 => ?_)
                · refine w_lcon0 d_58_225 ?_
                  refine w_ld d_58_226 rfl rfl rfl ?_
                  refine w_gI d_58_227 (by rfl) (by first | rfl | assumption) (by rfl) (by (try simp [stI, stA, stR]) <;> rfl) ?_
                  refine w_cV1 (as := [_, _, _]) (rest := _) rfl d_58_230 (by rfl) (by rfl) (by first | rfl | assumption) (by rfl) (by rfl) (Nat.le_of_ble_eq_true rfl) (by omega) (by omega) (t_radd hT ht (by omega) (by omega) (by omega)) ?_
                  refine w_stk d_58_233 rfl ?_
                  refine w_goto (g := 351) d_58_234 (by decide) ?_
                  refine w_ret d_58_351 rfl ?_
                  refine mnQ_some (show (mn (fun i => μ.2.2 (t + 7 + 1) (μ.1 20 8 + i)) (μ.1 20 9)) = some (1, 0, 0, 0) by unfold mn; rw [if_neg (by omega), if_neg (fun z => z h30), if_neg (by omega), if_neg (by omega), if_pos (by omega), if_pos (by omega), if_neg (by omega)]) (by decide) ⟨rfl, μ, Or.inl rfl, ?_⟩
                  rw [show wkf 1 (μ.1 20 8) 0 = 0 from if_neg (by decide)]
                · exact absurd h218 h196
        · refine w_lsw (g := 144) d_58_53 (by omega) (by decide) (by rw [h53]; decide) ?_
          refine w_ld d_58_144 rfl rfl rfl ?_
          refine w_con d_58_145 ?_
          refine w_con d_58_146 ?_
          refine w_cV0 (as := [_, _]) (rest := _) rfl d_58_147 (by rfl) (by rfl) (by first | rfl | assumption) (by rfl) (by rfl) (Nat.le_of_ble_eq_true rfl) (by omega) (by omega) (t_addWord hT ht (by omega) (by omega) (by omega)) ?_
          refine w_goto (g := 351) d_58_150 (by decide) ?_
          refine w_ret d_58_351 rfl ?_
          refine mnQ_some (show (mn (fun i => μ.2.2 (t + 7 + 1) (μ.1 20 8 + i)) (μ.1 20 9)) = some (4, 0, 1, μ.1 20 9 - 1) by unfold mn; rw [if_neg (by omega), if_neg (fun z => z h30), if_pos (by omega)]) (by decide) ⟨rfl, μ, Or.inl rfl, ?_⟩
          rw [show wkf 4 (μ.1 20 8) 1 = μ.1 20 8 + 1 from if_pos (by decide)]
        · refine w_lsw (g := 153) d_58_53 (by omega) (by decide) (by rw [h53]; decide) ?_
          refine w_ld d_58_153 rfl rfl rfl ?_
          refine w_ld d_58_154 rfl rfl rfl ?_
          refine w_gI d_58_155 (by rfl) (by first | rfl | assumption) (by rfl) (by (try simp [stI, stA, stR]) <;> rfl) ?_
          refine w_con d_58_158 ?_
          refine w_icmp_ne (g := 166) d_58_159 (by decide) (by omega) (fun h159 => ?_) (fun h159 => ?_)
          · refine w_con d_58_166 ?_
            refine w_cVx (a := 20) (as := [_]) (rest := _) rfl d_58_167 (by rfl) (by rfl) (by first | rfl | assumption) (by rfl) (by rfl) (Nat.le_of_ble_eq_true rfl) (by omega) (by omega) (t_reqx rfl (by omega) (by omega) hr) ?_
            refine mnQ_none (show (mn (fun i => μ.2.2 (t + 7 + 1) (μ.1 20 8 + i)) (μ.1 20 9)) = none by unfold mn; rw [if_neg (by omega), if_neg (fun z => z h30), if_neg (by omega), if_pos (by omega), if_neg (by omega)]) ⟨rfl, μ, Or.inl rfl, rfl⟩
          · refine w_con d_58_162 ?_
            refine w_goto (g := 167) d_58_163 (by decide) ?_
            refine w_cV0 (as := [_]) (rest := _) rfl d_58_167 (by rfl) (by rfl) (by first | rfl | assumption) (by rfl) (by rfl) (Nat.le_of_ble_eq_true rfl) (by omega) (by omega) (t_req rfl) ?_
            refine w_ld d_58_170 rfl rfl rfl ?_
            refine w_con d_58_171 ?_
            refine w_lcon0 d_58_172 ?_
            refine w_ld d_58_173 rfl rfl rfl ?_
            refine w_gI d_58_174 (by rfl) (by first | rfl | assumption) (by rfl) (by (try simp [stI, stA, stR]) <;> rfl) ?_
            refine w_cV1 (as := [_, _, _]) (rest := _) rfl d_58_177 (by rfl) (by rfl) (by first | rfl | assumption) (by rfl) (by rfl) (Nat.le_of_ble_eq_true rfl) (by omega) (by omega) (t_radd hT ht (by omega) (by omega) (by omega)) ?_
            refine w_stk d_58_180 rfl ?_
            refine w_goto (g := 351) d_58_181 (by decide) ?_
            refine w_ret d_58_351 rfl ?_
            refine mnQ_some (show (mn (fun i => μ.2.2 (t + 7 + 1) (μ.1 20 8 + i)) (μ.1 20 9)) = some (0, 0, 0, 0) by unfold mn; rw [if_neg (by omega), if_neg (fun z => z h30), if_neg (by omega), if_pos (by omega), if_pos (by omega)]) (by decide) ⟨rfl, μ, Or.inl rfl, ?_⟩
            rw [show wkf 0 (μ.1 20 8) 0 = 0 from if_neg (by decide)]
        · refine w_lsw (g := 144) d_58_53 (by omega) (by decide) (by rw [h53]; decide) ?_
          refine w_ld d_58_144 rfl rfl rfl ?_
          refine w_con d_58_145 ?_
          refine w_con d_58_146 ?_
          refine w_cV0 (as := [_, _]) (rest := _) rfl d_58_147 (by rfl) (by rfl) (by first | rfl | assumption) (by rfl) (by rfl) (Nat.le_of_ble_eq_true rfl) (by omega) (by omega) (t_addWord hT ht (by omega) (by omega) (by omega)) ?_
          refine w_goto (g := 351) d_58_150 (by decide) ?_
          refine w_ret d_58_351 rfl ?_
          refine mnQ_some (show (mn (fun i => μ.2.2 (t + 7 + 1) (μ.1 20 8 + i)) (μ.1 20 9)) = some (4, 0, 1, μ.1 20 9 - 1) by unfold mn; rw [if_neg (by omega), if_neg (fun z => z h30), if_pos (by omega)]) (by decide) ⟨rfl, μ, Or.inl rfl, ?_⟩
          rw [show wkf 4 (μ.1 20 8) 1 = μ.1 20 8 + 1 from if_pos (by decide)]
        · refine w_lsw (g := 306) d_58_53 (by omega) (by decide) (by rw [h53]; decide) ?_
          refine w_ld d_58_306 rfl rfl rfl ?_
          refine w_ld d_58_307 rfl rfl rfl ?_
          refine w_gI d_58_308 (by rfl) (by first | rfl | assumption) (by rfl) (by (try simp [stI, stA, stR]) <;> rfl) ?_
          refine w_con d_58_311 ?_
          refine w_icmp_ne (g := 319) d_58_312 (by decide) (by omega) (fun h312 => ?_) (fun h312 => ?_)
          · refine w_con d_58_319 ?_
            refine w_cVx (a := 20) (as := [_]) (rest := _) rfl d_58_320 (by rfl) (by rfl) (by first | rfl | assumption) (by rfl) (by rfl) (Nat.le_of_ble_eq_true rfl) (by omega) (by omega) (t_reqx rfl (by omega) (by omega) hr) ?_
            refine mnQ_none (show (mn (fun i => μ.2.2 (t + 7 + 1) (μ.1 20 8 + i)) (μ.1 20 9)) = none by unfold mn; rw [if_neg (by omega), if_neg (fun z => z h30), if_neg (by omega), if_neg (by omega), if_neg (by omega), if_neg (by omega), if_neg (by omega), if_neg (by omega), if_neg (by omega), if_pos (by omega), if_neg (by omega)]) ⟨rfl, μ, Or.inl rfl, rfl⟩
          · refine w_con d_58_315 ?_
            refine w_goto (g := 320) d_58_316 (by decide) ?_
            refine w_cV0 (as := [_]) (rest := _) rfl d_58_320 (by rfl) (by rfl) (by first | rfl | assumption) (by rfl) (by rfl) (Nat.le_of_ble_eq_true rfl) (by omega) (by omega) (t_req rfl) ?_
            refine w_ld d_58_323 rfl rfl rfl ?_
            refine w_bip d_58_324 (by decide) ?_
            refine w_ld d_58_326 rfl rfl rfl ?_
            refine w_i2l d_58_327 (by omega) ?_
            refine w_ld d_58_328 rfl rfl rfl ?_
            refine w_gI d_58_329 (by rfl) (by first | rfl | assumption) (by rfl) (by (try simp [stI, stA, stR]) <;> rfl) ?_
            refine w_cV1 (as := [_, _, _]) (rest := _) rfl d_58_332 (by rfl) (by rfl) (by first | rfl | assumption) (by rfl) (by rfl) (Nat.le_of_ble_eq_true rfl) (by omega) (by omega) (t_radd hT ht (by omega) (by omega) (by omega)) ?_
            refine w_stk d_58_335 rfl ?_
            refine w_goto (g := 351) d_58_336 (by decide) ?_
            refine w_ret d_58_351 rfl ?_
            refine mnQ_some (show (mn (fun i => μ.2.2 (t + 7 + 1) (μ.1 20 8 + i)) (μ.1 20 9)) = some (7, (wl (fun i => μ.2.2 (t + 7 + 1) (μ.1 20 8 + i)) (μ.1 20 9) 2), 0, 0) by unfold mn; rw [if_neg (by omega), if_neg (fun z => z h30), if_neg (by omega), if_neg (by omega), if_neg (by omega), if_neg (by omega), if_neg (by omega), if_neg (by omega), if_neg (by omega), if_pos (by omega), if_pos (by omega)]) (by decide) ⟨rfl, μ, Or.inl rfl, ?_⟩
            rw [show wkf 7 (μ.1 20 8) 0 = 0 from if_neg (by decide)]
        · refine w_lsw (g := 237) d_58_53 (by omega) (by decide) (by rw [h53]; decide) ?_
          refine w_ld d_58_237 rfl rfl rfl ?_
          refine w_con d_58_238 ?_
          have hs2 : 2 ≤ μ.1 20 9 := by
            unfold wl at h53
            split at h53 <;> omega
          by_cases hok : ((scn (fun i => μ.2.2 (t + 7 + 1) (μ.1 20 8 + i)) 2 (μ.1 20 9)).1 = true ∧ (scn (fun i => μ.2.2 (t + 7 + 1) (μ.1 20 8 + i)) 2 (μ.1 20 9)).2.2.1 = true ∧ (scn (fun i => μ.2.2 (t + 7 + 1) (μ.1 20 8 + i)) 2 (μ.1 20 9)).2.1 = μ.1 20 9)
          · refine w_cV0 (as := [_]) (rest := _) rfl d_58_239 (by rfl) (by rfl) rfl (by rfl) (by rfl) (Nat.le_of_ble_eq_true rfl) (by omega) (by omega) (t_addNumber hT ht hc hw hch hcn hs2 hok (by omega) (by omega)) ?_
            refine w_goto (g := 351) d_58_242 (by decide) ?_
            refine w_ret d_58_351 rfl ?_
            refine mnQ_some (k := 2) (v := (scn (fun i => μ.2.2 (t + 7 + 1) (μ.1 20 8 + i)) 2 (μ.1 20 9)).2.2.2) (a := 0) (z := 0) ?_ (by decide) ⟨rfl, (nu μ (μ.1 20 8 + (scn (fun i => μ.2.2 (t + 7 + 1) (μ.1 20 8 + i)) 2 (μ.1 20 9)).2.1) ((scn (fun i => μ.2.2 (t + 7 + 1) (μ.1 20 8 + i)) 2 (μ.1 20 9)).2.2.1, (scn (fun i => μ.2.2 (t + 7 + 1) (μ.1 20 8 + i)) 2 (μ.1 20 9)).2.2.2)), Or.inr ⟨_, _, rfl⟩, ?_⟩
            · unfold mn nmb
              rw [if_neg (by omega), if_neg (fun z => z h30), if_neg (by omega), if_neg (by omega), if_neg (by omega), if_pos (by omega), if_pos hok]
              rfl
            · rw [show wkf 2 (μ.1 20 8) 0 = 0 from if_neg (by decide)]
          · refine w_cVx (as := [_]) (rest := _) rfl d_58_239 (by rfl) (by rfl) rfl (by rfl) (by rfl) (Nat.le_of_ble_eq_true rfl) (by omega) (by omega) (t_addNumberx hT ht hc hw hch hs2 hok (by omega) (by omega) hr) ?_
            refine mnQ_none ?_ ⟨rfl, (nu μ (μ.1 20 8 + (scn (fun i => μ.2.2 (t + 7 + 1) (μ.1 20 8 + i)) 2 (μ.1 20 9)).2.1) ((scn (fun i => μ.2.2 (t + 7 + 1) (μ.1 20 8 + i)) 2 (μ.1 20 9)).2.2.1, (scn (fun i => μ.2.2 (t + 7 + 1) (μ.1 20 8 + i)) 2 (μ.1 20 9)).2.2.2)), Or.inr ⟨_, _, rfl⟩, rfl⟩
            unfold mn nmb
            rw [if_neg (by omega), if_neg (fun z => z h30), if_neg (by omega), if_neg (by omega), if_neg (by omega), if_pos (by omega), if_neg hok]
            rfl
        · refine w_lsw (g := 245) d_58_53 (by omega) (by decide) (by rw [h53]; decide) ?_
          refine w_ld d_58_245 rfl rfl rfl ?_
          refine w_con d_58_246 ?_
          have hs2 : 2 ≤ μ.1 20 9 := by
            unfold wl at h53
            split at h53 <;> omega
          by_cases hok : ((scn (fun i => μ.2.2 (t + 7 + 1) (μ.1 20 8 + i)) 2 (μ.1 20 9)).1 = true ∧ (scn (fun i => μ.2.2 (t + 7 + 1) (μ.1 20 8 + i)) 2 (μ.1 20 9)).2.2.1 = true ∧ (scn (fun i => μ.2.2 (t + 7 + 1) (μ.1 20 8 + i)) 2 (μ.1 20 9)).2.1 = μ.1 20 9)
          · refine w_cV0 (as := [_]) (rest := _) rfl d_58_247 (by rfl) (by rfl) rfl (by rfl) (by rfl) (Nat.le_of_ble_eq_true rfl) (by omega) (by omega) (t_addNumber hT ht hc hw hch hcn hs2 hok (by omega) (by omega)) ?_
            refine w_goto (g := 351) d_58_250 (by decide) ?_
            refine w_ret d_58_351 rfl ?_
            refine mnQ_some (k := 3) (v := (scn (fun i => μ.2.2 (t + 7 + 1) (μ.1 20 8 + i)) 2 (μ.1 20 9)).2.2.2) (a := 0) (z := 0) ?_ (by decide) ⟨rfl, (nu μ (μ.1 20 8 + (scn (fun i => μ.2.2 (t + 7 + 1) (μ.1 20 8 + i)) 2 (μ.1 20 9)).2.1) ((scn (fun i => μ.2.2 (t + 7 + 1) (μ.1 20 8 + i)) 2 (μ.1 20 9)).2.2.1, (scn (fun i => μ.2.2 (t + 7 + 1) (μ.1 20 8 + i)) 2 (μ.1 20 9)).2.2.2)), Or.inr ⟨_, _, rfl⟩, ?_⟩
            · unfold mn nmb
              rw [if_neg (by omega), if_neg (fun z => z h30), if_neg (by omega), if_neg (by omega), if_neg (by omega), if_neg (by omega), if_pos (by omega), if_pos hok]
              rfl
            · rw [show wkf 3 (μ.1 20 8) 0 = 0 from if_neg (by decide)]
          · refine w_cVx (as := [_]) (rest := _) rfl d_58_247 (by rfl) (by rfl) rfl (by rfl) (by rfl) (Nat.le_of_ble_eq_true rfl) (by omega) (by omega) (t_addNumberx hT ht hc hw hch hs2 hok (by omega) (by omega) hr) ?_
            refine mnQ_none ?_ ⟨rfl, (nu μ (μ.1 20 8 + (scn (fun i => μ.2.2 (t + 7 + 1) (μ.1 20 8 + i)) 2 (μ.1 20 9)).2.1) ((scn (fun i => μ.2.2 (t + 7 + 1) (μ.1 20 8 + i)) 2 (μ.1 20 9)).2.2.1, (scn (fun i => μ.2.2 (t + 7 + 1) (μ.1 20 8 + i)) 2 (μ.1 20 9)).2.2.2)), Or.inr ⟨_, _, rfl⟩, rfl⟩
            unfold mn nmb
            rw [if_neg (by omega), if_neg (fun z => z h30), if_neg (by omega), if_neg (by omega), if_neg (by omega), if_neg (by omega), if_pos (by omega), if_neg hok]
            rfl
        · refine w_lsw (g := 144) d_58_53 (by omega) (by decide) (by rw [h53]; decide) ?_
          refine w_ld d_58_144 rfl rfl rfl ?_
          refine w_con d_58_145 ?_
          refine w_con d_58_146 ?_
          refine w_cV0 (as := [_, _]) (rest := _) rfl d_58_147 (by rfl) (by rfl) (by first | rfl | assumption) (by rfl) (by rfl) (Nat.le_of_ble_eq_true rfl) (by omega) (by omega) (t_addWord hT ht (by omega) (by omega) (by omega)) ?_
          refine w_goto (g := 351) d_58_150 (by decide) ?_
          refine w_ret d_58_351 rfl ?_
          refine mnQ_some (show (mn (fun i => μ.2.2 (t + 7 + 1) (μ.1 20 8 + i)) (μ.1 20 9)) = some (4, 0, 1, μ.1 20 9 - 1) by unfold mn; rw [if_neg (by omega), if_neg (fun z => z h30), if_pos (by omega)]) (by decide) ⟨rfl, μ, Or.inl rfl, ?_⟩
          rw [show wkf 4 (μ.1 20 8) 1 = μ.1 20 8 + 1 from if_pos (by decide)]
        · refine w_lsw (g := 339) d_58_53 (by omega) (by decide) (by simp only [List.toList_toArray, Op.lookupswitch.offset_cons, Op.lookupswitch.offset_nil]; rw [if_neg (by omega), if_neg (by omega), if_neg (by omega), if_neg (by omega), if_neg (by omega), if_neg (by omega), if_neg (by omega), if_neg (by omega), if_neg (by omega), if_neg (by omega)]; decide) ?_
          refine w_ld d_58_339 rfl rfl rfl ?_
          refine w_ld d_58_340 rfl rfl rfl ?_
          refine w_cS1 (as := [_]) (rest := _) rfl d_58_341 (by rfl) (by rfl) (by rfl) (by rfl) (Nat.le_of_ble_eq_true rfl) (by omega) (by omega) (t_isAlpha (by omega)) ?_
          by_cases hA : 97 ≤ (wl (fun i => μ.2.2 (t + 7 + 1) (μ.1 20 8 + i)) (μ.1 20 9) 1) ∧ (wl (fun i => μ.2.2 (t + 7 + 1) (μ.1 20 8 + i)) (μ.1 20 9) 1) ≤ 122 ∨ 65 ≤ (wl (fun i => μ.2.2 (t + 7 + 1) (μ.1 20 8 + i)) (μ.1 20 9) 1) ∧ (wl (fun i => μ.2.2 (t + 7 + 1) (μ.1 20 8 + i)) (μ.1 20 9) 1) ≤ 90
          · rw [if_pos hA]
            refine w_cV0 (as := [_]) (rest := _) rfl d_58_344 (by rfl) (by rfl) rfl (by rfl) (by rfl) (Nat.le_of_ble_eq_true rfl) (by omega) (by omega) (t_req rfl) ?_
            refine w_ld d_58_347 rfl rfl rfl ?_
            refine w_cV0 (as := []) (rest := _) rfl d_58_348 (by rfl) (by rfl) rfl (by rfl) (by rfl) (Nat.le_of_ble_eq_true rfl) (by omega) (by omega) (t_addTagged hT ht hcn (by omega) (by omega)) ?_
            refine w_ret d_58_351 rfl ?_
            exact mnQ_tag (v := 0) (a := 1) (z := 1) (by unfold mn; rw [if_neg (by omega), if_neg (fun z => z h30), if_neg (by omega), if_neg (by omega), if_neg (by omega), if_neg (by omega), if_neg (by omega), if_neg (by omega), if_neg (by omega), if_neg (by omega), if_pos hA]) ⟨rfl, rfl⟩
          · rw [if_neg hA]
            refine w_cVx (as := [_]) (rest := _) rfl d_58_344 (by rfl) (by rfl) rfl (by rfl) (by rfl) (Nat.le_of_ble_eq_true rfl) (by omega) (by omega) (t_reqx rfl (by omega) (by omega) hr) ?_
            exact mnQ_none (by unfold mn; rw [if_neg (by omega), if_neg (fun z => z h30), if_neg (by omega), if_neg (by omega), if_neg (by omega), if_neg (by omega), if_neg (by omega), if_neg (by omega), if_neg (by omega), if_neg (by omega), if_neg hA]) ⟨rfl, μ, Or.inl rfl, rfl⟩
      · refine w_ld d_58_33 rfl rfl rfl ?_
        refine w_con d_58_34 ?_
        refine w_con d_58_35 ?_
        refine w_cV0 (as := [_, _]) (rest := _) rfl d_58_36 (by rfl) (by rfl) (by first | rfl | assumption) (by rfl) (by rfl) (Nat.le_of_ble_eq_true rfl) (by omega) (by omega) (t_addWord hT ht (by omega) (by omega) (by omega)) ?_
        refine w_ret d_58_39 rfl ?_
        refine mnQ_some (show (mn (fun i => μ.2.2 (t + 7 + 1) (μ.1 20 8 + i)) (μ.1 20 9)) = some (4, 0, 0, μ.1 20 9) by unfold mn; rw [if_neg (by omega), if_pos h30]) (by decide) ⟨rfl, μ, Or.inl rfl, ?_⟩
        rw [show wkf 4 (μ.1 20 8) 0 = μ.1 20 8 + 0 from if_pos (by decide)]
        rw [Int.sub_zero]
