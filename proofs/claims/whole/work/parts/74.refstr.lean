/-! THE PURE PART, 56: contracts: the reference reads a string -/
theorem m_strX {sc : Nat × (Nat → Int32)} {fr lo : Nat} {μ : Mem} {ρ : Nat × Nat × Nat} (h16 : μ.1 46 16 = -1) (hn : 0 ≤ μ.1 46 3 ∧ μ.1 46 3 ≤ 240) (hch : ∀ k, 0 ≤ μ.2.2 47 k ∧ μ.2.2 47 k < 65536) (h32 : ∀ k, 0 ≤ k → k < μ.1 46 3 → 32 ≤ μ.2.2 47 k) (hpl : 0 ≤ μ.1 46 15 ∧ μ.1 46 15 < μ.1 46 3) (hu : 0 ≤ μ.1 46 18 ∧ μ.1 46 18 ≤ μ.1 46 15) (hf : 14 ≤ fr) (hl : 600 ≤ lo) {w : Int} (hw0 : 0 ≤ w ∧ w ≤ 1000) (hrw : rw' (μ.2.2 47) (μ.1 46 3) (μ.1 46 15 + 1) = .inl w) : w_S sc fr lo 124 [.ref 46] (hp μ, ρ) (fun o t' => ∃ μ', o = .inl (some (.int (ji 1))) ∧ (mbad μ μ' w ∧ ∀ k, (0 ≤ μ.2.2 57 k ∧ μ.2.2 57 k < 65536) → 0 ≤ μ'.2.2 57 k ∧ μ'.2.2 57 k < 65536) ∧ t' = (hp μ', ρ)) := by
  refine w_S.of (L0 := [some (.ref 46), none, none, none]) rfl rfl (Nat.le_of_ble_eq_true rfl) (by rfl) ?_
  refine w_ld d_124_0 rfl rfl rfl ?_
  refine w_gI d_124_1 (by rfl) (by first | rfl | assumption) (by rfl) (by first | exact hm.1.2.1 | rfl) ?_
  refine w_st1 (L' := [_, _, _, _]) d_124_4 rfl (by decide) rfl (by decide) rfl ?_
  refine w_ld d_124_5 rfl rfl rfl ?_
  refine w_cVm (a := 46) (as := []) (rest := _) rfl d_124_6 (by rfl) (by rfl) (by first | rfl | assumption) (by rfl) (by rfl) (Nat.le_of_ble_eq_true rfl) (by omega) (by omega) (m_readRawx h16 hn hch h32 hpl hu (by omega) (by omega) hrw) (fun μ' hm => ?_)
  refine w_ld d_124_9 rfl rfl rfl ?_
  refine w_gI d_124_10 (by rfl) (by first | rfl | assumption) (by rfl) (by first | exact hm.1.2.1 | rfl) ?_
  refine w_if_lt (g := 18) d_124_13 (by decide) (by omega) (fun h13 => ?_) (fun h13 => ?_)
  · exact absurd h13 (by omega)
  · refine w_con d_124_16 ?_
    refine w_zret d_124_17 rfl (by decide) ?_
    exact ⟨μ', rfl, hm, rfl⟩
/-- the letters of a raw word that was read -/
theorem rM_pr {μ : Mem} {l : List Int} {q : Int} (hl32 : ∀ c ∈ l, 32 ≤ c ∧ c ≤ 126) (i : Int) (i0 : 0 ≤ i) (i1 : i < (rM μ l q).1 46 25) : 32 ≤ (rM μ l q).2.2 57 ((rM μ l q).1 46 24 + i) ∧ (rM μ l q).2.2 57 ((rM μ l q).1 46 24 + i) ≤ 126 := by
  obtain ⟨f15, f18, f24, f25, fI, fR, fA, f57⟩ := rM_f (μ := μ) (l := l) (q := q)
  rw [f25] at i1
  rw [f57, f24, if_pos (by omega), show (480 + μ.1 46 18 + i - (480 + μ.1 46 18)).toNat = i.toNat by omega]
  have hi : i.toNat < l.length := by omega
  rw [List.getD_eq_getElem?_getD, List.getElem?_eq_getElem hi]
  exact hl32 _ (List.getElem_mem hi)
theorem m_strCX {sc : Nat × (Nat → Int32)} {fr lo : Nat} {μ : Mem} {ρ : Nat × Nat × Nat} (h16 : μ.1 46 16 = -1) (hn : 0 ≤ μ.1 46 3 ∧ μ.1 46 3 ≤ 240) (hch : ∀ k, 0 ≤ μ.2.2 47 k ∧ μ.2.2 47 k < 65536) (h32 : ∀ k, 0 ≤ k → k < μ.1 46 3 → 32 ≤ μ.2.2 47 k) (hpl : 0 ≤ μ.1 46 15 ∧ μ.1 46 15 < μ.1 46 3) (hu : 0 ≤ μ.1 46 18 ∧ μ.1 46 18 ≤ μ.1 46 15) (hf : 14 ≤ fr) (hl : 600 ≤ lo) {d : Int} (hd : μ.1 46 19 = d ∧ 0 ≤ d ∧ d ≤ 8) (hmo : 0 < d → (0 ≤ μ.2.2 59 d ∧ μ.2.2 59 d ≤ 7) ∧ 0 ≤ μ.2.2 60 d ∧ μ.2.2 60 d ≤ 240) (hnc : 0 ≤ μ.1 46 26 ∧ μ.1 46 26 ≤ 24) {q : Int} {l : List Int} (hrw : rw' (μ.2.2 47) (μ.1 46 3) (μ.1 46 15 + 1) = .inr (q, l)) (hl32 : ∀ c ∈ l, 32 ≤ c ∧ c ≤ 126) (hC : μ.1 46 26 ≤ (cod (fun i => (rM μ l q).2.2 57 ((rM μ l q).1 46 24 + i)) ((rM μ l q).1 46 25))) : w_E sc fr lo 124 [.ref 46] (hp μ, ρ) (.inl (some (.int (ji 1)))) (hp (stI (rM μ l q) 46 16 (μ.1 46 15)), ρ) := by
  obtain ⟨f15, f18, f24, f25, fI, fR, fA, f57⟩ := rM_f (μ := μ) (l := l) (q := q)
  have hlen := rw_len _ _ _ _ rfl hrw
  have f16 : (rM μ l q).1 46 16 = -1 := (fI 46 16 (by decide)).trans h16
  have f19 : (rM μ l q).1 46 19 = d := (fI 46 19 (by decide)).trans hd.1
  have f26 : (rM μ l q).1 46 26 = μ.1 46 26 := fI 46 26 (by decide)
  have f59 := fA 59 (by decide)
  have f60 := fA 60 (by decide)
  have f62 := fA 62 (by decide)
  have f63 := fA 63 (by decide)
  have hr : 0 ≤ (rM μ l q).1 46 24 ∧ 0 ≤ (rM μ l q).1 46 25 ∧ (rM μ l q).1 46 24 + (rM μ l q).1 46 25 ≤ 720 ∧ (rM μ l q).1 46 25 ≤ 240 := by rw [f24, f25]; omega
  have hw : ∀ i, 0 ≤ i → i < (rM μ l q).1 46 25 → 32 ≤ (rM μ l q).2.2 57 ((rM μ l q).1 46 24 + i) ∧ (rM μ l q).2.2 57 ((rM μ l q).1 46 24 + i) ≤ 126 := fun i i0 i1 => rM_pr hl32 i i0 i1
  have hci := cod_in (fun i => (rM μ l q).2.2 57 ((rM μ l q).1 46 24 + i)) ((rM μ l q).1 46 25)
  have e24 := m_codeOf (sc := sc) (fr := fr - 1) (lo := lo - (19 + 2)) (μ := (rM μ l q)) (ρ := ρ) hr hw (by omega) (by omega)
  have eC := fun (k : Int) (hk : k = 0 ∨ k = 1) => m_isCached (sc := sc) (fr := fr - 1) (lo := lo - (19 + 3)) (μ := (rM μ l q)) (ρ := ρ) hr hw hk (by omega) (by omega)
  have hmd : 0 < d → (μ.2.2 60 d).tmod 2 = μ.2.2 60 d % 2 := fun z => Int.tmod_eq_emod_of_nonneg (hmo z).2.1
  refine w_S.of (L0 := [some (.ref 46), none, none, none]) rfl rfl (Nat.le_of_ble_eq_true rfl) (by rfl) ?_
  refine w_ld d_124_0 rfl rfl rfl ?_
  refine w_gI d_124_1 (by rfl) (by first | rfl | assumption) (by rfl) rfl ?_
  refine w_st1 (L' := [_, _, _, _]) d_124_4 rfl (by decide) rfl (by decide) rfl ?_
  refine w_ld d_124_5 rfl rfl rfl ?_
  refine w_cV0 (a := 46) (as := []) (rest := _) rfl d_124_6 (by rfl) (by rfl) (by first | rfl | assumption) (by rfl) (by rfl) (Nat.le_of_ble_eq_true rfl) (by omega) (by omega) (m_readRaw h16 hn hch h32 hpl hu (by omega) (by omega) hrw) ?_
  refine w_ld d_124_9 rfl rfl rfl ?_
  refine w_gI d_124_10 (by rfl) (by first | rfl | assumption) (by rfl) (by first | exact f16 | exact f19 | exact f26 | exact congrFun f59 _ | exact congrFun f60 _ | exact congrFun f62 _ | exact congrFun f63 _ | rfl) ?_
  refine w_if_lt (g := 18) d_124_13 (by decide) (by decide) (fun h13 => ?_) (fun h13 => ?_)
  · refine w_ld d_124_18 rfl rfl rfl ?_
    refine w_gI d_124_19 (by rfl) (by first | rfl | assumption) (by rfl) (by first | exact f16 | exact f19 | exact f26 | exact congrFun f59 _ | exact congrFun f60 _ | exact congrFun f62 _ | exact congrFun f63 _ | rfl) ?_
    refine w_if_le (g := 56) d_124_22 (by decide) (by omega) (fun h22 => ?_) (fun h22 => ?_)
    · refine w_con d_124_56 ?_
      refine w_st1 (L' := [_, _, _, _]) d_124_57 rfl (by decide) rfl (by decide) rfl ?_
      refine w_ld d_124_58 rfl rfl rfl ?_
      refine w_cV1 (a := 46) (as := []) (rest := _) rfl d_124_59 (by rfl) (by rfl) (by first | rfl | assumption) (by rfl) (by rfl) (Nat.le_of_ble_eq_true rfl) (by omega) (by omega) e24 ?_
      refine w_st1 (L' := [_, _, _, _]) d_124_62 rfl (by decide) rfl (by decide) rfl ?_
      refine w_ld d_124_63 rfl rfl rfl ?_
      refine w_ld d_124_64 rfl rfl rfl ?_
      refine w_gI d_124_65 (by rfl) (by first | rfl | assumption) (by rfl) (by first | exact f16 | exact f19 | exact f26 | exact congrFun f59 _ | exact congrFun f60 _ | exact congrFun f62 _ | exact congrFun f63 _ | rfl) ?_
      refine w_icmp_lt (g := 78) d_124_68 (by decide) (by omega) (fun h68 => ?_) (fun h68 => ?_)
      · exact absurd h68 (by omega)
      · refine w_ld d_124_71 rfl rfl rfl ?_
        refine w_ld d_124_72 rfl rfl rfl ?_
        refine w_cV0 (a := 46) (as := [_]) (rest := _) rfl d_124_73 (by rfl) (by rfl) (by first | rfl | assumption) (by rfl) (by rfl) (Nat.le_of_ble_eq_true rfl) (by omega) (by omega) (by have e := m_fail (sc := sc) (fr := fr - 1) (lo := lo - (19 + 2)) (μ := (rM μ l q)) (ρ := ρ) (by rw [f16]; decide) (k := μ.1 46 15); rw [f16, if_pos (by decide)] at e; exact e) ?_
        refine w_con d_124_76 ?_
        refine w_zret d_124_77 rfl (by decide) ?_
        exact ⟨rfl, rfl⟩
    · refine w_ld d_124_25 rfl rfl rfl ?_
      refine w_getF d_124_26 (by rfl) (by first | rfl | assumption) (by rfl) (by rfl) ?_
      refine w_ld d_124_29 rfl rfl rfl ?_
      refine w_gI d_124_30 (by rfl) (by first | rfl | assumption) (by rfl) (by first | exact f16 | exact f19 | exact f26 | exact congrFun f59 _ | exact congrFun f60 _ | exact congrFun f62 _ | exact congrFun f63 _ | rfl) ?_
      refine w_aI d_124_33 (by first | rfl | assumption) (by omega) (by first | exact f16 | exact f19 | exact f26 | exact congrFun f59 _ | exact congrFun f60 _ | exact congrFun f62 _ | exact congrFun f63 _ | rfl) ?_
      refine w_con d_124_34 ?_
      refine w_icmp_ne (g := 56) d_124_35 (by decide) (by have := hmo (by omega); omega) (fun h35 => ?_) (fun h35 => ?_)
      · refine w_con d_124_56 ?_
        refine w_st1 (L' := [_, _, _, _]) d_124_57 rfl (by decide) rfl (by decide) rfl ?_
        refine w_ld d_124_58 rfl rfl rfl ?_
        refine w_cV1 (a := 46) (as := []) (rest := _) rfl d_124_59 (by rfl) (by rfl) (by first | rfl | assumption) (by rfl) (by rfl) (Nat.le_of_ble_eq_true rfl) (by omega) (by omega) e24 ?_
        refine w_st1 (L' := [_, _, _, _]) d_124_62 rfl (by decide) rfl (by decide) rfl ?_
        refine w_ld d_124_63 rfl rfl rfl ?_
        refine w_ld d_124_64 rfl rfl rfl ?_
        refine w_gI d_124_65 (by rfl) (by first | rfl | assumption) (by rfl) (by first | exact f16 | exact f19 | exact f26 | exact congrFun f59 _ | exact congrFun f60 _ | exact congrFun f62 _ | exact congrFun f63 _ | rfl) ?_
        refine w_icmp_lt (g := 78) d_124_68 (by decide) (by omega) (fun h68 => ?_) (fun h68 => ?_)
        · exact absurd h68 (by omega)
        · refine w_ld d_124_71 rfl rfl rfl ?_
          refine w_ld d_124_72 rfl rfl rfl ?_
          refine w_cV0 (a := 46) (as := [_]) (rest := _) rfl d_124_73 (by rfl) (by rfl) (by first | rfl | assumption) (by rfl) (by rfl) (Nat.le_of_ble_eq_true rfl) (by omega) (by omega) (by have e := m_fail (sc := sc) (fr := fr - 1) (lo := lo - (19 + 2)) (μ := (rM μ l q)) (ρ := ρ) (by rw [f16]; decide) (k := μ.1 46 15); rw [f16, if_pos (by decide)] at e; exact e) ?_
          refine w_con d_124_76 ?_
          refine w_zret d_124_77 rfl (by decide) ?_
          exact ⟨rfl, rfl⟩
      · refine w_ld d_124_38 rfl rfl rfl ?_
        refine w_getF d_124_39 (by rfl) (by first | rfl | assumption) (by rfl) (by rfl) ?_
        refine w_ld d_124_42 rfl rfl rfl ?_
        refine w_gI d_124_43 (by rfl) (by first | rfl | assumption) (by rfl) (by first | exact f16 | exact f19 | exact f26 | exact congrFun f59 _ | exact congrFun f60 _ | exact congrFun f62 _ | exact congrFun f63 _ | rfl) ?_
        refine w_aI d_124_46 (by first | rfl | assumption) (by omega) (by first | exact f16 | exact f19 | exact f26 | exact congrFun f59 _ | exact congrFun f60 _ | exact congrFun f62 _ | exact congrFun f63 _ | rfl) ?_
        refine w_con d_124_47 ?_
        refine w_irem d_124_48 (by have := hmo (by omega); omega) (by decide) ?_
        refine w_if_ne (g := 56) d_124_49 (by decide) (by rw [hmd (by omega)]; omega) (fun h49 => ?_) (fun h49 => ?_)
        · refine w_con d_124_56 ?_
          refine w_st1 (L' := [_, _, _, _]) d_124_57 rfl (by decide) rfl (by decide) rfl ?_
          refine w_ld d_124_58 rfl rfl rfl ?_
          refine w_cV1 (a := 46) (as := []) (rest := _) rfl d_124_59 (by rfl) (by rfl) (by first | rfl | assumption) (by rfl) (by rfl) (Nat.le_of_ble_eq_true rfl) (by omega) (by omega) e24 ?_
          refine w_st1 (L' := [_, _, _, _]) d_124_62 rfl (by decide) rfl (by decide) rfl ?_
          refine w_ld d_124_63 rfl rfl rfl ?_
          refine w_ld d_124_64 rfl rfl rfl ?_
          refine w_gI d_124_65 (by rfl) (by first | rfl | assumption) (by rfl) (by first | exact f16 | exact f19 | exact f26 | exact congrFun f59 _ | exact congrFun f60 _ | exact congrFun f62 _ | exact congrFun f63 _ | rfl) ?_
          refine w_icmp_lt (g := 78) d_124_68 (by decide) (by omega) (fun h68 => ?_) (fun h68 => ?_)
          · exact absurd h68 (by omega)
          · refine w_ld d_124_71 rfl rfl rfl ?_
            refine w_ld d_124_72 rfl rfl rfl ?_
            refine w_cV0 (a := 46) (as := [_]) (rest := _) rfl d_124_73 (by rfl) (by rfl) (by first | rfl | assumption) (by rfl) (by rfl) (Nat.le_of_ble_eq_true rfl) (by omega) (by omega) (by have e := m_fail (sc := sc) (fr := fr - 1) (lo := lo - (19 + 2)) (μ := (rM μ l q)) (ρ := ρ) (by rw [f16]; decide) (k := μ.1 46 15); rw [f16, if_pos (by decide)] at e; exact e) ?_
            refine w_con d_124_76 ?_
            refine w_zret d_124_77 rfl (by decide) ?_
            exact ⟨rfl, rfl⟩
        · refine w_con d_124_52 ?_
          refine w_goto (g := 57) d_124_53 (by decide) ?_
          refine w_st1 (L' := [_, _, _, _]) d_124_57 rfl (by decide) rfl (by decide) rfl ?_
          refine w_ld d_124_58 rfl rfl rfl ?_
          refine w_cV1 (a := 46) (as := []) (rest := _) rfl d_124_59 (by rfl) (by rfl) (by first | rfl | assumption) (by rfl) (by rfl) (Nat.le_of_ble_eq_true rfl) (by omega) (by omega) e24 ?_
          refine w_st1 (L' := [_, _, _, _]) d_124_62 rfl (by decide) rfl (by decide) rfl ?_
          refine w_ld d_124_63 rfl rfl rfl ?_
          refine w_ld d_124_64 rfl rfl rfl ?_
          refine w_gI d_124_65 (by rfl) (by first | rfl | assumption) (by rfl) (by first | exact f16 | exact f19 | exact f26 | exact congrFun f59 _ | exact congrFun f60 _ | exact congrFun f62 _ | exact congrFun f63 _ | rfl) ?_
          refine w_icmp_lt (g := 78) d_124_68 (by decide) (by omega) (fun h68 => ?_) (fun h68 => ?_)
          · exact absurd h68 (by omega)
          · refine w_ld d_124_71 rfl rfl rfl ?_
            refine w_ld d_124_72 rfl rfl rfl ?_
            refine w_cV0 (a := 46) (as := [_]) (rest := _) rfl d_124_73 (by rfl) (by rfl) (by first | rfl | assumption) (by rfl) (by rfl) (Nat.le_of_ble_eq_true rfl) (by omega) (by omega) (by have e := m_fail (sc := sc) (fr := fr - 1) (lo := lo - (19 + 2)) (μ := (rM μ l q)) (ρ := ρ) (by rw [f16]; decide) (k := μ.1 46 15); rw [f16, if_pos (by decide)] at e; exact e) ?_
            refine w_con d_124_76 ?_
            refine w_zret d_124_77 rfl (by decide) ?_
            exact ⟨rfl, rfl⟩
  · exact absurd h13 (by decide)
theorem m_strC {sc : Nat × (Nat → Int32)} {fr lo : Nat} {μ : Mem} {ρ : Nat × Nat × Nat} (h16 : μ.1 46 16 = -1) (hn : 0 ≤ μ.1 46 3 ∧ μ.1 46 3 ≤ 240) (hch : ∀ k, 0 ≤ μ.2.2 47 k ∧ μ.2.2 47 k < 65536) (h32 : ∀ k, 0 ≤ k → k < μ.1 46 3 → 32 ≤ μ.2.2 47 k) (hpl : 0 ≤ μ.1 46 15 ∧ μ.1 46 15 < μ.1 46 3) (hu : 0 ≤ μ.1 46 18 ∧ μ.1 46 18 ≤ μ.1 46 15) (hf : 14 ≤ fr) (hl : 600 ≤ lo) {d : Int} (hd : μ.1 46 19 = d ∧ 0 ≤ d ∧ d ≤ 8) (hmo : 0 < d → (0 ≤ μ.2.2 59 d ∧ μ.2.2 59 d ≤ 7) ∧ 0 ≤ μ.2.2 60 d ∧ μ.2.2 60 d ≤ 240) (hnc : 0 ≤ μ.1 46 26 ∧ μ.1 46 26 ≤ 24) {q : Int} {l : List Int} (hrw : rw' (μ.2.2 47) (μ.1 46 3) (μ.1 46 15 + 1) = .inr (q, l)) (hl32 : ∀ c ∈ l, 32 ≤ c ∧ c ≤ 126) {key : Int} (hkey : key = 1 ∧ 0 < d ∧ μ.2.2 59 d = 2 ∧ μ.2.2 60 d % 2 = 0 ∨ key = 0 ∧ ¬ (0 < d ∧ μ.2.2 59 d = 2 ∧ μ.2.2 60 d % 2 = 0)) (hC : 0 ≤ (cod (fun i => (rM μ l q).2.2 57 ((rM μ l q).1 46 24 + i)) ((rM μ l q).1 46 25)) ∧ (cod (fun i => (rM μ l q).2.2 57 ((rM μ l q).1 46 24 + i)) ((rM μ l q).1 46 25)) < μ.1 46 26) {Q : z_O → z_T → Prop} (K : w_P sc fr lo 124 7 4 false ((some FieldType.boolean)) prog_9_method_31_code 117 [some (.ref 46), some (.int (ji (μ.1 46 15))), some (.int (ji key)), some (.int (ji (cod (fun i => (rM μ l q).2.2 57 ((rM μ l q).1 46 24 + i)) ((rM μ l q).1 46 25))))] [] (hp (stI (stI (rM μ l q) 46 24 (μ.2.2 62 (cod (fun i => (rM μ l q).2.2 57 ((rM μ l q).1 46 24 + i)) ((rM μ l q).1 46 25)))) 46 25 (μ.2.2 63 (cod (fun i => (rM μ l q).2.2 57 ((rM μ l q).1 46 24 + i)) ((rM μ l q).1 46 25)))), ρ) Q) : w_S sc fr lo 124 [.ref 46] (hp μ, ρ) Q := by
  obtain ⟨f15, f18, f24, f25, fI, fR, fA, f57⟩ := rM_f (μ := μ) (l := l) (q := q)
  have hlen := rw_len _ _ _ _ rfl hrw
  have f16 : (rM μ l q).1 46 16 = -1 := (fI 46 16 (by decide)).trans h16
  have f19 : (rM μ l q).1 46 19 = d := (fI 46 19 (by decide)).trans hd.1
  have f26 : (rM μ l q).1 46 26 = μ.1 46 26 := fI 46 26 (by decide)
  have f59 := fA 59 (by decide)
  have f60 := fA 60 (by decide)
  have f62 := fA 62 (by decide)
  have f63 := fA 63 (by decide)
  have hr : 0 ≤ (rM μ l q).1 46 24 ∧ 0 ≤ (rM μ l q).1 46 25 ∧ (rM μ l q).1 46 24 + (rM μ l q).1 46 25 ≤ 720 ∧ (rM μ l q).1 46 25 ≤ 240 := by rw [f24, f25]; omega
  have hw : ∀ i, 0 ≤ i → i < (rM μ l q).1 46 25 → 32 ≤ (rM μ l q).2.2 57 ((rM μ l q).1 46 24 + i) ∧ (rM μ l q).2.2 57 ((rM μ l q).1 46 24 + i) ≤ 126 := fun i i0 i1 => rM_pr hl32 i i0 i1
  have hci := cod_in (fun i => (rM μ l q).2.2 57 ((rM μ l q).1 46 24 + i)) ((rM μ l q).1 46 25)
  have e24 := m_codeOf (sc := sc) (fr := fr - 1) (lo := lo - (19 + 2)) (μ := (rM μ l q)) (ρ := ρ) hr hw (by omega) (by omega)
  have eC := fun (k : Int) (hk : k = 0 ∨ k = 1) => m_isCached (sc := sc) (fr := fr - 1) (lo := lo - (19 + 3)) (μ := (rM μ l q)) (ρ := ρ) hr hw hk (by omega) (by omega)
  have hmd : 0 < d → (μ.2.2 60 d).tmod 2 = μ.2.2 60 d % 2 := fun z => Int.tmod_eq_emod_of_nonneg (hmo z).2.1
  refine w_S.of (L0 := [some (.ref 46), none, none, none]) rfl rfl (Nat.le_of_ble_eq_true rfl) (by rfl) ?_
  refine w_ld d_124_0 rfl rfl rfl ?_
  refine w_gI d_124_1 (by rfl) (by first | rfl | assumption) (by rfl) rfl ?_
  refine w_st1 (L' := [_, _, _, _]) d_124_4 rfl (by decide) rfl (by decide) rfl ?_
  refine w_ld d_124_5 rfl rfl rfl ?_
  refine w_cV0 (a := 46) (as := []) (rest := _) rfl d_124_6 (by rfl) (by rfl) (by first | rfl | assumption) (by rfl) (by rfl) (Nat.le_of_ble_eq_true rfl) (by omega) (by omega) (m_readRaw h16 hn hch h32 hpl hu (by omega) (by omega) hrw) ?_
  refine w_ld d_124_9 rfl rfl rfl ?_
  refine w_gI d_124_10 (by rfl) (by first | rfl | assumption) (by rfl) (by first | exact f16 | exact f19 | exact f26 | exact congrFun f59 _ | exact congrFun f60 _ | exact congrFun f62 _ | exact congrFun f63 _ | rfl) ?_
  refine w_if_lt (g := 18) d_124_13 (by decide) (by decide) (fun h13 => ?_) (fun h13 => ?_)
  · refine w_ld d_124_18 rfl rfl rfl ?_
    refine w_gI d_124_19 (by rfl) (by first | rfl | assumption) (by rfl) (by first | exact f16 | exact f19 | exact f26 | exact congrFun f59 _ | exact congrFun f60 _ | exact congrFun f62 _ | exact congrFun f63 _ | rfl) ?_
    refine w_if_le (g := 56) d_124_22 (by decide) (by omega) (fun h22 => ?_) (fun h22 => ?_)
    · refine w_con d_124_56 ?_
      obtain rfl : key = 0 := by omega
      refine w_st1 (L' := [_, _, _, _]) d_124_57 rfl (by decide) rfl (by decide) rfl ?_
      refine w_ld d_124_58 rfl rfl rfl ?_
      refine w_cV1 (a := 46) (as := []) (rest := _) rfl d_124_59 (by rfl) (by rfl) (by first | rfl | assumption) (by rfl) (by rfl) (Nat.le_of_ble_eq_true rfl) (by omega) (by omega) e24 ?_
      refine w_st1 (L' := [_, _, _, _]) d_124_62 rfl (by decide) rfl (by decide) rfl ?_
      refine w_ld d_124_63 rfl rfl rfl ?_
      refine w_ld d_124_64 rfl rfl rfl ?_
      refine w_gI d_124_65 (by rfl) (by first | rfl | assumption) (by rfl) (by first | exact f16 | exact f19 | exact f26 | exact congrFun f59 _ | exact congrFun f60 _ | exact congrFun f62 _ | exact congrFun f63 _ | rfl) ?_
      refine w_icmp_lt (g := 78) d_124_68 (by decide) (by omega) (fun h68 => ?_) (fun h68 => ?_)
      · refine w_ld d_124_78 rfl rfl rfl ?_
        refine w_if_lt (g := 105) d_124_79 (by decide) (by omega) (fun h79 => ?_) (fun h79 => ?_)
        · exact absurd h79 (by omega)
        · refine w_ld d_124_82 rfl rfl rfl ?_
          refine w_ld d_124_83 rfl rfl rfl ?_
          refine w_getF d_124_84 (by rfl) (by first | rfl | assumption) (by rfl) (by rfl) ?_
          refine w_ld d_124_87 rfl rfl rfl ?_
          refine w_aI d_124_88 (by first | rfl | assumption) (by omega) (by first | exact f16 | exact f19 | exact f26 | exact congrFun f59 _ | exact congrFun f60 _ | exact congrFun f62 _ | exact congrFun f63 _ | rfl) ?_
          refine w_putI d_124_89 (by rfl) (by first | rfl | assumption) (by rfl) (fit_I (by rfl)) (by rfl) ?_
          refine w_ld d_124_92 rfl rfl rfl ?_
          refine w_ld d_124_93 rfl rfl rfl ?_
          refine w_getF d_124_94 (by rfl) (by first | rfl | assumption) (by rfl) (by rfl) ?_
          refine w_ld d_124_97 rfl rfl rfl ?_
          refine w_aI d_124_98 (by first | rfl | assumption) (by omega) (by first | exact f16 | exact f19 | exact f26 | exact congrFun f59 _ | exact congrFun f60 _ | exact congrFun f62 _ | exact congrFun f63 _ | rfl) ?_
          refine w_putI d_124_99 (by rfl) (by first | rfl | assumption) (by rfl) (fit_I (by rfl)) (by rfl) ?_
          refine w_goto (g := 117) d_124_102 (by decide) ?_
          exact K
      · exact absurd h68 (by omega)
    · refine w_ld d_124_25 rfl rfl rfl ?_
      refine w_getF d_124_26 (by rfl) (by first | rfl | assumption) (by rfl) (by rfl) ?_
      refine w_ld d_124_29 rfl rfl rfl ?_
      refine w_gI d_124_30 (by rfl) (by first | rfl | assumption) (by rfl) (by first | exact f16 | exact f19 | exact f26 | exact congrFun f59 _ | exact congrFun f60 _ | exact congrFun f62 _ | exact congrFun f63 _ | rfl) ?_
      refine w_aI d_124_33 (by first | rfl | assumption) (by omega) (by first | exact f16 | exact f19 | exact f26 | exact congrFun f59 _ | exact congrFun f60 _ | exact congrFun f62 _ | exact congrFun f63 _ | rfl) ?_
      refine w_con d_124_34 ?_
      refine w_icmp_ne (g := 56) d_124_35 (by decide) (by have := hmo (by omega); omega) (fun h35 => ?_) (fun h35 => ?_)
      · refine w_con d_124_56 ?_
        obtain rfl : key = 0 := by omega
        refine w_st1 (L' := [_, _, _, _]) d_124_57 rfl (by decide) rfl (by decide) rfl ?_
        refine w_ld d_124_58 rfl rfl rfl ?_
        refine w_cV1 (a := 46) (as := []) (rest := _) rfl d_124_59 (by rfl) (by rfl) (by first | rfl | assumption) (by rfl) (by rfl) (Nat.le_of_ble_eq_true rfl) (by omega) (by omega) e24 ?_
        refine w_st1 (L' := [_, _, _, _]) d_124_62 rfl (by decide) rfl (by decide) rfl ?_
        refine w_ld d_124_63 rfl rfl rfl ?_
        refine w_ld d_124_64 rfl rfl rfl ?_
        refine w_gI d_124_65 (by rfl) (by first | rfl | assumption) (by rfl) (by first | exact f16 | exact f19 | exact f26 | exact congrFun f59 _ | exact congrFun f60 _ | exact congrFun f62 _ | exact congrFun f63 _ | rfl) ?_
        refine w_icmp_lt (g := 78) d_124_68 (by decide) (by omega) (fun h68 => ?_) (fun h68 => ?_)
        · refine w_ld d_124_78 rfl rfl rfl ?_
          refine w_if_lt (g := 105) d_124_79 (by decide) (by omega) (fun h79 => ?_) (fun h79 => ?_)
          · exact absurd h79 (by omega)
          · refine w_ld d_124_82 rfl rfl rfl ?_
            refine w_ld d_124_83 rfl rfl rfl ?_
            refine w_getF d_124_84 (by rfl) (by first | rfl | assumption) (by rfl) (by rfl) ?_
            refine w_ld d_124_87 rfl rfl rfl ?_
            refine w_aI d_124_88 (by first | rfl | assumption) (by omega) (by first | exact f16 | exact f19 | exact f26 | exact congrFun f59 _ | exact congrFun f60 _ | exact congrFun f62 _ | exact congrFun f63 _ | rfl) ?_
            refine w_putI d_124_89 (by rfl) (by first | rfl | assumption) (by rfl) (fit_I (by rfl)) (by rfl) ?_
            refine w_ld d_124_92 rfl rfl rfl ?_
            refine w_ld d_124_93 rfl rfl rfl ?_
            refine w_getF d_124_94 (by rfl) (by first | rfl | assumption) (by rfl) (by rfl) ?_
            refine w_ld d_124_97 rfl rfl rfl ?_
            refine w_aI d_124_98 (by first | rfl | assumption) (by omega) (by first | exact f16 | exact f19 | exact f26 | exact congrFun f59 _ | exact congrFun f60 _ | exact congrFun f62 _ | exact congrFun f63 _ | rfl) ?_
            refine w_putI d_124_99 (by rfl) (by first | rfl | assumption) (by rfl) (fit_I (by rfl)) (by rfl) ?_
            refine w_goto (g := 117) d_124_102 (by decide) ?_
            exact K
        · exact absurd h68 (by omega)
      · refine w_ld d_124_38 rfl rfl rfl ?_
        refine w_getF d_124_39 (by rfl) (by first | rfl | assumption) (by rfl) (by rfl) ?_
        refine w_ld d_124_42 rfl rfl rfl ?_
        refine w_gI d_124_43 (by rfl) (by first | rfl | assumption) (by rfl) (by first | exact f16 | exact f19 | exact f26 | exact congrFun f59 _ | exact congrFun f60 _ | exact congrFun f62 _ | exact congrFun f63 _ | rfl) ?_
        refine w_aI d_124_46 (by first | rfl | assumption) (by omega) (by first | exact f16 | exact f19 | exact f26 | exact congrFun f59 _ | exact congrFun f60 _ | exact congrFun f62 _ | exact congrFun f63 _ | rfl) ?_
        refine w_con d_124_47 ?_
        refine w_irem d_124_48 (by have := hmo (by omega); omega) (by decide) ?_
        refine w_if_ne (g := 56) d_124_49 (by decide) (by rw [hmd (by omega)]; omega) (fun h49 => ?_) (fun h49 => ?_)
        · refine w_con d_124_56 ?_
          rw [hmd (by omega)] at h49
          obtain rfl : key = 0 := by omega
          refine w_st1 (L' := [_, _, _, _]) d_124_57 rfl (by decide) rfl (by decide) rfl ?_
          refine w_ld d_124_58 rfl rfl rfl ?_
          refine w_cV1 (a := 46) (as := []) (rest := _) rfl d_124_59 (by rfl) (by rfl) (by first | rfl | assumption) (by rfl) (by rfl) (Nat.le_of_ble_eq_true rfl) (by omega) (by omega) e24 ?_
          refine w_st1 (L' := [_, _, _, _]) d_124_62 rfl (by decide) rfl (by decide) rfl ?_
          refine w_ld d_124_63 rfl rfl rfl ?_
          refine w_ld d_124_64 rfl rfl rfl ?_
          refine w_gI d_124_65 (by rfl) (by first | rfl | assumption) (by rfl) (by first | exact f16 | exact f19 | exact f26 | exact congrFun f59 _ | exact congrFun f60 _ | exact congrFun f62 _ | exact congrFun f63 _ | rfl) ?_
          refine w_icmp_lt (g := 78) d_124_68 (by decide) (by omega) (fun h68 => ?_) (fun h68 => ?_)
          · refine w_ld d_124_78 rfl rfl rfl ?_
            refine w_if_lt (g := 105) d_124_79 (by decide) (by omega) (fun h79 => ?_) (fun h79 => ?_)
            · exact absurd h79 (by omega)
            · refine w_ld d_124_82 rfl rfl rfl ?_
              refine w_ld d_124_83 rfl rfl rfl ?_
              refine w_getF d_124_84 (by rfl) (by first | rfl | assumption) (by rfl) (by rfl) ?_
              refine w_ld d_124_87 rfl rfl rfl ?_
              refine w_aI d_124_88 (by first | rfl | assumption) (by omega) (by first | exact f16 | exact f19 | exact f26 | exact congrFun f59 _ | exact congrFun f60 _ | exact congrFun f62 _ | exact congrFun f63 _ | rfl) ?_
              refine w_putI d_124_89 (by rfl) (by first | rfl | assumption) (by rfl) (fit_I (by rfl)) (by rfl) ?_
              refine w_ld d_124_92 rfl rfl rfl ?_
              refine w_ld d_124_93 rfl rfl rfl ?_
              refine w_getF d_124_94 (by rfl) (by first | rfl | assumption) (by rfl) (by rfl) ?_
              refine w_ld d_124_97 rfl rfl rfl ?_
              refine w_aI d_124_98 (by first | rfl | assumption) (by omega) (by first | exact f16 | exact f19 | exact f26 | exact congrFun f59 _ | exact congrFun f60 _ | exact congrFun f62 _ | exact congrFun f63 _ | rfl) ?_
              refine w_putI d_124_99 (by rfl) (by first | rfl | assumption) (by rfl) (fit_I (by rfl)) (by rfl) ?_
              refine w_goto (g := 117) d_124_102 (by decide) ?_
              exact K
          · exact absurd h68 (by omega)
        · refine w_con d_124_52 ?_
          refine w_goto (g := 57) d_124_53 (by decide) ?_
          rw [hmd (by omega)] at h49
          obtain rfl : key = 1 := by omega
          refine w_st1 (L' := [_, _, _, _]) d_124_57 rfl (by decide) rfl (by decide) rfl ?_
          refine w_ld d_124_58 rfl rfl rfl ?_
          refine w_cV1 (a := 46) (as := []) (rest := _) rfl d_124_59 (by rfl) (by rfl) (by first | rfl | assumption) (by rfl) (by rfl) (Nat.le_of_ble_eq_true rfl) (by omega) (by omega) e24 ?_
          refine w_st1 (L' := [_, _, _, _]) d_124_62 rfl (by decide) rfl (by decide) rfl ?_
          refine w_ld d_124_63 rfl rfl rfl ?_
          refine w_ld d_124_64 rfl rfl rfl ?_
          refine w_gI d_124_65 (by rfl) (by first | rfl | assumption) (by rfl) (by first | exact f16 | exact f19 | exact f26 | exact congrFun f59 _ | exact congrFun f60 _ | exact congrFun f62 _ | exact congrFun f63 _ | rfl) ?_
          refine w_icmp_lt (g := 78) d_124_68 (by decide) (by omega) (fun h68 => ?_) (fun h68 => ?_)
          · refine w_ld d_124_78 rfl rfl rfl ?_
            refine w_if_lt (g := 105) d_124_79 (by decide) (by omega) (fun h79 => ?_) (fun h79 => ?_)
            · exact absurd h79 (by omega)
            · refine w_ld d_124_82 rfl rfl rfl ?_
              refine w_ld d_124_83 rfl rfl rfl ?_
              refine w_getF d_124_84 (by rfl) (by first | rfl | assumption) (by rfl) (by rfl) ?_
              refine w_ld d_124_87 rfl rfl rfl ?_
              refine w_aI d_124_88 (by first | rfl | assumption) (by omega) (by first | exact f16 | exact f19 | exact f26 | exact congrFun f59 _ | exact congrFun f60 _ | exact congrFun f62 _ | exact congrFun f63 _ | rfl) ?_
              refine w_putI d_124_89 (by rfl) (by first | rfl | assumption) (by rfl) (fit_I (by rfl)) (by rfl) ?_
              refine w_ld d_124_92 rfl rfl rfl ?_
              refine w_ld d_124_93 rfl rfl rfl ?_
              refine w_getF d_124_94 (by rfl) (by first | rfl | assumption) (by rfl) (by rfl) ?_
              refine w_ld d_124_97 rfl rfl rfl ?_
              refine w_aI d_124_98 (by first | rfl | assumption) (by omega) (by first | exact f16 | exact f19 | exact f26 | exact congrFun f59 _ | exact congrFun f60 _ | exact congrFun f62 _ | exact congrFun f63 _ | rfl) ?_
              refine w_putI d_124_99 (by rfl) (by first | rfl | assumption) (by rfl) (fit_I (by rfl)) (by rfl) ?_
              refine w_goto (g := 117) d_124_102 (by decide) ?_
              exact K
          · exact absurd h68 (by omega)
  · exact absurd h13 (by decide)
theorem m_str0 {sc : Nat × (Nat → Int32)} {fr lo : Nat} {μ : Mem} {ρ : Nat × Nat × Nat} (h16 : μ.1 46 16 = -1) (hn : 0 ≤ μ.1 46 3 ∧ μ.1 46 3 ≤ 240) (hch : ∀ k, 0 ≤ μ.2.2 47 k ∧ μ.2.2 47 k < 65536) (h32 : ∀ k, 0 ≤ k → k < μ.1 46 3 → 32 ≤ μ.2.2 47 k) (hpl : 0 ≤ μ.1 46 15 ∧ μ.1 46 15 < μ.1 46 3) (hu : 0 ≤ μ.1 46 18 ∧ μ.1 46 18 ≤ μ.1 46 15) (hf : 14 ≤ fr) (hl : 600 ≤ lo) {d : Int} (hd : μ.1 46 19 = d ∧ 0 ≤ d ∧ d ≤ 8) (hmo : 0 < d → (0 ≤ μ.2.2 59 d ∧ μ.2.2 59 d ≤ 7) ∧ 0 ≤ μ.2.2 60 d ∧ μ.2.2 60 d ≤ 240) (hnc : 0 ≤ μ.1 46 26 ∧ μ.1 46 26 ≤ 24) {q : Int} {l : List Int} (hrw : rw' (μ.2.2 47) (μ.1 46 3) (μ.1 46 15 + 1) = .inr (q, l)) (hl32 : ∀ c ∈ l, 32 ≤ c ∧ c ≤ 126) {key : Int} (hkey : key = 1 ∧ 0 < d ∧ μ.2.2 59 d = 2 ∧ μ.2.2 60 d % 2 = 0 ∨ key = 0 ∧ ¬ (0 < d ∧ μ.2.2 59 d = 2 ∧ μ.2.2 60 d % 2 = 0)) (hC : (cod (fun i => (rM μ l q).2.2 57 ((rM μ l q).1 46 24 + i)) ((rM μ l q).1 46 25)) = -1) (hK : ¬ (tks (fun i => (rM μ l q).2.2 57 ((rM μ l q).1 46 24 + i)) ((rM μ l q).1 46 25) key)) {Q : z_O → z_T → Prop} (K : w_P sc fr lo 124 7 4 false ((some FieldType.boolean)) prog_9_method_31_code 117 [some (.ref 46), some (.int (ji (μ.1 46 15))), some (.int (ji key)), some (.int (ji (cod (fun i => (rM μ l q).2.2 57 ((rM μ l q).1 46 24 + i)) ((rM μ l q).1 46 25))))] [] (hp (rM μ l q), ρ) Q) : w_S sc fr lo 124 [.ref 46] (hp μ, ρ) Q := by
  obtain ⟨f15, f18, f24, f25, fI, fR, fA, f57⟩ := rM_f (μ := μ) (l := l) (q := q)
  have hlen := rw_len _ _ _ _ rfl hrw
  have f16 : (rM μ l q).1 46 16 = -1 := (fI 46 16 (by decide)).trans h16
  have f19 : (rM μ l q).1 46 19 = d := (fI 46 19 (by decide)).trans hd.1
  have f26 : (rM μ l q).1 46 26 = μ.1 46 26 := fI 46 26 (by decide)
  have f59 := fA 59 (by decide)
  have f60 := fA 60 (by decide)
  have f62 := fA 62 (by decide)
  have f63 := fA 63 (by decide)
  have hr : 0 ≤ (rM μ l q).1 46 24 ∧ 0 ≤ (rM μ l q).1 46 25 ∧ (rM μ l q).1 46 24 + (rM μ l q).1 46 25 ≤ 720 ∧ (rM μ l q).1 46 25 ≤ 240 := by rw [f24, f25]; omega
  have hw : ∀ i, 0 ≤ i → i < (rM μ l q).1 46 25 → 32 ≤ (rM μ l q).2.2 57 ((rM μ l q).1 46 24 + i) ∧ (rM μ l q).2.2 57 ((rM μ l q).1 46 24 + i) ≤ 126 := fun i i0 i1 => rM_pr hl32 i i0 i1
  have hci := cod_in (fun i => (rM μ l q).2.2 57 ((rM μ l q).1 46 24 + i)) ((rM μ l q).1 46 25)
  have e24 := m_codeOf (sc := sc) (fr := fr - 1) (lo := lo - (19 + 2)) (μ := (rM μ l q)) (ρ := ρ) hr hw (by omega) (by omega)
  have eC := fun (k : Int) (hk : k = 0 ∨ k = 1) => m_isCached (sc := sc) (fr := fr - 1) (lo := lo - (19 + 3)) (μ := (rM μ l q)) (ρ := ρ) hr hw hk (by omega) (by omega)
  have hmd : 0 < d → (μ.2.2 60 d).tmod 2 = μ.2.2 60 d % 2 := fun z => Int.tmod_eq_emod_of_nonneg (hmo z).2.1
  refine w_S.of (L0 := [some (.ref 46), none, none, none]) rfl rfl (Nat.le_of_ble_eq_true rfl) (by rfl) ?_
  refine w_ld d_124_0 rfl rfl rfl ?_
  refine w_gI d_124_1 (by rfl) (by first | rfl | assumption) (by rfl) rfl ?_
  refine w_st1 (L' := [_, _, _, _]) d_124_4 rfl (by decide) rfl (by decide) rfl ?_
  refine w_ld d_124_5 rfl rfl rfl ?_
  refine w_cV0 (a := 46) (as := []) (rest := _) rfl d_124_6 (by rfl) (by rfl) (by first | rfl | assumption) (by rfl) (by rfl) (Nat.le_of_ble_eq_true rfl) (by omega) (by omega) (m_readRaw h16 hn hch h32 hpl hu (by omega) (by omega) hrw) ?_
  refine w_ld d_124_9 rfl rfl rfl ?_
  refine w_gI d_124_10 (by rfl) (by first | rfl | assumption) (by rfl) (by first | exact f16 | exact f19 | exact f26 | exact congrFun f59 _ | exact congrFun f60 _ | exact congrFun f62 _ | exact congrFun f63 _ | rfl) ?_
  refine w_if_lt (g := 18) d_124_13 (by decide) (by decide) (fun h13 => ?_) (fun h13 => ?_)
  · refine w_ld d_124_18 rfl rfl rfl ?_
    refine w_gI d_124_19 (by rfl) (by first | rfl | assumption) (by rfl) (by first | exact f16 | exact f19 | exact f26 | exact congrFun f59 _ | exact congrFun f60 _ | exact congrFun f62 _ | exact congrFun f63 _ | rfl) ?_
    refine w_if_le (g := 56) d_124_22 (by decide) (by omega) (fun h22 => ?_) (fun h22 => ?_)
    · refine w_con d_124_56 ?_
      obtain rfl : key = 0 := by omega
      refine w_st1 (L' := [_, _, _, _]) d_124_57 rfl (by decide) rfl (by decide) rfl ?_
      refine w_ld d_124_58 rfl rfl rfl ?_
      refine w_cV1 (a := 46) (as := []) (rest := _) rfl d_124_59 (by rfl) (by rfl) (by first | rfl | assumption) (by rfl) (by rfl) (Nat.le_of_ble_eq_true rfl) (by omega) (by omega) e24 ?_
      refine w_st1 (L' := [_, _, _, _]) d_124_62 rfl (by decide) rfl (by decide) rfl ?_
      refine w_ld d_124_63 rfl rfl rfl ?_
      refine w_ld d_124_64 rfl rfl rfl ?_
      refine w_gI d_124_65 (by rfl) (by first | rfl | assumption) (by rfl) (by first | exact f16 | exact f19 | exact f26 | exact congrFun f59 _ | exact congrFun f60 _ | exact congrFun f62 _ | exact congrFun f63 _ | rfl) ?_
      refine w_icmp_lt (g := 78) d_124_68 (by decide) (by omega) (fun h68 => ?_) (fun h68 => ?_)
      · refine w_ld d_124_78 rfl rfl rfl ?_
        refine w_if_lt (g := 105) d_124_79 (by decide) (by omega) (fun h79 => ?_) (fun h79 => ?_)
        · refine w_ld d_124_105 rfl rfl rfl ?_
          refine w_ld d_124_106 rfl rfl rfl ?_
          refine w_cV1 (a := 46) (as := [_]) (rest := _) rfl d_124_107 (by rfl) (by rfl) (by first | rfl | assumption) (by rfl) (by rfl) (Nat.le_of_ble_eq_true rfl) (by omega) (by omega) (eC _ (by decide)) ?_
          refine w_if_eq (g := 117) d_124_110 (by decide) (b01_in _) (fun h110 => ?_) (fun h110 => ?_)
          · exact K
          · exact absurd (b01_ne h110) hK
        · exact absurd h79 (by omega)
      · exact absurd h68 (by omega)
    · refine w_ld d_124_25 rfl rfl rfl ?_
      refine w_getF d_124_26 (by rfl) (by first | rfl | assumption) (by rfl) (by rfl) ?_
      refine w_ld d_124_29 rfl rfl rfl ?_
      refine w_gI d_124_30 (by rfl) (by first | rfl | assumption) (by rfl) (by first | exact f16 | exact f19 | exact f26 | exact congrFun f59 _ | exact congrFun f60 _ | exact congrFun f62 _ | exact congrFun f63 _ | rfl) ?_
      refine w_aI d_124_33 (by first | rfl | assumption) (by omega) (by first | exact f16 | exact f19 | exact f26 | exact congrFun f59 _ | exact congrFun f60 _ | exact congrFun f62 _ | exact congrFun f63 _ | rfl) ?_
      refine w_con d_124_34 ?_
      refine w_icmp_ne (g := 56) d_124_35 (by decide) (by have := hmo (by omega); omega) (fun h35 => ?_) (fun h35 => ?_)
      · refine w_con d_124_56 ?_
        obtain rfl : key = 0 := by omega
        refine w_st1 (L' := [_, _, _, _]) d_124_57 rfl (by decide) rfl (by decide) rfl ?_
        refine w_ld d_124_58 rfl rfl rfl ?_
        refine w_cV1 (a := 46) (as := []) (rest := _) rfl d_124_59 (by rfl) (by rfl) (by first | rfl | assumption) (by rfl) (by rfl) (Nat.le_of_ble_eq_true rfl) (by omega) (by omega) e24 ?_
        refine w_st1 (L' := [_, _, _, _]) d_124_62 rfl (by decide) rfl (by decide) rfl ?_
        refine w_ld d_124_63 rfl rfl rfl ?_
        refine w_ld d_124_64 rfl rfl rfl ?_
        refine w_gI d_124_65 (by rfl) (by first | rfl | assumption) (by rfl) (by first | exact f16 | exact f19 | exact f26 | exact congrFun f59 _ | exact congrFun f60 _ | exact congrFun f62 _ | exact congrFun f63 _ | rfl) ?_
        refine w_icmp_lt (g := 78) d_124_68 (by decide) (by omega) (fun h68 => ?_) (fun h68 => ?_)
        · refine w_ld d_124_78 rfl rfl rfl ?_
          refine w_if_lt (g := 105) d_124_79 (by decide) (by omega) (fun h79 => ?_) (fun h79 => ?_)
          · refine w_ld d_124_105 rfl rfl rfl ?_
            refine w_ld d_124_106 rfl rfl rfl ?_
            refine w_cV1 (a := 46) (as := [_]) (rest := _) rfl d_124_107 (by rfl) (by rfl) (by first | rfl | assumption) (by rfl) (by rfl) (Nat.le_of_ble_eq_true rfl) (by omega) (by omega) (eC _ (by decide)) ?_
            refine w_if_eq (g := 117) d_124_110 (by decide) (b01_in _) (fun h110 => ?_) (fun h110 => ?_)
            · exact K
            · exact absurd (b01_ne h110) hK
          · exact absurd h79 (by omega)
        · exact absurd h68 (by omega)
      · refine w_ld d_124_38 rfl rfl rfl ?_
        refine w_getF d_124_39 (by rfl) (by first | rfl | assumption) (by rfl) (by rfl) ?_
        refine w_ld d_124_42 rfl rfl rfl ?_
        refine w_gI d_124_43 (by rfl) (by first | rfl | assumption) (by rfl) (by first | exact f16 | exact f19 | exact f26 | exact congrFun f59 _ | exact congrFun f60 _ | exact congrFun f62 _ | exact congrFun f63 _ | rfl) ?_
        refine w_aI d_124_46 (by first | rfl | assumption) (by omega) (by first | exact f16 | exact f19 | exact f26 | exact congrFun f59 _ | exact congrFun f60 _ | exact congrFun f62 _ | exact congrFun f63 _ | rfl) ?_
        refine w_con d_124_47 ?_
        refine w_irem d_124_48 (by have := hmo (by omega); omega) (by decide) ?_
        refine w_if_ne (g := 56) d_124_49 (by decide) (by rw [hmd (by omega)]; omega) (fun h49 => ?_) (fun h49 => ?_)
        · refine w_con d_124_56 ?_
          rw [hmd (by omega)] at h49
          obtain rfl : key = 0 := by omega
          refine w_st1 (L' := [_, _, _, _]) d_124_57 rfl (by decide) rfl (by decide) rfl ?_
          refine w_ld d_124_58 rfl rfl rfl ?_
          refine w_cV1 (a := 46) (as := []) (rest := _) rfl d_124_59 (by rfl) (by rfl) (by first | rfl | assumption) (by rfl) (by rfl) (Nat.le_of_ble_eq_true rfl) (by omega) (by omega) e24 ?_
          refine w_st1 (L' := [_, _, _, _]) d_124_62 rfl (by decide) rfl (by decide) rfl ?_
          refine w_ld d_124_63 rfl rfl rfl ?_
          refine w_ld d_124_64 rfl rfl rfl ?_
          refine w_gI d_124_65 (by rfl) (by first | rfl | assumption) (by rfl) (by first | exact f16 | exact f19 | exact f26 | exact congrFun f59 _ | exact congrFun f60 _ | exact congrFun f62 _ | exact congrFun f63 _ | rfl) ?_
          refine w_icmp_lt (g := 78) d_124_68 (by decide) (by omega) (fun h68 => ?_) (fun h68 => ?_)
          · refine w_ld d_124_78 rfl rfl rfl ?_
            refine w_if_lt (g := 105) d_124_79 (by decide) (by omega) (fun h79 => ?_) (fun h79 => ?_)
            · refine w_ld d_124_105 rfl rfl rfl ?_
              refine w_ld d_124_106 rfl rfl rfl ?_
              refine w_cV1 (a := 46) (as := [_]) (rest := _) rfl d_124_107 (by rfl) (by rfl) (by first | rfl | assumption) (by rfl) (by rfl) (Nat.le_of_ble_eq_true rfl) (by omega) (by omega) (eC _ (by decide)) ?_
              refine w_if_eq (g := 117) d_124_110 (by decide) (b01_in _) (fun h110 => ?_) (fun h110 => ?_)
              · exact K
              · exact absurd (b01_ne h110) hK
            · exact absurd h79 (by omega)
          · exact absurd h68 (by omega)
        · refine w_con d_124_52 ?_
          refine w_goto (g := 57) d_124_53 (by decide) ?_
          rw [hmd (by omega)] at h49
          obtain rfl : key = 1 := by omega
          refine w_st1 (L' := [_, _, _, _]) d_124_57 rfl (by decide) rfl (by decide) rfl ?_
          refine w_ld d_124_58 rfl rfl rfl ?_
          refine w_cV1 (a := 46) (as := []) (rest := _) rfl d_124_59 (by rfl) (by rfl) (by first | rfl | assumption) (by rfl) (by rfl) (Nat.le_of_ble_eq_true rfl) (by omega) (by omega) e24 ?_
          refine w_st1 (L' := [_, _, _, _]) d_124_62 rfl (by decide) rfl (by decide) rfl ?_
          refine w_ld d_124_63 rfl rfl rfl ?_
          refine w_ld d_124_64 rfl rfl rfl ?_
          refine w_gI d_124_65 (by rfl) (by first | rfl | assumption) (by rfl) (by first | exact f16 | exact f19 | exact f26 | exact congrFun f59 _ | exact congrFun f60 _ | exact congrFun f62 _ | exact congrFun f63 _ | rfl) ?_
          refine w_icmp_lt (g := 78) d_124_68 (by decide) (by omega) (fun h68 => ?_) (fun h68 => ?_)
          · refine w_ld d_124_78 rfl rfl rfl ?_
            refine w_if_lt (g := 105) d_124_79 (by decide) (by omega) (fun h79 => ?_) (fun h79 => ?_)
            · refine w_ld d_124_105 rfl rfl rfl ?_
              refine w_ld d_124_106 rfl rfl rfl ?_
              refine w_cV1 (a := 46) (as := [_]) (rest := _) rfl d_124_107 (by rfl) (by rfl) (by first | rfl | assumption) (by rfl) (by rfl) (Nat.le_of_ble_eq_true rfl) (by omega) (by omega) (eC _ (by decide)) ?_
              refine w_if_eq (g := 117) d_124_110 (by decide) (b01_in _) (fun h110 => ?_) (fun h110 => ?_)
              · exact K
              · exact absurd (b01_ne h110) hK
            · exact absurd h79 (by omega)
          · exact absurd h68 (by omega)
  · exact absurd h13 (by decide)
theorem m_strN {sc : Nat × (Nat → Int32)} {fr lo : Nat} {μ : Mem} {ρ : Nat × Nat × Nat} (h16 : μ.1 46 16 = -1) (hn : 0 ≤ μ.1 46 3 ∧ μ.1 46 3 ≤ 240) (hch : ∀ k, 0 ≤ μ.2.2 47 k ∧ μ.2.2 47 k < 65536) (h32 : ∀ k, 0 ≤ k → k < μ.1 46 3 → 32 ≤ μ.2.2 47 k) (hpl : 0 ≤ μ.1 46 15 ∧ μ.1 46 15 < μ.1 46 3) (hu : 0 ≤ μ.1 46 18 ∧ μ.1 46 18 ≤ μ.1 46 15) (hf : 14 ≤ fr) (hl : 600 ≤ lo) {d : Int} (hd : μ.1 46 19 = d ∧ 0 ≤ d ∧ d ≤ 8) (hmo : 0 < d → (0 ≤ μ.2.2 59 d ∧ μ.2.2 59 d ≤ 7) ∧ 0 ≤ μ.2.2 60 d ∧ μ.2.2 60 d ≤ 240) (hnc : 0 ≤ μ.1 46 26 ∧ μ.1 46 26 ≤ 24) {q : Int} {l : List Int} (hrw : rw' (μ.2.2 47) (μ.1 46 3) (μ.1 46 15 + 1) = .inr (q, l)) (hl32 : ∀ c ∈ l, 32 ≤ c ∧ c ≤ 126) {key : Int} (hkey : key = 1 ∧ 0 < d ∧ μ.2.2 59 d = 2 ∧ μ.2.2 60 d % 2 = 0 ∨ key = 0 ∧ ¬ (0 < d ∧ μ.2.2 59 d = 2 ∧ μ.2.2 60 d % 2 = 0)) (hC : (cod (fun i => (rM μ l q).2.2 57 ((rM μ l q).1 46 24 + i)) ((rM μ l q).1 46 25)) = -1) (hK : (tks (fun i => (rM μ l q).2.2 57 ((rM μ l q).1 46 24 + i)) ((rM μ l q).1 46 25) key)) (h24 : μ.1 46 26 < 24) {Q : z_O → z_T → Prop} (K : w_P sc fr lo 124 7 4 false ((some FieldType.boolean)) prog_9_method_31_code 117 [some (.ref 46), some (.int (ji (μ.1 46 15))), some (.int (ji key)), some (.int (ji (cod (fun i => (rM μ l q).2.2 57 ((rM μ l q).1 46 24 + i)) ((rM μ l q).1 46 25))))] [] (hp (stI (stA (stA (stI (rM μ l q) 46 26 ((rM μ l q).1 46 26)) 62 ((rM μ l q).1 46 26) ((rM μ l q).1 46 24)) 63 ((rM μ l q).1 46 26) ((rM μ l q).1 46 25)) 46 26 ((rM μ l q).1 46 26 + 1)), ρ) Q) : w_S sc fr lo 124 [.ref 46] (hp μ, ρ) Q := by
  obtain ⟨f15, f18, f24, f25, fI, fR, fA, f57⟩ := rM_f (μ := μ) (l := l) (q := q)
  have hlen := rw_len _ _ _ _ rfl hrw
  have f16 : (rM μ l q).1 46 16 = -1 := (fI 46 16 (by decide)).trans h16
  have f19 : (rM μ l q).1 46 19 = d := (fI 46 19 (by decide)).trans hd.1
  have f26 : (rM μ l q).1 46 26 = μ.1 46 26 := fI 46 26 (by decide)
  have f59 := fA 59 (by decide)
  have f60 := fA 60 (by decide)
  have f62 := fA 62 (by decide)
  have f63 := fA 63 (by decide)
  have hr : 0 ≤ (rM μ l q).1 46 24 ∧ 0 ≤ (rM μ l q).1 46 25 ∧ (rM μ l q).1 46 24 + (rM μ l q).1 46 25 ≤ 720 ∧ (rM μ l q).1 46 25 ≤ 240 := by rw [f24, f25]; omega
  have hw : ∀ i, 0 ≤ i → i < (rM μ l q).1 46 25 → 32 ≤ (rM μ l q).2.2 57 ((rM μ l q).1 46 24 + i) ∧ (rM μ l q).2.2 57 ((rM μ l q).1 46 24 + i) ≤ 126 := fun i i0 i1 => rM_pr hl32 i i0 i1
  have hci := cod_in (fun i => (rM μ l q).2.2 57 ((rM μ l q).1 46 24 + i)) ((rM μ l q).1 46 25)
  have e24 := m_codeOf (sc := sc) (fr := fr - 1) (lo := lo - (19 + 2)) (μ := (rM μ l q)) (ρ := ρ) hr hw (by omega) (by omega)
  have eC := fun (k : Int) (hk : k = 0 ∨ k = 1) => m_isCached (sc := sc) (fr := fr - 1) (lo := lo - (19 + 3)) (μ := (rM μ l q)) (ρ := ρ) hr hw hk (by omega) (by omega)
  have hmd : 0 < d → (μ.2.2 60 d).tmod 2 = μ.2.2 60 d % 2 := fun z => Int.tmod_eq_emod_of_nonneg (hmo z).2.1
  refine w_S.of (L0 := [some (.ref 46), none, none, none]) rfl rfl (Nat.le_of_ble_eq_true rfl) (by rfl) ?_
  refine w_ld d_124_0 rfl rfl rfl ?_
  refine w_gI d_124_1 (by rfl) (by first | rfl | assumption) (by rfl) rfl ?_
  refine w_st1 (L' := [_, _, _, _]) d_124_4 rfl (by decide) rfl (by decide) rfl ?_
  refine w_ld d_124_5 rfl rfl rfl ?_
  refine w_cV0 (a := 46) (as := []) (rest := _) rfl d_124_6 (by rfl) (by rfl) (by first | rfl | assumption) (by rfl) (by rfl) (Nat.le_of_ble_eq_true rfl) (by omega) (by omega) (m_readRaw h16 hn hch h32 hpl hu (by omega) (by omega) hrw) ?_
  refine w_ld d_124_9 rfl rfl rfl ?_
  refine w_gI d_124_10 (by rfl) (by first | rfl | assumption) (by rfl) (by first | exact f16 | exact f19 | exact f26 | exact congrFun f59 _ | exact congrFun f60 _ | exact congrFun f62 _ | exact congrFun f63 _ | rfl) ?_
  refine w_if_lt (g := 18) d_124_13 (by decide) (by decide) (fun h13 => ?_) (fun h13 => ?_)
  · refine w_ld d_124_18 rfl rfl rfl ?_
    refine w_gI d_124_19 (by rfl) (by first | rfl | assumption) (by rfl) (by first | exact f16 | exact f19 | exact f26 | exact congrFun f59 _ | exact congrFun f60 _ | exact congrFun f62 _ | exact congrFun f63 _ | rfl) ?_
    refine w_if_le (g := 56) d_124_22 (by decide) (by omega) (fun h22 => ?_) (fun h22 => ?_)
    · refine w_con d_124_56 ?_
      obtain rfl : key = 0 := by omega
      refine w_st1 (L' := [_, _, _, _]) d_124_57 rfl (by decide) rfl (by decide) rfl ?_
      refine w_ld d_124_58 rfl rfl rfl ?_
      refine w_cV1 (a := 46) (as := []) (rest := _) rfl d_124_59 (by rfl) (by rfl) (by first | rfl | assumption) (by rfl) (by rfl) (Nat.le_of_ble_eq_true rfl) (by omega) (by omega) e24 ?_
      refine w_st1 (L' := [_, _, _, _]) d_124_62 rfl (by decide) rfl (by decide) rfl ?_
      refine w_ld d_124_63 rfl rfl rfl ?_
      refine w_ld d_124_64 rfl rfl rfl ?_
      refine w_gI d_124_65 (by rfl) (by first | rfl | assumption) (by rfl) (by first | exact f16 | exact f19 | exact f26 | exact congrFun f59 _ | exact congrFun f60 _ | exact congrFun f62 _ | exact congrFun f63 _ | rfl) ?_
      refine w_icmp_lt (g := 78) d_124_68 (by decide) (by omega) (fun h68 => ?_) (fun h68 => ?_)
      · refine w_ld d_124_78 rfl rfl rfl ?_
        refine w_if_lt (g := 105) d_124_79 (by decide) (by omega) (fun h79 => ?_) (fun h79 => ?_)
        · refine w_ld d_124_105 rfl rfl rfl ?_
          refine w_ld d_124_106 rfl rfl rfl ?_
          refine w_cV1 (a := 46) (as := [_]) (rest := _) rfl d_124_107 (by rfl) (by rfl) (by first | rfl | assumption) (by rfl) (by rfl) (Nat.le_of_ble_eq_true rfl) (by omega) (by omega) (eC _ (by decide)) ?_
          refine w_if_eq (g := 117) d_124_110 (by decide) (b01_in _) (fun h110 => ?_) (fun h110 => ?_)
          · exact absurd hK (b01_eq h110)
          · refine w_ld d_124_113 rfl rfl rfl ?_
            refine w_cV0 (a := 46) (as := []) (rest := _) rfl d_124_114 (by rfl) (by rfl) (by first | rfl | assumption) (by rfl) (by rfl) (Nat.le_of_ble_eq_true rfl) (by omega) (by omega) (m_note (by rw [f26]; omega)) ?_
            exact K
        · exact absurd h79 (by omega)
      · exact absurd h68 (by omega)
    · refine w_ld d_124_25 rfl rfl rfl ?_
      refine w_getF d_124_26 (by rfl) (by first | rfl | assumption) (by rfl) (by rfl) ?_
      refine w_ld d_124_29 rfl rfl rfl ?_
      refine w_gI d_124_30 (by rfl) (by first | rfl | assumption) (by rfl) (by first | exact f16 | exact f19 | exact f26 | exact congrFun f59 _ | exact congrFun f60 _ | exact congrFun f62 _ | exact congrFun f63 _ | rfl) ?_
      refine w_aI d_124_33 (by first | rfl | assumption) (by omega) (by first | exact f16 | exact f19 | exact f26 | exact congrFun f59 _ | exact congrFun f60 _ | exact congrFun f62 _ | exact congrFun f63 _ | rfl) ?_
      refine w_con d_124_34 ?_
      refine w_icmp_ne (g := 56) d_124_35 (by decide) (by have := hmo (by omega); omega) (fun h35 => ?_) (fun h35 => ?_)
      · refine w_con d_124_56 ?_
        obtain rfl : key = 0 := by omega
        refine w_st1 (L' := [_, _, _, _]) d_124_57 rfl (by decide) rfl (by decide) rfl ?_
        refine w_ld d_124_58 rfl rfl rfl ?_
        refine w_cV1 (a := 46) (as := []) (rest := _) rfl d_124_59 (by rfl) (by rfl) (by first | rfl | assumption) (by rfl) (by rfl) (Nat.le_of_ble_eq_true rfl) (by omega) (by omega) e24 ?_
        refine w_st1 (L' := [_, _, _, _]) d_124_62 rfl (by decide) rfl (by decide) rfl ?_
        refine w_ld d_124_63 rfl rfl rfl ?_
        refine w_ld d_124_64 rfl rfl rfl ?_
        refine w_gI d_124_65 (by rfl) (by first | rfl | assumption) (by rfl) (by first | exact f16 | exact f19 | exact f26 | exact congrFun f59 _ | exact congrFun f60 _ | exact congrFun f62 _ | exact congrFun f63 _ | rfl) ?_
        refine w_icmp_lt (g := 78) d_124_68 (by decide) (by omega) (fun h68 => ?_) (fun h68 => ?_)
        · refine w_ld d_124_78 rfl rfl rfl ?_
          refine w_if_lt (g := 105) d_124_79 (by decide) (by omega) (fun h79 => ?_) (fun h79 => ?_)
          · refine w_ld d_124_105 rfl rfl rfl ?_
            refine w_ld d_124_106 rfl rfl rfl ?_
            refine w_cV1 (a := 46) (as := [_]) (rest := _) rfl d_124_107 (by rfl) (by rfl) (by first | rfl | assumption) (by rfl) (by rfl) (Nat.le_of_ble_eq_true rfl) (by omega) (by omega) (eC _ (by decide)) ?_
            refine w_if_eq (g := 117) d_124_110 (by decide) (b01_in _) (fun h110 => ?_) (fun h110 => ?_)
            · exact absurd hK (b01_eq h110)
            · refine w_ld d_124_113 rfl rfl rfl ?_
              refine w_cV0 (a := 46) (as := []) (rest := _) rfl d_124_114 (by rfl) (by rfl) (by first | rfl | assumption) (by rfl) (by rfl) (Nat.le_of_ble_eq_true rfl) (by omega) (by omega) (m_note (by rw [f26]; omega)) ?_
              exact K
          · exact absurd h79 (by omega)
        · exact absurd h68 (by omega)
      · refine w_ld d_124_38 rfl rfl rfl ?_
        refine w_getF d_124_39 (by rfl) (by first | rfl | assumption) (by rfl) (by rfl) ?_
        refine w_ld d_124_42 rfl rfl rfl ?_
        refine w_gI d_124_43 (by rfl) (by first | rfl | assumption) (by rfl) (by first | exact f16 | exact f19 | exact f26 | exact congrFun f59 _ | exact congrFun f60 _ | exact congrFun f62 _ | exact congrFun f63 _ | rfl) ?_
        refine w_aI d_124_46 (by first | rfl | assumption) (by omega) (by first | exact f16 | exact f19 | exact f26 | exact congrFun f59 _ | exact congrFun f60 _ | exact congrFun f62 _ | exact congrFun f63 _ | rfl) ?_
        refine w_con d_124_47 ?_
        refine w_irem d_124_48 (by have := hmo (by omega); omega) (by decide) ?_
        refine w_if_ne (g := 56) d_124_49 (by decide) (by rw [hmd (by omega)]; omega) (fun h49 => ?_) (fun h49 => ?_)
        · refine w_con d_124_56 ?_
          rw [hmd (by omega)] at h49
          obtain rfl : key = 0 := by omega
          refine w_st1 (L' := [_, _, _, _]) d_124_57 rfl (by decide) rfl (by decide) rfl ?_
          refine w_ld d_124_58 rfl rfl rfl ?_
          refine w_cV1 (a := 46) (as := []) (rest := _) rfl d_124_59 (by rfl) (by rfl) (by first | rfl | assumption) (by rfl) (by rfl) (Nat.le_of_ble_eq_true rfl) (by omega) (by omega) e24 ?_
          refine w_st1 (L' := [_, _, _, _]) d_124_62 rfl (by decide) rfl (by decide) rfl ?_
          refine w_ld d_124_63 rfl rfl rfl ?_
          refine w_ld d_124_64 rfl rfl rfl ?_
          refine w_gI d_124_65 (by rfl) (by first | rfl | assumption) (by rfl) (by first | exact f16 | exact f19 | exact f26 | exact congrFun f59 _ | exact congrFun f60 _ | exact congrFun f62 _ | exact congrFun f63 _ | rfl) ?_
          refine w_icmp_lt (g := 78) d_124_68 (by decide) (by omega) (fun h68 => ?_) (fun h68 => ?_)
          · refine w_ld d_124_78 rfl rfl rfl ?_
            refine w_if_lt (g := 105) d_124_79 (by decide) (by omega) (fun h79 => ?_) (fun h79 => ?_)
            · refine w_ld d_124_105 rfl rfl rfl ?_
              refine w_ld d_124_106 rfl rfl rfl ?_
              refine w_cV1 (a := 46) (as := [_]) (rest := _) rfl d_124_107 (by rfl) (by rfl) (by first | rfl | assumption) (by rfl) (by rfl) (Nat.le_of_ble_eq_true rfl) (by omega) (by omega) (eC _ (by decide)) ?_
              refine w_if_eq (g := 117) d_124_110 (by decide) (b01_in _) (fun h110 => ?_) (fun h110 => ?_)
              · exact absurd hK (b01_eq h110)
              · refine w_ld d_124_113 rfl rfl rfl ?_
                refine w_cV0 (a := 46) (as := []) (rest := _) rfl d_124_114 (by rfl) (by rfl) (by first | rfl | assumption) (by rfl) (by rfl) (Nat.le_of_ble_eq_true rfl) (by omega) (by omega) (m_note (by rw [f26]; omega)) ?_
                exact K
            · exact absurd h79 (by omega)
          · exact absurd h68 (by omega)
        · refine w_con d_124_52 ?_
          refine w_goto (g := 57) d_124_53 (by decide) ?_
          rw [hmd (by omega)] at h49
          obtain rfl : key = 1 := by omega
          refine w_st1 (L' := [_, _, _, _]) d_124_57 rfl (by decide) rfl (by decide) rfl ?_
          refine w_ld d_124_58 rfl rfl rfl ?_
          refine w_cV1 (a := 46) (as := []) (rest := _) rfl d_124_59 (by rfl) (by rfl) (by first | rfl | assumption) (by rfl) (by rfl) (Nat.le_of_ble_eq_true rfl) (by omega) (by omega) e24 ?_
          refine w_st1 (L' := [_, _, _, _]) d_124_62 rfl (by decide) rfl (by decide) rfl ?_
          refine w_ld d_124_63 rfl rfl rfl ?_
          refine w_ld d_124_64 rfl rfl rfl ?_
          refine w_gI d_124_65 (by rfl) (by first | rfl | assumption) (by rfl) (by first | exact f16 | exact f19 | exact f26 | exact congrFun f59 _ | exact congrFun f60 _ | exact congrFun f62 _ | exact congrFun f63 _ | rfl) ?_
          refine w_icmp_lt (g := 78) d_124_68 (by decide) (by omega) (fun h68 => ?_) (fun h68 => ?_)
          · refine w_ld d_124_78 rfl rfl rfl ?_
            refine w_if_lt (g := 105) d_124_79 (by decide) (by omega) (fun h79 => ?_) (fun h79 => ?_)
            · refine w_ld d_124_105 rfl rfl rfl ?_
              refine w_ld d_124_106 rfl rfl rfl ?_
              refine w_cV1 (a := 46) (as := [_]) (rest := _) rfl d_124_107 (by rfl) (by rfl) (by first | rfl | assumption) (by rfl) (by rfl) (Nat.le_of_ble_eq_true rfl) (by omega) (by omega) (eC _ (by decide)) ?_
              refine w_if_eq (g := 117) d_124_110 (by decide) (b01_in _) (fun h110 => ?_) (fun h110 => ?_)
              · exact absurd hK (b01_eq h110)
              · refine w_ld d_124_113 rfl rfl rfl ?_
                refine w_cV0 (a := 46) (as := []) (rest := _) rfl d_124_114 (by rfl) (by rfl) (by first | rfl | assumption) (by rfl) (by rfl) (Nat.le_of_ble_eq_true rfl) (by omega) (by omega) (m_note (by rw [f26]; omega)) ?_
                exact K
            · exact absurd h79 (by omega)
          · exact absurd h68 (by omega)
  · exact absurd h13 (by decide)
theorem m_strN24 {sc : Nat × (Nat → Int32)} {fr lo : Nat} {μ : Mem} {ρ : Nat × Nat × Nat} (h16 : μ.1 46 16 = -1) (hn : 0 ≤ μ.1 46 3 ∧ μ.1 46 3 ≤ 240) (hch : ∀ k, 0 ≤ μ.2.2 47 k ∧ μ.2.2 47 k < 65536) (h32 : ∀ k, 0 ≤ k → k < μ.1 46 3 → 32 ≤ μ.2.2 47 k) (hpl : 0 ≤ μ.1 46 15 ∧ μ.1 46 15 < μ.1 46 3) (hu : 0 ≤ μ.1 46 18 ∧ μ.1 46 18 ≤ μ.1 46 15) (hf : 14 ≤ fr) (hl : 600 ≤ lo) {d : Int} (hd : μ.1 46 19 = d ∧ 0 ≤ d ∧ d ≤ 8) (hmo : 0 < d → (0 ≤ μ.2.2 59 d ∧ μ.2.2 59 d ≤ 7) ∧ 0 ≤ μ.2.2 60 d ∧ μ.2.2 60 d ≤ 240) (hnc : 0 ≤ μ.1 46 26 ∧ μ.1 46 26 ≤ 24) {q : Int} {l : List Int} (hrw : rw' (μ.2.2 47) (μ.1 46 3) (μ.1 46 15 + 1) = .inr (q, l)) (hl32 : ∀ c ∈ l, 32 ≤ c ∧ c ≤ 126) {key : Int} (hkey : key = 1 ∧ 0 < d ∧ μ.2.2 59 d = 2 ∧ μ.2.2 60 d % 2 = 0 ∨ key = 0 ∧ ¬ (0 < d ∧ μ.2.2 59 d = 2 ∧ μ.2.2 60 d % 2 = 0)) (hC : (cod (fun i => (rM μ l q).2.2 57 ((rM μ l q).1 46 24 + i)) ((rM μ l q).1 46 25)) = -1) (hK : (tks (fun i => (rM μ l q).2.2 57 ((rM μ l q).1 46 24 + i)) ((rM μ l q).1 46 25) key)) (h24 : μ.1 46 26 = 24) {Q : z_O → z_T → Prop} (K : w_P sc fr lo 124 7 4 false ((some FieldType.boolean)) prog_9_method_31_code 117 [some (.ref 46), some (.int (ji (μ.1 46 15))), some (.int (ji key)), some (.int (ji (cod (fun i => (rM μ l q).2.2 57 ((rM μ l q).1 46 24 + i)) ((rM μ l q).1 46 25))))] [] (hp (stI (stA (stA (stI (rM μ l q) 46 26 0) 62 0 ((rM μ l q).1 46 24)) 63 0 ((rM μ l q).1 46 25)) 46 26 (0 + 1)), ρ) Q) : w_S sc fr lo 124 [.ref 46] (hp μ, ρ) Q := by
  obtain ⟨f15, f18, f24, f25, fI, fR, fA, f57⟩ := rM_f (μ := μ) (l := l) (q := q)
  have hlen := rw_len _ _ _ _ rfl hrw
  have f16 : (rM μ l q).1 46 16 = -1 := (fI 46 16 (by decide)).trans h16
  have f19 : (rM μ l q).1 46 19 = d := (fI 46 19 (by decide)).trans hd.1
  have f26 : (rM μ l q).1 46 26 = μ.1 46 26 := fI 46 26 (by decide)
  have f59 := fA 59 (by decide)
  have f60 := fA 60 (by decide)
  have f62 := fA 62 (by decide)
  have f63 := fA 63 (by decide)
  have hr : 0 ≤ (rM μ l q).1 46 24 ∧ 0 ≤ (rM μ l q).1 46 25 ∧ (rM μ l q).1 46 24 + (rM μ l q).1 46 25 ≤ 720 ∧ (rM μ l q).1 46 25 ≤ 240 := by rw [f24, f25]; omega
  have hw : ∀ i, 0 ≤ i → i < (rM μ l q).1 46 25 → 32 ≤ (rM μ l q).2.2 57 ((rM μ l q).1 46 24 + i) ∧ (rM μ l q).2.2 57 ((rM μ l q).1 46 24 + i) ≤ 126 := fun i i0 i1 => rM_pr hl32 i i0 i1
  have hci := cod_in (fun i => (rM μ l q).2.2 57 ((rM μ l q).1 46 24 + i)) ((rM μ l q).1 46 25)
  have e24 := m_codeOf (sc := sc) (fr := fr - 1) (lo := lo - (19 + 2)) (μ := (rM μ l q)) (ρ := ρ) hr hw (by omega) (by omega)
  have eC := fun (k : Int) (hk : k = 0 ∨ k = 1) => m_isCached (sc := sc) (fr := fr - 1) (lo := lo - (19 + 3)) (μ := (rM μ l q)) (ρ := ρ) hr hw hk (by omega) (by omega)
  have hmd : 0 < d → (μ.2.2 60 d).tmod 2 = μ.2.2 60 d % 2 := fun z => Int.tmod_eq_emod_of_nonneg (hmo z).2.1
  refine w_S.of (L0 := [some (.ref 46), none, none, none]) rfl rfl (Nat.le_of_ble_eq_true rfl) (by rfl) ?_
  refine w_ld d_124_0 rfl rfl rfl ?_
  refine w_gI d_124_1 (by rfl) (by first | rfl | assumption) (by rfl) rfl ?_
  refine w_st1 (L' := [_, _, _, _]) d_124_4 rfl (by decide) rfl (by decide) rfl ?_
  refine w_ld d_124_5 rfl rfl rfl ?_
  refine w_cV0 (a := 46) (as := []) (rest := _) rfl d_124_6 (by rfl) (by rfl) (by first | rfl | assumption) (by rfl) (by rfl) (Nat.le_of_ble_eq_true rfl) (by omega) (by omega) (m_readRaw h16 hn hch h32 hpl hu (by omega) (by omega) hrw) ?_
  refine w_ld d_124_9 rfl rfl rfl ?_
  refine w_gI d_124_10 (by rfl) (by first | rfl | assumption) (by rfl) (by first | exact f16 | exact f19 | exact f26 | exact congrFun f59 _ | exact congrFun f60 _ | exact congrFun f62 _ | exact congrFun f63 _ | rfl) ?_
  refine w_if_lt (g := 18) d_124_13 (by decide) (by decide) (fun h13 => ?_) (fun h13 => ?_)
  · refine w_ld d_124_18 rfl rfl rfl ?_
    refine w_gI d_124_19 (by rfl) (by first | rfl | assumption) (by rfl) (by first | exact f16 | exact f19 | exact f26 | exact congrFun f59 _ | exact congrFun f60 _ | exact congrFun f62 _ | exact congrFun f63 _ | rfl) ?_
    refine w_if_le (g := 56) d_124_22 (by decide) (by omega) (fun h22 => ?_) (fun h22 => ?_)
    · refine w_con d_124_56 ?_
      obtain rfl : key = 0 := by omega
      refine w_st1 (L' := [_, _, _, _]) d_124_57 rfl (by decide) rfl (by decide) rfl ?_
      refine w_ld d_124_58 rfl rfl rfl ?_
      refine w_cV1 (a := 46) (as := []) (rest := _) rfl d_124_59 (by rfl) (by rfl) (by first | rfl | assumption) (by rfl) (by rfl) (Nat.le_of_ble_eq_true rfl) (by omega) (by omega) e24 ?_
      refine w_st1 (L' := [_, _, _, _]) d_124_62 rfl (by decide) rfl (by decide) rfl ?_
      refine w_ld d_124_63 rfl rfl rfl ?_
      refine w_ld d_124_64 rfl rfl rfl ?_
      refine w_gI d_124_65 (by rfl) (by first | rfl | assumption) (by rfl) (by first | exact f16 | exact f19 | exact f26 | exact congrFun f59 _ | exact congrFun f60 _ | exact congrFun f62 _ | exact congrFun f63 _ | rfl) ?_
      refine w_icmp_lt (g := 78) d_124_68 (by decide) (by omega) (fun h68 => ?_) (fun h68 => ?_)
      · refine w_ld d_124_78 rfl rfl rfl ?_
        refine w_if_lt (g := 105) d_124_79 (by decide) (by omega) (fun h79 => ?_) (fun h79 => ?_)
        · refine w_ld d_124_105 rfl rfl rfl ?_
          refine w_ld d_124_106 rfl rfl rfl ?_
          refine w_cV1 (a := 46) (as := [_]) (rest := _) rfl d_124_107 (by rfl) (by rfl) (by first | rfl | assumption) (by rfl) (by rfl) (Nat.le_of_ble_eq_true rfl) (by omega) (by omega) (eC _ (by decide)) ?_
          refine w_if_eq (g := 117) d_124_110 (by decide) (b01_in _) (fun h110 => ?_) (fun h110 => ?_)
          · exact absurd hK (b01_eq h110)
          · refine w_ld d_124_113 rfl rfl rfl ?_
            refine w_cV0 (a := 46) (as := []) (rest := _) rfl d_124_114 (by rfl) (by rfl) (by first | rfl | assumption) (by rfl) (by rfl) (Nat.le_of_ble_eq_true rfl) (by omega) (by omega) (m_note24 (by rw [f26]; omega)) ?_
            exact K
        · exact absurd h79 (by omega)
      · exact absurd h68 (by omega)
    · refine w_ld d_124_25 rfl rfl rfl ?_
      refine w_getF d_124_26 (by rfl) (by first | rfl | assumption) (by rfl) (by rfl) ?_
      refine w_ld d_124_29 rfl rfl rfl ?_
      refine w_gI d_124_30 (by rfl) (by first | rfl | assumption) (by rfl) (by first | exact f16 | exact f19 | exact f26 | exact congrFun f59 _ | exact congrFun f60 _ | exact congrFun f62 _ | exact congrFun f63 _ | rfl) ?_
      refine w_aI d_124_33 (by first | rfl | assumption) (by omega) (by first | exact f16 | exact f19 | exact f26 | exact congrFun f59 _ | exact congrFun f60 _ | exact congrFun f62 _ | exact congrFun f63 _ | rfl) ?_
      refine w_con d_124_34 ?_
      refine w_icmp_ne (g := 56) d_124_35 (by decide) (by have := hmo (by omega); omega) (fun h35 => ?_) (fun h35 => ?_)
      · refine w_con d_124_56 ?_
        obtain rfl : key = 0 := by omega
        refine w_st1 (L' := [_, _, _, _]) d_124_57 rfl (by decide) rfl (by decide) rfl ?_
        refine w_ld d_124_58 rfl rfl rfl ?_
        refine w_cV1 (a := 46) (as := []) (rest := _) rfl d_124_59 (by rfl) (by rfl) (by first | rfl | assumption) (by rfl) (by rfl) (Nat.le_of_ble_eq_true rfl) (by omega) (by omega) e24 ?_
        refine w_st1 (L' := [_, _, _, _]) d_124_62 rfl (by decide) rfl (by decide) rfl ?_
        refine w_ld d_124_63 rfl rfl rfl ?_
        refine w_ld d_124_64 rfl rfl rfl ?_
        refine w_gI d_124_65 (by rfl) (by first | rfl | assumption) (by rfl) (by first | exact f16 | exact f19 | exact f26 | exact congrFun f59 _ | exact congrFun f60 _ | exact congrFun f62 _ | exact congrFun f63 _ | rfl) ?_
        refine w_icmp_lt (g := 78) d_124_68 (by decide) (by omega) (fun h68 => ?_) (fun h68 => ?_)
        · refine w_ld d_124_78 rfl rfl rfl ?_
          refine w_if_lt (g := 105) d_124_79 (by decide) (by omega) (fun h79 => ?_) (fun h79 => ?_)
          · refine w_ld d_124_105 rfl rfl rfl ?_
            refine w_ld d_124_106 rfl rfl rfl ?_
            refine w_cV1 (a := 46) (as := [_]) (rest := _) rfl d_124_107 (by rfl) (by rfl) (by first | rfl | assumption) (by rfl) (by rfl) (Nat.le_of_ble_eq_true rfl) (by omega) (by omega) (eC _ (by decide)) ?_
            refine w_if_eq (g := 117) d_124_110 (by decide) (b01_in _) (fun h110 => ?_) (fun h110 => ?_)
            · exact absurd hK (b01_eq h110)
            · refine w_ld d_124_113 rfl rfl rfl ?_
              refine w_cV0 (a := 46) (as := []) (rest := _) rfl d_124_114 (by rfl) (by rfl) (by first | rfl | assumption) (by rfl) (by rfl) (Nat.le_of_ble_eq_true rfl) (by omega) (by omega) (m_note24 (by rw [f26]; omega)) ?_
              exact K
          · exact absurd h79 (by omega)
        · exact absurd h68 (by omega)
      · refine w_ld d_124_38 rfl rfl rfl ?_
        refine w_getF d_124_39 (by rfl) (by first | rfl | assumption) (by rfl) (by rfl) ?_
        refine w_ld d_124_42 rfl rfl rfl ?_
        refine w_gI d_124_43 (by rfl) (by first | rfl | assumption) (by rfl) (by first | exact f16 | exact f19 | exact f26 | exact congrFun f59 _ | exact congrFun f60 _ | exact congrFun f62 _ | exact congrFun f63 _ | rfl) ?_
        refine w_aI d_124_46 (by first | rfl | assumption) (by omega) (by first | exact f16 | exact f19 | exact f26 | exact congrFun f59 _ | exact congrFun f60 _ | exact congrFun f62 _ | exact congrFun f63 _ | rfl) ?_
        refine w_con d_124_47 ?_
        refine w_irem d_124_48 (by have := hmo (by omega); omega) (by decide) ?_
        refine w_if_ne (g := 56) d_124_49 (by decide) (by rw [hmd (by omega)]; omega) (fun h49 => ?_) (fun h49 => ?_)
        · refine w_con d_124_56 ?_
          rw [hmd (by omega)] at h49
          obtain rfl : key = 0 := by omega
          refine w_st1 (L' := [_, _, _, _]) d_124_57 rfl (by decide) rfl (by decide) rfl ?_
          refine w_ld d_124_58 rfl rfl rfl ?_
          refine w_cV1 (a := 46) (as := []) (rest := _) rfl d_124_59 (by rfl) (by rfl) (by first | rfl | assumption) (by rfl) (by rfl) (Nat.le_of_ble_eq_true rfl) (by omega) (by omega) e24 ?_
          refine w_st1 (L' := [_, _, _, _]) d_124_62 rfl (by decide) rfl (by decide) rfl ?_
          refine w_ld d_124_63 rfl rfl rfl ?_
          refine w_ld d_124_64 rfl rfl rfl ?_
          refine w_gI d_124_65 (by rfl) (by first | rfl | assumption) (by rfl) (by first | exact f16 | exact f19 | exact f26 | exact congrFun f59 _ | exact congrFun f60 _ | exact congrFun f62 _ | exact congrFun f63 _ | rfl) ?_
          refine w_icmp_lt (g := 78) d_124_68 (by decide) (by omega) (fun h68 => ?_) (fun h68 => ?_)
          · refine w_ld d_124_78 rfl rfl rfl ?_
            refine w_if_lt (g := 105) d_124_79 (by decide) (by omega) (fun h79 => ?_) (fun h79 => ?_)
            · refine w_ld d_124_105 rfl rfl rfl ?_
              refine w_ld d_124_106 rfl rfl rfl ?_
              refine w_cV1 (a := 46) (as := [_]) (rest := _) rfl d_124_107 (by rfl) (by rfl) (by first | rfl | assumption) (by rfl) (by rfl) (Nat.le_of_ble_eq_true rfl) (by omega) (by omega) (eC _ (by decide)) ?_
              refine w_if_eq (g := 117) d_124_110 (by decide) (b01_in _) (fun h110 => ?_) (fun h110 => ?_)
              · exact absurd hK (b01_eq h110)
              · refine w_ld d_124_113 rfl rfl rfl ?_
                refine w_cV0 (a := 46) (as := []) (rest := _) rfl d_124_114 (by rfl) (by rfl) (by first | rfl | assumption) (by rfl) (by rfl) (Nat.le_of_ble_eq_true rfl) (by omega) (by omega) (m_note24 (by rw [f26]; omega)) ?_
                exact K
            · exact absurd h79 (by omega)
          · exact absurd h68 (by omega)
        · refine w_con d_124_52 ?_
          refine w_goto (g := 57) d_124_53 (by decide) ?_
          rw [hmd (by omega)] at h49
          obtain rfl : key = 1 := by omega
          refine w_st1 (L' := [_, _, _, _]) d_124_57 rfl (by decide) rfl (by decide) rfl ?_
          refine w_ld d_124_58 rfl rfl rfl ?_
          refine w_cV1 (a := 46) (as := []) (rest := _) rfl d_124_59 (by rfl) (by rfl) (by first | rfl | assumption) (by rfl) (by rfl) (Nat.le_of_ble_eq_true rfl) (by omega) (by omega) e24 ?_
          refine w_st1 (L' := [_, _, _, _]) d_124_62 rfl (by decide) rfl (by decide) rfl ?_
          refine w_ld d_124_63 rfl rfl rfl ?_
          refine w_ld d_124_64 rfl rfl rfl ?_
          refine w_gI d_124_65 (by rfl) (by first | rfl | assumption) (by rfl) (by first | exact f16 | exact f19 | exact f26 | exact congrFun f59 _ | exact congrFun f60 _ | exact congrFun f62 _ | exact congrFun f63 _ | rfl) ?_
          refine w_icmp_lt (g := 78) d_124_68 (by decide) (by omega) (fun h68 => ?_) (fun h68 => ?_)
          · refine w_ld d_124_78 rfl rfl rfl ?_
            refine w_if_lt (g := 105) d_124_79 (by decide) (by omega) (fun h79 => ?_) (fun h79 => ?_)
            · refine w_ld d_124_105 rfl rfl rfl ?_
              refine w_ld d_124_106 rfl rfl rfl ?_
              refine w_cV1 (a := 46) (as := [_]) (rest := _) rfl d_124_107 (by rfl) (by rfl) (by first | rfl | assumption) (by rfl) (by rfl) (Nat.le_of_ble_eq_true rfl) (by omega) (by omega) (eC _ (by decide)) ?_
              refine w_if_eq (g := 117) d_124_110 (by decide) (b01_in _) (fun h110 => ?_) (fun h110 => ?_)
              · exact absurd hK (b01_eq h110)
              · refine w_ld d_124_113 rfl rfl rfl ?_
                refine w_cV0 (a := 46) (as := []) (rest := _) rfl d_124_114 (by rfl) (by rfl) (by first | rfl | assumption) (by rfl) (by rfl) (Nat.le_of_ble_eq_true rfl) (by omega) (by omega) (m_note24 (by rw [f26]; omega)) ?_
                exact K
            · exact absurd h79 (by omega)
          · exact absurd h68 (by omega)
  · exact absurd h13 (by decide)
theorem m_marks0 {sc : Nat × (Nat → Int32)} {fr lo : Nat} {μ : Mem} {ρ : Nat × Nat × Nat} (hr : 0 ≤ μ.1 46 24 ∧ 0 ≤ μ.1 46 25 ∧ μ.1 46 24 + μ.1 46 25 ≤ 720 ∧ μ.1 46 25 ≤ 240) (hw : ∀ i, 0 ≤ i → i < μ.1 46 25 → 32 ≤ μ.2.2 57 (μ.1 46 24 + i) ∧ μ.2.2 57 (μ.1 46 24 + i) ≤ 126) {d : Int} (hd : μ.1 46 19 = d ∧ 0 < d ∧ d ≤ 8) (hf : 9 ≤ fr) (hl : 300 ≤ lo) {v : Int} (hv : μ.2.2 58 d = v ∧ 0 ≤ v ∧ v < 384) (hM : ¬ ((μ.1 46 25) = 2 ∧ (wl (fun i => μ.2.2 57 (μ.1 46 24 + i)) (μ.1 46 25) 0) = 94 ∧ (wl (fun i => μ.2.2 57 (μ.1 46 24 + i)) (μ.1 46 25) 1) = 32)) (hT : ¬ ((wl (fun i => μ.2.2 57 (μ.1 46 24 + i)) (μ.1 46 25) 0) = 126 ∧ (wl (fun i => μ.2.2 57 (μ.1 46 24 + i)) (μ.1 46 25) 1) = 35 ∧ 2 < (μ.1 46 25))) : w_E sc fr lo 131 [.ref 46] (hp μ, ρ) (.inl (some (.int (ji 0)))) (hp μ, ρ) := by
  have l0 := wl_wl0 (w := (fun i => μ.2.2 57 (μ.1 46 24 + i))) (s := (μ.1 46 25)) hw (k := 0) (by decide)
  have l1 := wl_wl0 (w := (fun i => μ.2.2 57 (μ.1 46 24 + i))) (s := (μ.1 46 25)) hw (k := 1) (by decide)
  have r0 : w_E sc (fr - 1) (lo - (19 + 2)) 127 [.ref 46, .int (ji 0)] (hp μ, ρ) (.inl (some (.int (ji (wl0 (fun i => μ.2.2 57 (μ.1 46 24 + i)) (μ.1 46 25) 0))))) (hp μ, ρ) := m_rawLetter (by omega) (by decide)
  have r1 : w_E sc (fr - 1) (lo - (19 + 2)) 127 [.ref 46, .int (ji 1)] (hp μ, ρ) (.inl (some (.int (ji (wl0 (fun i => μ.2.2 57 (μ.1 46 24 + i)) (μ.1 46 25) 1))))) (hp μ, ρ) := m_rawLetter (by omega) (by decide)
  refine w_S.of (L0 := [some (.ref 46), none]) rfl rfl (Nat.le_of_ble_eq_true rfl) (by rfl) ?_
  refine w_ld d_131_0 rfl rfl rfl ?_
  refine w_gI d_131_1 (by rfl) (by first | rfl | assumption) (by rfl) (by first | exact hd.1 | exact hv.1 | rfl) ?_
  refine w_con d_131_4 ?_
  refine w_icmp_ne (g := 56) d_131_5 (by decide) (by omega) (fun h5 => ?_) (fun h5 => ?_)
  · refine w_ld d_131_56 rfl rfl rfl ?_
    refine w_con d_131_57 ?_
    refine w_cV1 (a := 46) (as := [_]) (rest := _) rfl d_131_58 (by rfl) (by rfl) (by first | rfl | assumption) (by rfl) (by rfl) (Nat.le_of_ble_eq_true rfl) (by omega) (by omega) r0 ?_
    refine w_bip d_131_61 (by decide) ?_
    refine w_icmp_ne (g := 84) d_131_63 (by decide) (by omega) (fun h63 => ?_) (fun h63 => ?_)
    · refine w_con d_131_84 ?_
      refine w_zret d_131_85 rfl (by decide) ?_
      exact ⟨rfl, rfl⟩
    · refine w_ld d_131_66 rfl rfl rfl ?_
      refine w_con d_131_67 ?_
      refine w_cV1 (a := 46) (as := [_]) (rest := _) rfl d_131_68 (by rfl) (by rfl) (by first | rfl | assumption) (by rfl) (by rfl) (Nat.le_of_ble_eq_true rfl) (by omega) (by omega) r1 ?_
      refine w_bip d_131_71 (by decide) ?_
      refine w_icmp_ne (g := 84) d_131_73 (by decide) (by omega) (fun h73 => ?_) (fun h73 => ?_)
      · refine w_con d_131_84 ?_
        refine w_zret d_131_85 rfl (by decide) ?_
        exact ⟨rfl, rfl⟩
      · refine w_ld d_131_76 rfl rfl rfl ?_
        refine w_gI d_131_77 (by rfl) (by first | rfl | assumption) (by rfl) (by first | exact hd.1 | exact hv.1 | rfl) ?_
        refine w_con d_131_80 ?_
        refine w_icmp_ge (g := 86) d_131_81 (by decide) (by omega) (fun h81 => ?_) (fun h81 => ?_)
        · exact absurd h81 (by omega)
        · refine w_con d_131_84 ?_
          refine w_zret d_131_85 rfl (by decide) ?_
          exact ⟨rfl, rfl⟩
  · refine w_ld d_131_8 rfl rfl rfl ?_
    refine w_con d_131_9 ?_
    refine w_cV1 (a := 46) (as := [_]) (rest := _) rfl d_131_10 (by rfl) (by rfl) (by first | rfl | assumption) (by rfl) (by rfl) (Nat.le_of_ble_eq_true rfl) (by omega) (by omega) r0 ?_
    refine w_bip d_131_13 (by decide) ?_
    refine w_icmp_ne (g := 56) d_131_15 (by decide) (by omega) (fun h15 => ?_) (fun h15 => ?_)
    · refine w_ld d_131_56 rfl rfl rfl ?_
      refine w_con d_131_57 ?_
      refine w_cV1 (a := 46) (as := [_]) (rest := _) rfl d_131_58 (by rfl) (by rfl) (by first | rfl | assumption) (by rfl) (by rfl) (Nat.le_of_ble_eq_true rfl) (by omega) (by omega) r0 ?_
      refine w_bip d_131_61 (by decide) ?_
      refine w_icmp_ne (g := 84) d_131_63 (by decide) (by omega) (fun h63 => ?_) (fun h63 => ?_)
      · refine w_con d_131_84 ?_
        refine w_zret d_131_85 rfl (by decide) ?_
        exact ⟨rfl, rfl⟩
      · refine w_ld d_131_66 rfl rfl rfl ?_
        refine w_con d_131_67 ?_
        refine w_cV1 (a := 46) (as := [_]) (rest := _) rfl d_131_68 (by rfl) (by rfl) (by first | rfl | assumption) (by rfl) (by rfl) (Nat.le_of_ble_eq_true rfl) (by omega) (by omega) r1 ?_
        refine w_bip d_131_71 (by decide) ?_
        refine w_icmp_ne (g := 84) d_131_73 (by decide) (by omega) (fun h73 => ?_) (fun h73 => ?_)
        · refine w_con d_131_84 ?_
          refine w_zret d_131_85 rfl (by decide) ?_
          exact ⟨rfl, rfl⟩
        · refine w_ld d_131_76 rfl rfl rfl ?_
          refine w_gI d_131_77 (by rfl) (by first | rfl | assumption) (by rfl) (by first | exact hd.1 | exact hv.1 | rfl) ?_
          refine w_con d_131_80 ?_
          refine w_icmp_ge (g := 86) d_131_81 (by decide) (by omega) (fun h81 => ?_) (fun h81 => ?_)
          · exact absurd h81 (by omega)
          · refine w_con d_131_84 ?_
            refine w_zret d_131_85 rfl (by decide) ?_
            exact ⟨rfl, rfl⟩
    · refine w_ld d_131_18 rfl rfl rfl ?_
      refine w_con d_131_19 ?_
      refine w_cV1 (a := 46) (as := [_]) (rest := _) rfl d_131_20 (by rfl) (by rfl) (by first | rfl | assumption) (by rfl) (by rfl) (Nat.le_of_ble_eq_true rfl) (by omega) (by omega) r1 ?_
      refine w_bip d_131_23 (by decide) ?_
      refine w_icmp_ne (g := 56) d_131_25 (by decide) (by omega) (fun h25 => ?_) (fun h25 => ?_)
      · refine w_ld d_131_56 rfl rfl rfl ?_
        refine w_con d_131_57 ?_
        refine w_cV1 (a := 46) (as := [_]) (rest := _) rfl d_131_58 (by rfl) (by rfl) (by first | rfl | assumption) (by rfl) (by rfl) (Nat.le_of_ble_eq_true rfl) (by omega) (by omega) r0 ?_
        refine w_bip d_131_61 (by decide) ?_
        refine w_icmp_ne (g := 84) d_131_63 (by decide) (by omega) (fun h63 => ?_) (fun h63 => ?_)
        · refine w_con d_131_84 ?_
          refine w_zret d_131_85 rfl (by decide) ?_
          exact ⟨rfl, rfl⟩
        · refine w_ld d_131_66 rfl rfl rfl ?_
          refine w_con d_131_67 ?_
          refine w_cV1 (a := 46) (as := [_]) (rest := _) rfl d_131_68 (by rfl) (by rfl) (by first | rfl | assumption) (by rfl) (by rfl) (Nat.le_of_ble_eq_true rfl) (by omega) (by omega) r1 ?_
          refine w_bip d_131_71 (by decide) ?_
          refine w_icmp_ne (g := 84) d_131_73 (by decide) (by omega) (fun h73 => ?_) (fun h73 => ?_)
          · refine w_con d_131_84 ?_
            refine w_zret d_131_85 rfl (by decide) ?_
            exact ⟨rfl, rfl⟩
          · refine w_ld d_131_76 rfl rfl rfl ?_
            refine w_gI d_131_77 (by rfl) (by first | rfl | assumption) (by rfl) (by first | exact hd.1 | exact hv.1 | rfl) ?_
            refine w_con d_131_80 ?_
            refine w_icmp_ge (g := 86) d_131_81 (by decide) (by omega) (fun h81 => ?_) (fun h81 => ?_)
            · exact absurd h81 (by omega)
            · refine w_con d_131_84 ?_
              refine w_zret d_131_85 rfl (by decide) ?_
              exact ⟨rfl, rfl⟩
      · exact absurd h25 (by omega)
theorem m_marksM {sc : Nat × (Nat → Int32)} {fr lo : Nat} {μ : Mem} {ρ : Nat × Nat × Nat} (hr : 0 ≤ μ.1 46 24 ∧ 0 ≤ μ.1 46 25 ∧ μ.1 46 24 + μ.1 46 25 ≤ 720 ∧ μ.1 46 25 ≤ 240) (hw : ∀ i, 0 ≤ i → i < μ.1 46 25 → 32 ≤ μ.2.2 57 (μ.1 46 24 + i) ∧ μ.2.2 57 (μ.1 46 24 + i) ≤ 126) {d : Int} (hd : μ.1 46 19 = d ∧ 0 < d ∧ d ≤ 8) (hf : 9 ≤ fr) (hl : 300 ≤ lo) {v : Int} (hv : μ.2.2 58 d = v ∧ 0 ≤ v ∧ v < 384) (hM : ((μ.1 46 25) = 2 ∧ (wl (fun i => μ.2.2 57 (μ.1 46 24 + i)) (μ.1 46 25) 0) = 94 ∧ (wl (fun i => μ.2.2 57 (μ.1 46 24 + i)) (μ.1 46 25) 1) = 32)) : w_E sc fr lo 131 [.ref 46] (hp μ, ρ) (.inl (some (.int (ji 1)))) (hp (stA (stA μ 59 d 2) 49 v 11), ρ) := by
  have l0 := wl_wl0 (w := (fun i => μ.2.2 57 (μ.1 46 24 + i))) (s := (μ.1 46 25)) hw (k := 0) (by decide)
  have l1 := wl_wl0 (w := (fun i => μ.2.2 57 (μ.1 46 24 + i))) (s := (μ.1 46 25)) hw (k := 1) (by decide)
  have r0 : w_E sc (fr - 1) (lo - (19 + 2)) 127 [.ref 46, .int (ji 0)] (hp μ, ρ) (.inl (some (.int (ji (wl0 (fun i => μ.2.2 57 (μ.1 46 24 + i)) (μ.1 46 25) 0))))) (hp μ, ρ) := m_rawLetter (by omega) (by decide)
  have r1 : w_E sc (fr - 1) (lo - (19 + 2)) 127 [.ref 46, .int (ji 1)] (hp μ, ρ) (.inl (some (.int (ji (wl0 (fun i => μ.2.2 57 (μ.1 46 24 + i)) (μ.1 46 25) 1))))) (hp μ, ρ) := m_rawLetter (by omega) (by decide)
  refine w_S.of (L0 := [some (.ref 46), none]) rfl rfl (Nat.le_of_ble_eq_true rfl) (by rfl) ?_
  refine w_ld d_131_0 rfl rfl rfl ?_
  refine w_gI d_131_1 (by rfl) (by first | rfl | assumption) (by rfl) (by first | exact hd.1 | exact hv.1 | rfl) ?_
  refine w_con d_131_4 ?_
  refine w_icmp_ne (g := 56) d_131_5 (by decide) (by omega) (fun h5 => ?_) (fun h5 => ?_)
  · exact absurd h5 (by omega)
  · refine w_ld d_131_8 rfl rfl rfl ?_
    refine w_con d_131_9 ?_
    refine w_cV1 (a := 46) (as := [_]) (rest := _) rfl d_131_10 (by rfl) (by rfl) (by first | rfl | assumption) (by rfl) (by rfl) (Nat.le_of_ble_eq_true rfl) (by omega) (by omega) r0 ?_
    refine w_bip d_131_13 (by decide) ?_
    refine w_icmp_ne (g := 56) d_131_15 (by decide) (by omega) (fun h15 => ?_) (fun h15 => ?_)
    · exact absurd h15 (by omega)
    · refine w_ld d_131_18 rfl rfl rfl ?_
      refine w_con d_131_19 ?_
      refine w_cV1 (a := 46) (as := [_]) (rest := _) rfl d_131_20 (by rfl) (by rfl) (by first | rfl | assumption) (by rfl) (by rfl) (Nat.le_of_ble_eq_true rfl) (by omega) (by omega) r1 ?_
      refine w_bip d_131_23 (by decide) ?_
      refine w_icmp_ne (g := 56) d_131_25 (by decide) (by omega) (fun h25 => ?_) (fun h25 => ?_)
      · exact absurd h25 (by omega)
      · refine w_ld d_131_28 rfl rfl rfl ?_
        refine w_getF d_131_29 (by rfl) (by first | rfl | assumption) (by rfl) (by rfl) ?_
        refine w_ld d_131_32 rfl rfl rfl ?_
        refine w_gI d_131_33 (by rfl) (by first | rfl | assumption) (by rfl) (by first | exact hd.1 | exact hv.1 | rfl) ?_
        refine w_con d_131_36 ?_
        refine w_iast d_131_37 (by first | rfl | assumption) (by omega) ?_
        refine w_ld d_131_38 rfl rfl rfl ?_
        refine w_getF d_131_39 (by rfl) (by first | rfl | assumption) (by rfl) (by rfl) ?_
        refine w_ld d_131_42 rfl rfl rfl ?_
        refine w_getF d_131_43 (by rfl) (by first | rfl | assumption) (by rfl) (by rfl) ?_
        refine w_ld d_131_46 rfl rfl rfl ?_
        refine w_gI d_131_47 (by rfl) (by first | rfl | assumption) (by rfl) (by first | exact hd.1 | exact hv.1 | rfl) ?_
        refine w_aI d_131_50 (by first | rfl | assumption) (by omega) (by first | exact hd.1 | exact hv.1 | rfl) ?_
        refine w_bip d_131_51 (by decide) ?_
        refine w_iast d_131_53 (by first | rfl | assumption) (by omega) ?_
        refine w_con d_131_54 ?_
        refine w_zret d_131_55 rfl (by decide) ?_
        exact ⟨rfl, rfl⟩
theorem m_marksT1 {sc : Nat × (Nat → Int32)} {fr lo : Nat} {μ : Mem} {ρ : Nat × Nat × Nat} (hr : 0 ≤ μ.1 46 24 ∧ 0 ≤ μ.1 46 25 ∧ μ.1 46 24 + μ.1 46 25 ≤ 720 ∧ μ.1 46 25 ≤ 240) (hw : ∀ i, 0 ≤ i → i < μ.1 46 25 → 32 ≤ μ.2.2 57 (μ.1 46 24 + i) ∧ μ.2.2 57 (μ.1 46 24 + i) ≤ 126) {d : Int} (hd : μ.1 46 19 = d ∧ 0 < d ∧ d ≤ 8) (hf : 9 ≤ fr) (hl : 300 ≤ lo) {v : Int} (hv : μ.2.2 58 d = v ∧ 0 ≤ v ∧ v < 384) (hT : ((wl (fun i => μ.2.2 57 (μ.1 46 24 + i)) (μ.1 46 25) 0) = 126 ∧ (wl (fun i => μ.2.2 57 (μ.1 46 24 + i)) (μ.1 46 25) 1) = 35 ∧ 2 < (μ.1 46 25)))  (g1 : (tgk (fun i => μ.2.2 57 (μ.1 46 24 + i)) (μ.1 46 25) 1)) : w_E sc fr lo 131 [.ref 46] (hp μ, ρ) (.inl (some (.int (ji 1)))) (hp (stI (stA μ 59 d 3) 46 17 (μ.1 46 17 - 1)), ρ) := by
  have l0 := wl_wl0 (w := (fun i => μ.2.2 57 (μ.1 46 24 + i))) (s := (μ.1 46 25)) hw (k := 0) (by decide)
  have l1 := wl_wl0 (w := (fun i => μ.2.2 57 (μ.1 46 24 + i))) (s := (μ.1 46 25)) hw (k := 1) (by decide)
  have r0 : w_E sc (fr - 1) (lo - (19 + 2)) 127 [.ref 46, .int (ji 0)] (hp μ, ρ) (.inl (some (.int (ji (wl0 (fun i => μ.2.2 57 (μ.1 46 24 + i)) (μ.1 46 25) 0))))) (hp μ, ρ) := m_rawLetter (by omega) (by decide)
  have r1 : w_E sc (fr - 1) (lo - (19 + 2)) 127 [.ref 46, .int (ji 1)] (hp μ, ρ) (.inl (some (.int (ji (wl0 (fun i => μ.2.2 57 (μ.1 46 24 + i)) (μ.1 46 25) 1))))) (hp μ, ρ) := m_rawLetter (by omega) (by decide)
  have i1 := m_isTag1 (sc := sc) (fr := fr - 1) (lo := lo - (19 + 6)) (μ := μ) (ρ := ρ) hr hw (by omega) (by omega)
  have i2 := m_isTag2 (sc := sc) (fr := fr - 1) (lo := lo - (19 + 6)) (μ := μ) (ρ := ρ) hr hw (by omega) (by omega)
  have i3 := m_isTag3 (sc := sc) (fr := fr - 1) (lo := lo - (19 + 6)) (μ := μ) (ρ := ρ) hr hw (by omega) (by omega)
  have i4 := m_isTag4 (sc := sc) (fr := fr - 1) (lo := lo - (19 + 6)) (μ := μ) (ρ := ρ) hr hw (by omega) (by omega)
  refine w_S.of (L0 := [some (.ref 46), none]) rfl rfl (Nat.le_of_ble_eq_true rfl) (by rfl) ?_
  refine w_ld d_131_0 rfl rfl rfl ?_
  refine w_gI d_131_1 (by rfl) (by first | rfl | assumption) (by rfl) (by first | exact hd.1 | exact hv.1 | rfl) ?_
  refine w_con d_131_4 ?_
  refine w_icmp_ne (g := 56) d_131_5 (by decide) (by omega) (fun h5 => ?_) (fun h5 => ?_)
  · refine w_ld d_131_56 rfl rfl rfl ?_
    refine w_con d_131_57 ?_
    refine w_cV1 (a := 46) (as := [_]) (rest := _) rfl d_131_58 (by rfl) (by rfl) (by first | rfl | assumption) (by rfl) (by rfl) (Nat.le_of_ble_eq_true rfl) (by omega) (by omega) r0 ?_
    refine w_bip d_131_61 (by decide) ?_
    refine w_icmp_ne (g := 84) d_131_63 (by decide) (by omega) (fun h63 => ?_) (fun h63 => ?_)
    · exact absurd h63 (by omega)
    · refine w_ld d_131_66 rfl rfl rfl ?_
      refine w_con d_131_67 ?_
      refine w_cV1 (a := 46) (as := [_]) (rest := _) rfl d_131_68 (by rfl) (by rfl) (by first | rfl | assumption) (by rfl) (by rfl) (Nat.le_of_ble_eq_true rfl) (by omega) (by omega) r1 ?_
      refine w_bip d_131_71 (by decide) ?_
      refine w_icmp_ne (g := 84) d_131_73 (by decide) (by omega) (fun h73 => ?_) (fun h73 => ?_)
      · exact absurd h73 (by omega)
      · refine w_ld d_131_76 rfl rfl rfl ?_
        refine w_gI d_131_77 (by rfl) (by first | rfl | assumption) (by rfl) (by first | exact hd.1 | exact hv.1 | rfl) ?_
        refine w_con d_131_80 ?_
        refine w_icmp_ge (g := 86) d_131_81 (by decide) (by omega) (fun h81 => ?_) (fun h81 => ?_)
        · refine w_ld d_131_86 rfl rfl rfl ?_
          refine w_bip d_131_87 (by decide) ?_
          refine w_con d_131_89 ?_
          refine w_con d_131_90 ?_
          refine w_con d_131_91 ?_
          refine w_cV1 (a := 46) (as := [_, _, _, _]) (rest := _) rfl d_131_92 (by rfl) (by rfl) (by first | rfl | assumption) (by rfl) (by rfl) (Nat.le_of_ble_eq_true rfl) (by omega) (by omega) i1 ?_
          refine w_if_eq (g := 102) d_131_95 (by decide) (b01_in _) (fun h95 => ?_) (fun h95 => ?_)
          · exact absurd g1 (b01_eq h95)
          · refine w_con d_131_98 ?_
            refine w_goto (g := 161) d_131_99 (by decide) ?_
            refine w_st1 (L' := [_, _]) d_131_161 rfl (by decide) rfl (by decide) rfl ?_
            refine w_ld d_131_162 rfl rfl rfl ?_
            refine w_getF d_131_163 (by rfl) (by first | rfl | assumption) (by rfl) (by rfl) ?_
            refine w_ld d_131_166 rfl rfl rfl ?_
            refine w_gI d_131_167 (by rfl) (by first | rfl | assumption) (by rfl) (by first | exact hd.1 | exact hv.1 | rfl) ?_
            refine w_ld d_131_170 rfl rfl rfl ?_
            refine w_iast d_131_171 (by first | rfl | assumption) (by omega) ?_
            refine w_ld d_131_172 rfl rfl rfl ?_
            refine w_bip d_131_173 (by decide) ?_
            refine w_icmp_ne (g := 222) d_131_175 (by decide) (by decide) (fun h175 => ?_) (fun h175 => ?_)
            · refine w_ld d_131_222 rfl rfl rfl ?_
              refine w_stk d_131_223 rfl ?_
              refine w_gI d_131_224 (by rfl) (by first | rfl | assumption) (by rfl) (show _ = μ.1 46 17 from rfl) ?_
              refine w_con d_131_227 ?_
              refine w_isub d_131_228 ?_
              refine w_putI d_131_229 (by rfl) (by first | rfl | assumption) (by rfl) (fit_I (by rfl)) (by rfl) ?_
              refine w_con d_131_232 ?_
              refine w_zret d_131_233 rfl (by decide) ?_
              exact ⟨rfl, rfl⟩
            · exact absurd h175 (by decide)
        · exact absurd h81 (by omega)
  · exact absurd h5 (by omega)
theorem m_marksT2 {sc : Nat × (Nat → Int32)} {fr lo : Nat} {μ : Mem} {ρ : Nat × Nat × Nat} (hr : 0 ≤ μ.1 46 24 ∧ 0 ≤ μ.1 46 25 ∧ μ.1 46 24 + μ.1 46 25 ≤ 720 ∧ μ.1 46 25 ≤ 240) (hw : ∀ i, 0 ≤ i → i < μ.1 46 25 → 32 ≤ μ.2.2 57 (μ.1 46 24 + i) ∧ μ.2.2 57 (μ.1 46 24 + i) ≤ 126) {d : Int} (hd : μ.1 46 19 = d ∧ 0 < d ∧ d ≤ 8) (hf : 9 ≤ fr) (hl : 300 ≤ lo) {v : Int} (hv : μ.2.2 58 d = v ∧ 0 ≤ v ∧ v < 384) (hT : ((wl (fun i => μ.2.2 57 (μ.1 46 24 + i)) (μ.1 46 25) 0) = 126 ∧ (wl (fun i => μ.2.2 57 (μ.1 46 24 + i)) (μ.1 46 25) 1) = 35 ∧ 2 < (μ.1 46 25))) (g1 : ¬ (tgk (fun i => μ.2.2 57 (μ.1 46 24 + i)) (μ.1 46 25) 1)) (g2 : (tgk (fun i => μ.2.2 57 (μ.1 46 24 + i)) (μ.1 46 25) 2)) : w_E sc fr lo 131 [.ref 46] (hp μ, ρ) (.inl (some (.int (ji 1)))) (hp (stI (stA μ 59 d 4) 46 17 (μ.1 46 17 - 1)), ρ) := by
  have l0 := wl_wl0 (w := (fun i => μ.2.2 57 (μ.1 46 24 + i))) (s := (μ.1 46 25)) hw (k := 0) (by decide)
  have l1 := wl_wl0 (w := (fun i => μ.2.2 57 (μ.1 46 24 + i))) (s := (μ.1 46 25)) hw (k := 1) (by decide)
  have r0 : w_E sc (fr - 1) (lo - (19 + 2)) 127 [.ref 46, .int (ji 0)] (hp μ, ρ) (.inl (some (.int (ji (wl0 (fun i => μ.2.2 57 (μ.1 46 24 + i)) (μ.1 46 25) 0))))) (hp μ, ρ) := m_rawLetter (by omega) (by decide)
  have r1 : w_E sc (fr - 1) (lo - (19 + 2)) 127 [.ref 46, .int (ji 1)] (hp μ, ρ) (.inl (some (.int (ji (wl0 (fun i => μ.2.2 57 (μ.1 46 24 + i)) (μ.1 46 25) 1))))) (hp μ, ρ) := m_rawLetter (by omega) (by decide)
  have i1 := m_isTag1 (sc := sc) (fr := fr - 1) (lo := lo - (19 + 6)) (μ := μ) (ρ := ρ) hr hw (by omega) (by omega)
  have i2 := m_isTag2 (sc := sc) (fr := fr - 1) (lo := lo - (19 + 6)) (μ := μ) (ρ := ρ) hr hw (by omega) (by omega)
  have i3 := m_isTag3 (sc := sc) (fr := fr - 1) (lo := lo - (19 + 6)) (μ := μ) (ρ := ρ) hr hw (by omega) (by omega)
  have i4 := m_isTag4 (sc := sc) (fr := fr - 1) (lo := lo - (19 + 6)) (μ := μ) (ρ := ρ) hr hw (by omega) (by omega)
  refine w_S.of (L0 := [some (.ref 46), none]) rfl rfl (Nat.le_of_ble_eq_true rfl) (by rfl) ?_
  refine w_ld d_131_0 rfl rfl rfl ?_
  refine w_gI d_131_1 (by rfl) (by first | rfl | assumption) (by rfl) (by first | exact hd.1 | exact hv.1 | rfl) ?_
  refine w_con d_131_4 ?_
  refine w_icmp_ne (g := 56) d_131_5 (by decide) (by omega) (fun h5 => ?_) (fun h5 => ?_)
  · refine w_ld d_131_56 rfl rfl rfl ?_
    refine w_con d_131_57 ?_
    refine w_cV1 (a := 46) (as := [_]) (rest := _) rfl d_131_58 (by rfl) (by rfl) (by first | rfl | assumption) (by rfl) (by rfl) (Nat.le_of_ble_eq_true rfl) (by omega) (by omega) r0 ?_
    refine w_bip d_131_61 (by decide) ?_
    refine w_icmp_ne (g := 84) d_131_63 (by decide) (by omega) (fun h63 => ?_) (fun h63 => ?_)
    · exact absurd h63 (by omega)
    · refine w_ld d_131_66 rfl rfl rfl ?_
      refine w_con d_131_67 ?_
      refine w_cV1 (a := 46) (as := [_]) (rest := _) rfl d_131_68 (by rfl) (by rfl) (by first | rfl | assumption) (by rfl) (by rfl) (Nat.le_of_ble_eq_true rfl) (by omega) (by omega) r1 ?_
      refine w_bip d_131_71 (by decide) ?_
      refine w_icmp_ne (g := 84) d_131_73 (by decide) (by omega) (fun h73 => ?_) (fun h73 => ?_)
      · exact absurd h73 (by omega)
      · refine w_ld d_131_76 rfl rfl rfl ?_
        refine w_gI d_131_77 (by rfl) (by first | rfl | assumption) (by rfl) (by first | exact hd.1 | exact hv.1 | rfl) ?_
        refine w_con d_131_80 ?_
        refine w_icmp_ge (g := 86) d_131_81 (by decide) (by omega) (fun h81 => ?_) (fun h81 => ?_)
        · refine w_ld d_131_86 rfl rfl rfl ?_
          refine w_bip d_131_87 (by decide) ?_
          refine w_con d_131_89 ?_
          refine w_con d_131_90 ?_
          refine w_con d_131_91 ?_
          refine w_cV1 (a := 46) (as := [_, _, _, _]) (rest := _) rfl d_131_92 (by rfl) (by rfl) (by first | rfl | assumption) (by rfl) (by rfl) (Nat.le_of_ble_eq_true rfl) (by omega) (by omega) i1 ?_
          refine w_if_eq (g := 102) d_131_95 (by decide) (b01_in _) (fun h95 => ?_) (fun h95 => ?_)
          · refine w_ld d_131_102 rfl rfl rfl ?_
            refine w_bip d_131_103 (by decide) ?_
            refine w_bip d_131_105 (by decide) ?_
            refine w_bip d_131_107 (by decide) ?_
            refine w_con d_131_109 ?_
            refine w_cV1 (a := 46) (as := [_, _, _, _]) (rest := _) rfl d_131_110 (by rfl) (by rfl) (by first | rfl | assumption) (by rfl) (by rfl) (Nat.le_of_ble_eq_true rfl) (by omega) (by omega) i2 ?_
            refine w_if_eq (g := 120) d_131_113 (by decide) (b01_in _) (fun h113 => ?_) (fun h113 => ?_)
            · exact absurd g2 (b01_eq h113)
            · refine w_con d_131_116 ?_
              refine w_goto (g := 161) d_131_117 (by decide) ?_
              refine w_st1 (L' := [_, _]) d_131_161 rfl (by decide) rfl (by decide) rfl ?_
              refine w_ld d_131_162 rfl rfl rfl ?_
              refine w_getF d_131_163 (by rfl) (by first | rfl | assumption) (by rfl) (by rfl) ?_
              refine w_ld d_131_166 rfl rfl rfl ?_
              refine w_gI d_131_167 (by rfl) (by first | rfl | assumption) (by rfl) (by first | exact hd.1 | exact hv.1 | rfl) ?_
              refine w_ld d_131_170 rfl rfl rfl ?_
              refine w_iast d_131_171 (by first | rfl | assumption) (by omega) ?_
              refine w_ld d_131_172 rfl rfl rfl ?_
              refine w_bip d_131_173 (by decide) ?_
              refine w_icmp_ne (g := 222) d_131_175 (by decide) (by decide) (fun h175 => ?_) (fun h175 => ?_)
              · refine w_ld d_131_222 rfl rfl rfl ?_
                refine w_stk d_131_223 rfl ?_
                refine w_gI d_131_224 (by rfl) (by first | rfl | assumption) (by rfl) (show _ = μ.1 46 17 from rfl) ?_
                refine w_con d_131_227 ?_
                refine w_isub d_131_228 ?_
                refine w_putI d_131_229 (by rfl) (by first | rfl | assumption) (by rfl) (fit_I (by rfl)) (by rfl) ?_
                refine w_con d_131_232 ?_
                refine w_zret d_131_233 rfl (by decide) ?_
                exact ⟨rfl, rfl⟩
              · exact absurd h175 (by decide)
          · exact absurd (b01_ne h95) g1
        · exact absurd h81 (by omega)
  · exact absurd h5 (by omega)
theorem m_marksT3 {sc : Nat × (Nat → Int32)} {fr lo : Nat} {μ : Mem} {ρ : Nat × Nat × Nat} (hr : 0 ≤ μ.1 46 24 ∧ 0 ≤ μ.1 46 25 ∧ μ.1 46 24 + μ.1 46 25 ≤ 720 ∧ μ.1 46 25 ≤ 240) (hw : ∀ i, 0 ≤ i → i < μ.1 46 25 → 32 ≤ μ.2.2 57 (μ.1 46 24 + i) ∧ μ.2.2 57 (μ.1 46 24 + i) ≤ 126) {d : Int} (hd : μ.1 46 19 = d ∧ 0 < d ∧ d ≤ 8) (hf : 9 ≤ fr) (hl : 300 ≤ lo) {v : Int} (hv : μ.2.2 58 d = v ∧ 0 ≤ v ∧ v < 384) (hT : ((wl (fun i => μ.2.2 57 (μ.1 46 24 + i)) (μ.1 46 25) 0) = 126 ∧ (wl (fun i => μ.2.2 57 (μ.1 46 24 + i)) (μ.1 46 25) 1) = 35 ∧ 2 < (μ.1 46 25))) (g1 : ¬ (tgk (fun i => μ.2.2 57 (μ.1 46 24 + i)) (μ.1 46 25) 1)) (g2 : ¬ (tgk (fun i => μ.2.2 57 (μ.1 46 24 + i)) (μ.1 46 25) 2)) (g3 : (tgk (fun i => μ.2.2 57 (μ.1 46 24 + i)) (μ.1 46 25) 3)) : w_E sc fr lo 131 [.ref 46] (hp μ, ρ) (.inl (some (.int (ji 1)))) (hp (stI (stA μ 59 d 5) 46 17 (μ.1 46 17 - 1)), ρ) := by
  have l0 := wl_wl0 (w := (fun i => μ.2.2 57 (μ.1 46 24 + i))) (s := (μ.1 46 25)) hw (k := 0) (by decide)
  have l1 := wl_wl0 (w := (fun i => μ.2.2 57 (μ.1 46 24 + i))) (s := (μ.1 46 25)) hw (k := 1) (by decide)
  have r0 : w_E sc (fr - 1) (lo - (19 + 2)) 127 [.ref 46, .int (ji 0)] (hp μ, ρ) (.inl (some (.int (ji (wl0 (fun i => μ.2.2 57 (μ.1 46 24 + i)) (μ.1 46 25) 0))))) (hp μ, ρ) := m_rawLetter (by omega) (by decide)
  have r1 : w_E sc (fr - 1) (lo - (19 + 2)) 127 [.ref 46, .int (ji 1)] (hp μ, ρ) (.inl (some (.int (ji (wl0 (fun i => μ.2.2 57 (μ.1 46 24 + i)) (μ.1 46 25) 1))))) (hp μ, ρ) := m_rawLetter (by omega) (by decide)
  have i1 := m_isTag1 (sc := sc) (fr := fr - 1) (lo := lo - (19 + 6)) (μ := μ) (ρ := ρ) hr hw (by omega) (by omega)
  have i2 := m_isTag2 (sc := sc) (fr := fr - 1) (lo := lo - (19 + 6)) (μ := μ) (ρ := ρ) hr hw (by omega) (by omega)
  have i3 := m_isTag3 (sc := sc) (fr := fr - 1) (lo := lo - (19 + 6)) (μ := μ) (ρ := ρ) hr hw (by omega) (by omega)
  have i4 := m_isTag4 (sc := sc) (fr := fr - 1) (lo := lo - (19 + 6)) (μ := μ) (ρ := ρ) hr hw (by omega) (by omega)
  refine w_S.of (L0 := [some (.ref 46), none]) rfl rfl (Nat.le_of_ble_eq_true rfl) (by rfl) ?_
  refine w_ld d_131_0 rfl rfl rfl ?_
  refine w_gI d_131_1 (by rfl) (by first | rfl | assumption) (by rfl) (by first | exact hd.1 | exact hv.1 | rfl) ?_
  refine w_con d_131_4 ?_
  refine w_icmp_ne (g := 56) d_131_5 (by decide) (by omega) (fun h5 => ?_) (fun h5 => ?_)
  · refine w_ld d_131_56 rfl rfl rfl ?_
    refine w_con d_131_57 ?_
    refine w_cV1 (a := 46) (as := [_]) (rest := _) rfl d_131_58 (by rfl) (by rfl) (by first | rfl | assumption) (by rfl) (by rfl) (Nat.le_of_ble_eq_true rfl) (by omega) (by omega) r0 ?_
    refine w_bip d_131_61 (by decide) ?_
    refine w_icmp_ne (g := 84) d_131_63 (by decide) (by omega) (fun h63 => ?_) (fun h63 => ?_)
    · exact absurd h63 (by omega)
    · refine w_ld d_131_66 rfl rfl rfl ?_
      refine w_con d_131_67 ?_
      refine w_cV1 (a := 46) (as := [_]) (rest := _) rfl d_131_68 (by rfl) (by rfl) (by first | rfl | assumption) (by rfl) (by rfl) (Nat.le_of_ble_eq_true rfl) (by omega) (by omega) r1 ?_
      refine w_bip d_131_71 (by decide) ?_
      refine w_icmp_ne (g := 84) d_131_73 (by decide) (by omega) (fun h73 => ?_) (fun h73 => ?_)
      · exact absurd h73 (by omega)
      · refine w_ld d_131_76 rfl rfl rfl ?_
        refine w_gI d_131_77 (by rfl) (by first | rfl | assumption) (by rfl) (by first | exact hd.1 | exact hv.1 | rfl) ?_
        refine w_con d_131_80 ?_
        refine w_icmp_ge (g := 86) d_131_81 (by decide) (by omega) (fun h81 => ?_) (fun h81 => ?_)
        · refine w_ld d_131_86 rfl rfl rfl ?_
          refine w_bip d_131_87 (by decide) ?_
          refine w_con d_131_89 ?_
          refine w_con d_131_90 ?_
          refine w_con d_131_91 ?_
          refine w_cV1 (a := 46) (as := [_, _, _, _]) (rest := _) rfl d_131_92 (by rfl) (by rfl) (by first | rfl | assumption) (by rfl) (by rfl) (Nat.le_of_ble_eq_true rfl) (by omega) (by omega) i1 ?_
          refine w_if_eq (g := 102) d_131_95 (by decide) (b01_in _) (fun h95 => ?_) (fun h95 => ?_)
          · refine w_ld d_131_102 rfl rfl rfl ?_
            refine w_bip d_131_103 (by decide) ?_
            refine w_bip d_131_105 (by decide) ?_
            refine w_bip d_131_107 (by decide) ?_
            refine w_con d_131_109 ?_
            refine w_cV1 (a := 46) (as := [_, _, _, _]) (rest := _) rfl d_131_110 (by rfl) (by rfl) (by first | rfl | assumption) (by rfl) (by rfl) (Nat.le_of_ble_eq_true rfl) (by omega) (by omega) i2 ?_
            refine w_if_eq (g := 120) d_131_113 (by decide) (b01_in _) (fun h113 => ?_) (fun h113 => ?_)
            · refine w_ld d_131_120 rfl rfl rfl ?_
              refine w_bip d_131_121 (by decide) ?_
              refine w_bip d_131_123 (by decide) ?_
              refine w_bip d_131_125 (by decide) ?_
              refine w_bip d_131_127 (by decide) ?_
              refine w_cV1 (a := 46) (as := [_, _, _, _]) (rest := _) rfl d_131_129 (by rfl) (by rfl) (by first | rfl | assumption) (by rfl) (by rfl) (Nat.le_of_ble_eq_true rfl) (by omega) (by omega) i3 ?_
              refine w_if_eq (g := 139) d_131_132 (by decide) (b01_in _) (fun h132 => ?_) (fun h132 => ?_)
              · exact absurd g3 (b01_eq h132)
              · refine w_con d_131_135 ?_
                refine w_goto (g := 161) d_131_136 (by decide) ?_
                refine w_st1 (L' := [_, _]) d_131_161 rfl (by decide) rfl (by decide) rfl ?_
                refine w_ld d_131_162 rfl rfl rfl ?_
                refine w_getF d_131_163 (by rfl) (by first | rfl | assumption) (by rfl) (by rfl) ?_
                refine w_ld d_131_166 rfl rfl rfl ?_
                refine w_gI d_131_167 (by rfl) (by first | rfl | assumption) (by rfl) (by first | exact hd.1 | exact hv.1 | rfl) ?_
                refine w_ld d_131_170 rfl rfl rfl ?_
                refine w_iast d_131_171 (by first | rfl | assumption) (by omega) ?_
                refine w_ld d_131_172 rfl rfl rfl ?_
                refine w_bip d_131_173 (by decide) ?_
                refine w_icmp_ne (g := 222) d_131_175 (by decide) (by decide) (fun h175 => ?_) (fun h175 => ?_)
                · refine w_ld d_131_222 rfl rfl rfl ?_
                  refine w_stk d_131_223 rfl ?_
                  refine w_gI d_131_224 (by rfl) (by first | rfl | assumption) (by rfl) (show _ = μ.1 46 17 from rfl) ?_
                  refine w_con d_131_227 ?_
                  refine w_isub d_131_228 ?_
                  refine w_putI d_131_229 (by rfl) (by first | rfl | assumption) (by rfl) (fit_I (by rfl)) (by rfl) ?_
                  refine w_con d_131_232 ?_
                  refine w_zret d_131_233 rfl (by decide) ?_
                  exact ⟨rfl, rfl⟩
                · exact absurd h175 (by decide)
            · exact absurd (b01_ne h113) g2
          · exact absurd (b01_ne h95) g1
        · exact absurd h81 (by omega)
  · exact absurd h5 (by omega)
theorem m_marksT4 {sc : Nat × (Nat → Int32)} {fr lo : Nat} {μ : Mem} {ρ : Nat × Nat × Nat} (hr : 0 ≤ μ.1 46 24 ∧ 0 ≤ μ.1 46 25 ∧ μ.1 46 24 + μ.1 46 25 ≤ 720 ∧ μ.1 46 25 ≤ 240) (hw : ∀ i, 0 ≤ i → i < μ.1 46 25 → 32 ≤ μ.2.2 57 (μ.1 46 24 + i) ∧ μ.2.2 57 (μ.1 46 24 + i) ≤ 126) {d : Int} (hd : μ.1 46 19 = d ∧ 0 < d ∧ d ≤ 8) (hf : 9 ≤ fr) (hl : 300 ≤ lo) {v : Int} (hv : μ.2.2 58 d = v ∧ 0 ≤ v ∧ v < 384) (hT : ((wl (fun i => μ.2.2 57 (μ.1 46 24 + i)) (μ.1 46 25) 0) = 126 ∧ (wl (fun i => μ.2.2 57 (μ.1 46 24 + i)) (μ.1 46 25) 1) = 35 ∧ 2 < (μ.1 46 25))) (g1 : ¬ (tgk (fun i => μ.2.2 57 (μ.1 46 24 + i)) (μ.1 46 25) 1)) (g2 : ¬ (tgk (fun i => μ.2.2 57 (μ.1 46 24 + i)) (μ.1 46 25) 2)) (g3 : ¬ (tgk (fun i => μ.2.2 57 (μ.1 46 24 + i)) (μ.1 46 25) 3)) (g4 : (tgk (fun i => μ.2.2 57 (μ.1 46 24 + i)) (μ.1 46 25) 4)) : w_E sc fr lo 131 [.ref 46] (hp μ, ρ) (.inl (some (.int (ji 1)))) (hp (stI (stA μ 59 d 6) 46 17 (μ.1 46 17 - 1)), ρ) := by
  have l0 := wl_wl0 (w := (fun i => μ.2.2 57 (μ.1 46 24 + i))) (s := (μ.1 46 25)) hw (k := 0) (by decide)
  have l1 := wl_wl0 (w := (fun i => μ.2.2 57 (μ.1 46 24 + i))) (s := (μ.1 46 25)) hw (k := 1) (by decide)
  have r0 : w_E sc (fr - 1) (lo - (19 + 2)) 127 [.ref 46, .int (ji 0)] (hp μ, ρ) (.inl (some (.int (ji (wl0 (fun i => μ.2.2 57 (μ.1 46 24 + i)) (μ.1 46 25) 0))))) (hp μ, ρ) := m_rawLetter (by omega) (by decide)
  have r1 : w_E sc (fr - 1) (lo - (19 + 2)) 127 [.ref 46, .int (ji 1)] (hp μ, ρ) (.inl (some (.int (ji (wl0 (fun i => μ.2.2 57 (μ.1 46 24 + i)) (μ.1 46 25) 1))))) (hp μ, ρ) := m_rawLetter (by omega) (by decide)
  have i1 := m_isTag1 (sc := sc) (fr := fr - 1) (lo := lo - (19 + 6)) (μ := μ) (ρ := ρ) hr hw (by omega) (by omega)
  have i2 := m_isTag2 (sc := sc) (fr := fr - 1) (lo := lo - (19 + 6)) (μ := μ) (ρ := ρ) hr hw (by omega) (by omega)
  have i3 := m_isTag3 (sc := sc) (fr := fr - 1) (lo := lo - (19 + 6)) (μ := μ) (ρ := ρ) hr hw (by omega) (by omega)
  have i4 := m_isTag4 (sc := sc) (fr := fr - 1) (lo := lo - (19 + 6)) (μ := μ) (ρ := ρ) hr hw (by omega) (by omega)
  refine w_S.of (L0 := [some (.ref 46), none]) rfl rfl (Nat.le_of_ble_eq_true rfl) (by rfl) ?_
  refine w_ld d_131_0 rfl rfl rfl ?_
  refine w_gI d_131_1 (by rfl) (by first | rfl | assumption) (by rfl) (by first | exact hd.1 | exact hv.1 | rfl) ?_
  refine w_con d_131_4 ?_
  refine w_icmp_ne (g := 56) d_131_5 (by decide) (by omega) (fun h5 => ?_) (fun h5 => ?_)
  · refine w_ld d_131_56 rfl rfl rfl ?_
    refine w_con d_131_57 ?_
    refine w_cV1 (a := 46) (as := [_]) (rest := _) rfl d_131_58 (by rfl) (by rfl) (by first | rfl | assumption) (by rfl) (by rfl) (Nat.le_of_ble_eq_true rfl) (by omega) (by omega) r0 ?_
    refine w_bip d_131_61 (by decide) ?_
    refine w_icmp_ne (g := 84) d_131_63 (by decide) (by omega) (fun h63 => ?_) (fun h63 => ?_)
    · exact absurd h63 (by omega)
    · refine w_ld d_131_66 rfl rfl rfl ?_
      refine w_con d_131_67 ?_
      refine w_cV1 (a := 46) (as := [_]) (rest := _) rfl d_131_68 (by rfl) (by rfl) (by first | rfl | assumption) (by rfl) (by rfl) (Nat.le_of_ble_eq_true rfl) (by omega) (by omega) r1 ?_
      refine w_bip d_131_71 (by decide) ?_
      refine w_icmp_ne (g := 84) d_131_73 (by decide) (by omega) (fun h73 => ?_) (fun h73 => ?_)
      · exact absurd h73 (by omega)
      · refine w_ld d_131_76 rfl rfl rfl ?_
        refine w_gI d_131_77 (by rfl) (by first | rfl | assumption) (by rfl) (by first | exact hd.1 | exact hv.1 | rfl) ?_
        refine w_con d_131_80 ?_
        refine w_icmp_ge (g := 86) d_131_81 (by decide) (by omega) (fun h81 => ?_) (fun h81 => ?_)
        · refine w_ld d_131_86 rfl rfl rfl ?_
          refine w_bip d_131_87 (by decide) ?_
          refine w_con d_131_89 ?_
          refine w_con d_131_90 ?_
          refine w_con d_131_91 ?_
          refine w_cV1 (a := 46) (as := [_, _, _, _]) (rest := _) rfl d_131_92 (by rfl) (by rfl) (by first | rfl | assumption) (by rfl) (by rfl) (Nat.le_of_ble_eq_true rfl) (by omega) (by omega) i1 ?_
          refine w_if_eq (g := 102) d_131_95 (by decide) (b01_in _) (fun h95 => ?_) (fun h95 => ?_)
          · refine w_ld d_131_102 rfl rfl rfl ?_
            refine w_bip d_131_103 (by decide) ?_
            refine w_bip d_131_105 (by decide) ?_
            refine w_bip d_131_107 (by decide) ?_
            refine w_con d_131_109 ?_
            refine w_cV1 (a := 46) (as := [_, _, _, _]) (rest := _) rfl d_131_110 (by rfl) (by rfl) (by first | rfl | assumption) (by rfl) (by rfl) (Nat.le_of_ble_eq_true rfl) (by omega) (by omega) i2 ?_
            refine w_if_eq (g := 120) d_131_113 (by decide) (b01_in _) (fun h113 => ?_) (fun h113 => ?_)
            · refine w_ld d_131_120 rfl rfl rfl ?_
              refine w_bip d_131_121 (by decide) ?_
              refine w_bip d_131_123 (by decide) ?_
              refine w_bip d_131_125 (by decide) ?_
              refine w_bip d_131_127 (by decide) ?_
              refine w_cV1 (a := 46) (as := [_, _, _, _]) (rest := _) rfl d_131_129 (by rfl) (by rfl) (by first | rfl | assumption) (by rfl) (by rfl) (Nat.le_of_ble_eq_true rfl) (by omega) (by omega) i3 ?_
              refine w_if_eq (g := 139) d_131_132 (by decide) (b01_in _) (fun h132 => ?_) (fun h132 => ?_)
              · refine w_ld d_131_139 rfl rfl rfl ?_
                refine w_bip d_131_140 (by decide) ?_
                refine w_bip d_131_142 (by decide) ?_
                refine w_bip d_131_144 (by decide) ?_
                refine w_bip d_131_146 (by decide) ?_
                refine w_cV1 (a := 46) (as := [_, _, _, _]) (rest := _) rfl d_131_148 (by rfl) (by rfl) (by first | rfl | assumption) (by rfl) (by rfl) (Nat.le_of_ble_eq_true rfl) (by omega) (by omega) i4 ?_
                refine w_if_eq (g := 159) d_131_151 (by decide) (b01_in _) (fun h151 => ?_) (fun h151 => ?_)
                · exact absurd g4 (b01_eq h151)
                · refine w_bip d_131_154 (by decide) ?_
                  refine w_goto (g := 161) d_131_156 (by decide) ?_
                  refine w_st1 (L' := [_, _]) d_131_161 rfl (by decide) rfl (by decide) rfl ?_
                  refine w_ld d_131_162 rfl rfl rfl ?_
                  refine w_getF d_131_163 (by rfl) (by first | rfl | assumption) (by rfl) (by rfl) ?_
                  refine w_ld d_131_166 rfl rfl rfl ?_
                  refine w_gI d_131_167 (by rfl) (by first | rfl | assumption) (by rfl) (by first | exact hd.1 | exact hv.1 | rfl) ?_
                  refine w_ld d_131_170 rfl rfl rfl ?_
                  refine w_iast d_131_171 (by first | rfl | assumption) (by omega) ?_
                  refine w_ld d_131_172 rfl rfl rfl ?_
                  refine w_bip d_131_173 (by decide) ?_
                  refine w_icmp_ne (g := 222) d_131_175 (by decide) (by decide) (fun h175 => ?_) (fun h175 => ?_)
                  · refine w_ld d_131_222 rfl rfl rfl ?_
                    refine w_stk d_131_223 rfl ?_
                    refine w_gI d_131_224 (by rfl) (by first | rfl | assumption) (by rfl) (show _ = μ.1 46 17 from rfl) ?_
                    refine w_con d_131_227 ?_
                    refine w_isub d_131_228 ?_
                    refine w_putI d_131_229 (by rfl) (by first | rfl | assumption) (by rfl) (fit_I (by rfl)) (by rfl) ?_
                    refine w_con d_131_232 ?_
                    refine w_zret d_131_233 rfl (by decide) ?_
                    exact ⟨rfl, rfl⟩
                  · exact absurd h175 (by decide)
              · exact absurd (b01_ne h132) g3
            · exact absurd (b01_ne h113) g2
          · exact absurd (b01_ne h95) g1
        · exact absurd h81 (by omega)
  · exact absurd h5 (by omega)
theorem m_marksT5 {sc : Nat × (Nat → Int32)} {fr lo : Nat} {μ : Mem} {ρ : Nat × Nat × Nat} (hr : 0 ≤ μ.1 46 24 ∧ 0 ≤ μ.1 46 25 ∧ μ.1 46 24 + μ.1 46 25 ≤ 720 ∧ μ.1 46 25 ≤ 240) (hw : ∀ i, 0 ≤ i → i < μ.1 46 25 → 32 ≤ μ.2.2 57 (μ.1 46 24 + i) ∧ μ.2.2 57 (μ.1 46 24 + i) ≤ 126) {d : Int} (hd : μ.1 46 19 = d ∧ 0 < d ∧ d ≤ 8) (hf : 9 ≤ fr) (hl : 300 ≤ lo) {v : Int} (hv : μ.2.2 58 d = v ∧ 0 ≤ v ∧ v < 384) (hT : ((wl (fun i => μ.2.2 57 (μ.1 46 24 + i)) (μ.1 46 25) 0) = 126 ∧ (wl (fun i => μ.2.2 57 (μ.1 46 24 + i)) (μ.1 46 25) 1) = 35 ∧ 2 < (μ.1 46 25))) (g1 : ¬ (tgk (fun i => μ.2.2 57 (μ.1 46 24 + i)) (μ.1 46 25) 1)) (g2 : ¬ (tgk (fun i => μ.2.2 57 (μ.1 46 24 + i)) (μ.1 46 25) 2)) (g3 : ¬ (tgk (fun i => μ.2.2 57 (μ.1 46 24 + i)) (μ.1 46 25) 3)) (g4 : ¬ (tgk (fun i => μ.2.2 57 (μ.1 46 24 + i)) (μ.1 46 25) 4)) : w_E sc fr lo 131 [.ref 46] (hp μ, ρ) (.inl (some (.int (ji 1)))) (hp (stA (stA (stA (stA μ 59 d 7) 49 v 12) 51 v (μ.1 46 24 + 2)) 52 v (μ.1 46 25 - 2)), ρ) := by
  have l0 := wl_wl0 (w := (fun i => μ.2.2 57 (μ.1 46 24 + i))) (s := (μ.1 46 25)) hw (k := 0) (by decide)
  have l1 := wl_wl0 (w := (fun i => μ.2.2 57 (μ.1 46 24 + i))) (s := (μ.1 46 25)) hw (k := 1) (by decide)
  have r0 : w_E sc (fr - 1) (lo - (19 + 2)) 127 [.ref 46, .int (ji 0)] (hp μ, ρ) (.inl (some (.int (ji (wl0 (fun i => μ.2.2 57 (μ.1 46 24 + i)) (μ.1 46 25) 0))))) (hp μ, ρ) := m_rawLetter (by omega) (by decide)
  have r1 : w_E sc (fr - 1) (lo - (19 + 2)) 127 [.ref 46, .int (ji 1)] (hp μ, ρ) (.inl (some (.int (ji (wl0 (fun i => μ.2.2 57 (μ.1 46 24 + i)) (μ.1 46 25) 1))))) (hp μ, ρ) := m_rawLetter (by omega) (by decide)
  have i1 := m_isTag1 (sc := sc) (fr := fr - 1) (lo := lo - (19 + 6)) (μ := μ) (ρ := ρ) hr hw (by omega) (by omega)
  have i2 := m_isTag2 (sc := sc) (fr := fr - 1) (lo := lo - (19 + 6)) (μ := μ) (ρ := ρ) hr hw (by omega) (by omega)
  have i3 := m_isTag3 (sc := sc) (fr := fr - 1) (lo := lo - (19 + 6)) (μ := μ) (ρ := ρ) hr hw (by omega) (by omega)
  have i4 := m_isTag4 (sc := sc) (fr := fr - 1) (lo := lo - (19 + 6)) (μ := μ) (ρ := ρ) hr hw (by omega) (by omega)
  refine w_S.of (L0 := [some (.ref 46), none]) rfl rfl (Nat.le_of_ble_eq_true rfl) (by rfl) ?_
  refine w_ld d_131_0 rfl rfl rfl ?_
  refine w_gI d_131_1 (by rfl) (by first | rfl | assumption) (by rfl) (by first | exact hd.1 | exact hv.1 | rfl) ?_
  refine w_con d_131_4 ?_
  refine w_icmp_ne (g := 56) d_131_5 (by decide) (by omega) (fun h5 => ?_) (fun h5 => ?_)
  · refine w_ld d_131_56 rfl rfl rfl ?_
    refine w_con d_131_57 ?_
    refine w_cV1 (a := 46) (as := [_]) (rest := _) rfl d_131_58 (by rfl) (by rfl) (by first | rfl | assumption) (by rfl) (by rfl) (Nat.le_of_ble_eq_true rfl) (by omega) (by omega) r0 ?_
    refine w_bip d_131_61 (by decide) ?_
    refine w_icmp_ne (g := 84) d_131_63 (by decide) (by omega) (fun h63 => ?_) (fun h63 => ?_)
    · exact absurd h63 (by omega)
    · refine w_ld d_131_66 rfl rfl rfl ?_
      refine w_con d_131_67 ?_
      refine w_cV1 (a := 46) (as := [_]) (rest := _) rfl d_131_68 (by rfl) (by rfl) (by first | rfl | assumption) (by rfl) (by rfl) (Nat.le_of_ble_eq_true rfl) (by omega) (by omega) r1 ?_
      refine w_bip d_131_71 (by decide) ?_
      refine w_icmp_ne (g := 84) d_131_73 (by decide) (by omega) (fun h73 => ?_) (fun h73 => ?_)
      · exact absurd h73 (by omega)
      · refine w_ld d_131_76 rfl rfl rfl ?_
        refine w_gI d_131_77 (by rfl) (by first | rfl | assumption) (by rfl) (by first | exact hd.1 | exact hv.1 | rfl) ?_
        refine w_con d_131_80 ?_
        refine w_icmp_ge (g := 86) d_131_81 (by decide) (by omega) (fun h81 => ?_) (fun h81 => ?_)
        · refine w_ld d_131_86 rfl rfl rfl ?_
          refine w_bip d_131_87 (by decide) ?_
          refine w_con d_131_89 ?_
          refine w_con d_131_90 ?_
          refine w_con d_131_91 ?_
          refine w_cV1 (a := 46) (as := [_, _, _, _]) (rest := _) rfl d_131_92 (by rfl) (by rfl) (by first | rfl | assumption) (by rfl) (by rfl) (Nat.le_of_ble_eq_true rfl) (by omega) (by omega) i1 ?_
          refine w_if_eq (g := 102) d_131_95 (by decide) (b01_in _) (fun h95 => ?_) (fun h95 => ?_)
          · refine w_ld d_131_102 rfl rfl rfl ?_
            refine w_bip d_131_103 (by decide) ?_
            refine w_bip d_131_105 (by decide) ?_
            refine w_bip d_131_107 (by decide) ?_
            refine w_con d_131_109 ?_
            refine w_cV1 (a := 46) (as := [_, _, _, _]) (rest := _) rfl d_131_110 (by rfl) (by rfl) (by first | rfl | assumption) (by rfl) (by rfl) (Nat.le_of_ble_eq_true rfl) (by omega) (by omega) i2 ?_
            refine w_if_eq (g := 120) d_131_113 (by decide) (b01_in _) (fun h113 => ?_) (fun h113 => ?_)
            · refine w_ld d_131_120 rfl rfl rfl ?_
              refine w_bip d_131_121 (by decide) ?_
              refine w_bip d_131_123 (by decide) ?_
              refine w_bip d_131_125 (by decide) ?_
              refine w_bip d_131_127 (by decide) ?_
              refine w_cV1 (a := 46) (as := [_, _, _, _]) (rest := _) rfl d_131_129 (by rfl) (by rfl) (by first | rfl | assumption) (by rfl) (by rfl) (Nat.le_of_ble_eq_true rfl) (by omega) (by omega) i3 ?_
              refine w_if_eq (g := 139) d_131_132 (by decide) (b01_in _) (fun h132 => ?_) (fun h132 => ?_)
              · refine w_ld d_131_139 rfl rfl rfl ?_
                refine w_bip d_131_140 (by decide) ?_
                refine w_bip d_131_142 (by decide) ?_
                refine w_bip d_131_144 (by decide) ?_
                refine w_bip d_131_146 (by decide) ?_
                refine w_cV1 (a := 46) (as := [_, _, _, _]) (rest := _) rfl d_131_148 (by rfl) (by rfl) (by first | rfl | assumption) (by rfl) (by rfl) (Nat.le_of_ble_eq_true rfl) (by omega) (by omega) i4 ?_
                refine w_if_eq (g := 159) d_131_151 (by decide) (b01_in _) (fun h151 => ?_) (fun h151 => ?_)
                · refine w_bip d_131_159 (by decide) ?_
                  refine w_st1 (L' := [_, _]) d_131_161 rfl (by decide) rfl (by decide) rfl ?_
                  refine w_ld d_131_162 rfl rfl rfl ?_
                  refine w_getF d_131_163 (by rfl) (by first | rfl | assumption) (by rfl) (by rfl) ?_
                  refine w_ld d_131_166 rfl rfl rfl ?_
                  refine w_gI d_131_167 (by rfl) (by first | rfl | assumption) (by rfl) (by first | exact hd.1 | exact hv.1 | rfl) ?_
                  refine w_ld d_131_170 rfl rfl rfl ?_
                  refine w_iast d_131_171 (by first | rfl | assumption) (by omega) ?_
                  refine w_ld d_131_172 rfl rfl rfl ?_
                  refine w_bip d_131_173 (by decide) ?_
                  refine w_icmp_ne (g := 222) d_131_175 (by decide) (by decide) (fun h175 => ?_) (fun h175 => ?_)
                  · exact absurd h175 (by decide)
                  · refine w_ld d_131_178 rfl rfl rfl ?_
                    refine w_getF d_131_179 (by rfl) (by first | rfl | assumption) (by rfl) (by rfl) ?_
                    refine w_ld d_131_182 rfl rfl rfl ?_
                    refine w_getF d_131_183 (by rfl) (by first | rfl | assumption) (by rfl) (by rfl) ?_
                    refine w_ld d_131_186 rfl rfl rfl ?_
                    refine w_gI d_131_187 (by rfl) (by first | rfl | assumption) (by rfl) (by first | exact hd.1 | exact hv.1 | rfl) ?_
                    refine w_aI d_131_190 (by first | rfl | assumption) (by omega) (by first | exact hd.1 | exact hv.1 | rfl) ?_
                    refine w_bip d_131_191 (by decide) ?_
                    refine w_iast d_131_193 (by first | rfl | assumption) (by omega) ?_
                    refine w_ld d_131_194 rfl rfl rfl ?_
                    refine w_ld d_131_195 rfl rfl rfl ?_
                    refine w_getF d_131_196 (by rfl) (by first | rfl | assumption) (by rfl) (by rfl) ?_
                    refine w_ld d_131_199 rfl rfl rfl ?_
                    refine w_gI d_131_200 (by rfl) (by first | rfl | assumption) (by rfl) (by first | exact hd.1 | exact hv.1 | rfl) ?_
                    refine w_aI d_131_203 (by first | rfl | assumption) (by omega) (by first | exact hd.1 | exact hv.1 | rfl) ?_
                    refine w_ld d_131_204 rfl rfl rfl ?_
                    refine w_gI d_131_205 (by rfl) (by first | rfl | assumption) (by rfl) (by first | exact hd.1 | exact hv.1 | rfl) ?_
                    refine w_con d_131_208 ?_
                    refine w_iadd d_131_209 ?_
                    refine w_ld d_131_210 rfl rfl rfl ?_
                    refine w_gI d_131_211 (by rfl) (by first | rfl | assumption) (by rfl) (by first | exact hd.1 | exact hv.1 | rfl) ?_
                    refine w_con d_131_214 ?_
                    refine w_isub d_131_215 ?_
                    refine w_cV0 (a := 46) (as := [_, _, _]) (rest := _) rfl d_131_216 (by rfl) (by rfl) (by first | rfl | assumption) (by rfl) (by rfl) (Nat.le_of_ble_eq_true rfl) (by omega) (by omega) (m_setWord (by omega)) ?_
                    refine w_goto (g := 232) d_131_219 (by decide) ?_
                    refine w_con d_131_232 ?_
                    refine w_zret d_131_233 rfl (by decide) ?_
                    exact ⟨rfl, rfl⟩
                · exact absurd (b01_ne h151) g4
              · exact absurd (b01_ne h132) g3
            · exact absurd (b01_ne h113) g2
          · exact absurd (b01_ne h95) g1
        · exact absurd h81 (by omega)
  · exact absurd h5 (by omega)
theorem m_strM {sc : Nat × (Nat → Int32)} {fr lo : Nat} {μ : Mem} {ρ : Nat × Nat × Nat} {p key c : Int} (hM : MI μ) {n : Int} (hn : μ.1 46 17 = n ∧ 0 ≤ n ∧ n ≤ 125) (hr : 480 ≤ μ.1 46 24 ∧ 0 ≤ μ.1 46 25 ∧ μ.1 46 24 + μ.1 46 25 ≤ 718 ∧ μ.1 46 25 ≤ 238) (hw : ∀ i, 0 ≤ i → i < μ.1 46 25 → 32 ≤ μ.2.2 57 (μ.1 46 24 + i) ∧ μ.2.2 57 (μ.1 46 24 + i) ≤ 126) (h16 : μ.1 46 16 = -1) (hpl : 0 ≤ μ.1 46 15 ∧ μ.1 46 15 ≤ 900) (hq : 0 ≤ p ∧ p ≤ 900) (hf : 14 ≤ fr) (hl : 600 ≤ lo) {d : Int} (hd : μ.1 46 19 = d ∧ 0 ≤ d ∧ d ≤ 8) (hmo : 0 < d → 1 ≤ μ.2.2 59 d ∧ μ.2.2 59 d ≤ 7) : w_P sc fr lo 124 7 4 false ((some FieldType.boolean)) prog_9_method_31_code 117 [some (.ref 46), some (.int (ji p)), some (.int (ji key)), some (.int (ji c))] [] (hp μ, ρ) (fun o t' => ∃ μ' : Mem, o = .inl (some (.int (ji 1))) ∧ mmP μ μ' (fun i => μ.2.2 57 (μ.1 46 24 + i)) (μ.1 46 25) (μ.1 46 24) p n ∧ t' = (hp μ', ρ)) := by
  refine w_ld d_124_117 rfl rfl rfl ?_
  refine w_gI d_124_118 (by rfl) (by first | rfl | assumption) (by rfl) (by first | exact hd.1 | rfl) ?_
  refine w_if_le (g := 145) d_124_121 (by decide) (by omega) (fun h121 => ?_) (fun h121 => ?_)
  · refine w_ld d_124_145 rfl rfl rfl ?_
    refine w_ld d_124_146 rfl rfl rfl ?_
    refine w_cVm (a := 46) (as := [_]) (rest := _) rfl d_124_147 (by rfl) (by rfl) (by first | rfl | assumption) (by rfl) (by rfl) (Nat.le_of_ble_eq_true rfl) (by omega) (by omega) (m_meaning hM hn hr hw h16 hpl hq (by omega) (by omega)) (fun μ' hm => ?_)
    refine w_con d_124_150 ?_
    refine w_zret d_124_151 rfl (by decide) ?_
    exact ⟨μ', rfl, hm, rfl⟩
  · refine w_ld d_124_124 rfl rfl rfl ?_
    refine w_getF d_124_125 (by rfl) (by first | rfl | assumption) (by rfl) (by rfl) ?_
    refine w_ld d_124_128 rfl rfl rfl ?_
    refine w_gI d_124_129 (by rfl) (by first | rfl | assumption) (by rfl) (by first | exact hd.1 | rfl) ?_
    refine w_aI d_124_132 (by first | rfl | assumption) (by omega) (show _ = μ.2.2 59 d from rfl) ?_
    refine w_if_ne (g := 145) d_124_133 (by decide) (by have := hmo (by omega); omega) (fun h133 => ?_) (fun h133 => ?_)
    · refine w_ld d_124_145 rfl rfl rfl ?_
      refine w_ld d_124_146 rfl rfl rfl ?_
      refine w_cVm (a := 46) (as := [_]) (rest := _) rfl d_124_147 (by rfl) (by rfl) (by first | rfl | assumption) (by rfl) (by rfl) (Nat.le_of_ble_eq_true rfl) (by omega) (by omega) (m_meaning hM hn hr hw h16 hpl hq (by omega) (by omega)) (fun μ' hm => ?_)
      refine w_con d_124_150 ?_
      refine w_zret d_124_151 rfl (by decide) ?_
      exact ⟨μ', rfl, hm, rfl⟩
    · exact absurd h133 (by have := hmo (by omega); omega)
theorem m_strF {sc : Nat × (Nat → Int32)} {fr lo : Nat} {μ : Mem} {ρ : Nat × Nat × Nat} {p key c : Int} (hM : MI μ) {n : Int} (hn : μ.1 46 17 = n ∧ 0 ≤ n ∧ n ≤ 125) (hr : 480 ≤ μ.1 46 24 ∧ 0 ≤ μ.1 46 25 ∧ μ.1 46 24 + μ.1 46 25 ≤ 718 ∧ μ.1 46 25 ≤ 238) (hw : ∀ i, 0 ≤ i → i < μ.1 46 25 → 32 ≤ μ.2.2 57 (μ.1 46 24 + i) ∧ μ.2.2 57 (μ.1 46 24 + i) ≤ 126) (h16 : μ.1 46 16 = -1) (hpl : 0 ≤ μ.1 46 15 ∧ μ.1 46 15 ≤ 900) (hq : 0 ≤ p ∧ p ≤ 900) (hf : 14 ≤ fr) (hl : 600 ≤ lo) {d : Int} (hd : μ.1 46 19 = d ∧ 0 < d ∧ d ≤ 8) (hmo : μ.2.2 59 d = 0) {v : Int} (hv : μ.2.2 58 d = v ∧ 0 ≤ v ∧ v < 384) (hA : ¬ ((μ.1 46 25) = 2 ∧ (wl (fun i => μ.2.2 57 (μ.1 46 24 + i)) (μ.1 46 25) 0) = 94 ∧ (wl (fun i => μ.2.2 57 (μ.1 46 24 + i)) (μ.1 46 25) 1) = 32)) (hT : ¬ ((wl (fun i => μ.2.2 57 (μ.1 46 24 + i)) (μ.1 46 25) 0) = 126 ∧ (wl (fun i => μ.2.2 57 (μ.1 46 24 + i)) (μ.1 46 25) 1) = 35 ∧ 2 < (μ.1 46 25))) : w_P sc fr lo 124 7 4 false ((some FieldType.boolean)) prog_9_method_31_code 117 [some (.ref 46), some (.int (ji p)), some (.int (ji key)), some (.int (ji c))] [] (hp μ, ρ) (fun o t' => ∃ μ' : Mem, o = .inl (some (.int (ji 1))) ∧ mmP μ μ' (fun i => μ.2.2 57 (μ.1 46 24 + i)) (μ.1 46 25) (μ.1 46 24) p n ∧ t' = (hp μ', ρ)) := by
  refine w_ld d_124_117 rfl rfl rfl ?_
  refine w_gI d_124_118 (by rfl) (by first | rfl | assumption) (by rfl) (by first | exact hd.1 | exact hmo | rfl) ?_
  refine w_if_le (g := 145) d_124_121 (by decide) (by omega) (fun h121 => ?_) (fun h121 => ?_)
  · exact absurd h121 (by omega)
  · refine w_ld d_124_124 rfl rfl rfl ?_
    refine w_getF d_124_125 (by rfl) (by first | rfl | assumption) (by rfl) (by rfl) ?_
    refine w_ld d_124_128 rfl rfl rfl ?_
    refine w_gI d_124_129 (by rfl) (by first | rfl | assumption) (by rfl) (by first | exact hd.1 | exact hmo | rfl) ?_
    refine w_aI d_124_132 (by first | rfl | assumption) (by omega) (by first | exact hd.1 | exact hmo | rfl) ?_
    refine w_if_ne (g := 145) d_124_133 (by decide) (by decide) (fun h133 => ?_) (fun h133 => ?_)
    · exact absurd rfl h133
    · refine w_ld d_124_136 rfl rfl rfl ?_
      refine w_cV1 (a := 46) (as := []) (rest := _) rfl d_124_137 (by rfl) (by rfl) (by first | rfl | assumption) (by rfl) (by rfl) (Nat.le_of_ble_eq_true rfl) (by omega) (by omega) (m_marks0 (by omega) hw hd (by omega) (by omega) hv hA hT) ?_
      refine w_if_eq (g := 145) d_124_140 (by decide) (by decide) (fun h140 => ?_) (fun h140 => ?_)
      · refine w_ld d_124_145 rfl rfl rfl ?_
        refine w_ld d_124_146 rfl rfl rfl ?_
        refine w_cVm (a := 46) (as := [_]) (rest := _) rfl d_124_147 (by rfl) (by rfl) (by first | rfl | assumption) (by rfl) (by rfl) (Nat.le_of_ble_eq_true rfl) (by omega) (by omega) (m_meaning hM hn hr hw h16 hpl hq (by omega) (by omega)) (fun μ' hm => ?_)
        refine w_con d_124_150 ?_
        refine w_zret d_124_151 rfl (by decide) ?_
        exact ⟨μ', rfl, hm, rfl⟩
      · exact absurd rfl h140
theorem m_strFM {sc : Nat × (Nat → Int32)} {fr lo : Nat} {μ : Mem} {ρ : Nat × Nat × Nat} {p key c : Int} (hM : MI μ) {n : Int} (hn : μ.1 46 17 = n ∧ 0 ≤ n ∧ n ≤ 125) (hr : 480 ≤ μ.1 46 24 ∧ 0 ≤ μ.1 46 25 ∧ μ.1 46 24 + μ.1 46 25 ≤ 718 ∧ μ.1 46 25 ≤ 238) (hw : ∀ i, 0 ≤ i → i < μ.1 46 25 → 32 ≤ μ.2.2 57 (μ.1 46 24 + i) ∧ μ.2.2 57 (μ.1 46 24 + i) ≤ 126) (h16 : μ.1 46 16 = -1) (hpl : 0 ≤ μ.1 46 15 ∧ μ.1 46 15 ≤ 900) (hq : 0 ≤ p ∧ p ≤ 900) (hf : 14 ≤ fr) (hl : 600 ≤ lo) {d : Int} (hd : μ.1 46 19 = d ∧ 0 < d ∧ d ≤ 8) (hmo : μ.2.2 59 d = 0) {v : Int} (hv : μ.2.2 58 d = v ∧ 0 ≤ v ∧ v < 384) (hA : ((μ.1 46 25) = 2 ∧ (wl (fun i => μ.2.2 57 (μ.1 46 24 + i)) (μ.1 46 25) 0) = 94 ∧ (wl (fun i => μ.2.2 57 (μ.1 46 24 + i)) (μ.1 46 25) 1) = 32)) : w_P sc fr lo 124 7 4 false ((some FieldType.boolean)) prog_9_method_31_code 117 [some (.ref 46), some (.int (ji p)), some (.int (ji key)), some (.int (ji c))] [] (hp μ, ρ) (fun o t' => o = .inl (some (.int (ji 0))) ∧ t' = (hp (stA (stA μ 59 d 2) 49 v 11), ρ)) := by
  refine w_ld d_124_117 rfl rfl rfl ?_
  refine w_gI d_124_118 (by rfl) (by first | rfl | assumption) (by rfl) (by first | exact hd.1 | exact hmo | rfl) ?_
  refine w_if_le (g := 145) d_124_121 (by decide) (by omega) (fun h121 => ?_) (fun h121 => ?_)
  · exact absurd h121 (by omega)
  · refine w_ld d_124_124 rfl rfl rfl ?_
    refine w_getF d_124_125 (by rfl) (by first | rfl | assumption) (by rfl) (by rfl) ?_
    refine w_ld d_124_128 rfl rfl rfl ?_
    refine w_gI d_124_129 (by rfl) (by first | rfl | assumption) (by rfl) (by first | exact hd.1 | exact hmo | rfl) ?_
    refine w_aI d_124_132 (by first | rfl | assumption) (by omega) (by first | exact hd.1 | exact hmo | rfl) ?_
    refine w_if_ne (g := 145) d_124_133 (by decide) (by decide) (fun h133 => ?_) (fun h133 => ?_)
    · exact absurd rfl h133
    · refine w_ld d_124_136 rfl rfl rfl ?_
      refine w_cV1 (a := 46) (as := []) (rest := _) rfl d_124_137 (by rfl) (by rfl) (by first | rfl | assumption) (by rfl) (by rfl) (Nat.le_of_ble_eq_true rfl) (by omega) (by omega) (m_marksM (by omega) hw hd (by omega) (by omega) hv hA) ?_
      refine w_if_eq (g := 145) d_124_140 (by decide) (by decide) (fun h140 => ?_) (fun h140 => ?_)
      · exact absurd h140 (by decide)
      · refine w_con d_124_143 ?_
        refine w_zret d_124_144 rfl (by decide) ?_
        exact ⟨rfl, rfl⟩
theorem m_strFT1 {sc : Nat × (Nat → Int32)} {fr lo : Nat} {μ : Mem} {ρ : Nat × Nat × Nat} {p key c : Int} (hM : MI μ) {n : Int} (hn : μ.1 46 17 = n ∧ 0 ≤ n ∧ n ≤ 125) (hr : 480 ≤ μ.1 46 24 ∧ 0 ≤ μ.1 46 25 ∧ μ.1 46 24 + μ.1 46 25 ≤ 718 ∧ μ.1 46 25 ≤ 238) (hw : ∀ i, 0 ≤ i → i < μ.1 46 25 → 32 ≤ μ.2.2 57 (μ.1 46 24 + i) ∧ μ.2.2 57 (μ.1 46 24 + i) ≤ 126) (h16 : μ.1 46 16 = -1) (hpl : 0 ≤ μ.1 46 15 ∧ μ.1 46 15 ≤ 900) (hq : 0 ≤ p ∧ p ≤ 900) (hf : 14 ≤ fr) (hl : 600 ≤ lo) {d : Int} (hd : μ.1 46 19 = d ∧ 0 < d ∧ d ≤ 8) (hmo : μ.2.2 59 d = 0) {v : Int} (hv : μ.2.2 58 d = v ∧ 0 ≤ v ∧ v < 384) (hT : ((wl (fun i => μ.2.2 57 (μ.1 46 24 + i)) (μ.1 46 25) 0) = 126 ∧ (wl (fun i => μ.2.2 57 (μ.1 46 24 + i)) (μ.1 46 25) 1) = 35 ∧ 2 < (μ.1 46 25)))  (g1 : (tgk (fun i => μ.2.2 57 (μ.1 46 24 + i)) (μ.1 46 25) 1)) : w_P sc fr lo 124 7 4 false ((some FieldType.boolean)) prog_9_method_31_code 117 [some (.ref 46), some (.int (ji p)), some (.int (ji key)), some (.int (ji c))] [] (hp μ, ρ) (fun o t' => o = .inl (some (.int (ji 0))) ∧ t' = (hp (stI (stA μ 59 d 3) 46 17 (μ.1 46 17 - 1)), ρ)) := by
  refine w_ld d_124_117 rfl rfl rfl ?_
  refine w_gI d_124_118 (by rfl) (by first | rfl | assumption) (by rfl) (by first | exact hd.1 | exact hmo | rfl) ?_
  refine w_if_le (g := 145) d_124_121 (by decide) (by omega) (fun h121 => ?_) (fun h121 => ?_)
  · exact absurd h121 (by omega)
  · refine w_ld d_124_124 rfl rfl rfl ?_
    refine w_getF d_124_125 (by rfl) (by first | rfl | assumption) (by rfl) (by rfl) ?_
    refine w_ld d_124_128 rfl rfl rfl ?_
    refine w_gI d_124_129 (by rfl) (by first | rfl | assumption) (by rfl) (by first | exact hd.1 | exact hmo | rfl) ?_
    refine w_aI d_124_132 (by first | rfl | assumption) (by omega) (by first | exact hd.1 | exact hmo | rfl) ?_
    refine w_if_ne (g := 145) d_124_133 (by decide) (by decide) (fun h133 => ?_) (fun h133 => ?_)
    · exact absurd rfl h133
    · refine w_ld d_124_136 rfl rfl rfl ?_
      refine w_cV1 (a := 46) (as := []) (rest := _) rfl d_124_137 (by rfl) (by rfl) (by first | rfl | assumption) (by rfl) (by rfl) (Nat.le_of_ble_eq_true rfl) (by omega) (by omega) (m_marksT1 (by omega) hw hd (by omega) (by omega) hv hT g1) ?_
      refine w_if_eq (g := 145) d_124_140 (by decide) (by decide) (fun h140 => ?_) (fun h140 => ?_)
      · exact absurd h140 (by decide)
      · refine w_con d_124_143 ?_
        refine w_zret d_124_144 rfl (by decide) ?_
        exact ⟨rfl, rfl⟩
theorem m_strFT2 {sc : Nat × (Nat → Int32)} {fr lo : Nat} {μ : Mem} {ρ : Nat × Nat × Nat} {p key c : Int} (hM : MI μ) {n : Int} (hn : μ.1 46 17 = n ∧ 0 ≤ n ∧ n ≤ 125) (hr : 480 ≤ μ.1 46 24 ∧ 0 ≤ μ.1 46 25 ∧ μ.1 46 24 + μ.1 46 25 ≤ 718 ∧ μ.1 46 25 ≤ 238) (hw : ∀ i, 0 ≤ i → i < μ.1 46 25 → 32 ≤ μ.2.2 57 (μ.1 46 24 + i) ∧ μ.2.2 57 (μ.1 46 24 + i) ≤ 126) (h16 : μ.1 46 16 = -1) (hpl : 0 ≤ μ.1 46 15 ∧ μ.1 46 15 ≤ 900) (hq : 0 ≤ p ∧ p ≤ 900) (hf : 14 ≤ fr) (hl : 600 ≤ lo) {d : Int} (hd : μ.1 46 19 = d ∧ 0 < d ∧ d ≤ 8) (hmo : μ.2.2 59 d = 0) {v : Int} (hv : μ.2.2 58 d = v ∧ 0 ≤ v ∧ v < 384) (hT : ((wl (fun i => μ.2.2 57 (μ.1 46 24 + i)) (μ.1 46 25) 0) = 126 ∧ (wl (fun i => μ.2.2 57 (μ.1 46 24 + i)) (μ.1 46 25) 1) = 35 ∧ 2 < (μ.1 46 25))) (g1 : ¬ (tgk (fun i => μ.2.2 57 (μ.1 46 24 + i)) (μ.1 46 25) 1)) (g2 : (tgk (fun i => μ.2.2 57 (μ.1 46 24 + i)) (μ.1 46 25) 2)) : w_P sc fr lo 124 7 4 false ((some FieldType.boolean)) prog_9_method_31_code 117 [some (.ref 46), some (.int (ji p)), some (.int (ji key)), some (.int (ji c))] [] (hp μ, ρ) (fun o t' => o = .inl (some (.int (ji 0))) ∧ t' = (hp (stI (stA μ 59 d 4) 46 17 (μ.1 46 17 - 1)), ρ)) := by
  refine w_ld d_124_117 rfl rfl rfl ?_
  refine w_gI d_124_118 (by rfl) (by first | rfl | assumption) (by rfl) (by first | exact hd.1 | exact hmo | rfl) ?_
  refine w_if_le (g := 145) d_124_121 (by decide) (by omega) (fun h121 => ?_) (fun h121 => ?_)
  · exact absurd h121 (by omega)
  · refine w_ld d_124_124 rfl rfl rfl ?_
    refine w_getF d_124_125 (by rfl) (by first | rfl | assumption) (by rfl) (by rfl) ?_
    refine w_ld d_124_128 rfl rfl rfl ?_
    refine w_gI d_124_129 (by rfl) (by first | rfl | assumption) (by rfl) (by first | exact hd.1 | exact hmo | rfl) ?_
    refine w_aI d_124_132 (by first | rfl | assumption) (by omega) (by first | exact hd.1 | exact hmo | rfl) ?_
    refine w_if_ne (g := 145) d_124_133 (by decide) (by decide) (fun h133 => ?_) (fun h133 => ?_)
    · exact absurd rfl h133
    · refine w_ld d_124_136 rfl rfl rfl ?_
      refine w_cV1 (a := 46) (as := []) (rest := _) rfl d_124_137 (by rfl) (by rfl) (by first | rfl | assumption) (by rfl) (by rfl) (Nat.le_of_ble_eq_true rfl) (by omega) (by omega) (m_marksT2 (by omega) hw hd (by omega) (by omega) hv hT g1 g2) ?_
      refine w_if_eq (g := 145) d_124_140 (by decide) (by decide) (fun h140 => ?_) (fun h140 => ?_)
      · exact absurd h140 (by decide)
      · refine w_con d_124_143 ?_
        refine w_zret d_124_144 rfl (by decide) ?_
        exact ⟨rfl, rfl⟩
theorem m_strFT3 {sc : Nat × (Nat → Int32)} {fr lo : Nat} {μ : Mem} {ρ : Nat × Nat × Nat} {p key c : Int} (hM : MI μ) {n : Int} (hn : μ.1 46 17 = n ∧ 0 ≤ n ∧ n ≤ 125) (hr : 480 ≤ μ.1 46 24 ∧ 0 ≤ μ.1 46 25 ∧ μ.1 46 24 + μ.1 46 25 ≤ 718 ∧ μ.1 46 25 ≤ 238) (hw : ∀ i, 0 ≤ i → i < μ.1 46 25 → 32 ≤ μ.2.2 57 (μ.1 46 24 + i) ∧ μ.2.2 57 (μ.1 46 24 + i) ≤ 126) (h16 : μ.1 46 16 = -1) (hpl : 0 ≤ μ.1 46 15 ∧ μ.1 46 15 ≤ 900) (hq : 0 ≤ p ∧ p ≤ 900) (hf : 14 ≤ fr) (hl : 600 ≤ lo) {d : Int} (hd : μ.1 46 19 = d ∧ 0 < d ∧ d ≤ 8) (hmo : μ.2.2 59 d = 0) {v : Int} (hv : μ.2.2 58 d = v ∧ 0 ≤ v ∧ v < 384) (hT : ((wl (fun i => μ.2.2 57 (μ.1 46 24 + i)) (μ.1 46 25) 0) = 126 ∧ (wl (fun i => μ.2.2 57 (μ.1 46 24 + i)) (μ.1 46 25) 1) = 35 ∧ 2 < (μ.1 46 25))) (g1 : ¬ (tgk (fun i => μ.2.2 57 (μ.1 46 24 + i)) (μ.1 46 25) 1)) (g2 : ¬ (tgk (fun i => μ.2.2 57 (μ.1 46 24 + i)) (μ.1 46 25) 2)) (g3 : (tgk (fun i => μ.2.2 57 (μ.1 46 24 + i)) (μ.1 46 25) 3)) : w_P sc fr lo 124 7 4 false ((some FieldType.boolean)) prog_9_method_31_code 117 [some (.ref 46), some (.int (ji p)), some (.int (ji key)), some (.int (ji c))] [] (hp μ, ρ) (fun o t' => o = .inl (some (.int (ji 0))) ∧ t' = (hp (stI (stA μ 59 d 5) 46 17 (μ.1 46 17 - 1)), ρ)) := by
  refine w_ld d_124_117 rfl rfl rfl ?_
  refine w_gI d_124_118 (by rfl) (by first | rfl | assumption) (by rfl) (by first | exact hd.1 | exact hmo | rfl) ?_
  refine w_if_le (g := 145) d_124_121 (by decide) (by omega) (fun h121 => ?_) (fun h121 => ?_)
  · exact absurd h121 (by omega)
  · refine w_ld d_124_124 rfl rfl rfl ?_
    refine w_getF d_124_125 (by rfl) (by first | rfl | assumption) (by rfl) (by rfl) ?_
    refine w_ld d_124_128 rfl rfl rfl ?_
    refine w_gI d_124_129 (by rfl) (by first | rfl | assumption) (by rfl) (by first | exact hd.1 | exact hmo | rfl) ?_
    refine w_aI d_124_132 (by first | rfl | assumption) (by omega) (by first | exact hd.1 | exact hmo | rfl) ?_
    refine w_if_ne (g := 145) d_124_133 (by decide) (by decide) (fun h133 => ?_) (fun h133 => ?_)
    · exact absurd rfl h133
    · refine w_ld d_124_136 rfl rfl rfl ?_
      refine w_cV1 (a := 46) (as := []) (rest := _) rfl d_124_137 (by rfl) (by rfl) (by first | rfl | assumption) (by rfl) (by rfl) (Nat.le_of_ble_eq_true rfl) (by omega) (by omega) (m_marksT3 (by omega) hw hd (by omega) (by omega) hv hT g1 g2 g3) ?_
      refine w_if_eq (g := 145) d_124_140 (by decide) (by decide) (fun h140 => ?_) (fun h140 => ?_)
      · exact absurd h140 (by decide)
      · refine w_con d_124_143 ?_
        refine w_zret d_124_144 rfl (by decide) ?_
        exact ⟨rfl, rfl⟩
theorem m_strFT4 {sc : Nat × (Nat → Int32)} {fr lo : Nat} {μ : Mem} {ρ : Nat × Nat × Nat} {p key c : Int} (hM : MI μ) {n : Int} (hn : μ.1 46 17 = n ∧ 0 ≤ n ∧ n ≤ 125) (hr : 480 ≤ μ.1 46 24 ∧ 0 ≤ μ.1 46 25 ∧ μ.1 46 24 + μ.1 46 25 ≤ 718 ∧ μ.1 46 25 ≤ 238) (hw : ∀ i, 0 ≤ i → i < μ.1 46 25 → 32 ≤ μ.2.2 57 (μ.1 46 24 + i) ∧ μ.2.2 57 (μ.1 46 24 + i) ≤ 126) (h16 : μ.1 46 16 = -1) (hpl : 0 ≤ μ.1 46 15 ∧ μ.1 46 15 ≤ 900) (hq : 0 ≤ p ∧ p ≤ 900) (hf : 14 ≤ fr) (hl : 600 ≤ lo) {d : Int} (hd : μ.1 46 19 = d ∧ 0 < d ∧ d ≤ 8) (hmo : μ.2.2 59 d = 0) {v : Int} (hv : μ.2.2 58 d = v ∧ 0 ≤ v ∧ v < 384) (hT : ((wl (fun i => μ.2.2 57 (μ.1 46 24 + i)) (μ.1 46 25) 0) = 126 ∧ (wl (fun i => μ.2.2 57 (μ.1 46 24 + i)) (μ.1 46 25) 1) = 35 ∧ 2 < (μ.1 46 25))) (g1 : ¬ (tgk (fun i => μ.2.2 57 (μ.1 46 24 + i)) (μ.1 46 25) 1)) (g2 : ¬ (tgk (fun i => μ.2.2 57 (μ.1 46 24 + i)) (μ.1 46 25) 2)) (g3 : ¬ (tgk (fun i => μ.2.2 57 (μ.1 46 24 + i)) (μ.1 46 25) 3)) (g4 : (tgk (fun i => μ.2.2 57 (μ.1 46 24 + i)) (μ.1 46 25) 4)) : w_P sc fr lo 124 7 4 false ((some FieldType.boolean)) prog_9_method_31_code 117 [some (.ref 46), some (.int (ji p)), some (.int (ji key)), some (.int (ji c))] [] (hp μ, ρ) (fun o t' => o = .inl (some (.int (ji 0))) ∧ t' = (hp (stI (stA μ 59 d 6) 46 17 (μ.1 46 17 - 1)), ρ)) := by
  refine w_ld d_124_117 rfl rfl rfl ?_
  refine w_gI d_124_118 (by rfl) (by first | rfl | assumption) (by rfl) (by first | exact hd.1 | exact hmo | rfl) ?_
  refine w_if_le (g := 145) d_124_121 (by decide) (by omega) (fun h121 => ?_) (fun h121 => ?_)
  · exact absurd h121 (by omega)
  · refine w_ld d_124_124 rfl rfl rfl ?_
    refine w_getF d_124_125 (by rfl) (by first | rfl | assumption) (by rfl) (by rfl) ?_
    refine w_ld d_124_128 rfl rfl rfl ?_
    refine w_gI d_124_129 (by rfl) (by first | rfl | assumption) (by rfl) (by first | exact hd.1 | exact hmo | rfl) ?_
    refine w_aI d_124_132 (by first | rfl | assumption) (by omega) (by first | exact hd.1 | exact hmo | rfl) ?_
    refine w_if_ne (g := 145) d_124_133 (by decide) (by decide) (fun h133 => ?_) (fun h133 => ?_)
    · exact absurd rfl h133
    · refine w_ld d_124_136 rfl rfl rfl ?_
      refine w_cV1 (a := 46) (as := []) (rest := _) rfl d_124_137 (by rfl) (by rfl) (by first | rfl | assumption) (by rfl) (by rfl) (Nat.le_of_ble_eq_true rfl) (by omega) (by omega) (m_marksT4 (by omega) hw hd (by omega) (by omega) hv hT g1 g2 g3 g4) ?_
      refine w_if_eq (g := 145) d_124_140 (by decide) (by decide) (fun h140 => ?_) (fun h140 => ?_)
      · exact absurd h140 (by decide)
      · refine w_con d_124_143 ?_
        refine w_zret d_124_144 rfl (by decide) ?_
        exact ⟨rfl, rfl⟩
theorem m_strFT5 {sc : Nat × (Nat → Int32)} {fr lo : Nat} {μ : Mem} {ρ : Nat × Nat × Nat} {p key c : Int} (hM : MI μ) {n : Int} (hn : μ.1 46 17 = n ∧ 0 ≤ n ∧ n ≤ 125) (hr : 480 ≤ μ.1 46 24 ∧ 0 ≤ μ.1 46 25 ∧ μ.1 46 24 + μ.1 46 25 ≤ 718 ∧ μ.1 46 25 ≤ 238) (hw : ∀ i, 0 ≤ i → i < μ.1 46 25 → 32 ≤ μ.2.2 57 (μ.1 46 24 + i) ∧ μ.2.2 57 (μ.1 46 24 + i) ≤ 126) (h16 : μ.1 46 16 = -1) (hpl : 0 ≤ μ.1 46 15 ∧ μ.1 46 15 ≤ 900) (hq : 0 ≤ p ∧ p ≤ 900) (hf : 14 ≤ fr) (hl : 600 ≤ lo) {d : Int} (hd : μ.1 46 19 = d ∧ 0 < d ∧ d ≤ 8) (hmo : μ.2.2 59 d = 0) {v : Int} (hv : μ.2.2 58 d = v ∧ 0 ≤ v ∧ v < 384) (hT : ((wl (fun i => μ.2.2 57 (μ.1 46 24 + i)) (μ.1 46 25) 0) = 126 ∧ (wl (fun i => μ.2.2 57 (μ.1 46 24 + i)) (μ.1 46 25) 1) = 35 ∧ 2 < (μ.1 46 25))) (g1 : ¬ (tgk (fun i => μ.2.2 57 (μ.1 46 24 + i)) (μ.1 46 25) 1)) (g2 : ¬ (tgk (fun i => μ.2.2 57 (μ.1 46 24 + i)) (μ.1 46 25) 2)) (g3 : ¬ (tgk (fun i => μ.2.2 57 (μ.1 46 24 + i)) (μ.1 46 25) 3)) (g4 : ¬ (tgk (fun i => μ.2.2 57 (μ.1 46 24 + i)) (μ.1 46 25) 4)) : w_P sc fr lo 124 7 4 false ((some FieldType.boolean)) prog_9_method_31_code 117 [some (.ref 46), some (.int (ji p)), some (.int (ji key)), some (.int (ji c))] [] (hp μ, ρ) (fun o t' => o = .inl (some (.int (ji 0))) ∧ t' = (hp (stA (stA (stA (stA μ 59 d 7) 49 v 12) 51 v (μ.1 46 24 + 2)) 52 v (μ.1 46 25 - 2)), ρ)) := by
  refine w_ld d_124_117 rfl rfl rfl ?_
  refine w_gI d_124_118 (by rfl) (by first | rfl | assumption) (by rfl) (by first | exact hd.1 | exact hmo | rfl) ?_
  refine w_if_le (g := 145) d_124_121 (by decide) (by omega) (fun h121 => ?_) (fun h121 => ?_)
  · exact absurd h121 (by omega)
  · refine w_ld d_124_124 rfl rfl rfl ?_
    refine w_getF d_124_125 (by rfl) (by first | rfl | assumption) (by rfl) (by rfl) ?_
    refine w_ld d_124_128 rfl rfl rfl ?_
    refine w_gI d_124_129 (by rfl) (by first | rfl | assumption) (by rfl) (by first | exact hd.1 | exact hmo | rfl) ?_
    refine w_aI d_124_132 (by first | rfl | assumption) (by omega) (by first | exact hd.1 | exact hmo | rfl) ?_
    refine w_if_ne (g := 145) d_124_133 (by decide) (by decide) (fun h133 => ?_) (fun h133 => ?_)
    · exact absurd rfl h133
    · refine w_ld d_124_136 rfl rfl rfl ?_
      refine w_cV1 (a := 46) (as := []) (rest := _) rfl d_124_137 (by rfl) (by rfl) (by first | rfl | assumption) (by rfl) (by rfl) (Nat.le_of_ble_eq_true rfl) (by omega) (by omega) (m_marksT5 (by omega) hw hd (by omega) (by omega) hv hT g1 g2 g3 g4) ?_
      refine w_if_eq (g := 145) d_124_140 (by decide) (by decide) (fun h140 => ?_) (fun h140 => ?_)
      · exact absurd h140 (by decide)
      · refine w_con d_124_143 ?_
        refine w_zret d_124_144 rfl (by decide) ?_
        exact ⟨rfl, rfl⟩
