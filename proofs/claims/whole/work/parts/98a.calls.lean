/-! THE PURE PART, 80: contracts: arrays in the class -/
theorem t_fur_l {sc : Nat × (Nat → Int32)} {fr lo : Nat} {ρ : Nat × Nat × Nat} {t x : Nat} (hT : isT t) (hX : x = 42 ∨ x = 44) {d key top : Int} {e : Nat} {μ0 : Mem} (h0 : μ0.1 t 7 = top) (hd : 0 ≤ d ∧ d ≤ 7) (he : e ≤ 9) (hG : GL μ0) {fe le : Nat} (hE : ElC sc t x (d + 1) e fe le) (hf : fe + 40 ≤ fr) (hl : le + 1200 ≤ lo) (hr : 1 ≤ ρ.2.1 ∧ 6 ≤ ρ.2.2) : ∀ (m : Nat) (j : Nat) (μ : Mem), (240 - (j : Int)).toNat = m → AL sc t x d key e top 8 1 j μ0 μ → w_P sc fr lo 36 5 4 false (none) prog_5_method_24_code 2 [some (.ref 20), some (.int (ji top)), some (.int (ji d)), some (.int (ji (j : Int)))] [] (hp (μ), ρ) (EP sc t x d key (e + 1) μ0 ρ) := by
  intro m
  induction m using Nat.strongRecOn with
  | ind m ih =>
    intro j μ hm hA
    obtain ⟨hT0, hT1, hT2, hT3, hT4, hT5, hT6, hT7, hT8⟩ := hT.sh
    have hT9 : t = 2 ∨ t = 11 ∨ t = 26 := hT
    have hC := hA.1
    have hA5 := hA.2.2.1.2.2.2.2.1
    have hA1 := hA.2.2.1.1
    have hcp := cpl_in hC
    have hsz := hC.2.1
    have hpl := hC.2.2.2.2.1
    have hn := hA.2.2.2.1
    have ht : ∀ p, (stI μ 20 5 p).2.1 20 4 = .ref t := fun _ => hC.1.2
    refine w_ld d_36_2 rfl rfl rfl ?_
    refine w_sip d_36_3 (by decide) ?_
    refine w_icmp_ge (g := 30) d_36_6 (by decide) (by omega) (fun h6 => ?_) (fun h6 => ?_)
    · exact absurd h6 (by omega)
    · refine w_ld d_36_9 rfl rfl rfl ?_
      refine w_cVq (as := []) (rest := _) rfl d_36_10 (by rfl) (by rfl) (by first | rfl | assumption) (by rfl) (by rfl) (Nat.le_of_ble_eq_true rfl) (by omega) (by omega) (t_pass hX hC (by omega) (by omega) hr) ?_ ?_
      rotate_left
      · rintro r τ (⟨r0, hv, _⟩ | ⟨hv, hc1, hc2, rfl⟩)
        · cases hv
        · obtain rfl := Sum.inr.inj hv
          exact EP_bad (AL_sepX hT hX hA hd (by decide) (Or.inl ⟨hc1, hc2⟩))
      rintro v τ (⟨r, hv, hr0, rfl⟩ | ⟨hv, _⟩)
      rotate_left
      · cases hv
      obtain rfl := Sum.inl.inj hv
      refine w_if_eq (g := 30) d_36_13 (by decide) (by omega) (fun h13 => ?_) (fun h13 => ?_)
      · refine w_ld d_36_30 rfl rfl rfl ?_
        refine w_getR d_36_31 (by rfl) (by first | rfl | assumption) (by rfl) (ht _) ?_
        refine w_ld d_36_34 rfl rfl rfl ?_
        refine w_bip d_36_35 (by decide) ?_
        refine w_ld d_36_37 rfl rfl rfl ?_
        refine w_cV0 (as := [_, _, _]) (rest := _) rfl d_36_38 (by rfl) (by rfl) (by first | rfl | assumption) (by rfl) (by rfl) (Nat.le_of_ble_eq_true rfl) (by omega) (by omega) (t_close hT (by omega)) ?_
        refine w_ret d_36_41 rfl ?_
        exact EP_ok (AL_close hT hX hA h0 hd he (Or.inl ⟨rfl, rfl⟩) (by omega))
      · have hcc : cch x μ = 44 := by omega
        have hlt := cch_lt hcc (by decide)
        have hCp := CI_mv hT hX hC (p := cpl x μ + 1) (by omega) (by omega)
        have e7 : (stI μ 20 5 (cpl x μ + 1)).1 t 7 = μ.1 t 7 := stI_ne (by omega)
        have hGp : GL (stI μ 20 5 (cpl x μ + 1)) := GL_of hT hG (cfr_trans hA.2.1.1 (cfr_I (Or.inl rfl))) hCp
        refine w_ld d_36_16 rfl rfl rfl ?_
        refine w_con d_36_17 ?_
        refine w_ld d_36_18 rfl rfl rfl ?_
        refine w_con d_36_19 ?_
        refine w_iadd d_36_20 ?_
        refine w_cVq (as := [_, _]) (rest := _) rfl d_36_21 (by rfl) (by rfl) (by first | rfl | assumption) (by rfl) (by rfl) (Nat.le_of_ble_eq_true rfl) (by omega) (by omega) (hE _ _ _ ρ 0 (by omega) (by omega) hCp hGp (by decide) (by rw [e7, stI_at]; omega) hr) ?_ ?_
        rotate_left
        · rintro r τ (⟨hv, _⟩ | ⟨hv, μ9, w9, rfl, hb9⟩)
          · cases hv
          · obtain rfl := Sum.inr.inj hv
            exact EP_bad (AL_elemX hT hX hA hd (by decide) (Or.inl (by decide)) (Or.inr ⟨rfl, by omega⟩) hcc hb9)
        rintro v τ (⟨hv, μ2, rfl, hg2⟩ | ⟨hv, _⟩)
        rotate_left
        · cases hv
        obtain rfl := Sum.inl.inj hv
        refine w_inc (L' := [_, _, _, _]) d_36_24 rfl (by decide) rfl ?_
        refine w_goto (g := 2) d_36_27 (by decide) ?_
        exact ih _ (by omega) (j + 1) μ2 rfl (AL_elem hT hX hA hd (by decide) (Or.inl (by decide)) (Or.inr ⟨rfl, by omega⟩) hcc hg2)
theorem t_further {sc : Nat × (Nat → Int32)} {fr lo : Nat} {μ : Mem} {ρ : Nat × Nat × Nat} {t x : Nat} (hT : isT t) (hX : x = 42 ∨ x = 44) {d key top : Int} {e : Nat} {μ0 : Mem} (h0 : μ0.1 t 7 = top) (hd : 0 ≤ d ∧ d ≤ 7) (he : e ≤ 9) (hG : GL μ0) {fe le : Nat} (hE : ElC sc t x (d + 1) e fe le) (hf : fe + 40 ≤ fr) (hl : le + 1200 ≤ lo) (hr : 1 ≤ ρ.2.1 ∧ 6 ≤ ρ.2.2) (hA : AL sc t x d key e top 8 1 1 μ0 μ) : w_S sc fr lo 36 [.ref 20, .int (ji top), .int (ji d)] (hp μ, ρ) (EP sc t x d key (e + 1) μ0 ρ) := by
  refine w_S.of (L0 := [some (.ref 20), some (.int (ji top)), some (.int (ji d)), none]) rfl rfl (Nat.le_of_ble_eq_true rfl) (by rfl) ?_
  refine w_con d_36_0 ?_
  refine w_st1 (L' := [_, _, _, _]) d_36_1 rfl (by decide) rfl (by decide) rfl ?_
  exact t_fur_l hT hX h0 hd he hG hE hf hl hr _ 1 μ rfl hA
theorem t_map_l {sc : Nat × (Nat → Int32)} {fr lo : Nat} {ρ : Nat × Nat × Nat} {t x : Nat} (hT : isT t) (hX : x = 42 ∨ x = 44) {d key top : Int} {e : Nat} {μ0 : Mem} (h0 : μ0.1 t 7 = top) (hd : 0 ≤ d ∧ d ≤ 7) (he : e ≤ 9) (hG : GL μ0) {fe le : Nat} (hE : ElC sc t x (d + 1) e fe le) (hf : fe + 40 ≤ fr) (hl : le + 1200 ≤ lo) (hr : 1 ≤ ρ.2.1 ∧ 6 ≤ ρ.2.2) : ∀ (m : Nat) (j : Nat) (μ : Mem), (240 - (j : Int)).toNat = m → (j : Int) % 2 = 0 → AL sc t x d key e top 11 2 j μ0 μ → w_P sc fr lo 50 5 4 false (none) prog_5_method_25_code 2 [some (.ref 20), some (.int (ji top)), some (.int (ji d)), some (.int (ji (j : Int)))] [] (hp (μ), ρ) (EP sc t x d key (e + 1) μ0 ρ) := by
  intro m
  induction m using Nat.strongRecOn with
  | ind m ih =>
    intro j μ hm hj2 hA
    obtain ⟨hT0, hT1, hT2, hT3, hT4, hT5, hT6, hT7, hT8⟩ := hT.sh
    have hT9 : t = 2 ∨ t = 11 ∨ t = 26 := hT
    have hC := hA.1
    have hA5 := hA.2.2.1.2.2.2.2.1
    have hA1 := hA.2.2.1.1
    have hcp := cpl_in hC
    have hsz := hC.2.1
    have hpl := hC.2.2.2.2.1
    have hn := hA.2.2.2.1
    have ht : ∀ p, (stI μ 20 5 p).2.1 20 4 = .ref t := fun _ => hC.1.2
    refine w_ld d_50_2 rfl rfl rfl ?_
    refine w_sip d_50_3 (by decide) ?_
    refine w_icmp_ge (g := 48) d_50_6 (by decide) (by omega) (fun h6 => ?_) (fun h6 => ?_)
    · exact absurd h6 (by omega)
    · refine w_ld d_50_9 rfl rfl rfl ?_
      refine w_cVq (as := []) (rest := _) rfl d_50_10 (by rfl) (by rfl) (by first | rfl | assumption) (by rfl) (by rfl) (Nat.le_of_ble_eq_true rfl) (by omega) (by omega) (t_pass hX hC (by omega) (by omega) hr) ?_ ?_
      rotate_left
      · rintro r τ (⟨r0, hv, _⟩ | ⟨hv, hc1, hc2, rfl⟩)
        · cases hv
        · obtain rfl := Sum.inr.inj hv
          exact EP_bad (AL_sepX hT hX hA hd (by decide) (Or.inl ⟨hc1, hc2⟩))
      rintro v τ (⟨r, hv, hr0, rfl⟩ | ⟨hv, _⟩)
      rotate_left
      · cases hv
      obtain rfl := Sum.inl.inj hv
      refine w_if_eq (g := 48) d_50_13 (by decide) (by omega) (fun h13 => ?_) (fun h13 => ?_)
      · obtain ⟨⟨hm1, hm2, hm3, hm4, hm5, hm6⟩, hM2, hM3⟩ := AL_closeM hT hX hA h0 hd he hj2 (by omega : cch x μ = 93)
        have htc : (cls (stI μ 20 5 (cpl x μ + 1)) t top 11 j).2.1 20 4 = .ref t := hC.1.2
        have hGc := GL_of hT hG hm4.1 hm3
        refine w_ld d_50_48 rfl rfl rfl ?_
        refine w_getR d_50_49 (by rfl) (by first | rfl | assumption) (by rfl) (ht _) ?_
        refine w_ld d_50_52 rfl rfl rfl ?_
        refine w_bip d_50_53 (by decide) ?_
        refine w_ld d_50_55 rfl rfl rfl ?_
        refine w_cV0 (as := [_, _, _]) (rest := _) rfl d_50_56 (by rfl) (by rfl) (by first | rfl | assumption) (by rfl) (by rfl) (Nat.le_of_ble_eq_true rfl) (by omega) (by omega) (t_close hT (by omega)) ?_
        refine w_ld d_50_59 rfl rfl rfl ?_
        refine w_ld d_50_60 rfl rfl rfl ?_
        refine w_cVq (as := [_]) (rest := _) rfl d_50_61 (by rfl) (by rfl) (by first | rfl | assumption) (by rfl) (by rfl) (Nat.le_of_ble_eq_true rfl) (by omega) (by omega) (t_twins2 hT htc hm1 (by omega) hm2 hGc hm5 (by rw [hm6]; exact hj2) (by omega) (by omega) hr) ?_ ?_
        rotate_left
        · rintro r τ (⟨hv, _⟩ | ⟨hv, k, hk1, hk2, hk3, rfl⟩)
          · cases hv
          · obtain rfl := Sum.inr.inj hv
            exact EP_bad (hM3 k hk1 hk2 hk3)
        rintro v τ (⟨hv, hno, rfl⟩ | ⟨hv, _⟩)
        rotate_left
        · cases hv
        obtain rfl := Sum.inl.inj hv
        refine w_ret d_50_64 rfl ?_
        exact EP_ok (hM2 hno)
      · have hcc : cch x μ = 44 := by omega
        have hlt := cch_lt hcc (by decide)
        have hCp := CI_mv hT hX hC (p := cpl x μ + 1) (by omega) (by omega)
        have e7 : (stI μ 20 5 (cpl x μ + 1)).1 t 7 = μ.1 t 7 := stI_ne (by omega)
        have hGp : GL (stI μ 20 5 (cpl x μ + 1)) := GL_of hT hG (cfr_trans hA.2.1.1 (cfr_I (Or.inl rfl))) hCp
        refine w_ld d_50_16 rfl rfl rfl ?_
        refine w_con d_50_17 ?_
        refine w_ld d_50_18 rfl rfl rfl ?_
        refine w_con d_50_19 ?_
        refine w_iadd d_50_20 ?_
        refine w_cVq (as := [_, _]) (rest := _) rfl d_50_21 (by rfl) (by rfl) (by first | rfl | assumption) (by rfl) (by rfl) (Nat.le_of_ble_eq_true rfl) (by omega) (by omega) (hE _ _ _ ρ 1 (by omega) (by omega) hCp hGp (by decide) (by rw [e7, stI_at]; omega) hr) ?_ ?_
        rotate_left
        · rintro r τ (⟨hv, _⟩ | ⟨hv, μ9, w9, rfl, hb9⟩)
          · cases hv
          · obtain rfl := Sum.inr.inj hv
            exact EP_bad (AL_elemX hT hX hA hd (by decide) (Or.inl (by decide)) (Or.inl ⟨rfl, rfl, hj2⟩) hcc hb9)
        rintro v τ (⟨hv, μ2, rfl, hg2⟩ | ⟨hv, _⟩)
        rotate_left
        · cases hv
        obtain rfl := Sum.inl.inj hv
        have hA2 := AL_elem hT hX hA hd (by decide) (Or.inl (by decide)) (Or.inl ⟨rfl, rfl, hj2⟩) hcc hg2
        have hC2 := hA2.1
        have hcp2 := cpl_in hC2
        have hsz2 := hC2.2.1
        have hpl2 := hC2.2.2.2.2.1
        have hn2 := hA2.2.2.2.1
        refine w_ld d_50_24 rfl rfl rfl ?_
        refine w_cV0 (as := []) (rest := _) rfl d_50_25 (by rfl) (by rfl) (by first | rfl | assumption) (by rfl) (by rfl) (Nat.le_of_ble_eq_true rfl) (by omega) (by omega) (t_skp hX hC2 (by omega) (by omega)) ?_
        refine w_ld d_50_28 rfl rfl rfl ?_
        refine w_bip d_50_29 (by decide) ?_
        refine w_cVq (as := [_]) (rest := _) rfl d_50_31 (by rfl) (by rfl) (by first | rfl | assumption) (by rfl) (by rfl) (Nat.le_of_ble_eq_true rfl) (by omega) (by omega) (t_expS hT hX hC2 (c := 44) (by decide) (by omega) (by omega) hr) ?_ ?_
        rotate_left
        · rintro r τ (⟨hv, _⟩ | ⟨hv, hc1, rfl⟩)
          · cases hv
          · obtain rfl := Sum.inr.inj hv
            exact EP_bad (AL_sepX hT hX hA2 hd (by decide) (by omega))
        rintro v τ (⟨hv, hcc2, rfl⟩ | ⟨hv, _⟩)
        rotate_left
        · cases hv
        obtain rfl := Sum.inl.inj hv
        have hlt2 := cch_lt hcc2 (by decide)
        have hCp2 := CI_mv hT hX hC2 (p := cpl x μ2 + 1) (by omega) (by omega)
        have e72 : (stI μ2 20 5 (cpl x μ2 + 1)).1 t 7 = μ2.1 t 7 := stI_ne (by omega)
        have hGp2 : GL (stI μ2 20 5 (cpl x μ2 + 1)) := GL_of hT hG (cfr_trans hA2.2.1.1 (cfr_I (Or.inl rfl))) hCp2
        refine w_ld d_50_34 rfl rfl rfl ?_
        refine w_con d_50_35 ?_
        refine w_ld d_50_36 rfl rfl rfl ?_
        refine w_con d_50_37 ?_
        refine w_iadd d_50_38 ?_
        refine w_cVq (as := [_, _]) (rest := _) rfl d_50_39 (by rfl) (by rfl) (by first | rfl | assumption) (by rfl) (by rfl) (Nat.le_of_ble_eq_true rfl) (by omega) (by omega) (hE _ _ _ ρ 0 (by omega) (by omega) hCp2 hGp2 (by decide) (by rw [e72, stI_at]; omega) hr) ?_ ?_
        rotate_left
        · rintro r τ (⟨hv, _⟩ | ⟨hv, μ9, w9, rfl, hb9⟩)
          · cases hv
          · obtain rfl := Sum.inr.inj hv
            exact EP_bad (AL_elemX hT hX hA2 hd (by decide) (Or.inl (by decide)) (Or.inr ⟨rfl, by omega⟩) hcc2 hb9)
        rintro v τ (⟨hv, μ3, rfl, hg3⟩ | ⟨hv, _⟩)
        rotate_left
        · cases hv
        obtain rfl := Sum.inl.inj hv
        have hA3 := AL_elem hT hX hA2 hd (by decide) (Or.inl (by decide)) (Or.inr ⟨rfl, by omega⟩) hcc2 hg3
        refine w_inc (L' := [_, _, _, _]) d_50_42 rfl (by decide) rfl ?_
        refine w_goto (g := 2) d_50_45 (by decide) ?_
        exact ih _ (by omega) (j + 1 + 1) μ3 rfl (by omega) hA3
theorem t_mapE {sc : Nat × (Nat → Int32)} {fr lo : Nat} {μ : Mem} {ρ : Nat × Nat × Nat} {t x : Nat} (hT : isT t) (hX : x = 42 ∨ x = 44) {d key top : Int} {e : Nat} {μ0 : Mem} (h0 : μ0.1 t 7 = top) (hd : 0 ≤ d ∧ d ≤ 7) (he : e ≤ 9) (hG : GL μ0) {fe le : Nat} (hE : ElC sc t x (d + 1) e fe le) (hf : fe + 40 ≤ fr) (hl : le + 1200 ≤ lo) (hr : 1 ≤ ρ.2.1 ∧ 6 ≤ ρ.2.2) (hA : AL sc t x d key e top 11 2 0 μ0 μ) : w_S sc fr lo 50 [.ref 20, .int (ji top), .int (ji d)] (hp μ, ρ) (EP sc t x d key (e + 1) μ0 ρ) := by
  refine w_S.of (L0 := [some (.ref 20), some (.int (ji top)), some (.int (ji d)), none]) rfl rfl (Nat.le_of_ble_eq_true rfl) (by rfl) ?_
  refine w_con d_50_0 ?_
  refine w_st1 (L' := [_, _, _, _]) d_50_1 rfl (by decide) rfl (by decide) rfl ?_
  exact t_map_l hT hX h0 hd he hG hE hf hl hr _ 0 μ rfl (by decide) hA
