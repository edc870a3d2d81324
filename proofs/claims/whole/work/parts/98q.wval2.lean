/-! THE PURE PART, 96: contracts: the class writes values, 2 -/
/-- a tag, then what is tagged -/
noncomputable def brk (d : Int) (tw : List Int) (N : List (List Int)) (r : Option (List Int × List (List Int))) : Option (List Int × List (List Int)) := if 8 ≤ d then none else match r with
  | none => none
  | some (l, N1) => some ([91] ++ (txt N tw 0 ++ ([44] ++ (l ++ [93]))), N1)
theorem brk_p {d : Int} {tw : List Int} {N : List (List Int)} {r : Option (List Int × List (List Int))} {L : List Int} {N' : List (List Int)} (z : brk d tw N r = some (L, N')) : ∃ lx, r = some (lx, N') ∧ L = [91] ++ (txt N tw 0 ++ ([44] ++ (lx ++ [93]))) := by
  unfold brk at z
  split at z
  · cases z
  · cases r with
    | none => cases z
    | some p =>
      obtain ⟨l, N1⟩ := p
      cases z
      exact ⟨l, rfl, rfl⟩
theorem brk_s {d : Int} {tw : List Int} {N : List (List Int)} {l : List Int} {N' : List (List Int)} (h : ¬ 8 ≤ d) : brk d tw N (some (l, N')) = some ([91] ++ (txt N tw 0 ++ ([44] ++ (l ++ [93]))), N') := if_neg h
theorem PV_res {t y : Nat} {μ : Mem} {ρ : Nat × Nat × Nat} {r s : Option (List Int × List (List Int))} {o : z_O} {τ : z_T} (e : r = s) (h : PV t y μ ρ r o τ) : PV t y μ ρ s o τ := e ▸ h
theorem t_tarO {sc : Nat × (Nat → Int32)} {fr lo : Nat} {μ : Mem} {ρ : Nat × Nat × Nat} {t y : Nat} (hT : isT t) (hY : y = 42 ∨ y = 44) {N : List (List Int)} (hW : WC t y N [] μ) (hTR : TR0 t μ) {f f0 l0 : Nat} (hE : VaC sc t y f f0 l0) {k d : Int} (hk : 0 ≤ k ∧ k < μ.1 t 7) (hko : okv (f + 1) (vT μ t) k) (hf : f0 + 90 ≤ fr) (hl : l0 + 1600 ≤ lo) (hr : 1 ≤ ρ.2.1 ∧ 6 ≤ ρ.2.2) (hd : 0 ≤ d ∧ d < 8) {kk : Nat} (hkk : kk < 22) : w_S sc fr lo 90 [.ref 35, .float (UInt32.ofNat kk), .int (ji k), .int (ji d)] (hp μ, ρ) (PV t y μ ρ (brk d (litL kk) N (arw (vT μ t) f (d + 1) k (nts N (litL kk) 0)))) := by
  obtain ⟨hT0, hT1, hT2, hT3, hT4, hT5, hT6, hT7, hT8⟩ := hT.sh
  have hT9 : t = 2 ∨ t = 11 ∨ t = 26 := hT
  have hw2 := hW.2.1
  have hw3 := hW.2.2.1
  have hl0 : ((([] : List Int).length : Nat) : Int) = 0 := rfl
  rw [hl0] at hw3
  refine w_S.of (L0 := [some (.ref 35), some (.float (UInt32.ofNat kk)), some (.int (ji k)), some (.int (ji d)), none]) rfl rfl (Nat.le_of_ble_eq_true rfl) (by rfl) ?_
  refine w_ld d_90_0 rfl rfl rfl ?_
  refine w_ld d_90_1 rfl rfl rfl ?_
  refine w_cVq (as := [_]) (rest := _) rfl d_90_2 (by rfl) (by rfl) (by first | rfl | assumption) (by rfl) (by rfl) (Nat.le_of_ble_eq_true rfl) (by omega) (by omega) (t_opO hT hY hW (d := d) hd (by omega) (by omega) hr) ?_ ?_
  rotate_left
  · intro r τ g
    refine PVx (WOK_refl hW) g (fun L N' z => ?_)
    obtain ⟨lx, hz, rfl⟩ := brk_p z
    refine ⟨txt N (litL kk) 0 ++ ([44] ++ (lx ++ [93])), ?_⟩
    simp
  rintro v τ (⟨hb1, hv, μ1, rfl, ho1⟩ | ⟨_, hv, _⟩)
  rotate_left
  · cases hv
  obtain rfl := Sum.inl.inj hv
  have hw31 := ho1.2.1.2.2.1
  rw [hl0] at hw31
  have hw21 := ho1.2.1.2.1
  have hdr1 := ho1.2.2.1
  have hdl1 : (([91] : List Int).length : Int) = 1 := rfl
  refine w_ld d_90_5 rfl rfl rfl ?_
  refine w_getF d_90_6 (by rfl) (by first | rfl | assumption) (by rfl) (by rfl) ?_
  refine w_gI d_90_9 (by rfl) (by first | rfl | assumption) (by rfl) rfl ?_
  refine w_st1 (L' := [_, _, _, _, _]) d_90_12 rfl (by decide) rfl (by decide) rfl ?_
  refine w_ld d_90_14 rfl rfl rfl ?_
  refine w_ld d_90_15 rfl rfl rfl ?_
  refine w_cVq (as := [_]) (rest := _) rfl d_90_16 (by rfl) (by rfl) (by first | rfl | assumption) (by rfl) (by rfl) (Nat.le_of_ble_eq_true rfl) (by omega) (by omega) (t_dwd (k := kk) (by omega) (by have := (slen_le (show kk < 22 by omega)).2; omega) (by omega) (by omega) hr) ?_ ?_
  rotate_left
  · rintro r τ ⟨hv9, _⟩
    cases hv9
  rintro vv1 τ1 ⟨hv1, μ2, rfl, hd2⟩
  obtain rfl := Sum.inl.inj hv1
  have h39 := hd2.2.2.1
  have hy2 : μ2.1 y 1 = μ1.1 y 1 := hd2.1 y 1 (by omega)
  have hkl := litL_len (show kk < 22 by omega)
  have hkl2 := (slen_le (show kk < 22 by omega)).2
  have ho2 := DW_WOK hT hY ho1.2.1 hd2 (by omega)
  rw [List.nil_append] at ho2
  refine w_ld d_90_19 rfl rfl rfl ?_
  refine w_ld d_90_20 rfl rfl rfl ?_
  refine w_con d_90_22 ?_
  refine w_cVq (a := 35) (as := [_, _]) (rest := _) rfl d_90_23 (by rfl) (by rfl) (by first | rfl | assumption) (by rfl) (by rfl) (Nat.le_of_ble_eq_true rfl) (by omega) (by omega) (by have e := t_pst (sc := sc) (fr := fr - 1) (lo := lo - (19 + 6)) (ρ := ρ) (key := 0) hT hY ho2.2.1 (by decide) (by omega) (by omega) (by omega) hr; rw [show μ2.1 39 1 - (((litL kk)).length : Int) = μ1.1 39 1 by omega] at e; exact e) ?_ ?_
  rotate_left
  · intro r τ g
    refine PVx (WOK_trans ho1 ho2) g (fun L N' z => ?_)
    obtain ⟨lx, hz, rfl⟩ := brk_p z
    refine ⟨[44] ++ (lx ++ [93]), ?_⟩
    simp
  rintro v τ (⟨hb3, hv, μ3, rfl, ho3⟩ | ⟨_, hv, _⟩)
  rotate_left
  · cases hv
  obtain rfl := Sum.inl.inj hv
  refine w_ld d_90_26 rfl rfl rfl ?_
  refine w_bip d_90_27 (by decide) ?_
  refine w_cVq (as := [_]) (rest := _) rfl d_90_29 (by rfl) (by rfl) (by first | rfl | assumption) (by rfl) (by rfl) (Nat.le_of_ble_eq_true rfl) (by omega) (by omega) (t_put hT hY ho3.2.1 (c := 44) (by decide) (by omega) (by omega) hr) ?_ ?_
  rotate_left
  · intro r τ g
    refine PVx (WOK_trans (WOK_trans ho1 ho2) ho3) g (fun L N' z => ?_)
    obtain ⟨lx, hz, rfl⟩ := brk_p z
    refine ⟨lx ++ [93], ?_⟩
    simp
  rintro v τ (⟨hb4, hv, μ4, rfl, ho4⟩ | ⟨_, hv, _⟩)
  rotate_left
  · cases hv
  obtain rfl := Sum.inl.inj hv
  have hA := WOK_trans (WOK_trans (WOK_trans ho1 ho2) ho3) ho4
  obtain ⟨ev, e7, eu, eA, eT⟩ := wfr_t hT hY hA.1
  refine w_ld d_90_32 rfl rfl rfl ?_
  refine w_ld d_90_33 rfl rfl rfl ?_
  refine w_ld d_90_34 rfl rfl rfl ?_
  refine w_con d_90_35 ?_
  refine w_iadd d_90_36 ?_
  refine w_cVq (as := [_, _]) (rest := _) rfl d_90_37 (by rfl) (by rfl) (by first | rfl | assumption) (by rfl) (by rfl) (Nat.le_of_ble_eq_true rfl) (by omega) (by omega) (t_arw (μ := μ4) (d := d + 1) hT hY hA.2.1 (eT hTR) hE (by rw [e7]; exact hk) (by rw [ev]; exact hko) (by omega) (by omega) hr (by omega)) ?_ ?_
  rotate_left
  · intro r τ g
    rw [ev] at g
    refine PVy hA g (fun L N' z => ?_)
    obtain ⟨lx, hz, rfl⟩ := brk_p z
    refine ⟨lx, N', [93], hz, ?_⟩
    simp
  rintro vv3 τ3 (⟨l3, N3, hr3, hb3, hv3, μ5, rfl, ho3'⟩ | ⟨_, hv3, _⟩)
  rotate_left
  · cases hv3
  obtain rfl := Sum.inl.inj hv3
  rw [ev] at hr3
  refine w_ld d_90_40 rfl rfl rfl ?_
  refine w_bip d_90_41 (by decide) ?_
  refine w_cVq (as := [_]) (rest := _) rfl d_90_43 (by rfl) (by rfl) (by first | rfl | assumption) (by rfl) (by rfl) (Nat.le_of_ble_eq_true rfl) (by omega) (by omega) (t_put hT hY ho3'.2.1 (c := 93) (by decide) (by omega) (by omega) hr) ?_ ?_
  rotate_left
  · intro r τ g
    exact PVe (WOK_trans hA ho3') g (by rw [hr3, brk_s (by omega)]; simp)
  rintro v τ g
  obtain rfl := PW_none g
  refine w_ret d_90_46 rfl ?_
  exact PVe (WOK_trans hA ho3') g (by rw [hr3, brk_s (by omega)]; simp)
theorem t_tgvO {sc : Nat × (Nat → Int32)} {fr lo : Nat} {μ : Mem} {ρ : Nat × Nat × Nat} {t y : Nat} (hT : isT t) (hY : y = 42 ∨ y = 44) {N : List (List Int)} (hW : WC t y N [] μ) (hTR : TR0 t μ) {f f0 l0 : Nat} (hE : VaC sc t y f f0 l0) {k d : Int} (hk : 0 ≤ k ∧ k < μ.1 t 7) (hko : okv (f + 1) (vT μ t) k) (hf : f0 + 90 ≤ fr) (hl : l0 + 1600 ≤ lo) (hr : 1 ≤ ρ.2.1 ∧ 6 ≤ ρ.2.2) (hd : 0 ≤ d ∧ d < 8) (hc12 : μ.2.2 (t + 1) k = 12) : w_S sc fr lo 93 [.ref 35, .int (ji k), .int (ji d)] (hp μ, ρ) (PV t y μ ρ (brk d (126 :: 35 :: wrd (vT μ t) k) N (wv (vT μ t) f (d + 1) (k + 1) 0 (nts N (126 :: 35 :: wrd (vT μ t) k) 0)))) := by
  obtain ⟨hT0, hT1, hT2, hT3, hT4, hT5, hT6, hT7, hT8⟩ := hT.sh
  have hT9 : t = 2 ∨ t = 11 ∨ t = 26 := hT
  have hw2 := hW.2.1
  have hw3 := hW.2.2.1
  have hl0 : ((([] : List Int).length : Nat) : Int) = 0 := rfl
  rw [hl0] at hw3
  have hp1 := (hTR.2.2 k hk.1 hk.2).2.1 hc12
  have hn1 : ((0 : Nat) : Int) < μ.2.2 (t + 5) k := by omega
  have hpp := hTR.2.1.prt hk hn1
  have hpp : (0 ≤ k + 1 ∧ k + 1 < μ.1 t 7) ∧ 0 ≤ k + 1 ∧ k + 1 < 240 := hpp
  have hko2 : okv f (vT μ t) (k + 1) := hko.2.2.1 0 hn1
  refine w_S.of (L0 := [some (.ref 35), some (.int (ji k)), some (.int (ji d)), none]) rfl rfl (Nat.le_of_ble_eq_true rfl) (by rfl) ?_
  refine w_ld d_93_0 rfl rfl rfl ?_
  refine w_ld d_93_1 rfl rfl rfl ?_
  refine w_cVq (as := [_]) (rest := _) rfl d_93_2 (by rfl) (by rfl) (by first | rfl | assumption) (by rfl) (by rfl) (Nat.le_of_ble_eq_true rfl) (by omega) (by omega) (t_opO hT hY hW (d := d) hd (by omega) (by omega) hr) ?_ ?_
  rotate_left
  · intro r τ g
    refine PVx (WOK_refl hW) g (fun L N' z => ?_)
    obtain ⟨lx, hz, rfl⟩ := brk_p z
    refine ⟨txt N (126 :: 35 :: wrd (vT μ t) k) 0 ++ ([44] ++ (lx ++ [93])), ?_⟩
    simp
  rintro v τ (⟨hb1, hv, μ1, rfl, ho1⟩ | ⟨_, hv, _⟩)
  rotate_left
  · cases hv
  obtain rfl := Sum.inl.inj hv
  have hw31 := ho1.2.1.2.2.1
  rw [hl0] at hw31
  have hw21 := ho1.2.1.2.1
  have hdr1 := ho1.2.2.1
  have hdl1 : (([91] : List Int).length : Int) = 1 := rfl
  refine w_ld d_93_5 rfl rfl rfl ?_
  refine w_getF d_93_6 (by rfl) (by first | rfl | assumption) (by rfl) (by rfl) ?_
  refine w_gI d_93_9 (by rfl) (by first | rfl | assumption) (by rfl) rfl ?_
  refine w_st1 (L' := [_, _, _, _]) d_93_12 rfl (by decide) rfl (by decide) rfl ?_
  refine w_ld d_93_13 rfl rfl rfl ?_
  refine w_lds (k := 21) d_93_14 (by rfl) ?_
  refine w_cVq (as := [_]) (rest := _) rfl d_93_16 (by rfl) (by rfl) (by first | rfl | assumption) (by rfl) (by rfl) (Nat.le_of_ble_eq_true rfl) (by omega) (by omega) (t_dwd (k := 21) (by decide) (by have := (slen_le (show 21 < 22 by decide)).2; omega) (by omega) (by omega) hr) ?_ ?_
  rotate_left
  · rintro r τ ⟨hv9, _⟩
    cases hv9
  rintro vv1 τ1 ⟨hv1, μ8, rfl, hd8⟩
  obtain rfl := Sum.inl.inj hv1
  have h89 := hd8.2.2.1
  rw [litL_21] at h89 hd8
  have h89 : μ8.1 39 1 = μ1.1 39 1 + 2 := h89
  obtain ⟨ev1, e71, eu1, eA1, eT1⟩ := wfr_t hT hY ho1.1
  have hrw1 := TR0_row (eT1 hTR) (k := k) (by rw [e71]; exact hk)
  have hrw := DW_TR hT hd8 hrw1
  have hwl : ((wrd (vT μ t) k).length : Int) = μ.2.2 (t + 4) k := wrd_len (show 0 ≤ μ.2.2 (t + 4) k from (TR0_row hTR hk).2.1.2.1)
  have hwb := (TR0_row hTR hk).2.1
  have hev8 : vT μ8 t = vT μ t := (DW_v hT hd8).trans ev1
  refine w_ld d_93_19 rfl rfl rfl ?_
  refine w_ld d_93_20 rfl rfl rfl ?_
  refine w_cVq (as := [_]) (rest := _) rfl d_93_21 (by rfl) (by rfl) (by first | rfl | assumption) (by rfl) (by rfl) (Nat.le_of_ble_eq_true rfl) (by omega) (by omega) (t_dwo (μ := μ8) hT (by rw [hd8.2.1]; exact ho1.2.1.1.2) (DW_GL hd8 ho1.2.1.2.2.2.1) hrw.1 hrw.2.1 (by have := hrw.2.1; omega) (by omega) (by omega) hr) ?_ ?_
  rotate_left
  · rintro r τ ⟨hv9, _⟩
    cases hv9
  rintro vv2 τ2 ⟨hv2, μ2, rfl, hd2⟩
  obtain rfl := Sum.inl.inj hv2
  have hd2 := DW_trans hd8 hd2
  rw [hev8] at hd2
  have hd2 : DW (126 :: 35 :: wrd (vT μ t) k) μ1 μ2 := hd2
  have h39 := hd2.2.2.1
  have hy2 : μ2.1 y 1 = μ1.1 y 1 := hd2.1 y 1 (by omega)
  have hcl : (((126 :: 35 :: wrd (vT μ t) k : List Int)).length : Int) = 2 + (wrd (vT μ t) k).length := by simp; omega
  have ho2 := DW_WOK hT hY ho1.2.1 hd2 (by omega)
  rw [List.nil_append] at ho2
  refine w_ld d_93_24 rfl rfl rfl ?_
  refine w_ld d_93_25 rfl rfl rfl ?_
  refine w_con d_93_26 ?_
  refine w_cVq (a := 35) (as := [_, _]) (rest := _) rfl d_93_27 (by rfl) (by rfl) (by first | rfl | assumption) (by rfl) (by rfl) (Nat.le_of_ble_eq_true rfl) (by omega) (by omega) (by have e := t_pst (sc := sc) (fr := fr - 1) (lo := lo - (19 + 6)) (ρ := ρ) (key := 0) hT hY ho2.2.1 (by decide) (by omega) (by omega) (by omega) hr; rw [show μ2.1 39 1 - (((126 :: 35 :: wrd (vT μ t) k)).length : Int) = μ1.1 39 1 by omega] at e; exact e) ?_ ?_
  rotate_left
  · intro r τ g
    refine PVx (WOK_trans ho1 ho2) g (fun L N' z => ?_)
    obtain ⟨lx, hz, rfl⟩ := brk_p z
    refine ⟨[44] ++ (lx ++ [93]), ?_⟩
    simp
  rintro v τ (⟨hb3, hv, μ3, rfl, ho3⟩ | ⟨_, hv, _⟩)
  rotate_left
  · cases hv
  obtain rfl := Sum.inl.inj hv
  refine w_ld d_93_30 rfl rfl rfl ?_
  refine w_bip d_93_31 (by decide) ?_
  refine w_cVq (as := [_]) (rest := _) rfl d_93_33 (by rfl) (by rfl) (by first | rfl | assumption) (by rfl) (by rfl) (Nat.le_of_ble_eq_true rfl) (by omega) (by omega) (t_put hT hY ho3.2.1 (c := 44) (by decide) (by omega) (by omega) hr) ?_ ?_
  rotate_left
  · intro r τ g
    refine PVx (WOK_trans (WOK_trans ho1 ho2) ho3) g (fun L N' z => ?_)
    obtain ⟨lx, hz, rfl⟩ := brk_p z
    refine ⟨lx ++ [93], ?_⟩
    simp
  rintro v τ (⟨hb4, hv, μ4, rfl, ho4⟩ | ⟨_, hv, _⟩)
  rotate_left
  · cases hv
  obtain rfl := Sum.inl.inj hv
  have hA := WOK_trans (WOK_trans (WOK_trans ho1 ho2) ho3) ho4
  obtain ⟨ev, e7, eu, eA, eT⟩ := wfr_t hT hY hA.1
  have hc4 : 1 ≤ μ4.1 y 1 := by
    have q := ho4.2.2.1
    have : (([44] : List Int).length : Int) = 1 := rfl
    have := ho3.2.1.2.1
    omega
  refine w_ld d_93_36 rfl rfl rfl ?_
  refine w_ld d_93_37 rfl rfl rfl ?_
  refine w_con d_93_38 ?_
  refine w_iadd d_93_39 ?_
  refine w_con d_93_40 ?_
  refine w_ld d_93_41 rfl rfl rfl ?_
  refine w_con d_93_42 ?_
  refine w_iadd d_93_43 ?_
  refine w_cVq (as := [_, _, _]) (rest := _) rfl d_93_44 (by rfl) (by rfl) (by first | rfl | assumption) (by rfl) (by rfl) (Nat.le_of_ble_eq_true rfl) (by omega) (by omega) (hE _ _ μ4 ρ _ (k + 1) 0 (d + 1) (by omega) (by omega) hA.2.1 (eT hTR) (by rw [e7]; exact hpp.1) (by rw [ev]; exact hko2) (by decide) (by omega) (Or.inl hc4) hr) ?_ ?_
  rotate_left
  · intro r τ g
    rw [ev] at g
    refine PVy hA g (fun L N' z => ?_)
    obtain ⟨lx, hz, rfl⟩ := brk_p z
    refine ⟨lx, N', [93], hz, ?_⟩
    simp
  rintro vv3 τ3 (⟨l3, N3, hr3, hb3, hv3, μ5, rfl, ho3'⟩ | ⟨_, hv3, _⟩)
  rotate_left
  · cases hv3
  obtain rfl := Sum.inl.inj hv3
  rw [ev] at hr3
  refine w_ld d_93_47 rfl rfl rfl ?_
  refine w_bip d_93_48 (by decide) ?_
  refine w_cVq (as := [_]) (rest := _) rfl d_93_50 (by rfl) (by rfl) (by first | rfl | assumption) (by rfl) (by rfl) (Nat.le_of_ble_eq_true rfl) (by omega) (by omega) (t_put hT hY ho3'.2.1 (c := 93) (by decide) (by omega) (by omega) hr) ?_ ?_
  rotate_left
  · intro r τ g
    exact PVe (WOK_trans hA ho3') g (by rw [hr3, brk_s (by omega)]; simp)
  rintro v τ g
  obtain rfl := PW_none g
  refine w_ret d_93_53 rfl ?_
  exact PVe (WOK_trans hA ho3') g (by rw [hr3, brk_s (by omega)]; simp)
theorem t_tarX {sc : Nat × (Nat → Int32)} {fr lo : Nat} {μ : Mem} {ρ : Nat × Nat × Nat} {t y : Nat} {N : List (List Int)} (hW : WC t y N [] μ) {k d : Int} (hd : 8 ≤ d ∧ d ≤ 30) (hf : 90 ≤ fr) (hl : 1600 ≤ lo) (hr : 1 ≤ ρ.2.1 ∧ 6 ≤ ρ.2.2) {kk : Nat} : w_S sc fr lo 90 [.ref 35, .float (UInt32.ofNat kk), .int (ji k), .int (ji d)] (hp μ, ρ) (PV t y μ ρ none) := by
  refine w_S.of (L0 := [some (.ref 35), some (.float (UInt32.ofNat kk)), some (.int (ji k)), some (.int (ji d)), none]) rfl rfl (Nat.le_of_ble_eq_true rfl) (by rfl) ?_
  refine w_ld d_90_0 rfl rfl rfl ?_
  refine w_ld d_90_1 rfl rfl rfl ?_
  refine w_cVx (as := [_]) (rest := _) rfl d_90_2 (by rfl) (by rfl) (by first | rfl | assumption) (by rfl) (by rfl) (Nat.le_of_ble_eq_true rfl) (by omega) (by omega) (t_opX (by omega) (by omega) (by omega) hr) ?_
  exact PV_X (WOK_refl hW) rfl
theorem t_tgvX {sc : Nat × (Nat → Int32)} {fr lo : Nat} {μ : Mem} {ρ : Nat × Nat × Nat} {t y : Nat} {N : List (List Int)} (hW : WC t y N [] μ) {k d : Int} (hd : 8 ≤ d ∧ d ≤ 30) (hf : 90 ≤ fr) (hl : 1600 ≤ lo) (hr : 1 ≤ ρ.2.1 ∧ 6 ≤ ρ.2.2)  : w_S sc fr lo 93 [.ref 35, .int (ji k), .int (ji d)] (hp μ, ρ) (PV t y μ ρ none) := by
  refine w_S.of (L0 := [some (.ref 35), some (.int (ji k)), some (.int (ji d)), none]) rfl rfl (Nat.le_of_ble_eq_true rfl) (by rfl) ?_
  refine w_ld d_93_0 rfl rfl rfl ?_
  refine w_ld d_93_1 rfl rfl rfl ?_
  refine w_cVx (as := [_]) (rest := _) rfl d_93_2 (by rfl) (by rfl) (by first | rfl | assumption) (by rfl) (by rfl) (Nat.le_of_ble_eq_true rfl) (by omega) (by omega) (t_opX (by omega) (by omega) (by omega) hr) ?_
  exact PV_X (WOK_refl hW) rfl
theorem t_mpwX {sc : Nat × (Nat → Int32)} {fr lo : Nat} {μ : Mem} {ρ : Nat × Nat × Nat} {t y : Nat} {N : List (List Int)} (hW : WC t y N [] μ) {k d : Int} (hd : 8 ≤ d ∧ d ≤ 30) (hf : 90 ≤ fr) (hl : 1600 ≤ lo) (hr : 1 ≤ ρ.2.1 ∧ 6 ≤ ρ.2.2)  : w_S sc fr lo 92 [.ref 35, .int (ji k), .int (ji d)] (hp μ, ρ) (PV t y μ ρ none) := by
  refine w_S.of (L0 := [some (.ref 35), some (.int (ji k)), some (.int (ji d)), none, none]) rfl rfl (Nat.le_of_ble_eq_true rfl) (by rfl) ?_
  refine w_ld d_92_0 rfl rfl rfl ?_
  refine w_ld d_92_1 rfl rfl rfl ?_
  refine w_cVx (as := [_]) (rest := _) rfl d_92_2 (by rfl) (by rfl) (by first | rfl | assumption) (by rfl) (by rfl) (Nat.le_of_ble_eq_true rfl) (by omega) (by omega) (t_opX (by omega) (by omega) (by omega) hr) ?_
  exact PV_X (WOK_refl hW) rfl
/-- a map whose keys are simple -/
noncomputable def mpw (A : View) (f : Nat) (d k : Int) (N : List (List Int)) : Option (List Int × List (List Int)) := if 8 ≤ d then none else match wpt (fun i c M => wv A f (d + 1) i c M) A k (fun i => if i % 2 = 0 then 1 else 0) 1 (A.2.2.1 k).toNat N with
      | none => none
      | some (l, N1) => some ([91, 34, 94, 32, 34] ++ (l ++ [93]), N1)
theorem t_mpw_l {sc : Nat × (Nat → Int32)} {fr lo : Nat} {ρ : Nat × Nat × Nat} {μ : Mem} {t y : Nat} (hT : isT t) (hY : y = 42 ∨ y = 44) {N : List (List Int)} (hW : WC t y N [] μ) (hTR : TR0 t μ) {f f0 l0 : Nat} (hE : VaC sc t y f f0 l0) {k d : Int} (hk : 0 ≤ k ∧ k < μ.1 t 7) (hko : okv (f + 1) (vT μ t) k) (hf : f0 + 90 ≤ fr) (hl : l0 + 1600 ≤ lo) (hr : 1 ≤ ρ.2.1 ∧ 6 ≤ ρ.2.2) (hd : 0 ≤ d ∧ d < 8) : ∀ (m : Nat) (i : Nat) (μ1 : Mem) (l : List Int) (N1 : List (List Int)), (μ.2.2 (t + 5) k - i).toNat = m → (i : Int) ≤ μ.2.2 (t + 5) k → wpt (fun i c M => wv (vT μ t) f (d + 1) i c M) (vT μ t) k (fun i => if i % 2 = 0 then 1 else 0) 1 i N = some (l, N1) → WOK t y ([91, 34, 94, 32, 34] ++ l) N1 [] μ μ1 → w_P sc fr lo 92 6 5 false (none) prog_7_method_9_code 18 [some (.ref 35), some (.int (ji k)), some (.int (ji d)), some (.int (ji (pt (vT μ t) k i))), some (.int (ji (i : Int)))] [] (hp (μ1), ρ) (PV t y μ ρ (mpw (vT μ t) f d k N)) := by
  intro m
  induction m using Nat.strongRecOn with
  | ind m ih =>
    intro i μ1 l N1 hm hi hwp ho
    obtain ⟨hT0, hT1, hT2, hT3, hT4, hT5, hT6, hT7, hT8⟩ := hT.sh
    have hT9 : t = 2 ∨ t = 11 ∨ t = 26 := hT
    have h240 := hTR.2.1.1
    have hrk := hTR.2.1.2 k hk.1 hk.2
    obtain ⟨ev, e7, eu, eA, eT⟩ := wfr_t hT hY ho.1
    have ht1 : μ1.2.1 35 4 = .ref t := ho.2.1.1.2
    have hc1 : 1 ≤ μ1.1 y 1 := by
      have q := ho.2.2.1
      rw [List.length_append] at q
      have : (([91, 34, 94, 32, 34] : List Int).length : Int) = 5 := rfl
      have := hW.2.1
      omega
    have hres : (mpw (vT μ t) f d k N) = match wpt (fun i c M => wv (vT μ t) f (d + 1) i c M) (vT μ t) k (fun i => if i % 2 = 0 then 1 else 0) 1 (μ.2.2 (t + 5) k).toNat N with
        | none => none
        | some (l, N1) => some ([91, 34, 94, 32, 34] ++ (l ++ [93]), N1) := by
      unfold mpw
      rw [if_neg (by omega)]
      rfl
    have hpre : ∀ L N', (mpw (vT μ t) f d k N) = some (L, N') → ∃ lx Nx, wpt (fun i c M => wv (vT μ t) f (d + 1) i c M) (vT μ t) k (fun i => if i % 2 = 0 then 1 else 0) 1 (μ.2.2 (t + 5) k).toNat N = some (lx, Nx) ∧ L = [91, 34, 94, 32, 34] ++ (lx ++ [93]) := fun L N' z => by
      rw [hres] at z
      cases hz : wpt (fun i c M => wv (vT μ t) f (d + 1) i c M) (vT μ t) k (fun i => if i % 2 = 0 then 1 else 0) 1 (μ.2.2 (t + 5) k).toNat N with
      | none => rw [hz] at z; cases z
      | some p =>
        obtain ⟨lx, Nx⟩ := p
        rw [hz] at z
        cases z
        exact ⟨_, _, rfl, rfl⟩
    refine w_ld d_92_18 rfl rfl rfl ?_
    refine w_ld d_92_20 rfl rfl rfl ?_
    refine w_getR d_92_21 (by rfl) (by first | rfl | assumption) (by rfl) ht1 ?_
    refine w_getF d_92_24 (by rfl) (by first | rfl | assumption) (by rfl) (by rfl) ?_
    refine w_ld d_92_27 rfl rfl rfl ?_
    refine w_aI d_92_28 (by first | rfl | assumption) (by omega) (show _ = μ.2.2 (t + 5) k by rw [eA (t + 5) (by omega) (by omega)]) ?_
    refine w_icmp_ge (g := 74) d_92_29 (by decide) (by omega) (fun h29 => ?_) (fun h29 => ?_)
    · have hall : wpt (fun i c M => wv (vT μ t) f (d + 1) i c M) (vT μ t) k (fun i => if i % 2 = 0 then 1 else 0) 1 (μ.2.2 (t + 5) k).toNat N = some (l, N1) := by rw [show (μ.2.2 (t + 5) k).toNat = i by omega]; exact hwp
      refine w_ld d_92_74 rfl rfl rfl ?_
      refine w_bip d_92_75 (by decide) ?_
      refine w_cVq (as := [_]) (rest := _) rfl d_92_77 (by rfl) (by rfl) (by first | rfl | assumption) (by rfl) (by rfl) (Nat.le_of_ble_eq_true rfl) (by omega) (by omega) (t_put hT hY ho.2.1 (c := 93) (by decide) (by omega) (by omega) hr) ?_ ?_
      rotate_left
      · intro r τ g
        exact PVe ho g (by rw [hres, hall]; simp)
      rintro v τ g
      obtain rfl := PW_none g
      refine w_ret d_92_80 rfl ?_
      exact PVe ho g (by rw [hres, hall]; simp)
    · refine w_ld d_92_32 rfl rfl rfl ?_
      refine w_bip d_92_33 (by decide) ?_
      refine w_cVq (as := [_]) (rest := _) rfl d_92_35 (by rfl) (by rfl) (by first | rfl | assumption) (by rfl) (by rfl) (Nat.le_of_ble_eq_true rfl) (by omega) (by omega) (t_put hT hY ho.2.1 (c := 44) (by decide) (by omega) (by omega) hr) ?_ ?_
      rotate_left
      · intro r τ g
        refine PVx ho g (fun L N' z => ?_)
        obtain ⟨lx, Nx, hz, rfl⟩ := hpre L N' z
        have hs := wpt_s hwp
        cases hg : wv (vT μ t) f (d + 1) (pt (vT μ t) k i) (if i % 2 = 0 then 1 else 0) N1 with
        | none =>
          simp only [hg] at hs
          rw [wpt_x hs _ (by omega)] at hz
          cases hz
        | some p =>
          obtain ⟨l2, N2⟩ := p
          simp only [hg] at hs
          obtain ⟨q, rfl⟩ := wpt_p hs _ (by omega) lx Nx hz
          refine ⟨l2 ++ (q ++ [93]), ?_⟩
          rw [if_neg (by omega)]
          simp
      rintro v τ (⟨hb2, hv, μ2, rfl, ho2⟩ | ⟨_, hv, _⟩)
      rotate_left
      · cases hv
      obtain rfl := Sum.inl.inj hv
      refine w_ld d_92_38 rfl rfl rfl ?_
      refine w_ld d_92_39 rfl rfl rfl ?_
      refine w_ld d_92_40 rfl rfl rfl ?_
      refine w_con d_92_42 ?_
      refine w_irem d_92_43 (by omega) (by decide) ?_
      have htm : (i : Int).tmod 2 = ((i % 2 : Nat) : Int) := rfl
      refine w_if_ne (g := 51) d_92_44 (by decide) (by omega) (fun h44 => ?_) (fun h44 => ?_)
      · refine w_con d_92_51 ?_
        have htm2 : (i : Int).tmod 2 = ((i % 2 : Nat) : Int) := rfl
        have hkf : (if i % 2 = 0 then 1 else 0 : Int) = 0 := if_neg (by omega)
        obtain ⟨ev2, e72, eu2, eA2, eT2⟩ := wfr_t hT hY ((WOK_trans ho ho2) : WOK t y _ _ _ μ μ2).1
        have pp := hTR.2.1.prt hk h29
        have hko2 := hko.2.2.1 i h29
        have hy2 : 1 ≤ μ2.1 y 1 := by have q := ho2.2.2.1; have : (([44] : List Int).length : Int) = 1 := rfl; omega
        refine w_ld d_92_52 rfl rfl rfl ?_
        refine w_con d_92_53 ?_
        refine w_iadd d_92_54 ?_
        refine w_cVq (as := [_, _, _]) (rest := _) rfl d_92_55 (by rfl) (by rfl) (by first | rfl | assumption) (by rfl) (by rfl) (Nat.le_of_ble_eq_true rfl) (by omega) (by omega) (hE _ _ μ2 ρ N1 _ 0 (d + 1) (by omega) (by omega) (WOK_trans ho ho2).2.1 (eT2 hTR) (by rw [e72]; exact pp.1) (by rw [ev2]; exact hko2) (by decide) (by omega) (Or.inl hy2) hr) ?_ ?_
        rotate_left
        · intro r τ g
          rw [ev2] at g
          refine PVy (WOK_trans ho ho2) g (fun L N' z => ?_)
          obtain ⟨lx, Nx, hz, rfl⟩ := hpre L N' z
          have hs := wpt_s hwp
          cases hg : wv (vT μ t) f (d + 1) (pt (vT μ t) k i) 0 N1 with
          | none =>
            simp only [hkf, hg] at hs
            rw [wpt_x hs _ (by omega)] at hz
            cases hz
          | some p =>
            obtain ⟨l2, N2⟩ := p
            simp only [hkf, hg] at hs
            obtain ⟨q, rfl⟩ := wpt_p hs _ (by omega) lx Nx hz
            refine ⟨l2, N2, q ++ [93], rfl, ?_⟩
            rw [if_neg (by omega)]
            simp
        rintro vv3 τ3 (⟨l3, N3, hr3, hb3, hv3, μ3, rfl, ho3⟩ | ⟨_, hv3, _⟩)
        rotate_left
        · cases hv3
        obtain rfl := Sum.inl.inj hv3
        rw [ev2] at hr3
        obtain ⟨ev3, e73, eu3, eA3, eT3⟩ := wfr_t hT hY (WOK_trans (WOK_trans ho ho2) ho3).1
        have ht3 : μ3.2.1 35 4 = .ref t := ho3.2.1.1.2
        refine w_ld d_92_58 rfl rfl rfl ?_
        refine w_getR d_92_59 (by rfl) (by first | rfl | assumption) (by rfl) ht3 ?_
        refine w_getF d_92_62 (by rfl) (by first | rfl | assumption) (by rfl) (by rfl) ?_
        refine w_ld d_92_65 rfl rfl rfl ?_
        refine w_aI d_92_66 (by first | rfl | assumption) (by omega) (show _ = μ.2.2 (t + 6) (pt (vT μ t) k i) by rw [eA3 (t + 6) (by omega) (by omega)]) ?_
        refine w_st1 (L' := [_, _, _, _, _]) d_92_67 rfl (by decide) rfl (by decide) rfl ?_
        refine w_inc (L' := [_, _, _, _, _]) d_92_68 rfl (by decide) rfl ?_
        refine w_goto (g := 18) d_92_71 (by decide) ?_
        have hs := wpt_s hwp
        simp only [hkf, hr3] at hs
        exact ih _ (by omega) (i + 1) μ3 _ N3 rfl (by omega) hs (by
          rw [if_neg (by omega)]
          have h9 := WOK_trans (WOK_trans ho ho2) ho3
          simp only [List.append_assoc, List.nil_append] at h9 ⊢
          exact h9)
      · refine w_con d_92_47 ?_
        refine w_goto (g := 52) d_92_48 (by decide) ?_
        have htm2 : (i : Int).tmod 2 = ((i % 2 : Nat) : Int) := rfl
        have hkf : (if i % 2 = 0 then 1 else 0 : Int) = 1 := if_pos (by omega)
        obtain ⟨ev2, e72, eu2, eA2, eT2⟩ := wfr_t hT hY ((WOK_trans ho ho2) : WOK t y _ _ _ μ μ2).1
        have pp := hTR.2.1.prt hk h29
        have hko2 := hko.2.2.1 i h29
        have hy2 : 1 ≤ μ2.1 y 1 := by have q := ho2.2.2.1; have : (([44] : List Int).length : Int) = 1 := rfl; omega
        refine w_ld d_92_52 rfl rfl rfl ?_
        refine w_con d_92_53 ?_
        refine w_iadd d_92_54 ?_
        refine w_cVq (as := [_, _, _]) (rest := _) rfl d_92_55 (by rfl) (by rfl) (by first | rfl | assumption) (by rfl) (by rfl) (Nat.le_of_ble_eq_true rfl) (by omega) (by omega) (hE _ _ μ2 ρ N1 _ 1 (d + 1) (by omega) (by omega) (WOK_trans ho ho2).2.1 (eT2 hTR) (by rw [e72]; exact pp.1) (by rw [ev2]; exact hko2) (by decide) (by omega) (Or.inl hy2) hr) ?_ ?_
        rotate_left
        · intro r τ g
          rw [ev2] at g
          refine PVy (WOK_trans ho ho2) g (fun L N' z => ?_)
          obtain ⟨lx, Nx, hz, rfl⟩ := hpre L N' z
          have hs := wpt_s hwp
          cases hg : wv (vT μ t) f (d + 1) (pt (vT μ t) k i) 1 N1 with
          | none =>
            simp only [hkf, hg] at hs
            rw [wpt_x hs _ (by omega)] at hz
            cases hz
          | some p =>
            obtain ⟨l2, N2⟩ := p
            simp only [hkf, hg] at hs
            obtain ⟨q, rfl⟩ := wpt_p hs _ (by omega) lx Nx hz
            refine ⟨l2, N2, q ++ [93], rfl, ?_⟩
            rw [if_neg (by omega)]
            simp
        rintro vv3 τ3 (⟨l3, N3, hr3, hb3, hv3, μ3, rfl, ho3⟩ | ⟨_, hv3, _⟩)
        rotate_left
        · cases hv3
        obtain rfl := Sum.inl.inj hv3
        rw [ev2] at hr3
        obtain ⟨ev3, e73, eu3, eA3, eT3⟩ := wfr_t hT hY (WOK_trans (WOK_trans ho ho2) ho3).1
        have ht3 : μ3.2.1 35 4 = .ref t := ho3.2.1.1.2
        refine w_ld d_92_58 rfl rfl rfl ?_
        refine w_getR d_92_59 (by rfl) (by first | rfl | assumption) (by rfl) ht3 ?_
        refine w_getF d_92_62 (by rfl) (by first | rfl | assumption) (by rfl) (by rfl) ?_
        refine w_ld d_92_65 rfl rfl rfl ?_
        refine w_aI d_92_66 (by first | rfl | assumption) (by omega) (show _ = μ.2.2 (t + 6) (pt (vT μ t) k i) by rw [eA3 (t + 6) (by omega) (by omega)]) ?_
        refine w_st1 (L' := [_, _, _, _, _]) d_92_67 rfl (by decide) rfl (by decide) rfl ?_
        refine w_inc (L' := [_, _, _, _, _]) d_92_68 rfl (by decide) rfl ?_
        refine w_goto (g := 18) d_92_71 (by decide) ?_
        have hs := wpt_s hwp
        simp only [hkf, hr3] at hs
        exact ih _ (by omega) (i + 1) μ3 _ N3 rfl (by omega) hs (by
          rw [if_neg (by omega)]
          have h9 := WOK_trans (WOK_trans ho ho2) ho3
          simp only [List.append_assoc, List.nil_append] at h9 ⊢
          exact h9)
theorem t_mpwO {sc : Nat × (Nat → Int32)} {fr lo : Nat} {μ : Mem} {ρ : Nat × Nat × Nat} {t y : Nat} (hT : isT t) (hY : y = 42 ∨ y = 44) {N : List (List Int)} (hW : WC t y N [] μ) (hTR : TR0 t μ) {f f0 l0 : Nat} (hE : VaC sc t y f f0 l0) {k d : Int} (hk : 0 ≤ k ∧ k < μ.1 t 7) (hko : okv (f + 1) (vT μ t) k) (hf : f0 + 90 ≤ fr) (hl : l0 + 1600 ≤ lo) (hr : 1 ≤ ρ.2.1 ∧ 6 ≤ ρ.2.2) (hd : 0 ≤ d ∧ d < 8) : w_S sc fr lo 92 [.ref 35, .int (ji k), .int (ji d)] (hp μ, ρ) (PV t y μ ρ (mpw (vT μ t) f d k N)) := by
  refine w_S.of (L0 := [some (.ref 35), some (.int (ji k)), some (.int (ji d)), none, none]) rfl rfl (Nat.le_of_ble_eq_true rfl) (by rfl) ?_
  refine w_ld d_92_0 rfl rfl rfl ?_
  refine w_ld d_92_1 rfl rfl rfl ?_
  refine w_cVq (as := [_]) (rest := _) rfl d_92_2 (by rfl) (by rfl) (by first | rfl | assumption) (by rfl) (by rfl) (Nat.le_of_ble_eq_true rfl) (by omega) (by omega) (t_opO hT hY hW (d := d) hd (by omega) (by omega) hr) ?_ ?_
  rotate_left
  · intro r τ g
    refine PVx (WOK_refl hW) g (fun L N' z => ?_)
    unfold mpw at z
    rw [if_neg (by omega)] at z
    split at z
    · cases z
    · cases z
      exact ⟨_, rfl⟩
  rintro v τ (⟨hb1, hv, μ1, rfl, ho1⟩ | ⟨_, hv, _⟩)
  rotate_left
  · cases hv
  obtain rfl := Sum.inl.inj hv
  refine w_ld d_92_5 rfl rfl rfl ?_
  refine w_lds (k := 19) d_92_6 (by rfl) ?_
  refine w_cVq (as := [_]) (rest := _) rfl d_92_8 (by rfl) (by rfl) (by first | rfl | assumption) (by rfl) (by rfl) (Nat.le_of_ble_eq_true rfl) (by omega) (by omega) (t_pnm hT hY ho1.2.1 (k := 19) (by decide) (by omega) (by omega) hr) ?_ ?_
  rotate_left
  · intro r τ g
    rw [litL_19] at g
    refine PVx ho1 g (fun L N' z => ?_)
    unfold mpw at z
    rw [if_neg (by omega)] at z
    split at z
    · cases z
    · cases z
      exact ⟨_, rfl⟩
  rintro v τ (⟨hb2, hv, μ2, rfl, ho2⟩ | ⟨_, hv, _⟩)
  rotate_left
  · cases hv
  obtain rfl := Sum.inl.inj hv
  rw [litL_19] at ho2
  have hA := WOK_trans ho1 ho2
  refine w_ld d_92_11 rfl rfl rfl ?_
  refine w_con d_92_12 ?_
  refine w_iadd d_92_13 ?_
  refine w_st1 (L' := [_, _, _, _, _]) d_92_14 rfl (by decide) rfl (by decide) rfl ?_
  refine w_con d_92_15 ?_
  refine w_st1 (L' := [_, _, _, _, _]) d_92_16 rfl (by decide) rfl (by decide) rfl ?_
  exact t_mpw_l hT hY hW hTR hE hk hko hf hl hr hd _ 0 μ2 [] N rfl (by have := (hTR.2.1.2 k hk.1 hk.2).2.2.1; show (0 : Int) ≤ _; omega) rfl hA
