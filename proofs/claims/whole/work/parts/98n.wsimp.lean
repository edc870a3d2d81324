/-! THE PURE PART, 93: contracts: the class writes simple values -/
theorem txt_34 (N : List (List Int)) (w : List Int) (key : Int) : ∃ q, txt N w key = [] ++ ([34] ++ q) := by
  unfold txt
  split
  · exact ⟨_, rfl⟩
  · exact ⟨_, rfl⟩
theorem WOK_cut {t y : Nat} (hT : isT t) (hY : y = 42 ∨ y = 44) {N : List (List Int)} {w : List Int} {μ : Mem} (h : WC t y N w μ) : WOK t y [] N [] μ (stI μ 39 1 (μ.1 39 1 - w.length)) := by
  obtain ⟨h1, h2, h3, h4, h5, h6⟩ := h
  unfold isT at hT
  have e9 : (stI μ 39 1 (μ.1 39 1 - w.length)).1 39 1 = μ.1 39 1 - w.length := stI_at _ _ _ _
  have eI : ∀ a q, a ≠ 39 → (stI μ 39 1 (μ.1 39 1 - w.length)).1 a q = μ.1 a q := fun a q ha => stI_ne (by omega)
  refine ⟨⟨fun a q _ z _ => eI a q z, rfl, fun _ _ _ _ _ _ => rfl⟩, ⟨h1, by rw [eI y 1 (by omega)]; exact h2, by rw [e9, eI y 1 (by omega), show ((([] : List Int).length : Nat) : Int) = 0 from rfl]; omega, h4, ?_, fun i hi => absurd hi (Nat.not_lt_zero i)⟩, DR_nil (eI y 1 (by omega)) rfl⟩
  rw [e9, show μ.1 39 1 - (w.length : Int) - (([] : List Int).length : Int) = μ.1 39 1 - w.length by simp]
  unfold NC at h5 ⊢
  rw [eI 36 2 (by omega)]
  exact h5
theorem getD_app1 {N : List (List Int)} {w : List Int} {n : Nat} (h : n < N.length) : (N ++ [w]).getD n [] = N.getD n [] := by
  simp [List.getD_eq_getElem?_getD, List.getElem?_append_left h]
theorem getD_app2 {N : List (List Int)} {w : List Int} : (N ++ [w]).getD N.length [] = w := by
  simp [List.getD_eq_getElem?_getD]
/-- a word is noted -/
theorem WOK_note {t y : Nat} (hT : isT t) (hY : y = 42 ∨ y = 44) {N M : List (List Int)} {w : List Int} {μ μ' : Mem} (h : WC t y N w μ) (hr : μ.1 39 1 + 3 ≤ μ.1 y 1) (hM : M = N ∧ N.length < 24 ∨ M = [] ∧ N.length = 24) (m1 : ∀ a q, ¬ (a = 36 ∧ q = 2) → μ'.1 a q = μ.1 a q) (m2 : μ'.2.1 = μ.2.1) (m3 : ∀ (a : Nat) (i : Int), ¬ ((a = 37 ∨ a = 38) ∧ i = (M.length : Int)) → μ'.2.2 a i = μ.2.2 a i) (m4 : μ'.1 36 2 = M.length + 1) (m5 : μ'.2.2 37 M.length = μ.1 39 1 - w.length) (m6 : μ'.2.2 38 M.length = w.length) : WOK t y [] (M ++ [w]) [] μ μ' := by
  obtain ⟨h1, h2, h3, h4, h5, h6⟩ := h
  unfold isT at hT
  have ey : μ'.1 y 1 = μ.1 y 1 := m1 y 1 (by omega)
  have e9 : μ'.1 39 1 = μ.1 39 1 := m1 39 1 (by omega)
  have eA : ∀ a, a ≠ 37 → a ≠ 38 → μ'.2.2 a = μ.2.2 a := fun a z1 z2 => funext fun i => m3 a i (by omega)
  refine ⟨⟨fun a q z1 _ _ => m1 a q (by omega), m2, fun a z1 z2 _ _ _ => eA a z1 z2⟩, ⟨by rw [m2]; exact h1, by rw [ey]; exact h2, ?_, fun a n ha k => ?_, ⟨⟨by rw [m4, List.length_append]; rfl, by rw [List.length_append]; show M.length + 1 ≤ 24; rcases hM with ⟨rfl, z⟩ | ⟨rfl, z⟩ <;> simp <;> omega⟩, fun n hn => ?_⟩, fun i hi => absurd hi (Nat.not_lt_zero i)⟩, DR_nil ey (eA (y + 1) (by omega) (by omega))⟩
  · rw [e9, ey]
    show 0 ≤ μ.1 39 1 - ((0 : Nat) : Int) ∧ (μ.1 39 1 - ((0 : Nat) : Int) = 0 ∨ μ.1 39 1 - ((0 : Nat) : Int) + 3 ≤ μ.1 y 1) ∧ μ.1 39 1 ≤ 480
    omega
  · have ha' := ha
    unfold isL at ha
    rw [eA (a + 1) (by omega) (by omega)]; exact h4 a n ha' k
  · rw [List.length_append] at hn
    have hn : n < M.length + 1 := hn
    rw [e9, eA 40 (by omega) (by omega)]
    by_cases z : n < M.length
    · obtain rfl : M = N := by
        rcases hM with ⟨e, _⟩ | ⟨rfl, _⟩
        · exact e
        · exact absurd z (Nat.not_lt_zero _)
      rw [getD_app1 z, m3 37 _ (by omega), m3 38 _ (by omega)]
      obtain ⟨n1, n2, n3, n4⟩ := h5.2 n z
      exact ⟨n1, n2, by show _ ≤ μ.1 39 1 - ((0 : Nat) : Int); omega, n4⟩
    · obtain rfl : n = M.length := by omega
      rw [getD_app2, m5, m6]
      exact ⟨rfl, by omega, by show _ ≤ μ.1 39 1 - ((0 : Nat) : Int); omega, h6⟩
theorem t_pst {sc : Nat × (Nat → Int32)} {fr lo : Nat} {μ : Mem} {ρ : Nat × Nat × Nat} {t y : Nat} (hT : isT t) (hY : y = 42 ∨ y = 44) {N : List (List Int)} {w : List Int} (hW : WC t y N w μ) {key : Int} (hkey : key = 0 ∨ key = 1) (h1 : 1 ≤ μ.1 y 1) (hf : 40 ≤ fr) (hl : 1200 ≤ lo) (hr : 1 ≤ ρ.2.1 ∧ 6 ≤ ρ.2.2) : w_S sc fr lo 83 [.ref 35, .int (ji (μ.1 39 1 - w.length)), .int (ji key)] (hp μ, ρ) (PW t y μ ρ (txt N w key) (nts N w key) []) := by
  have hw3 := hW.2.2.1
  have hw2 := hW.2.1
  have etk : w_E sc (fr - 1) (lo - (19 + 5)) 45 [.ref 39, .int (ji (μ.1 39 1 - w.length)), .int (ji (w.length : Int)), .int (ji key)] (hp μ, ρ) (.inl (some (.int (ji (tkl w key))))) (hp μ, ρ) := by
    have e := t_takes (sc := sc) (fr := fr - 1) (lo := lo - (19 + 5)) (μ := μ) (ρ := ρ) (b := 39) (n := 480) (Or.inr ⟨rfl, rfl⟩) (by omega) (f := μ.1 39 1 - w.length) (s := w.length) (by omega) hkey (hW.2.2.2.1 39 480 (Or.inr ⟨rfl, rfl⟩)) (by omega) (by omega)
    rw [b01_iff (tks_cong (w' := fun i => w.getD i.toNat 0) (fun i i0 i1 => by
      have z := hW.2.2.2.2.2 i.toNat (by omega)
      rw [show ((i.toNat : Nat) : Int) = i by omega] at z
      exact z))] at e
    exact e
  have htk : tkl w key = 0 ∨ tkl w key = 1 := b01_01 _
  obtain ⟨c, hc⟩ : ∃ c, c = (if fnd N w < N.length then (fnd N w : Int) else -1) := ⟨_, rfl⟩
  have hfs := (fnd_sp N w).1
  have h24x := hW.2.2.2.2.1.1.2
  have efn : w_E sc (fr - 1) (lo - (19 + 5)) 84 [.ref 36, .ref 39, .int (ji (μ.1 39 1 - w.length)), .int (ji (w.length : Int))] (hp μ, ρ) (.inl (some (.int (ji c)))) (hp μ, ρ) := by
    have e := t_fnd (sc := sc) (fr := fr - 1) (lo := lo - (19 + 5)) (ρ := ρ) hT hY hW (by omega) (by omega)
    rw [← hc] at e
    exact e
  have hcr : -1 ≤ c ∧ c < 24 := by
    rw [hc]
    split <;> omega
  refine w_S.of (L0 := [some (.ref 35), some (.int (ji (μ.1 39 1 - w.length))), some (.int (ji key)), none, none, none]) rfl rfl (Nat.le_of_ble_eq_true rfl) (by rfl) ?_
  refine w_ld d_83_0 rfl rfl rfl ?_
  refine w_getF d_83_1 (by rfl) (by first | rfl | assumption) (by rfl) (by rfl) ?_
  refine w_gI d_83_4 (by rfl) (by first | rfl | assumption) (by rfl) rfl ?_
  refine w_ld d_83_7 rfl rfl rfl ?_
  refine w_isub d_83_8 ?_
  rw [show μ.1 39 1 - (μ.1 39 1 - (w.length : Int)) = (w.length : Int) by omega]
  refine w_st1 (L' := [_, _, _, _, _, _]) d_83_9 rfl (by decide) rfl (by decide) rfl ?_
  refine w_ld d_83_10 rfl rfl rfl ?_
  refine w_getF d_83_11 (by rfl) (by first | rfl | assumption) (by rfl) (by rfl) ?_
  refine w_ld d_83_14 rfl rfl rfl ?_
  refine w_ld d_83_15 rfl rfl rfl ?_
  refine w_ld d_83_16 rfl rfl rfl ?_
  refine w_cS1 (as := [_, _, _, _]) (rest := _) rfl d_83_17 (by rfl) (by rfl) (by rfl) (by rfl) (Nat.le_of_ble_eq_true rfl) (by omega) (by omega) etk ?_
  refine w_st1 (L' := [_, _, _, _, _, _]) d_83_20 rfl (by decide) rfl (by decide) rfl ?_
  refine w_ld d_83_22 rfl rfl rfl ?_
  refine w_if_eq (g := 43) d_83_24 (by decide) (by omega) (fun h24 => ?_) (fun h24 => ?_)
  · have ht0 : tkl w key = 0 := h24
    have ex : txt N w key = [34] ++ (esc w ++ [34]) := if_neg (fun z => by omega)
    have en : nts N w key = N := if_neg (fun z => by omega)
    refine w_con d_83_43 ?_
    refine w_st1 (L' := [_, _, _, _, _, _]) d_83_44 rfl (by decide) rfl (by decide) rfl ?_
    refine w_ld d_83_46 rfl rfl rfl ?_
    refine w_bip d_83_47 (by decide) ?_
    refine w_cVq (as := [_]) (rest := _) rfl d_83_49 (by rfl) (by rfl) (by first | rfl | assumption) (by rfl) (by rfl) (Nat.le_of_ble_eq_true rfl) (by omega) (by omega) (t_pt hT hY hW (c := 34) (by decide) (by omega) (by omega) hr) ?_ ?_
    rotate_left
    · intro r τ g
      exact PW_cut (WOK_refl hW) (PX_W g) (txt_34 N w key)
    rintro vv1 τ1 (⟨hb1, hv1, μ1, rfl, ho1, hq1⟩ | ⟨_, hv1, _⟩)
    rotate_left
    · cases hv1
    obtain rfl := Sum.inl.inj hv1
    refine w_ld d_83_52 rfl rfl rfl ?_
    refine w_con d_83_54 ?_
    refine w_icmp_ne (g := 66) d_83_55 (by decide) (by decide) (fun h55 => ?_) (fun h55 => ?_)
    · exact absurd rfl h55
    · refine w_ld d_83_58 rfl rfl rfl ?_
      refine w_ld d_83_59 rfl rfl rfl ?_
      refine w_cVq (a := 35) (as := [_]) (rest := _) rfl d_83_60 (by rfl) (by rfl) (by first | rfl | assumption) (by rfl) (by rfl) (Nat.le_of_ble_eq_true rfl) (by omega) (by omega) (by have e := t_pes (sc := sc) (fr := fr - 1) (lo := lo - (19 + 4)) (ρ := ρ) hT hY ho1.2.1 (by omega) (by omega) hr; rw [hq1] at e; exact e) ?_ ?_
      rotate_left
      · intro r τ g
        rw [ex]
        exact PW_cut ho1 (PX_W g) ⟨[34], rfl⟩
      rintro vv2 τ2 (⟨hb2, hv2, μ2, rfl, ho2, hq2⟩ | ⟨_, hv2, _⟩)
      rotate_left
      · cases hv2
      obtain rfl := Sum.inl.inj hv2
      refine w_goto (g := 72) d_83_63 (by decide) ?_
      refine w_ld d_83_72 rfl rfl rfl ?_
      refine w_bip d_83_73 (by decide) ?_
      refine w_cVq (as := [_]) (rest := _) rfl d_83_75 (by rfl) (by rfl) (by first | rfl | assumption) (by rfl) (by rfl) (Nat.le_of_ble_eq_true rfl) (by omega) (by omega) (t_pt hT hY ho2.2.1 (c := 34) (by decide) (by omega) (by omega) hr) ?_ ?_
      rotate_left
      · intro r τ g
        rw [ex, ← List.append_assoc]
        exact PW_cut (WOK_trans ho1 ho2) (PX_W g) ⟨[], by rw [List.append_nil]⟩
      rintro vv3 τ3 (⟨hb3, hv3, μ3, rfl, ho3, hq3⟩ | ⟨_, hv3, _⟩)
      rotate_left
      · cases hv3
      obtain rfl := Sum.inl.inj hv3
      refine w_ld d_83_78 rfl rfl rfl ?_
      refine w_if_eq (g := 101) d_83_80 (by decide) (by omega) (fun h80 => ?_) (fun h80 => ?_)
      · refine w_ld d_83_101 rfl rfl rfl ?_
        refine w_getF d_83_102 (by rfl) (by first | rfl | assumption) (by rfl) (by rfl) ?_
        refine w_ld d_83_105 rfl rfl rfl ?_
        refine w_cV0 (a := 39) (as := [_]) (rest := _) rfl d_83_106 (by rfl) (by rfl) (by first | rfl | assumption) (by rfl) (by rfl) (Nat.le_of_ble_eq_true rfl) (by omega) (by omega) (by have e := t_cut (sc := sc) (fr := fr - 1) (lo := lo - (19 + 2)) (μ := μ3) (ρ := ρ) (a := 39) (n := 480) rfl rfl (by have := ho3.2.1.2.2.1; omega) (k := μ.1 39 1 - w.length); exact e) ?_
        refine w_ret d_83_109 rfl ?_
        have e9 : μ3.1 39 1 = μ.1 39 1 := hq3.trans (hq2.trans hq1)
        have hcut := WOK_cut hT hY ho3.2.1
        rw [e9] at hcut
        have hall := WOK_trans (WOK_trans (WOK_trans ho1 ho2) ho3) hcut
        rw [ex, en]
        rw [List.append_nil, List.append_assoc] at hall
        have q := hall.2.1.2.1
        have q2 := hall.2.2.1
        exact Or.inl ⟨by omega, rfl, _, rfl, hall⟩
      · exact absurd ht0 h80
  · have ht1 : tkl w key = 1 := by omega
    refine w_ld d_83_27 rfl rfl rfl ?_
    refine w_getF d_83_28 (by rfl) (by first | rfl | assumption) (by rfl) (by rfl) ?_
    refine w_ld d_83_31 rfl rfl rfl ?_
    refine w_getF d_83_32 (by rfl) (by first | rfl | assumption) (by rfl) (by rfl) ?_
    refine w_ld d_83_35 rfl rfl rfl ?_
    refine w_ld d_83_36 rfl rfl rfl ?_
    refine w_cV1 (as := [_, _, _]) (rest := _) rfl d_83_37 (by rfl) (by rfl) (by first | rfl | assumption) (by rfl) (by rfl) (Nat.le_of_ble_eq_true rfl) (by omega) (by omega) efn ?_
    refine w_goto (g := 44) d_83_40 (by decide) ?_
    refine w_st1 (L' := [_, _, _, _, _, _]) d_83_44 rfl (by decide) rfl (by decide) rfl ?_
    refine w_ld d_83_46 rfl rfl rfl ?_
    refine w_bip d_83_47 (by decide) ?_
    refine w_cVq (as := [_]) (rest := _) rfl d_83_49 (by rfl) (by rfl) (by first | rfl | assumption) (by rfl) (by rfl) (Nat.le_of_ble_eq_true rfl) (by omega) (by omega) (t_pt hT hY hW (c := 34) (by decide) (by omega) (by omega) hr) ?_ ?_
    rotate_left
    · intro r τ g
      exact PW_cut (WOK_refl hW) (PX_W g) (txt_34 N w key)
    rintro vv1 τ1 (⟨hb1, hv1, μ1, rfl, ho1, hq1⟩ | ⟨_, hv1, _⟩)
    rotate_left
    · cases hv1
    obtain rfl := Sum.inl.inj hv1
    refine w_ld d_83_52 rfl rfl rfl ?_
    refine w_con d_83_54 ?_
    refine w_icmp_ne (g := 66) d_83_55 (by decide) (by omega) (fun h55 => ?_) (fun h55 => ?_)
    · have hfd : fnd N w < N.length := Decidable.byContradiction (fun z => h55 (by rw [hc, if_neg z]))
      have hcf : c = ((fnd N w : Nat) : Int) := by rw [hc, if_pos hfd]
      have ex : txt N w key = [34] ++ (cdt (fnd N w) ++ [34]) := if_pos ⟨ht1, hfd⟩
      have en : nts N w key = N := if_neg (fun z => z.2 hfd)
      rw [hcf]
      refine w_ld d_83_66 rfl rfl rfl ?_
      refine w_ld d_83_67 rfl rfl rfl ?_
      refine w_cVq (as := [_]) (rest := _) rfl d_83_69 (by rfl) (by rfl) (by first | rfl | assumption) (by rfl) (by rfl) (Nat.le_of_ble_eq_true rfl) (by omega) (by omega) (t_pcd hT hY ho1.2.1 (by omega) (by omega) (by omega) hr) ?_ ?_
      rotate_left
      · intro r τ g
        rw [ex]
        exact PW_cut ho1 (PX_W g) ⟨[34], rfl⟩
      rintro vv2 τ2 (⟨hb2, hv2, μ2, rfl, ho2, hq2⟩ | ⟨_, hv2, _⟩)
      rotate_left
      · cases hv2
      obtain rfl := Sum.inl.inj hv2
      refine w_ld d_83_72 rfl rfl rfl ?_
      refine w_bip d_83_73 (by decide) ?_
      refine w_cVq (as := [_]) (rest := _) rfl d_83_75 (by rfl) (by rfl) (by first | rfl | assumption) (by rfl) (by rfl) (Nat.le_of_ble_eq_true rfl) (by omega) (by omega) (t_pt hT hY ho2.2.1 (c := 34) (by decide) (by omega) (by omega) hr) ?_ ?_
      rotate_left
      · intro r τ g
        rw [ex, ← List.append_assoc]
        exact PW_cut (WOK_trans ho1 ho2) (PX_W g) ⟨[], by rw [List.append_nil]⟩
      rintro vv3 τ3 (⟨hb3, hv3, μ3, rfl, ho3, hq3⟩ | ⟨_, hv3, _⟩)
      rotate_left
      · cases hv3
      obtain rfl := Sum.inl.inj hv3
      refine w_ld d_83_78 rfl rfl rfl ?_
      refine w_if_eq (g := 101) d_83_80 (by decide) (by omega) (fun h80 => ?_) (fun h80 => ?_)
      · exact absurd h80 (by omega)
      · refine w_ld d_83_83 rfl rfl rfl ?_
        refine w_con d_83_85 ?_
        refine w_icmp_ne (g := 101) d_83_86 (by decide) (by omega) (fun h86 => ?_) (fun h86 => ?_)
        · refine w_ld d_83_101 rfl rfl rfl ?_
          refine w_getF d_83_102 (by rfl) (by first | rfl | assumption) (by rfl) (by rfl) ?_
          refine w_ld d_83_105 rfl rfl rfl ?_
          refine w_cV0 (a := 39) (as := [_]) (rest := _) rfl d_83_106 (by rfl) (by rfl) (by first | rfl | assumption) (by rfl) (by rfl) (Nat.le_of_ble_eq_true rfl) (by omega) (by omega) (by have e := t_cut (sc := sc) (fr := fr - 1) (lo := lo - (19 + 2)) (μ := μ3) (ρ := ρ) (a := 39) (n := 480) rfl rfl (by have := ho3.2.1.2.2.1; omega) (k := μ.1 39 1 - w.length); exact e) ?_
          refine w_ret d_83_109 rfl ?_
          have e9 : μ3.1 39 1 = μ.1 39 1 := hq3.trans (hq2.trans hq1)
          have hcut := WOK_cut hT hY ho3.2.1
          rw [e9] at hcut
          have hall := WOK_trans (WOK_trans (WOK_trans ho1 ho2) ho3) hcut
          rw [ex, en]
          rw [List.append_nil, List.append_assoc] at hall
          have q := hall.2.1.2.1
          have q2 := hall.2.2.1
          exact Or.inl ⟨by omega, rfl, _, rfl, hall⟩
        · exact absurd h86 (by omega)
    · have hfd : ¬ fnd N w < N.length := fun z => by rw [hc, if_pos z] at h55; omega
      have ex : txt N w key = [34] ++ (esc w ++ [34]) := if_neg (fun z => hfd z.2)
      have en : nts N w key = (if N.length = 24 then [] else N) ++ [w] := if_pos ⟨ht1, hfd⟩
      refine w_ld d_83_58 rfl rfl rfl ?_
      refine w_ld d_83_59 rfl rfl rfl ?_
      refine w_cVq (a := 35) (as := [_]) (rest := _) rfl d_83_60 (by rfl) (by rfl) (by first | rfl | assumption) (by rfl) (by rfl) (Nat.le_of_ble_eq_true rfl) (by omega) (by omega) (by have e := t_pes (sc := sc) (fr := fr - 1) (lo := lo - (19 + 4)) (ρ := ρ) hT hY ho1.2.1 (by omega) (by omega) hr; rw [hq1] at e; exact e) ?_ ?_
      rotate_left
      · intro r τ g
        rw [ex]
        exact PW_cut ho1 (PX_W g) ⟨[34], rfl⟩
      rintro vv2 τ2 (⟨hb2, hv2, μ2, rfl, ho2, hq2⟩ | ⟨_, hv2, _⟩)
      rotate_left
      · cases hv2
      obtain rfl := Sum.inl.inj hv2
      refine w_goto (g := 72) d_83_63 (by decide) ?_
      refine w_ld d_83_72 rfl rfl rfl ?_
      refine w_bip d_83_73 (by decide) ?_
      refine w_cVq (as := [_]) (rest := _) rfl d_83_75 (by rfl) (by rfl) (by first | rfl | assumption) (by rfl) (by rfl) (Nat.le_of_ble_eq_true rfl) (by omega) (by omega) (t_pt hT hY ho2.2.1 (c := 34) (by decide) (by omega) (by omega) hr) ?_ ?_
      rotate_left
      · intro r τ g
        rw [ex, ← List.append_assoc]
        exact PW_cut (WOK_trans ho1 ho2) (PX_W g) ⟨[], by rw [List.append_nil]⟩
      rintro vv3 τ3 (⟨hb3, hv3, μ3, rfl, ho3, hq3⟩ | ⟨_, hv3, _⟩)
      rotate_left
      · cases hv3
      obtain rfl := Sum.inl.inj hv3
      refine w_ld d_83_78 rfl rfl rfl ?_
      refine w_if_eq (g := 101) d_83_80 (by decide) (by omega) (fun h80 => ?_) (fun h80 => ?_)
      · exact absurd h80 (by omega)
      · refine w_ld d_83_83 rfl rfl rfl ?_
        refine w_con d_83_85 ?_
        refine w_icmp_ne (g := 101) d_83_86 (by decide) (by omega) (fun h86 => ?_) (fun h86 => ?_)
        · exact absurd h55 h86
        · refine w_ld d_83_89 rfl rfl rfl ?_
          refine w_getF d_83_90 (by rfl) (by first | rfl | assumption) (by rfl) (by rfl) ?_
          refine w_ld d_83_93 rfl rfl rfl ?_
          refine w_ld d_83_94 rfl rfl rfl ?_
          refine w_cV0 (as := [_, _]) (rest := _) rfl d_83_95 (by rfl) (by rfl) (by first | rfl | assumption) (by rfl) (by rfl) (Nat.le_of_ble_eq_true rfl) (by omega) (by omega) (t_note (a := 36) (Or.inr rfl) (by omega) (by omega) (by have z := ho3.2.1.2.2.2.2.1.1; omega)) ?_
          have e9 : μ3.1 39 1 = μ.1 39 1 := hq3.trans (hq2.trans hq1)
          have z36 := ho3.2.1.2.2.2.2.1.1
          have hd1 := ho1.2.2.1
          have hd2 := ho2.2.2.1
          have hd3 := ho3.2.2.1
          have hel := esc_len w
          have hnr : μ3.1 39 1 + 3 ≤ μ3.1 y 1 := by
            have : (([34] : List Int).length : Int) = 1 := rfl
            omega
          have hfin : ∃ μ9, (if μ3.1 36 2 < 24 then (hp (stI (stA (stA μ3 (36 + 1) (μ3.1 36 2) (μ.1 39 1 - w.length)) (36 + 2) (μ3.1 36 2) (w.length : Int)) 36 2 (μ3.1 36 2 + 1)), ρ) else (hp (stI (stA (stA (stI μ3 36 2 0) (36 + 1) 0 (μ.1 39 1 - w.length)) (36 + 2) 0 (w.length : Int)) 36 2 (0 + 1)), ρ)) = (hp μ9, ρ) ∧ WOK t y [] (nts N w key) [] μ3 μ9 := by
            rw [en]
            by_cases z : μ3.1 36 2 < 24
            · rw [if_pos z, if_neg (show ¬ N.length = 24 by omega)]
              refine ⟨_, rfl, WOK_note hT hY ho3.2.1 hnr (Or.inl ⟨rfl, by omega⟩) (fun a q hz => stI_ne hz) rfl (fun a i hz => ?_) (by rw [stI_at, z36.1]) ?_ ?_⟩
              · show (stA (stA μ3 37 (μ3.1 36 2) (μ.1 39 1 - w.length)) 38 (μ3.1 36 2) (w.length : Int)).2.2 a i = _
                rw [stA_ne (by omega), stA_ne (by omega)]
              · show (stA (stA μ3 37 (μ3.1 36 2) (μ.1 39 1 - w.length)) 38 (μ3.1 36 2) (w.length : Int)).2.2 37 N.length = _
                rw [stA_o2 (by omega), ← z36.1, stA_at, e9]
              · show (stA (stA μ3 37 (μ3.1 36 2) (μ.1 39 1 - w.length)) 38 (μ3.1 36 2) (w.length : Int)).2.2 38 N.length = _
                rw [← z36.1, stA_at]
            · rw [if_neg z, if_pos (show N.length = 24 by omega)]
              refine ⟨_, rfl, WOK_note (M := []) hT hY ho3.2.1 hnr (Or.inr ⟨rfl, by omega⟩) (fun a q hz => (stI_ne hz).trans (stI_ne hz)) rfl (fun a i hz => ?_) (by rw [stI_at]; rfl) ?_ ?_⟩
              · show (stA (stA (stI μ3 36 2 0) 37 0 (μ.1 39 1 - w.length)) 38 0 (w.length : Int)).2.2 a i = _
                have hz : ¬ ((a = 37 ∨ a = 38) ∧ i = 0) := hz
                rw [stA_ne (by omega), stA_ne (by omega)]; rfl
              · show (stA (stA (stI μ3 36 2 0) 37 0 (μ.1 39 1 - w.length)) 38 0 (w.length : Int)).2.2 37 0 = _
                rw [stA_o2 (by omega), stA_at, e9]
              · exact stA_at _ _ _ _
          obtain ⟨μ9, hm9, hn9⟩ := hfin
          rw [hm9]
          refine w_goto (g := 109) d_83_98 (by decide) ?_
          refine w_ret d_83_109 rfl ?_
          have hall := WOK_trans (WOK_trans (WOK_trans ho1 ho2) ho3) hn9
          rw [ex]
          rw [List.append_nil, List.append_assoc] at hall
          have q := hall.2.1.2.1
          have q2 := hall.2.2.1
          exact Or.inl ⟨by omega, rfl, _, rfl, hall⟩
