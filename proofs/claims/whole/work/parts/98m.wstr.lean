/-! THE PURE PART, 92: contracts: the class writes strings -/
/-- as PW; the raw letters stay -/
def PX (t y : Nat) (μ : Mem) (ρ : Nat × Nat × Nat) (l : List Int) (N : List (List Int)) (w : List Int) (o : z_O) (τ : z_T) : Prop :=
  (μ.1 y 1 + l.length ≤ 240 ∧ o = .inl none ∧ ∃ μ', τ = (hp μ', ρ) ∧ WOK t y l N w μ μ' ∧ μ'.1 39 1 = μ.1 39 1) ∨ (240 < μ.1 y 1 + l.length ∧ o = .inr (3, ρ.1) ∧ ∃ μ', τ = (hp μ', ρ.1 + 1, ρ.2.1 - 1, ρ.2.2 - 6) ∧ WBD y μ μ')
theorem PX_none {t y : Nat} {μ : Mem} {ρ : Nat × Nat × Nat} {l : List Int} {N : List (List Int)} {w : List Int} {v : Option Value} {τ : z_T} (h : PX t y μ ρ l N w (.inl v) τ) : v = none := by
  rcases h with ⟨_, h, _⟩ | ⟨_, h, _⟩
  · exact Sum.inl.inj h
  · cases h
theorem PW_none {t y : Nat} {μ : Mem} {ρ : Nat × Nat × Nat} {l : List Int} {N : List (List Int)} {w : List Int} {v : Option Value} {τ : z_T} (h : PW t y μ ρ l N w (.inl v) τ) : v = none := by
  rcases h with ⟨_, h, _⟩ | ⟨_, h, _⟩
  · exact Sum.inl.inj h
  · cases h
/-- one behind the other -/
theorem PX_seq {t y : Nat} {μ μ1 : Mem} {ρ : Nat × Nat × Nat} {l m : List Int} {N M : List (List Int)} {v w : List Int} {o : z_O} {τ : z_T} (h : WOK t y l N v μ μ1) (h9 : μ1.1 39 1 = μ.1 39 1) (g : PX t y μ1 ρ m M w o τ) : PX t y μ ρ (l ++ m) M w o τ := by
  have e := h.2.2.1
  rcases g with ⟨g1, g2, μ', g3, g4, g5⟩ | ⟨g1, g2, μ', g3, g4⟩
  · exact Or.inl ⟨by rw [List.length_append]; omega, g2, μ', g3, WOK_trans h g4, g5.trans h9⟩
  · exact Or.inr ⟨by rw [List.length_append]; omega, g2, μ', g3, WBD_of h g4⟩
theorem PW_seq {t y : Nat} {μ μ1 : Mem} {ρ : Nat × Nat × Nat} {l m : List Int} {N M : List (List Int)} {v w : List Int} {o : z_O} {τ : z_T} (h : WOK t y l N v μ μ1) (g : PW t y μ1 ρ m M w o τ) : PW t y μ ρ (l ++ m) M w o τ := by
  have e := h.2.2.1
  rcases g with ⟨g1, g2, μ', g3, g4⟩ | ⟨g1, g2, μ', g3, g4⟩
  · exact Or.inl ⟨by rw [List.length_append]; omega, g2, μ', g3, WOK_trans h g4⟩
  · exact Or.inr ⟨by rw [List.length_append]; omega, g2, μ', g3, WBD_of h g4⟩
/-- no more room: whatever would follow -/
theorem PW_cut {t y : Nat} {μ μ1 : Mem} {ρ : Nat × Nat × Nat} {l m k : List Int} {N M M' : List (List Int)} {v w w' : List Int} {r : Nat × Nat} {τ : z_T} (h : WOK t y l N v μ μ1) (g : PW t y μ1 ρ m M w (.inr r) τ) (hk : ∃ q, k = l ++ (m ++ q)) : PW t y μ ρ k M' w' (.inr r) τ := by
  have e := h.2.2.1
  obtain ⟨q, rfl⟩ := hk
  rcases g with ⟨_, g2, _⟩ | ⟨g1, g2, μ', g3, g4⟩
  · cases g2
  · exact Or.inr ⟨by rw [List.length_append, List.length_append]; omega, g2, μ', g3, WBD_of h g4⟩
theorem PX_W {t y : Nat} {μ : Mem} {ρ : Nat × Nat × Nat} {l : List Int} {N : List (List Int)} {w : List Int} {o : z_O} {τ : z_T} (h : PX t y μ ρ l N w o τ) : PW t y μ ρ l N w o τ := by
  rcases h with ⟨g1, g2, μ', g3, g4, _⟩ | g
  · exact Or.inl ⟨g1, g2, μ', g3, g4⟩
  · exact Or.inr g
theorem PX_cut {t y : Nat} {μ μ1 : Mem} {ρ : Nat × Nat × Nat} {l m k : List Int} {N M M' : List (List Int)} {v w w' : List Int} {r : Nat × Nat} {τ : z_T} (h : WOK t y l N v μ μ1) (g : PX t y μ1 ρ m M w (.inr r) τ) (hk : ∃ q, k = l ++ (m ++ q)) : PX t y μ ρ k M' w' (.inr r) τ := by
  have e := h.2.2.1
  obtain ⟨q, rfl⟩ := hk
  rcases g with ⟨_, g2, _⟩ | ⟨g1, g2, μ', g3, g4⟩
  · cases g2
  · exact Or.inr ⟨by rw [List.length_append, List.length_append]; omega, g2, μ', g3, WBD_of h g4⟩
theorem t_pt {sc : Nat × (Nat → Int32)} {fr lo : Nat} {μ : Mem} {ρ : Nat × Nat × Nat} {t y : Nat} (hT : isT t) (hY : y = 42 ∨ y = 44) {N : List (List Int)} {w : List Int} (hW : WC t y N w μ) {c : Int} (hc : 0 ≤ c ∧ c < 65536) (hf : 10 ≤ fr) (hl : 200 ≤ lo) (hr : 1 ≤ ρ.2.1 ∧ 6 ≤ ρ.2.2) : w_S sc fr lo 74 [.ref 35, .int (ji c)] (hp μ, ρ) (PX t y μ ρ [c] N w) := by
  by_cases hn : μ.1 y 1 < 240
  · refine (t_putO hT hY hW hc hn hf hl hr).mono ?_
    rintro o τ ⟨rfl, rfl⟩
    exact Or.inl ⟨by show μ.1 y 1 + 1 ≤ 240; omega, rfl, _, rfl, WOK_1 hT hY hW hc hn, stI_ne (by omega)⟩
  · refine (t_putF hT hY hW hc hn hf hl hr).mono ?_
    rintro o τ ⟨rfl, rfl⟩
    exact Or.inr ⟨by show 240 < μ.1 y 1 + 1; omega, rfl, _, rfl, WC_bd hW⟩
theorem t_pcd {sc : Nat × (Nat → Int32)} {fr lo : Nat} {μ : Mem} {ρ : Nat × Nat × Nat} {t y : Nat} (hT : isT t) (hY : y = 42 ∨ y = 44) {N : List (List Int)} {w : List Int} (hW : WC t y N w μ) {n : Nat} (hn : n < 24) (hf : 20 ≤ fr) (hl : 900 ≤ lo) (hr : 1 ≤ ρ.2.1 ∧ 6 ≤ ρ.2.2) : w_S sc fr lo 86 [.ref 35, .int (ji (n : Int))] (hp μ, ρ) (PX t y μ ρ (cdt n) N w) := by
  refine w_S.of (L0 := [some (.ref 35), some (.int (ji (n : Int)))]) rfl rfl (Nat.le_of_ble_eq_true rfl) (by rfl) ?_
  refine w_ld d_86_0 rfl rfl rfl ?_
  refine w_bip d_86_1 (by decide) ?_
  refine w_cVq (as := [_]) (rest := _) rfl d_86_3 (by rfl) (by rfl) (by first | rfl | assumption) (by rfl) (by rfl) (Nat.le_of_ble_eq_true rfl) (by omega) (by omega) (t_pt hT hY hW (c := 94) (by decide) (by omega) (by omega) hr) ?_ ?_
  rotate_left
  · intro r τ g
    have e : ∃ q, cdt n = [] ++ ([94] ++ q) := by
      unfold cdt
      split
      · exact ⟨_, rfl⟩
      · exact ⟨_, rfl⟩
    exact PX_cut (WOK_refl hW) g e
  rintro vv1 τ1 (⟨hb1, hv1, μ1, rfl, ho1, hq1⟩ | ⟨_, hv1, _⟩)
  rotate_left
  · cases hv1
  obtain rfl := Sum.inl.inj hv1
  refine w_ld d_86_6 rfl rfl rfl ?_
  refine w_bip d_86_7 (by decide) ?_
  refine w_icmp_lt (g := 23) d_86_9 (by decide) (by omega) (fun h9 => ?_) (fun h9 => ?_)
  · have e0 : cdt n = [94] ++ [48 + ((n % 6 : Nat) : Int)] := if_neg (by omega)
    refine w_ld d_86_23 rfl rfl rfl ?_
    refine w_bip d_86_24 (by decide) ?_
    refine w_ld d_86_26 rfl rfl rfl ?_
    refine w_bip d_86_27 (by decide) ?_
    refine w_irem d_86_29 (by omega) (by decide) ?_
    refine w_iadd d_86_30 ?_
    refine w_cVq (as := [_]) (rest := _) rfl d_86_31 (by rfl) (by rfl) (by first | rfl | assumption) (by rfl) (by rfl) (Nat.le_of_ble_eq_true rfl) (by omega) (by omega) (t_pt hT hY ho1.2.1 (c := 48 + ((n % 6 : Nat) : Int)) (by omega) (by omega) (by omega) hr) ?_ ?_
    rotate_left
    · intro r τ g
      rw [e0]
      exact PX_seq ho1 hq1 g
    rintro v τ g
    obtain rfl := PX_none g
    refine w_ret d_86_34 rfl ?_
    rw [e0]
    exact PX_seq ho1 hq1 g
  · have e0 : cdt n = [94] ++ ([48 + ((n / 6 : Nat) : Int)] ++ [48 + ((n % 6 : Nat) : Int)]) := if_pos (by omega)
    refine w_ld d_86_12 rfl rfl rfl ?_
    refine w_bip d_86_13 (by decide) ?_
    refine w_ld d_86_15 rfl rfl rfl ?_
    refine w_bip d_86_16 (by decide) ?_
    refine w_idiv d_86_18 (by omega) (by decide) ?_
    refine w_iadd d_86_19 ?_
    refine w_cVq (as := [_]) (rest := _) rfl d_86_20 (by rfl) (by rfl) (by first | rfl | assumption) (by rfl) (by rfl) (Nat.le_of_ble_eq_true rfl) (by omega) (by omega) (t_pt hT hY ho1.2.1 (c := 48 + ((n / 6 : Nat) : Int)) (by omega) (by omega) (by omega) hr) ?_ ?_
    rotate_left
    · intro r τ g
      rw [e0]
      exact PX_cut ho1 g ⟨_, rfl⟩
    rintro vv2 τ2 (⟨hb2, hv2, μ2, rfl, ho2, hq2⟩ | ⟨_, hv2, _⟩)
    rotate_left
    · cases hv2
    obtain rfl := Sum.inl.inj hv2
    refine w_ld d_86_23 rfl rfl rfl ?_
    refine w_bip d_86_24 (by decide) ?_
    refine w_ld d_86_26 rfl rfl rfl ?_
    refine w_bip d_86_27 (by decide) ?_
    refine w_irem d_86_29 (by omega) (by decide) ?_
    refine w_iadd d_86_30 ?_
    refine w_cVq (as := [_]) (rest := _) rfl d_86_31 (by rfl) (by rfl) (by first | rfl | assumption) (by rfl) (by rfl) (Nat.le_of_ble_eq_true rfl) (by omega) (by omega) (t_pt hT hY ho2.2.1 (c := 48 + ((n % 6 : Nat) : Int)) (by omega) (by omega) (by omega) hr) ?_ ?_
    rotate_left
    · intro r τ g
      rw [e0, ← List.append_assoc]
      exact PX_seq (WOK_trans ho1 ho2) (hq2.trans hq1) g
    rintro v τ g
    obtain rfl := PX_none g
    refine w_ret d_86_34 rfl ?_
    rw [e0, ← List.append_assoc]
    exact PX_seq (WOK_trans ho1 ho2) (hq2.trans hq1) g
theorem t_pes_l {sc : Nat × (Nat → Int32)} {fr lo : Nat} {ρ : Nat × Nat × Nat} {μ : Mem} {t y : Nat} (hT : isT t) (hY : y = 42 ∨ y = 44) {N : List (List Int)} {w : List Int} (hW : WC t y N w μ) (hf : 20 ≤ fr) (hl : 900 ≤ lo) (hr : 1 ≤ ρ.2.1 ∧ 6 ≤ ρ.2.2) : ∀ (m : Nat) (j : Nat) (μ1 : Mem), ((w.length : Int) - j).toNat = m → j ≤ w.length → WOK t y (esc (w.take j)) N w μ μ1 → μ1.1 39 1 = μ.1 39 1 → w_P sc fr lo 85 6 4 false (none) prog_7_method_21_code 2 [some (.ref 35), some (.int (ji (μ.1 39 1 - w.length))), some (.int (ji (μ.1 39 1 - w.length + (j : Int)))), none] [] (hp (μ1), ρ) (PX t y μ ρ (esc w) N w) := by
  intro m
  induction m using Nat.strongRecOn with
  | ind m ih =>
    intro j μ1 hm hj ho h39
    have hw3 := hW.2.2.1
    refine w_ld d_85_2 rfl rfl rfl ?_
    refine w_ld d_85_3 rfl rfl rfl ?_
    refine w_getF d_85_4 (by rfl) (by first | rfl | assumption) (by rfl) (by rfl) ?_
    refine w_gI d_85_7 (by rfl) (by first | rfl | assumption) (by rfl) (show _ = μ.1 39 1 from h39) ?_
    refine w_icmp_ge (g := 51) d_85_10 (by decide) (by omega) (fun h10 => ?_) (fun h10 => ?_)
    · refine w_ret d_85_51 rfl ?_
      have e : w.take j = w := List.take_of_length_le (by omega)
      rw [e] at ho
      have q := ho.2.1.2.1
      have q2 := ho.2.2.1
      exact Or.inl ⟨by omega, rfl, μ1, rfl, ho, h39⟩
    · have pk : w_E sc (fr - 1) (lo - (19 + 2)) 13 [.ref 39, .int (ji (μ.1 39 1 - w.length + (j : Int)))] (hp μ1, ρ) (.inl (some (.int (ji (w.getD j 0))))) (hp μ1, ρ) := by
        have e := t_peek (sc := sc) (fr := fr - 1) (lo := lo - (19 + 2)) (μ := μ1) (ρ := ρ) (a := 39) (n := 480) rfl rfl (by have := ho.2.1.2.2.1; omega) (k := μ.1 39 1 - w.length + (j : Int)) (by have := ho.2.1.2.2.1; omega)
        rw [if_pos (by have := ho.2.1.2.2.1; omega), show μ.1 39 1 - (w.length : Int) = μ1.1 39 1 - w.length by omega, ho.2.1.2.2.2.2.2 j (by omega)] at e
        rw [show μ.1 39 1 - (w.length : Int) = μ1.1 39 1 - w.length by omega]
        exact e
      have hc0 : 0 ≤ w.getD j 0 ∧ w.getD j 0 < 65536 := by
        have z := ho.2.1.2.2.2.1 39 480 (Or.inr ⟨rfl, rfl⟩) (μ1.1 39 1 - w.length + (j : Int))
        rw [ho.2.1.2.2.2.2.2 j (by omega)] at z
        exact z
      refine w_ld d_85_13 rfl rfl rfl ?_
      refine w_getF d_85_14 (by rfl) (by first | rfl | assumption) (by rfl) (by rfl) ?_
      refine w_ld d_85_17 rfl rfl rfl ?_
      refine w_cV1 (a := 39) (as := [_]) (rest := _) rfl d_85_18 (by rfl) (by rfl) (by first | rfl | assumption) (by rfl) (by rfl) (Nat.le_of_ble_eq_true rfl) (by omega) (by omega) pk ?_
      refine w_st1 (L' := [_, _, _, _]) d_85_21 rfl (by decide) rfl (by decide) rfl ?_
      refine w_ld d_85_22 rfl rfl rfl ?_
      refine w_bip d_85_23 (by decide) ?_
      refine w_icmp_eq (g := 34) d_85_25 (by decide) (by omega) (fun h25 => ?_) (fun h25 => ?_)
      · have hs : w.getD j 0 = 34 ∨ w.getD j 0 = 92 := by omega
        have e : esc (w.take (j + 1)) = esc (w.take j) ++ ([92] ++ [w.getD j 0]) := by
          rw [take_getD (by omega), esc_app]
          show _ ++ ((if w.getD j 0 = 34 ∨ w.getD j 0 = 92 then [92, w.getD j 0] else [w.getD j 0]) ++ []) = _
          rw [if_pos hs]
          rfl
        have hpre : ∃ q, esc w = esc (w.take (j + 1)) ++ q := ⟨esc (w.drop (j + 1)), by rw [← esc_app, List.take_append_drop]⟩
        obtain ⟨q0, hq0⟩ := hpre
        refine w_ld d_85_34 rfl rfl rfl ?_
        refine w_bip d_85_35 (by decide) ?_
        refine w_cVq (a := 35) (as := [_]) (rest := _) rfl d_85_37 (by rfl) (by rfl) (by first | rfl | assumption) (by rfl) (by rfl) (Nat.le_of_ble_eq_true rfl) (by omega) (by omega) (t_pt hT hY ho.2.1 (c := 92) (by decide) (by omega) (by omega) hr) ?_ ?_
        rotate_left
        · intro r τ g
          exact PX_cut ho g ⟨[w.getD j 0] ++ q0, by rw [hq0, e]; simp⟩
        rintro vv1 τ1 (⟨hb1, hv1, μ1, rfl, ho1, hq1⟩ | ⟨_, hv1, _⟩)
        rotate_left
        · cases hv1
        obtain rfl := Sum.inl.inj hv1
        refine w_ld d_85_40 rfl rfl rfl ?_
        refine w_ld d_85_41 rfl rfl rfl ?_
        refine w_cVq (a := 35) (as := [_]) (rest := _) rfl d_85_42 (by rfl) (by rfl) (by first | rfl | assumption) (by rfl) (by rfl) (Nat.le_of_ble_eq_true rfl) (by omega) (by omega) (t_pt hT hY ho1.2.1 hc0 (by omega) (by omega) hr) ?_ ?_
        rotate_left
        · intro r τ g
          exact PX_cut (WOK_trans ho ho1) g ⟨q0, by rw [hq0, e]; simp⟩
        rintro vv2 τ2 (⟨hb2, hv2, μ2, rfl, ho2, hq2⟩ | ⟨_, hv2, _⟩)
        rotate_left
        · cases hv2
        obtain rfl := Sum.inl.inj hv2
        refine w_inc (L' := [_, _, _, _]) d_85_45 rfl (by decide) rfl ?_
        refine w_goto (g := 2) d_85_48 (by decide) ?_
        rw [show μ.1 39 1 - (w.length : Int) + (j : Int) + 1 = μ.1 39 1 - w.length + ((j + 1 : Nat) : Int) by omega]
        exact w_P.le (ih _ (by omega) (j + 1) μ2 rfl (by omega) (by rw [e, ← List.append_assoc]; exact WOK_trans (WOK_trans ho ho1) ho2) (by omega)) ⟨rfl, rfl, rfl, trivial⟩
      · refine w_ld d_85_28 rfl rfl rfl ?_
        refine w_bip d_85_29 (by decide) ?_
        refine w_icmp_ne (g := 40) d_85_31 (by decide) (by omega) (fun h31 => ?_) (fun h31 => ?_)
        · have hs : ¬ (w.getD j 0 = 34 ∨ w.getD j 0 = 92) := by omega
          have e : esc (w.take (j + 1)) = esc (w.take j) ++ ([w.getD j 0]) := by
            rw [take_getD (by omega), esc_app]
            show _ ++ ((if w.getD j 0 = 34 ∨ w.getD j 0 = 92 then [92, w.getD j 0] else [w.getD j 0]) ++ []) = _
            rw [if_neg hs]
            rfl
          have hpre : ∃ q, esc w = esc (w.take (j + 1)) ++ q := ⟨esc (w.drop (j + 1)), by rw [← esc_app, List.take_append_drop]⟩
          obtain ⟨q0, hq0⟩ := hpre
          refine w_ld d_85_40 rfl rfl rfl ?_
          refine w_ld d_85_41 rfl rfl rfl ?_
          refine w_cVq (a := 35) (as := [_]) (rest := _) rfl d_85_42 (by rfl) (by rfl) (by first | rfl | assumption) (by rfl) (by rfl) (Nat.le_of_ble_eq_true rfl) (by omega) (by omega) (t_pt hT hY ho.2.1 hc0 (by omega) (by omega) hr) ?_ ?_
          rotate_left
          · intro r τ g
            exact PX_cut ho g ⟨q0, by rw [hq0, e]; simp⟩
          rintro vv2 τ2 (⟨hb2, hv2, μ2, rfl, ho2, hq2⟩ | ⟨_, hv2, _⟩)
          rotate_left
          · cases hv2
          obtain rfl := Sum.inl.inj hv2
          refine w_inc (L' := [_, _, _, _]) d_85_45 rfl (by decide) rfl ?_
          refine w_goto (g := 2) d_85_48 (by decide) ?_
          rw [show μ.1 39 1 - (w.length : Int) + (j : Int) + 1 = μ.1 39 1 - w.length + ((j + 1 : Nat) : Int) by omega]
          exact w_P.le (ih _ (by omega) (j + 1) μ2 rfl (by omega) (by rw [e]; exact WOK_trans ho ho2) (by omega)) ⟨rfl, rfl, rfl, trivial⟩
        · have hs : w.getD j 0 = 34 ∨ w.getD j 0 = 92 := by omega
          have e : esc (w.take (j + 1)) = esc (w.take j) ++ ([92] ++ [w.getD j 0]) := by
            rw [take_getD (by omega), esc_app]
            show _ ++ ((if w.getD j 0 = 34 ∨ w.getD j 0 = 92 then [92, w.getD j 0] else [w.getD j 0]) ++ []) = _
            rw [if_pos hs]
            rfl
          have hpre : ∃ q, esc w = esc (w.take (j + 1)) ++ q := ⟨esc (w.drop (j + 1)), by rw [← esc_app, List.take_append_drop]⟩
          obtain ⟨q0, hq0⟩ := hpre
          refine w_ld d_85_34 rfl rfl rfl ?_
          refine w_bip d_85_35 (by decide) ?_
          refine w_cVq (a := 35) (as := [_]) (rest := _) rfl d_85_37 (by rfl) (by rfl) (by first | rfl | assumption) (by rfl) (by rfl) (Nat.le_of_ble_eq_true rfl) (by omega) (by omega) (t_pt hT hY ho.2.1 (c := 92) (by decide) (by omega) (by omega) hr) ?_ ?_
          rotate_left
          · intro r τ g
            exact PX_cut ho g ⟨[w.getD j 0] ++ q0, by rw [hq0, e]; simp⟩
          rintro vv1 τ1 (⟨hb1, hv1, μ1, rfl, ho1, hq1⟩ | ⟨_, hv1, _⟩)
          rotate_left
          · cases hv1
          obtain rfl := Sum.inl.inj hv1
          refine w_ld d_85_40 rfl rfl rfl ?_
          refine w_ld d_85_41 rfl rfl rfl ?_
          refine w_cVq (a := 35) (as := [_]) (rest := _) rfl d_85_42 (by rfl) (by rfl) (by first | rfl | assumption) (by rfl) (by rfl) (Nat.le_of_ble_eq_true rfl) (by omega) (by omega) (t_pt hT hY ho1.2.1 hc0 (by omega) (by omega) hr) ?_ ?_
          rotate_left
          · intro r τ g
            exact PX_cut (WOK_trans ho ho1) g ⟨q0, by rw [hq0, e]; simp⟩
          rintro vv2 τ2 (⟨hb2, hv2, μ2, rfl, ho2, hq2⟩ | ⟨_, hv2, _⟩)
          rotate_left
          · cases hv2
          obtain rfl := Sum.inl.inj hv2
          refine w_inc (L' := [_, _, _, _]) d_85_45 rfl (by decide) rfl ?_
          refine w_goto (g := 2) d_85_48 (by decide) ?_
          rw [show μ.1 39 1 - (w.length : Int) + (j : Int) + 1 = μ.1 39 1 - w.length + ((j + 1 : Nat) : Int) by omega]
          exact w_P.le (ih _ (by omega) (j + 1) μ2 rfl (by omega) (by rw [e, ← List.append_assoc]; exact WOK_trans (WOK_trans ho ho1) ho2) (by omega)) ⟨rfl, rfl, rfl, trivial⟩
theorem t_pes {sc : Nat × (Nat → Int32)} {fr lo : Nat} {μ : Mem} {ρ : Nat × Nat × Nat} {t y : Nat} (hT : isT t) (hY : y = 42 ∨ y = 44) {N : List (List Int)} {w : List Int} (hW : WC t y N w μ) (hf : 20 ≤ fr) (hl : 900 ≤ lo) (hr : 1 ≤ ρ.2.1 ∧ 6 ≤ ρ.2.2) : w_S sc fr lo 85 [.ref 35, .int (ji (μ.1 39 1 - w.length))] (hp μ, ρ) (PX t y μ ρ (esc w) N w) := by
  refine w_S.of (L0 := [some (.ref 35), some (.int (ji (μ.1 39 1 - w.length))), none, none]) rfl rfl (Nat.le_of_ble_eq_true rfl) (by rfl) ?_
  refine w_ld d_85_0 rfl rfl rfl ?_
  refine w_st1 (L' := [_, _, _, _]) d_85_1 rfl (by decide) rfl (by decide) rfl ?_
  have e := t_pes_l (sc := sc) (fr := fr) (lo := lo) (ρ := ρ) hT hY hW hf hl hr _ 0 μ rfl (Nat.zero_le _) (WOK_refl hW) rfl
  rw [show μ.1 39 1 - (w.length : Int) + ((0 : Nat) : Int) = μ.1 39 1 - w.length by omega] at e
  exact w_P.le e ⟨rfl, rfl, rfl, trivial⟩
theorem t_fnd_l {sc : Nat × (Nat → Int32)} {fr lo : Nat} {μ : Mem} {ρ : Nat × Nat × Nat} {t y : Nat} (hT : isT t) (hY : y = 42 ∨ y = 44) {N : List (List Int)} {w : List Int} (hW : WC t y N w μ) (hf : 10 ≤ fr) (hl : 300 ≤ lo) : ∀ (m : Nat) (n : Nat), ((N.length : Int) - n).toNat = m → n ≤ N.length → (∀ m, m < n → N.getD m [] ≠ w) → w_P sc fr lo 84 3 5 false ((some FieldType.int)) prog_3_method_4_code 3 [some (.ref 36), some (.ref 39), some (.int (ji (μ.1 39 1 - w.length))), some (.int (ji (w.length : Int))), some (.int (ji (n : Int)))] [] (hp (μ), ρ) (fun o τ => o = .inl (some (.int (ji (if fnd N w < N.length then (fnd N w : Int) else -1)))) ∧ τ = (hp μ, ρ)) := by
  intro m
  induction m using Nat.strongRecOn with
  | ind m ih =>
    intro n hm hnl hno
    have hn := hW.2.2.2.2.1
    have hw3 := hW.2.2.1
    have hw2 := hW.2.1
    have h24 := hn.1.2
    refine w_ld d_84_3 rfl rfl rfl ?_
    refine w_ld d_84_5 rfl rfl rfl ?_
    refine w_gI d_84_6 (by rfl) (by first | rfl | assumption) (by rfl) hn.1.1 ?_
    refine w_icmp_ge (g := 49) d_84_9 (by decide) (by omega) (fun h9 => ?_) (fun h9 => ?_)
    · refine w_con d_84_49 ?_
      refine w_iret d_84_50 rfl ?_
      have e : fnd N w = N.length := fnd_no (fun m hm2 => hno m (by omega))
      rw [if_neg (by omega)]
      exact ⟨rfl, rfl⟩
    · obtain ⟨n1, n2, n3, n4⟩ := hn.2 n (by omega)
      refine w_ld d_84_12 rfl rfl rfl ?_
      refine w_getF d_84_13 (by rfl) (by first | rfl | assumption) (by rfl) (by rfl) ?_
      refine w_ld d_84_16 rfl rfl rfl ?_
      refine w_aI d_84_18 (by first | rfl | assumption) (by omega) n1 ?_
      refine w_ld d_84_19 rfl rfl rfl ?_
      refine w_icmp_ne (g := 43) d_84_20 (by decide) (by omega) (fun h20 => ?_) (fun h20 => ?_)
      · refine w_inc (L' := [_, _, _, _, _]) d_84_43 rfl (by decide) rfl ?_
        refine w_goto (g := 3) d_84_46 (by decide) ?_
        exact ih _ (by omega) (n + 1) rfl (by omega) (fun m hm2 => by
          by_cases z : m = n
          · rw [z]; exact fun e => h20 (by rw [e])
          · exact hno m (by omega))
      · refine w_ld d_84_23 rfl rfl rfl ?_
        refine w_ld d_84_24 rfl rfl rfl ?_
        refine w_getF d_84_25 (by rfl) (by first | rfl | assumption) (by rfl) (by rfl) ?_
        refine w_ld d_84_28 rfl rfl rfl ?_
        refine w_aI d_84_30 (by first | rfl | assumption) (by omega) (show _ = μ.2.2 37 (n : Int) from rfl) ?_
        refine w_ld d_84_31 rfl rfl rfl ?_
        refine w_ld d_84_32 rfl rfl rfl ?_
        refine w_ld d_84_33 rfl rfl rfl ?_
        refine w_cV1 (a := 39) (as := [_, _, _, _]) (rest := _) rfl d_84_34 (by rfl) (by rfl) (by first | rfl | assumption) (by rfl) (by rfl) (Nat.le_of_ble_eq_true rfl) (by omega) (by omega) (t_matches (a := 39) (b := 39) (n := 480) (n2 := 480) (Or.inr ⟨rfl, rfl⟩) (Or.inr ⟨rfl, rfl⟩) (by omega) (by omega) hW.2.2.2.1 (by omega) (by omega) (by omega) (by omega) (by omega)) ?_
        refine w_if_eq (g := 43) d_84_37 (by decide) (b01_in _) (fun h37 => ?_) (fun h37 => ?_)
        · refine w_inc (L' := [_, _, _, _, _]) d_84_43 rfl (by decide) rfl ?_
          refine w_goto (g := 3) d_84_46 (by decide) ?_
          exact ih _ (by omega) (n + 1) rfl (by omega) (fun m hm2 => by
            by_cases z : m = n
            · rw [z]
              intro e
              refine b01_eq h37 ⟨⟨n2, by omega⟩, ⟨by omega, by omega⟩, fun k k0 k1 => ?_⟩
              have z1 := n4 k.toNat (by omega)
              have z2 := hW.2.2.2.2.2 k.toNat (by omega)
              rw [show ((k.toNat : Nat) : Int) = k by omega] at z1 z2
              rw [z1, z2, e]
            · exact hno m (by omega))
        · refine w_ld d_84_40 rfl rfl rfl ?_
          refine w_iret d_84_42 rfl ?_
          have hm3 := (b01_ne h37).2.2
          have e : fnd N w = n := fnd_at (by omega) (list_eq (by omega) (fun i hi => by
            have z1 := n4 i hi
            have z2 := hW.2.2.2.2.2 i (by omega)
            rw [← z1, ← z2]
            exact hm3 i (by omega) (by omega))) hno
          rw [if_pos (by omega), e]
          exact ⟨rfl, rfl⟩
theorem t_fnd {sc : Nat × (Nat → Int32)} {fr lo : Nat} {μ : Mem} {ρ : Nat × Nat × Nat} {t y : Nat} (hT : isT t) (hY : y = 42 ∨ y = 44) {N : List (List Int)} {w : List Int} (hW : WC t y N w μ) (hf : 10 ≤ fr) (hl : 300 ≤ lo) : w_E sc fr lo 84 [.ref 36, .ref 39, .int (ji (μ.1 39 1 - w.length)), .int (ji (w.length : Int))] (hp μ, ρ) (.inl (some (.int (ji (if fnd N w < N.length then (fnd N w : Int) else -1))))) (hp μ, ρ) := by
  refine w_S.of (L0 := [some (.ref 36), some (.ref 39), some (.int (ji (μ.1 39 1 - w.length))), some (.int (ji (w.length : Int))), none]) rfl rfl (Nat.le_of_ble_eq_true rfl) (by rfl) ?_
  refine w_con d_84_0 ?_
  refine w_st1 (L' := [_, _, _, _, _]) d_84_1 rfl (by decide) rfl (by decide) rfl ?_
  exact t_fnd_l hT hY hW hf hl _ 0 rfl (Nat.zero_le _) (fun m hm2 => absurd hm2 (Nat.not_lt_zero _))
