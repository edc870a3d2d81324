/-! THE PURE PART, 53: contracts: the reference gives a word its meaning -/
/-- a row of the reference that is done -/
def mrow (ν : Mem) (v k num wa ws pa sp f : Int) : Prop := ν.2.2 49 v = k ∧ ν.2.2 50 v = num ∧ (ws = 0 ∨ ν.2.2 51 v = wa) ∧ ν.2.2 52 v = ws ∧ ν.2.2 53 v = pa ∧ ν.2.2 54 v = sp ∧ ν.2.2 55 v = f ∧ 0 ≤ ν.2.2 56 v
theorem sw_row {ν : Mem} {v x y : Int} : (∀ a, a ≠ 51 → a ≠ 52 → (stA (stA ν 51 v x) 52 v y).2.2 a = ν.2.2 a) ∧ (stA (stA ν 51 v x) 52 v y).2.2 51 v = x ∧ (stA (stA ν 51 v x) 52 v y).2.2 52 v = y :=
  ⟨fun a h1 h2 => by rw [stA_o2 h2, stA_o2 h1], by rw [stA_o2 (by decide)]; exact stA_at _ _ _ _, stA_at _ _ _ _⟩
theorem m_mk (sc : Nat × (Nat → Int32)) (fr lo : Nat) (ρ : Nat × Nat × Nat) {μ : Mem} {n : Int} (hn : μ.1 46 17 = n ∧ 0 ≤ n ∧ n ≤ 126) (k q : Int) : ∃ ν, mk1 μ ν n ∧ (ν.2.2 49 (256 + n) = k ∧ ν.2.2 50 (256 + n) = 0 ∧ ν.2.2 51 (256 + n) = 0 ∧ ν.2.2 52 (256 + n) = 0 ∧ ν.2.2 53 (256 + n) = 0 ∧ ν.2.2 54 (256 + n) = 1 ∧ ν.2.2 55 (256 + n) = q ∧ ν.2.2 56 (256 + n) = -1) ∧ w_E sc fr lo 122 [.ref 46, .int (ji k), .int (ji q)] (hp μ, ρ) (.inl (some (.int (ji (256 + n))))) (hp ν, ρ) := by
  have e := m_make (sc := sc) (fr := fr) (lo := lo) (μ := μ) (ρ := ρ) (by omega) (k := k) (p := q)
  have h0 := mk1_0 hn.1
  rw [hn.1] at e h0
  refine ⟨_, ?_, ?_, e⟩
  · exact mk1_A (mk1_A (mk1_A (mk1_A (mk1_A (mk1_A (mk1_A (mk1_A h0 (by decide) rfl) (by decide) rfl) (by decide) rfl) (by decide) rfl) (by decide) rfl) (by decide) rfl) (by decide) rfl) (by decide) rfl
  · refine ⟨?_, ?_, ?_, ?_, ?_, ?_, ?_, ?_⟩
    · rw [stA_o2 (by decide), stA_o2 (by decide), stA_o2 (by decide), stA_o2 (by decide), stA_o2 (by decide), stA_o2 (by decide), stA_o2 (by decide)]
      exact stA_at _ _ _ _
    · rw [stA_o2 (by decide), stA_o2 (by decide), stA_o2 (by decide), stA_o2 (by decide), stA_o2 (by decide), stA_o2 (by decide)]
      exact stA_at _ _ _ _
    · rw [stA_o2 (by decide), stA_o2 (by decide), stA_o2 (by decide), stA_o2 (by decide), stA_o2 (by decide)]
      exact stA_at _ _ _ _
    · rw [stA_o2 (by decide), stA_o2 (by decide), stA_o2 (by decide), stA_o2 (by decide)]
      exact stA_at _ _ _ _
    · rw [stA_o2 (by decide), stA_o2 (by decide), stA_o2 (by decide)]
      exact stA_at _ _ _ _
    · rw [stA_o2 (by decide), stA_o2 (by decide)]
      exact stA_at _ _ _ _
    · rw [stA_o2 (by decide)]
      exact stA_at _ _ _ _
    · exact stA_at _ _ _ _
/-- what meaning comes to; begun at q, n rows before -/
def mmP (μ μ' : Mem) (w : Int → Int) (s f q n : Int) : Prop :=
  match mn w s with
  | none => mbad μ μ' q ∧ ∀ k, 0 ≤ μ'.2.2 57 k ∧ μ'.2.2 57 k < 65536
  | some (k, v, a, z) => MI μ' ∧ kp μ μ' n ∧ if k = 12 then μ'.1 46 17 = n + 2 ∧ mrow μ' (256 + n) 12 0 (f + 1) 1 1 2 q ∧ mrow μ' (256 + (n + 1)) 4 0 (f + 2) (s - 2) 0 1 q ∧ μ'.2.2 56 (256 + (n + 1)) ≠ 256 + n else μ'.1 46 17 = n + 1 ∧ mrow μ' (256 + n) k v (f + a) z 0 1 q
theorem mmP_none {μ μ' : Mem} {w : Int → Int} {s f q n : Int} (h : mn w s = none) (k : mbad μ μ' q ∧ ∀ k, 0 ≤ μ'.2.2 57 k ∧ μ'.2.2 57 k < 65536) : mmP μ μ' w s f q n := by
  unfold mmP
  rw [h]
  exact k
theorem mmP_some {μ μ' : Mem} {w : Int → Int} {s f q n k v a z : Int} (h : mn w s = some (k, v, a, z)) (hk : k ≠ 12) (e : MI μ' ∧ kp μ μ' n ∧ μ'.1 46 17 = n + 1 ∧ mrow μ' (256 + n) k v (f + a) z 0 1 q) : mmP μ μ' w s f q n := by
  unfold mmP
  rw [h]
  exact ⟨e.1, e.2.1, by rw [if_neg hk]; exact e.2.2⟩
theorem mmP_tag {μ μ' : Mem} {w : Int → Int} {s f q n v a z : Int} (h : mn w s = some (12, v, a, z)) (e : MI μ' ∧ kp μ μ' n ∧ μ'.1 46 17 = n + 2 ∧ mrow μ' (256 + n) 12 0 (f + 1) 1 1 2 q ∧ mrow μ' (256 + (n + 1)) 4 0 (f + 2) (s - 2) 0 1 q ∧ μ'.2.2 56 (256 + (n + 1)) ≠ 256 + n) : mmP μ μ' w s f q n := by
  unfold mmP
  rw [h]
  exact ⟨e.1, e.2.1, by rw [if_pos rfl]; exact e.2.2⟩
/-- the end of a row that went well, of one that did not -/
theorem fin_ok {μ μ' ν : Mem} {n k v wa ws q : Int} (h : MI μ' ∧ kp μ μ' n ∧ μ'.1 46 17 = n + 1 ∧ (∀ a, 49 ≤ a → a ≤ 55 → a ≠ 54 → μ'.2.2 a (256 + n) = ν.2.2 a (256 + n)) ∧ μ'.2.2 54 (256 + n) = 1 ∧ 0 ≤ μ'.2.2 56 (256 + n)) (r : ν.2.2 49 (256 + n) = k ∧ ν.2.2 50 (256 + n) = v ∧ (ws = 0 ∨ ν.2.2 51 (256 + n) = wa) ∧ ν.2.2 52 (256 + n) = ws ∧ ν.2.2 53 (256 + n) = 0 ∧ ν.2.2 55 (256 + n) = q) : MI μ' ∧ kp μ μ' n ∧ μ'.1 46 17 = n + 1 ∧ mrow μ' (256 + n) k v wa ws 0 1 q := by
  obtain ⟨h1, h2, h3, h4, h5, h6⟩ := h
  refine ⟨h1, h2, h3, ?_⟩
  unfold mrow
  rw [h4 49 (by omega) (by omega) (by omega), h4 50 (by omega) (by omega) (by omega), h4 51 (by omega) (by omega) (by omega), h4 52 (by omega) (by omega) (by omega), h4 53 (by omega) (by omega) (by omega), h4 55 (by omega) (by omega) (by omega)]
  exact ⟨r.1, r.2.1, r.2.2.1, r.2.2.2.1, r.2.2.2.2.1, h5, r.2.2.2.2.2, h6⟩
theorem kp_fr {μ ν : Mem} {n : Int} (h : kp μ ν n) (hn : 0 ≤ n) : mfr μ ν :=
  ⟨fun a q z => h.1 a q (fun w => z w.1), fun q _ _ z3 _ _ _ _ => h.1 46 q (fun w => z3 w.2), h.2.1, fun a z => by
    funext i
    exact h.2.2 a i (fun w => by omega), fun a i _ _ z3 => h.2.2 a i (fun w => by omega), fun i _ => h.2.2 57 i (fun w => by omega)⟩
theorem fin_bad {μ μ' : Mem} {n q m : Int} (hn : 0 ≤ n) (hpl : 0 ≤ μ.1 46 15 ∧ μ.1 46 15 ≤ 900) (h1 : MI μ') (h2 : kp (stI μ 46 16 q) μ' n) : mbad μ μ' q ∧ ∀ k, 0 ≤ μ'.2.2 57 k ∧ μ'.2.2 57 k < 65536 := by
  refine ⟨⟨mfr_trans (mfr_I (by omega)) (kp_fr h2 hn), ?_, ?_⟩, h1.2.2.2.2⟩
  · rw [h2.1 46 16 (by decide)]
    exact stI_at _ _ _ _
  · rw [h2.1 46 15 (by decide), stI_ne (by decide)]
    exact hpl
theorem MI_16 {μ : Mem} (h : MI μ) (x : Int) : MI (stI μ 46 16 x) := h
theorem m_mean0 {sc : Nat × (Nat → Int32)} {fr lo : Nat} {μ : Mem} {ρ : Nat × Nat × Nat} (hM : MI μ) {n : Int} (hn : μ.1 46 17 = n ∧ 0 ≤ n ∧ n ≤ 125) (hr : 480 ≤ μ.1 46 24 ∧ 0 ≤ μ.1 46 25 ∧ μ.1 46 24 + μ.1 46 25 ≤ 718 ∧ μ.1 46 25 ≤ 238) (hw : ∀ i, 0 ≤ i → i < μ.1 46 25 → 32 ≤ μ.2.2 57 (μ.1 46 24 + i) ∧ μ.2.2 57 (μ.1 46 24 + i) ≤ 126) (h16 : μ.1 46 16 = -1) (hpl : 0 ≤ μ.1 46 15 ∧ μ.1 46 15 ≤ 900) {q : Int} (hq : 0 ≤ q ∧ q ≤ 900) (hf : 12 ≤ fr) (hl : 500 ≤ lo) {al : Int} (hal : al = 1 ∧ μ.1 46 25 = 2 ∨ al = 0 ∧ μ.1 46 25 ≠ 2) (hc : (wl0 (fun i => μ.2.2 57 (μ.1 46 24 + i)) (μ.1 46 25) 0) ≠ 126) : w_P sc fr lo 134 7 9 false (none) prog_9_method_30_code 27 [some (.ref 46), some (.int (ji q)), some (.int (ji (wl0 (fun i => μ.2.2 57 (μ.1 46 24 + i)) (μ.1 46 25) 0))), some (.int (ji (wl0 (fun i => μ.2.2 57 (μ.1 46 24 + i)) (μ.1 46 25) 1))), some (.int (ji al)), none, none, none, none] [] (hp μ, ρ) (fun o t' => ∃ μ' : Mem, o = .inl none ∧ mmP μ μ' (fun i => μ.2.2 57 (μ.1 46 24 + i)) (μ.1 46 25) (μ.1 46 24) q n ∧ t' = (hp μ', ρ)) := by
  have l0 := wl_wl0 (w := (fun i => μ.2.2 57 (μ.1 46 24 + i))) (s := (μ.1 46 25)) hw (k := 0) (by decide)
  have l1 := wl_wl0 (w := (fun i => μ.2.2 57 (μ.1 46 24 + i))) (s := (μ.1 46 25)) hw (k := 1) (by decide)
  have l2 := wl_wl0 (w := (fun i => μ.2.2 57 (μ.1 46 24 + i))) (s := (μ.1 46 25)) hw (k := 2) (by decide)
  have rl : ∀ (ν : Mem) (k : Int), (∀ p, p = 24 ∨ p = 25 → ν.1 46 p = μ.1 46 p) → ν.2.2 57 = μ.2.2 57 → 0 ≤ k ∧ k < 100 → w_E sc (fr - 1) (lo - (19 + 2)) 127 [.ref 46, .int (ji k)] (hp ν, ρ) (.inl (some (.int (ji (wl0 (fun i => μ.2.2 57 (μ.1 46 24 + i)) (μ.1 46 25) k))))) (hp ν, ρ) := fun ν k h1 h2 hk => by
    have e := m_rawLetter (sc := sc) (fr := fr - 1) (lo := lo - (19 + 2)) (μ := ν) (ρ := ρ) (by rw [h1 24 (by omega), h1 25 (by omega)]; omega) (k := k) (by omega)
    rw [h1 24 (by omega), h1 25 (by omega), h2] at e
    exact e
  have rl0 : ∀ k : Int, 0 ≤ k ∧ k < 100 → w_E sc (fr - 1) (lo - (19 + 2)) 127 [.ref 46, .int (ji k)] (hp μ, ρ) (.inl (some (.int (ji (wl0 (fun i => μ.2.2 57 (μ.1 46 24 + i)) (μ.1 46 25) k))))) (hp μ, ρ) := fun k hk => rl μ k (fun _ _ => rfl) rfl hk
  obtain ⟨ν, hk1, ⟨r49, r50, r51, r52, r53, r54, r55, r56⟩, hmk⟩ := m_mk sc (fr - 1) (lo - (19 + 4)) ρ (μ := μ) ⟨hn.1, hn.2.1, by omega⟩ 4 q
  have n24 : ν.1 46 24 = μ.1 46 24 := hk1.1 46 24 (by decide)
  have n25 : ν.1 46 25 = μ.1 46 25 := hk1.1 46 25 (by decide)
  have n16 : ν.1 46 16 = -1 := (hk1.1 46 16 (by decide)).trans h16
  have n57 : ν.2.2 57 = μ.2.2 57 := by funext i; exact hk1.2.2.2 57 i (by omega)
  have rlν : ∀ k : Int, 0 ≤ k ∧ k < 100 → w_E sc (fr - 1) (lo - (19 + 2)) 127 [.ref 46, .int (ji k)] (hp ν, ρ) (.inl (some (.int (ji (wl0 (fun i => μ.2.2 57 (μ.1 46 24 + i)) (μ.1 46 25) k))))) (hp ν, ρ) := fun k hk => rl ν k (fun p hp => by rcases hp with rfl | rfl <;> first | exact n24 | exact n25) n57 hk
  refine w_ld d_134_27 rfl rfl rfl ?_
  refine w_bip d_134_28 (by decide) ?_
  refine w_icmp_eq (g := 79) d_134_30 (by decide) (by omega) (fun h30 => ?_) (fun h30 => ?_)
  · exact absurd h30 hc
  · refine w_ld d_134_33 rfl rfl rfl ?_
    refine w_con d_134_34 ?_
    refine w_ld d_134_35 rfl rfl rfl ?_
    refine w_cV1 (a := 46) (as := [_, _]) (rest := _) rfl d_134_36 (by rfl) (by rfl) (by first | rfl | assumption) (by rfl) (by rfl) (Nat.le_of_ble_eq_true rfl) (by omega) (by omega) hmk ?_
    refine w_st1 (L' := [_, _, _, _, _, _, _, _, _]) d_134_39 rfl (by decide) rfl (by decide) rfl ?_
    refine w_ld d_134_41 rfl rfl rfl ?_
    refine w_ld d_134_42 rfl rfl rfl ?_
    refine w_ld d_134_44 rfl rfl rfl ?_
    refine w_gI d_134_45 (by rfl) (by first | rfl | assumption) (by rfl) (by first | exact n24 | exact n25 | rfl) ?_
    refine w_ld d_134_48 rfl rfl rfl ?_
    refine w_gI d_134_49 (by rfl) (by first | rfl | assumption) (by rfl) (by first | exact n24 | exact n25 | rfl) ?_
    refine w_cV0 (a := 46) (as := [_, _, _]) (rest := _) rfl d_134_52 (by rfl) (by rfl) (by first | rfl | assumption) (by rfl) (by rfl) (Nat.le_of_ble_eq_true rfl) (by omega) (by omega) (m_setWord (by omega)) ?_
    refine w_ld d_134_55 rfl rfl rfl ?_
    refine w_bip d_134_56 (by decide) ?_
    refine w_icmp_eq (g := 67) d_134_58 (by decide) (by omega) (fun h58 => ?_) (fun h58 => ?_)
    · refine w_ld d_134_67 rfl rfl rfl ?_
      refine w_ld d_134_68 rfl rfl rfl ?_
      refine w_cV0 (a := 46) (as := [_]) (rest := _) rfl d_134_69 (by rfl) (by rfl) (by first | rfl | assumption) (by rfl) (by rfl) (Nat.le_of_ble_eq_true rfl) (by omega) (by omega) (by have e := m_fail (sc := sc) (fr := fr - 1) (lo := lo - (19 + 2)) (μ := (stA (stA ν 51 (256 + n) (μ.1 46 24)) 52 (256 + n) (μ.1 46 25))) (ρ := ρ) (by rw [show ((stA (stA ν 51 (256 + n) (μ.1 46 24)) 52 (256 + n) (μ.1 46 25))).1 46 16 = -1 from n16]; decide) (k := q); rw [show ((stA (stA ν 51 (256 + n) (μ.1 46 24)) 52 (256 + n) (μ.1 46 25))).1 46 16 = -1 from n16, if_pos (by decide)] at e; exact e) ?_
      have f49 : (stA (stA ν 51 (256 + n) (μ.1 46 24)) 52 (256 + n) (μ.1 46 25)).2.2 49 (256 + n) = 4 := (by rw [sw_row.1 49 (by decide) (by decide)]; exact r49)
      have f50 : (stA (stA ν 51 (256 + n) (μ.1 46 24)) 52 (256 + n) (μ.1 46 25)).2.2 50 (256 + n) = 0 := (by rw [sw_row.1 50 (by decide) (by decide)]; exact r50)
      have f51 : (stA (stA ν 51 (256 + n) (μ.1 46 24)) 52 (256 + n) (μ.1 46 25)).2.2 51 (256 + n) = μ.1 46 24 := sw_row.2.1
      have f52 : (stA (stA ν 51 (256 + n) (μ.1 46 24)) 52 (256 + n) (μ.1 46 25)).2.2 52 (256 + n) = μ.1 46 25 := sw_row.2.2
      have f53 : (stA (stA ν 51 (256 + n) (μ.1 46 24)) 52 (256 + n) (μ.1 46 25)).2.2 53 (256 + n) = 0 := (by rw [sw_row.1 53 (by decide) (by decide)]; exact r53)
      have f55 : (stA (stA ν 51 (256 + n) (μ.1 46 24)) 52 (256 + n) (μ.1 46 25)).2.2 55 (256 + n) = q := (by rw [sw_row.1 55 (by decide) (by decide)]; exact r55)
      have f56 : (stA (stA ν 51 (256 + n) (μ.1 46 24)) 52 (256 + n) (μ.1 46 25)).2.2 56 (256 + n) = -1 := (by rw [sw_row.1 56 (by decide) (by decide)]; exact r56)
      have fk : mk1 μ (stA (stA ν 51 (256 + n) (μ.1 46 24)) 52 (256 + n) (μ.1 46 25)) n := (mk1_A (mk1_A hk1 (by decide) rfl) (by decide) rfl)
      refine w_ld d_134_72 rfl rfl rfl ?_
      refine w_ld d_134_73 rfl rfl rfl ?_
      refine w_cVm (a := 46) (as := [_]) (rest := _) rfl d_134_75 (by rfl) (by rfl) rfl (by rfl) (by rfl) (Nat.le_of_ble_eq_true rfl) (by omega) (by omega) (m_finish (mk1_I fk (q := 16) (x := q) (by decide)) (MI_16 hM q) ⟨hn.1, by omega⟩ f56 f53 (show 0 ≤ (stA (stA ν 51 (256 + n) (μ.1 46 24)) 52 (256 + n) (μ.1 46 25)).2.2 49 (256 + n) ∧ (stA (stA ν 51 (256 + n) (μ.1 46 24)) 52 (256 + n) (μ.1 46 25)).2.2 49 (256 + n) ≤ 12 by rw [f49]; decide) (show _ ≤ (stA (stA ν 51 (256 + n) (μ.1 46 24)) 52 (256 + n) (μ.1 46 25)).2.2 50 (256 + n) ∧ (stA (stA ν 51 (256 + n) (μ.1 46 24)) 52 (256 + n) (μ.1 46 25)).2.2 50 (256 + n) < _ by rw [f50]; decide) (show (0 ≤ (stA (stA ν 51 (256 + n) (μ.1 46 24)) 52 (256 + n) (μ.1 46 25)).2.2 52 (256 + n) ∧ (stA (stA ν 51 (256 + n) (μ.1 46 24)) 52 (256 + n) (μ.1 46 25)).2.2 52 (256 + n) ≤ 240) ∧ ((stA (stA ν 51 (256 + n) (μ.1 46 24)) 52 (256 + n) (μ.1 46 25)).2.2 52 (256 + n) = 0 ∨ 0 ≤ (stA (stA ν 51 (256 + n) (μ.1 46 24)) 52 (256 + n) (μ.1 46 25)).2.2 51 (256 + n) ∧ (stA (stA ν 51 (256 + n) (μ.1 46 24)) 52 (256 + n) (μ.1 46 25)).2.2 51 (256 + n) + (stA (stA ν 51 (256 + n) (μ.1 46 24)) 52 (256 + n) (μ.1 46 25)).2.2 52 (256 + n) ≤ 720) by rw [f51, f52]; omega) (by omega) (by omega)) (fun μ' hm => ?_)
      refine w_ret d_134_78 rfl ?_
      have hmn : (mn (fun i => μ.2.2 57 (μ.1 46 24 + i)) (μ.1 46 25)) = none := by
        unfold mn
        rw [if_pos (by omega)]
      exact ⟨μ', rfl, mmP_none hmn (fin_bad (m := 0) hn.2.1 hpl hm.1 hm.2.1), rfl⟩
    · refine w_ld d_134_61 rfl rfl rfl ?_
      refine w_bip d_134_62 (by decide) ?_
      refine w_icmp_ne (g := 72) d_134_64 (by decide) (by omega) (fun h64 => ?_) (fun h64 => ?_)
      · have f49 : (stA (stA ν 51 (256 + n) (μ.1 46 24)) 52 (256 + n) (μ.1 46 25)).2.2 49 (256 + n) = 4 := (by rw [sw_row.1 49 (by decide) (by decide)]; exact r49)
        have f50 : (stA (stA ν 51 (256 + n) (μ.1 46 24)) 52 (256 + n) (μ.1 46 25)).2.2 50 (256 + n) = 0 := (by rw [sw_row.1 50 (by decide) (by decide)]; exact r50)
        have f51 : (stA (stA ν 51 (256 + n) (μ.1 46 24)) 52 (256 + n) (μ.1 46 25)).2.2 51 (256 + n) = μ.1 46 24 := sw_row.2.1
        have f52 : (stA (stA ν 51 (256 + n) (μ.1 46 24)) 52 (256 + n) (μ.1 46 25)).2.2 52 (256 + n) = μ.1 46 25 := sw_row.2.2
        have f53 : (stA (stA ν 51 (256 + n) (μ.1 46 24)) 52 (256 + n) (μ.1 46 25)).2.2 53 (256 + n) = 0 := (by rw [sw_row.1 53 (by decide) (by decide)]; exact r53)
        have f55 : (stA (stA ν 51 (256 + n) (μ.1 46 24)) 52 (256 + n) (μ.1 46 25)).2.2 55 (256 + n) = q := (by rw [sw_row.1 55 (by decide) (by decide)]; exact r55)
        have f56 : (stA (stA ν 51 (256 + n) (μ.1 46 24)) 52 (256 + n) (μ.1 46 25)).2.2 56 (256 + n) = -1 := (by rw [sw_row.1 56 (by decide) (by decide)]; exact r56)
        have fk : mk1 μ (stA (stA ν 51 (256 + n) (μ.1 46 24)) 52 (256 + n) (μ.1 46 25)) n := (mk1_A (mk1_A hk1 (by decide) rfl) (by decide) rfl)
        refine w_ld d_134_72 rfl rfl rfl ?_
        refine w_ld d_134_73 rfl rfl rfl ?_
        refine w_cVm (a := 46) (as := [_]) (rest := _) rfl d_134_75 (by rfl) (by rfl) rfl (by rfl) (by rfl) (Nat.le_of_ble_eq_true rfl) (by omega) (by omega) (m_finish fk hM ⟨hn.1, by omega⟩ f56 f53 (by rw [f49]; decide) (by rw [f50]; decide) (by rw [f51, f52]; omega) (by omega) (by omega)) (fun μ' hm => ?_)
        refine w_ret d_134_78 rfl ?_
        have hmn : (mn (fun i => μ.2.2 57 (μ.1 46 24 + i)) (μ.1 46 25)) = some (4, 0, 0, μ.1 46 25) := by
          unfold mn
          rw [if_neg (by omega), if_pos (by omega)]
        exact ⟨μ', rfl, mmP_some hmn (by decide) (fin_ok hm ⟨f49, f50, Or.inr (by rw [f51]; omega), f52, f53, f55⟩), rfl⟩
      · refine w_ld d_134_67 rfl rfl rfl ?_
        refine w_ld d_134_68 rfl rfl rfl ?_
        refine w_cV0 (a := 46) (as := [_]) (rest := _) rfl d_134_69 (by rfl) (by rfl) (by first | rfl | assumption) (by rfl) (by rfl) (Nat.le_of_ble_eq_true rfl) (by omega) (by omega) (by have e := m_fail (sc := sc) (fr := fr - 1) (lo := lo - (19 + 2)) (μ := (stA (stA ν 51 (256 + n) (μ.1 46 24)) 52 (256 + n) (μ.1 46 25))) (ρ := ρ) (by rw [show ((stA (stA ν 51 (256 + n) (μ.1 46 24)) 52 (256 + n) (μ.1 46 25))).1 46 16 = -1 from n16]; decide) (k := q); rw [show ((stA (stA ν 51 (256 + n) (μ.1 46 24)) 52 (256 + n) (μ.1 46 25))).1 46 16 = -1 from n16, if_pos (by decide)] at e; exact e) ?_
        have f49 : (stA (stA ν 51 (256 + n) (μ.1 46 24)) 52 (256 + n) (μ.1 46 25)).2.2 49 (256 + n) = 4 := (by rw [sw_row.1 49 (by decide) (by decide)]; exact r49)
        have f50 : (stA (stA ν 51 (256 + n) (μ.1 46 24)) 52 (256 + n) (μ.1 46 25)).2.2 50 (256 + n) = 0 := (by rw [sw_row.1 50 (by decide) (by decide)]; exact r50)
        have f51 : (stA (stA ν 51 (256 + n) (μ.1 46 24)) 52 (256 + n) (μ.1 46 25)).2.2 51 (256 + n) = μ.1 46 24 := sw_row.2.1
        have f52 : (stA (stA ν 51 (256 + n) (μ.1 46 24)) 52 (256 + n) (μ.1 46 25)).2.2 52 (256 + n) = μ.1 46 25 := sw_row.2.2
        have f53 : (stA (stA ν 51 (256 + n) (μ.1 46 24)) 52 (256 + n) (μ.1 46 25)).2.2 53 (256 + n) = 0 := (by rw [sw_row.1 53 (by decide) (by decide)]; exact r53)
        have f55 : (stA (stA ν 51 (256 + n) (μ.1 46 24)) 52 (256 + n) (μ.1 46 25)).2.2 55 (256 + n) = q := (by rw [sw_row.1 55 (by decide) (by decide)]; exact r55)
        have f56 : (stA (stA ν 51 (256 + n) (μ.1 46 24)) 52 (256 + n) (μ.1 46 25)).2.2 56 (256 + n) = -1 := (by rw [sw_row.1 56 (by decide) (by decide)]; exact r56)
        have fk : mk1 μ (stA (stA ν 51 (256 + n) (μ.1 46 24)) 52 (256 + n) (μ.1 46 25)) n := (mk1_A (mk1_A hk1 (by decide) rfl) (by decide) rfl)
        refine w_ld d_134_72 rfl rfl rfl ?_
        refine w_ld d_134_73 rfl rfl rfl ?_
        refine w_cVm (a := 46) (as := [_]) (rest := _) rfl d_134_75 (by rfl) (by rfl) rfl (by rfl) (by rfl) (Nat.le_of_ble_eq_true rfl) (by omega) (by omega) (m_finish (mk1_I fk (q := 16) (x := q) (by decide)) (MI_16 hM q) ⟨hn.1, by omega⟩ f56 f53 (show 0 ≤ (stA (stA ν 51 (256 + n) (μ.1 46 24)) 52 (256 + n) (μ.1 46 25)).2.2 49 (256 + n) ∧ (stA (stA ν 51 (256 + n) (μ.1 46 24)) 52 (256 + n) (μ.1 46 25)).2.2 49 (256 + n) ≤ 12 by rw [f49]; decide) (show _ ≤ (stA (stA ν 51 (256 + n) (μ.1 46 24)) 52 (256 + n) (μ.1 46 25)).2.2 50 (256 + n) ∧ (stA (stA ν 51 (256 + n) (μ.1 46 24)) 52 (256 + n) (μ.1 46 25)).2.2 50 (256 + n) < _ by rw [f50]; decide) (show (0 ≤ (stA (stA ν 51 (256 + n) (μ.1 46 24)) 52 (256 + n) (μ.1 46 25)).2.2 52 (256 + n) ∧ (stA (stA ν 51 (256 + n) (μ.1 46 24)) 52 (256 + n) (μ.1 46 25)).2.2 52 (256 + n) ≤ 240) ∧ ((stA (stA ν 51 (256 + n) (μ.1 46 24)) 52 (256 + n) (μ.1 46 25)).2.2 52 (256 + n) = 0 ∨ 0 ≤ (stA (stA ν 51 (256 + n) (μ.1 46 24)) 52 (256 + n) (μ.1 46 25)).2.2 51 (256 + n) ∧ (stA (stA ν 51 (256 + n) (μ.1 46 24)) 52 (256 + n) (μ.1 46 25)).2.2 51 (256 + n) + (stA (stA ν 51 (256 + n) (μ.1 46 24)) 52 (256 + n) (μ.1 46 25)).2.2 52 (256 + n) ≤ 720) by rw [f51, f52]; omega) (by omega) (by omega)) (fun μ' hm => ?_)
        refine w_ret d_134_78 rfl ?_
        have hmn : (mn (fun i => μ.2.2 57 (μ.1 46 24 + i)) (μ.1 46 25)) = none := by
          unfold mn
          rw [if_pos (by omega)]
        exact ⟨μ', rfl, mmP_none hmn (fin_bad (m := 0) hn.2.1 hpl hm.1 hm.2.1), rfl⟩
theorem m_mean_a {sc : Nat × (Nat → Int32)} {fr lo : Nat} {μ : Mem} {ρ : Nat × Nat × Nat} (hM : MI μ) {n : Int} (hn : μ.1 46 17 = n ∧ 0 ≤ n ∧ n ≤ 125) (hr : 480 ≤ μ.1 46 24 ∧ 0 ≤ μ.1 46 25 ∧ μ.1 46 24 + μ.1 46 25 ≤ 718 ∧ μ.1 46 25 ≤ 238) (hw : ∀ i, 0 ≤ i → i < μ.1 46 25 → 32 ≤ μ.2.2 57 (μ.1 46 24 + i) ∧ μ.2.2 57 (μ.1 46 24 + i) ≤ 126) (h16 : μ.1 46 16 = -1) (hpl : 0 ≤ μ.1 46 15 ∧ μ.1 46 15 ≤ 900) {q : Int} (hq : 0 ≤ q ∧ q ≤ 900) (hf : 12 ≤ fr) (hl : 500 ≤ lo) {al : Int} (hal : al = 1 ∧ μ.1 46 25 = 2 ∨ al = 0 ∧ μ.1 46 25 ≠ 2) (hc : (wl0 (fun i => μ.2.2 57 (μ.1 46 24 + i)) (μ.1 46 25) 0) = 126) (hd : (wl0 (fun i => μ.2.2 57 (μ.1 46 24 + i)) (μ.1 46 25) 1) = 126) : w_P sc fr lo 134 7 9 false (none) prog_9_method_30_code 27 [some (.ref 46), some (.int (ji q)), some (.int (ji (wl0 (fun i => μ.2.2 57 (μ.1 46 24 + i)) (μ.1 46 25) 0))), some (.int (ji (wl0 (fun i => μ.2.2 57 (μ.1 46 24 + i)) (μ.1 46 25) 1))), some (.int (ji al)), none, none, none, none] [] (hp μ, ρ) (fun o t' => ∃ μ' : Mem, o = .inl none ∧ mmP μ μ' (fun i => μ.2.2 57 (μ.1 46 24 + i)) (μ.1 46 25) (μ.1 46 24) q n ∧ t' = (hp μ', ρ)) := by
  have l0 := wl_wl0 (w := (fun i => μ.2.2 57 (μ.1 46 24 + i))) (s := (μ.1 46 25)) hw (k := 0) (by decide)
  have l1 := wl_wl0 (w := (fun i => μ.2.2 57 (μ.1 46 24 + i))) (s := (μ.1 46 25)) hw (k := 1) (by decide)
  have l2 := wl_wl0 (w := (fun i => μ.2.2 57 (μ.1 46 24 + i))) (s := (μ.1 46 25)) hw (k := 2) (by decide)
  have rl : ∀ (ν : Mem) (k : Int), (∀ p, p = 24 ∨ p = 25 → ν.1 46 p = μ.1 46 p) → ν.2.2 57 = μ.2.2 57 → 0 ≤ k ∧ k < 100 → w_E sc (fr - 1) (lo - (19 + 2)) 127 [.ref 46, .int (ji k)] (hp ν, ρ) (.inl (some (.int (ji (wl0 (fun i => μ.2.2 57 (μ.1 46 24 + i)) (μ.1 46 25) k))))) (hp ν, ρ) := fun ν k h1 h2 hk => by
    have e := m_rawLetter (sc := sc) (fr := fr - 1) (lo := lo - (19 + 2)) (μ := ν) (ρ := ρ) (by rw [h1 24 (by omega), h1 25 (by omega)]; omega) (k := k) (by omega)
    rw [h1 24 (by omega), h1 25 (by omega), h2] at e
    exact e
  have rl0 : ∀ k : Int, 0 ≤ k ∧ k < 100 → w_E sc (fr - 1) (lo - (19 + 2)) 127 [.ref 46, .int (ji k)] (hp μ, ρ) (.inl (some (.int (ji (wl0 (fun i => μ.2.2 57 (μ.1 46 24 + i)) (μ.1 46 25) k))))) (hp μ, ρ) := fun k hk => rl μ k (fun _ _ => rfl) rfl hk
  obtain ⟨ν, hk1, ⟨r49, r50, r51, r52, r53, r54, r55, r56⟩, hmk⟩ := m_mk sc (fr - 1) (lo - (19 + 4)) ρ (μ := μ) ⟨hn.1, hn.2.1, by omega⟩ 4 q
  have n24 : ν.1 46 24 = μ.1 46 24 := hk1.1 46 24 (by decide)
  have n25 : ν.1 46 25 = μ.1 46 25 := hk1.1 46 25 (by decide)
  have n16 : ν.1 46 16 = -1 := (hk1.1 46 16 (by decide)).trans h16
  have n57 : ν.2.2 57 = μ.2.2 57 := by funext i; exact hk1.2.2.2 57 i (by omega)
  have rlν : ∀ k : Int, 0 ≤ k ∧ k < 100 → w_E sc (fr - 1) (lo - (19 + 2)) 127 [.ref 46, .int (ji k)] (hp ν, ρ) (.inl (some (.int (ji (wl0 (fun i => μ.2.2 57 (μ.1 46 24 + i)) (μ.1 46 25) k))))) (hp ν, ρ) := fun k hk => rl ν k (fun p hp => by rcases hp with rfl | rfl <;> first | exact n24 | exact n25) n57 hk
  refine w_ld d_134_27 rfl rfl rfl ?_
  refine w_bip d_134_28 (by decide) ?_
  refine w_icmp_eq (g := 79) d_134_30 (by decide) (by omega) (fun h30 => ?_) (fun h30 => ?_)
  · refine w_ld d_134_79 rfl rfl rfl ?_
    refine w_bip d_134_80 (by decide) ?_
    refine w_icmp_eq (g := 139) d_134_82 (by decide) (by omega) (fun h82 => ?_) (fun h82 => ?_)
    · exact absurd h82 (by omega)
    · refine w_ld d_134_85 rfl rfl rfl ?_
      refine w_bip d_134_86 (by decide) ?_
      refine w_icmp_eq (g := 139) d_134_88 (by decide) (by omega) (fun h88 => ?_) (fun h88 => ?_)
      · exact absurd h88 (by omega)
      · refine w_ld d_134_91 rfl rfl rfl ?_
        refine w_bip d_134_92 (by decide) ?_
        refine w_icmp_eq (g := 139) d_134_94 (by decide) (by omega) (fun h94 => ?_) (fun h94 => ?_)
        · exact absurd h94 (by omega)
        · refine w_ld d_134_97 rfl rfl rfl ?_
          refine w_bip d_134_98 (by decide) ?_
          refine w_icmp_eq (g := 139) d_134_100 (by decide) (by omega) (fun h100 => ?_) (fun h100 => ?_)
          · exact absurd h100 (by omega)
          · refine w_ld d_134_103 rfl rfl rfl ?_
            refine w_bip d_134_104 (by decide) ?_
            refine w_icmp_eq (g := 139) d_134_106 (by decide) (by omega) (fun h106 => ?_) (fun h106 => ?_)
            · exact absurd h106 (by omega)
            · refine w_ld d_134_109 rfl rfl rfl ?_
              refine w_bip d_134_110 (by decide) ?_
              refine w_icmp_eq (g := 139) d_134_112 (by decide) (by omega) (fun h112 => ?_) (fun h112 => ?_)
              · exact absurd h112 (by omega)
              · refine w_ld d_134_115 rfl rfl rfl ?_
                refine w_bip d_134_116 (by decide) ?_
                refine w_icmp_eq (g := 139) d_134_118 (by decide) (by omega) (fun h118 => ?_) (fun h118 => ?_)
                · exact absurd h118 (by omega)
                · refine w_ld d_134_121 rfl rfl rfl ?_
                  refine w_bip d_134_122 (by decide) ?_
                  refine w_icmp_eq (g := 139) d_134_124 (by decide) (by omega) (fun h124 => ?_) (fun h124 => ?_)
                  · refine w_con d_134_139 ?_
                    refine w_goto (g := 144) d_134_140 (by decide) ?_
                    refine w_st1 (L' := [_, _, _, _, _, _, _, _, _]) d_134_144 rfl (by decide) rfl (by decide) rfl ?_
                    refine w_ld d_134_146 rfl rfl rfl ?_
                    refine w_ld d_134_147 rfl rfl rfl ?_
                    refine w_bip d_134_148 (by decide) ?_
                    refine w_icmp_ne (g := 157) d_134_150 (by decide) (by omega) (fun h150 => ?_) (fun h150 => ?_)
                    · refine w_ld d_134_157 rfl rfl rfl ?_
                      refine w_bip d_134_158 (by decide) ?_
                      refine w_icmp_ne (g := 167) d_134_160 (by decide) (by omega) (fun h160 => ?_) (fun h160 => ?_)
                      · refine w_ld d_134_167 rfl rfl rfl ?_
                        refine w_bip d_134_168 (by decide) ?_
                        refine w_icmp_ne (g := 177) d_134_170 (by decide) (by omega) (fun h170 => ?_) (fun h170 => ?_)
                        · refine w_ld d_134_177 rfl rfl rfl ?_
                          refine w_bip d_134_178 (by decide) ?_
                          refine w_icmp_ne (g := 187) d_134_180 (by decide) (by omega) (fun h180 => ?_) (fun h180 => ?_)
                          · refine w_ld d_134_187 rfl rfl rfl ?_
                            refine w_bip d_134_188 (by decide) ?_
                            refine w_icmp_ne (g := 197) d_134_190 (by decide) (by omega) (fun h190 => ?_) (fun h190 => ?_)
                            · refine w_ld d_134_197 rfl rfl rfl ?_
                              refine w_bip d_134_198 (by decide) ?_
                              refine w_icmp_ne (g := 208) d_134_200 (by decide) (by omega) (fun h200 => ?_) (fun h200 => ?_)
                              · refine w_ld d_134_208 rfl rfl rfl ?_
                                refine w_bip d_134_209 (by decide) ?_
                                refine w_icmp_ne (g := 219) d_134_211 (by decide) (by omega) (fun h211 => ?_) (fun h211 => ?_)
                                · refine w_ld d_134_219 rfl rfl rfl ?_
                                  refine w_if_eq (g := 228) d_134_221 (by decide) (by decide) (fun h221 => ?_) (fun h221 => ?_)
                                  · exact absurd h221 (by decide)
                                  · refine w_con d_134_224 ?_
                                    refine w_goto (g := 230) d_134_225 (by decide) ?_
                                    refine w_ld d_134_230 rfl rfl rfl ?_
                                    refine w_cV1 (a := 46) (as := [_, _]) (rest := _) rfl d_134_231 (by rfl) (by rfl) (by first | rfl | assumption) (by rfl) (by rfl) (Nat.le_of_ble_eq_true rfl) (by omega) (by omega) hmk ?_
                                    refine w_st1 (L' := [_, _, _, _, _, _, _, _, _]) d_134_234 rfl (by decide) rfl (by decide) rfl ?_
                                    refine w_con d_134_236 ?_
                                    refine w_st1 (L' := [_, _, _, _, _, _, _, _, _]) d_134_237 rfl (by decide) rfl (by decide) rfl ?_
                                    refine w_ld d_134_239 rfl rfl rfl ?_
                                    refine w_bip d_134_240 (by decide) ?_
                                    refine w_icmp_ne (g := 252) d_134_242 (by decide) (by omega) (fun h242 => ?_) (fun h242 => ?_)
                                    · refine w_ld d_134_252 rfl rfl rfl ?_
                                      refine w_bip d_134_253 (by decide) ?_
                                      refine w_icmp_ne (g := 318) d_134_255 (by decide) (by omega) (fun h255 => ?_) (fun h255 => ?_)
                                      · refine w_ld d_134_318 rfl rfl rfl ?_
                                        refine w_bip d_134_319 (by decide) ?_
                                        refine w_icmp_eq (g := 330) d_134_321 (by decide) (by omega) (fun h321 => ?_) (fun h321 => ?_)
                                        · exact absurd h321 (by omega)
                                        · refine w_ld d_134_324 rfl rfl rfl ?_
                                          refine w_bip d_134_325 (by decide) ?_
                                          refine w_icmp_ne (g := 341) d_134_327 (by decide) (by omega) (fun h327 => ?_) (fun h327 => ?_)
                                          · refine w_ld d_134_341 rfl rfl rfl ?_
                                            refine w_bip d_134_342 (by decide) ?_
                                            refine w_icmp_eq (g := 353) d_134_344 (by decide) (by omega) (fun h344 => ?_) (fun h344 => ?_)
                                            · exact absurd h344 (by omega)
                                            · refine w_ld d_134_347 rfl rfl rfl ?_
                                              refine w_bip d_134_348 (by decide) ?_
                                              refine w_icmp_ne (g := 386) d_134_350 (by decide) (by omega) (fun h350 => ?_) (fun h350 => ?_)
                                              · refine w_ld d_134_386 rfl rfl rfl ?_
                                                refine w_bip d_134_387 (by decide) ?_
                                                refine w_icmp_ne (g := 423) d_134_389 (by decide) (by omega) (fun h389 => ?_) (fun h389 => ?_)
                                                · refine w_ld d_134_423 rfl rfl rfl ?_
                                                  refine w_if_eq (g := 449) d_134_425 (by decide) (by decide) (fun h425 => ?_) (fun h425 => ?_)
                                                  · exact absurd h425 (by decide)
                                                  · refine w_ld d_134_428 rfl rfl rfl ?_
                                                    refine w_ld d_134_429 rfl rfl rfl ?_
                                                    refine w_ld d_134_431 rfl rfl rfl ?_
                                                    refine w_gI d_134_432 (by rfl) (by first | rfl | assumption) (by rfl) (by first | exact n24 | exact n25 | rfl) ?_
                                                    refine w_con d_134_435 ?_
                                                    refine w_iadd d_134_436 ?_
                                                    refine w_ld d_134_437 rfl rfl rfl ?_
                                                    refine w_gI d_134_438 (by rfl) (by first | rfl | assumption) (by rfl) (by first | exact n24 | exact n25 | rfl) ?_
                                                    refine w_con d_134_441 ?_
                                                    refine w_isub d_134_442 ?_
                                                    refine w_cV0 (a := 46) (as := [_, _, _]) (rest := _) rfl d_134_443 (by rfl) (by rfl) (by first | rfl | assumption) (by rfl) (by rfl) (Nat.le_of_ble_eq_true rfl) (by omega) (by omega) (m_setWord (by omega)) ?_
                                                    refine w_goto (g := 525) d_134_446 (by decide) ?_
                                                    refine w_ld d_134_525 rfl rfl rfl ?_
                                                    refine w_if_ne (g := 535) d_134_527 (by decide) (by decide) (fun h527 => ?_) (fun h527 => ?_)
                                                    · have f49 : (stA (stA ν 51 (256 + n) (μ.1 46 24 + 1)) 52 (256 + n) (μ.1 46 25 - 1)).2.2 49 (256 + n) = 4 := (by rw [sw_row.1 49 (by decide) (by decide)]; exact r49)
                                                      have f50 : (stA (stA ν 51 (256 + n) (μ.1 46 24 + 1)) 52 (256 + n) (μ.1 46 25 - 1)).2.2 50 (256 + n) = 0 := (by rw [sw_row.1 50 (by decide) (by decide)]; exact r50)
                                                      have f51 : (stA (stA ν 51 (256 + n) (μ.1 46 24 + 1)) 52 (256 + n) (μ.1 46 25 - 1)).2.2 51 (256 + n) = μ.1 46 24 + 1 := sw_row.2.1
                                                      have f52 : (stA (stA ν 51 (256 + n) (μ.1 46 24 + 1)) 52 (256 + n) (μ.1 46 25 - 1)).2.2 52 (256 + n) = μ.1 46 25 - 1 := sw_row.2.2
                                                      have f53 : (stA (stA ν 51 (256 + n) (μ.1 46 24 + 1)) 52 (256 + n) (μ.1 46 25 - 1)).2.2 53 (256 + n) = 0 := (by rw [sw_row.1 53 (by decide) (by decide)]; exact r53)
                                                      have f55 : (stA (stA ν 51 (256 + n) (μ.1 46 24 + 1)) 52 (256 + n) (μ.1 46 25 - 1)).2.2 55 (256 + n) = q := (by rw [sw_row.1 55 (by decide) (by decide)]; exact r55)
                                                      have f56 : (stA (stA ν 51 (256 + n) (μ.1 46 24 + 1)) 52 (256 + n) (μ.1 46 25 - 1)).2.2 56 (256 + n) = -1 := (by rw [sw_row.1 56 (by decide) (by decide)]; exact r56)
                                                      have fk : mk1 μ (stA (stA ν 51 (256 + n) (μ.1 46 24 + 1)) 52 (256 + n) (μ.1 46 25 - 1)) n := (mk1_A (mk1_A hk1 (by decide) rfl) (by decide) rfl)
                                                      refine w_ld d_134_535 rfl rfl rfl ?_
                                                      refine w_ld d_134_536 rfl rfl rfl ?_
                                                      refine w_cVm (a := 46) (as := [_]) (rest := _) rfl d_134_538 (by rfl) (by rfl) rfl (by rfl) (by rfl) (Nat.le_of_ble_eq_true rfl) (by omega) (by omega) (m_finish fk hM ⟨hn.1, by omega⟩ f56 f53 (by rw [f49]; decide) (by rw [f50]; decide) (by rw [f51, f52]; omega) (by omega) (by omega)) (fun μ' hm => ?_)
                                                      refine w_ret d_134_541 rfl ?_
                                                      have hmn : (mn (fun i => μ.2.2 57 (μ.1 46 24 + i)) (μ.1 46 25)) = some (4, 0, 1, μ.1 46 25 - 1) := by
                                                        unfold mn
                                                        rw [if_neg (by omega), if_neg (by omega), if_pos (by omega)]
                                                      exact ⟨μ', rfl, mmP_some hmn (by decide) (fin_ok hm ⟨f49, f50, Or.inr f51, f52, f53, f55⟩), rfl⟩
                                                    · exact absurd h527 (by decide)
                                                · exact absurd h389 (by omega)
                                              · exact absurd h350 (by omega)
                                          · exact absurd h327 (by omega)
                                      · exact absurd h255 (by omega)
                                    · exact absurd h242 (by omega)
                                · exact absurd h211 (by omega)
                              · exact absurd h200 (by omega)
                            · exact absurd h190 (by omega)
                          · exact absurd h180 (by omega)
                        · exact absurd h170 (by omega)
                      · exact absurd h160 (by omega)
                    · exact absurd h150 (by omega)
                  · exact absurd h124 (by omega)
  · exact absurd hc h30
theorem m_mean_b {sc : Nat × (Nat → Int32)} {fr lo : Nat} {μ : Mem} {ρ : Nat × Nat × Nat} (hM : MI μ) {n : Int} (hn : μ.1 46 17 = n ∧ 0 ≤ n ∧ n ≤ 125) (hr : 480 ≤ μ.1 46 24 ∧ 0 ≤ μ.1 46 25 ∧ μ.1 46 24 + μ.1 46 25 ≤ 718 ∧ μ.1 46 25 ≤ 238) (hw : ∀ i, 0 ≤ i → i < μ.1 46 25 → 32 ≤ μ.2.2 57 (μ.1 46 24 + i) ∧ μ.2.2 57 (μ.1 46 24 + i) ≤ 126) (h16 : μ.1 46 16 = -1) (hpl : 0 ≤ μ.1 46 15 ∧ μ.1 46 15 ≤ 900) {q : Int} (hq : 0 ≤ q ∧ q ≤ 900) (hf : 12 ≤ fr) (hl : 500 ≤ lo) {al : Int} (hal : al = 1 ∧ μ.1 46 25 = 2 ∨ al = 0 ∧ μ.1 46 25 ≠ 2) (hc : (wl0 (fun i => μ.2.2 57 (μ.1 46 24 + i)) (μ.1 46 25) 0) = 126) (hd : (wl0 (fun i => μ.2.2 57 (μ.1 46 24 + i)) (μ.1 46 25) 1) = 94) : w_P sc fr lo 134 7 9 false (none) prog_9_method_30_code 27 [some (.ref 46), some (.int (ji q)), some (.int (ji (wl0 (fun i => μ.2.2 57 (μ.1 46 24 + i)) (μ.1 46 25) 0))), some (.int (ji (wl0 (fun i => μ.2.2 57 (μ.1 46 24 + i)) (μ.1 46 25) 1))), some (.int (ji al)), none, none, none, none] [] (hp μ, ρ) (fun o t' => ∃ μ' : Mem, o = .inl none ∧ mmP μ μ' (fun i => μ.2.2 57 (μ.1 46 24 + i)) (μ.1 46 25) (μ.1 46 24) q n ∧ t' = (hp μ', ρ)) := by
  have l0 := wl_wl0 (w := (fun i => μ.2.2 57 (μ.1 46 24 + i))) (s := (μ.1 46 25)) hw (k := 0) (by decide)
  have l1 := wl_wl0 (w := (fun i => μ.2.2 57 (μ.1 46 24 + i))) (s := (μ.1 46 25)) hw (k := 1) (by decide)
  have l2 := wl_wl0 (w := (fun i => μ.2.2 57 (μ.1 46 24 + i))) (s := (μ.1 46 25)) hw (k := 2) (by decide)
  have rl : ∀ (ν : Mem) (k : Int), (∀ p, p = 24 ∨ p = 25 → ν.1 46 p = μ.1 46 p) → ν.2.2 57 = μ.2.2 57 → 0 ≤ k ∧ k < 100 → w_E sc (fr - 1) (lo - (19 + 2)) 127 [.ref 46, .int (ji k)] (hp ν, ρ) (.inl (some (.int (ji (wl0 (fun i => μ.2.2 57 (μ.1 46 24 + i)) (μ.1 46 25) k))))) (hp ν, ρ) := fun ν k h1 h2 hk => by
    have e := m_rawLetter (sc := sc) (fr := fr - 1) (lo := lo - (19 + 2)) (μ := ν) (ρ := ρ) (by rw [h1 24 (by omega), h1 25 (by omega)]; omega) (k := k) (by omega)
    rw [h1 24 (by omega), h1 25 (by omega), h2] at e
    exact e
  have rl0 : ∀ k : Int, 0 ≤ k ∧ k < 100 → w_E sc (fr - 1) (lo - (19 + 2)) 127 [.ref 46, .int (ji k)] (hp μ, ρ) (.inl (some (.int (ji (wl0 (fun i => μ.2.2 57 (μ.1 46 24 + i)) (μ.1 46 25) k))))) (hp μ, ρ) := fun k hk => rl μ k (fun _ _ => rfl) rfl hk
  obtain ⟨ν, hk1, ⟨r49, r50, r51, r52, r53, r54, r55, r56⟩, hmk⟩ := m_mk sc (fr - 1) (lo - (19 + 4)) ρ (μ := μ) ⟨hn.1, hn.2.1, by omega⟩ 4 q
  have n24 : ν.1 46 24 = μ.1 46 24 := hk1.1 46 24 (by decide)
  have n25 : ν.1 46 25 = μ.1 46 25 := hk1.1 46 25 (by decide)
  have n16 : ν.1 46 16 = -1 := (hk1.1 46 16 (by decide)).trans h16
  have n57 : ν.2.2 57 = μ.2.2 57 := by funext i; exact hk1.2.2.2 57 i (by omega)
  have rlν : ∀ k : Int, 0 ≤ k ∧ k < 100 → w_E sc (fr - 1) (lo - (19 + 2)) 127 [.ref 46, .int (ji k)] (hp ν, ρ) (.inl (some (.int (ji (wl0 (fun i => μ.2.2 57 (μ.1 46 24 + i)) (μ.1 46 25) k))))) (hp ν, ρ) := fun k hk => rl ν k (fun p hp => by rcases hp with rfl | rfl <;> first | exact n24 | exact n25) n57 hk
  refine w_ld d_134_27 rfl rfl rfl ?_
  refine w_bip d_134_28 (by decide) ?_
  refine w_icmp_eq (g := 79) d_134_30 (by decide) (by omega) (fun h30 => ?_) (fun h30 => ?_)
  · refine w_ld d_134_79 rfl rfl rfl ?_
    refine w_bip d_134_80 (by decide) ?_
    refine w_icmp_eq (g := 139) d_134_82 (by decide) (by omega) (fun h82 => ?_) (fun h82 => ?_)
    · exact absurd h82 (by omega)
    · refine w_ld d_134_85 rfl rfl rfl ?_
      refine w_bip d_134_86 (by decide) ?_
      refine w_icmp_eq (g := 139) d_134_88 (by decide) (by omega) (fun h88 => ?_) (fun h88 => ?_)
      · exact absurd h88 (by omega)
      · refine w_ld d_134_91 rfl rfl rfl ?_
        refine w_bip d_134_92 (by decide) ?_
        refine w_icmp_eq (g := 139) d_134_94 (by decide) (by omega) (fun h94 => ?_) (fun h94 => ?_)
        · exact absurd h94 (by omega)
        · refine w_ld d_134_97 rfl rfl rfl ?_
          refine w_bip d_134_98 (by decide) ?_
          refine w_icmp_eq (g := 139) d_134_100 (by decide) (by omega) (fun h100 => ?_) (fun h100 => ?_)
          · exact absurd h100 (by omega)
          · refine w_ld d_134_103 rfl rfl rfl ?_
            refine w_bip d_134_104 (by decide) ?_
            refine w_icmp_eq (g := 139) d_134_106 (by decide) (by omega) (fun h106 => ?_) (fun h106 => ?_)
            · exact absurd h106 (by omega)
            · refine w_ld d_134_109 rfl rfl rfl ?_
              refine w_bip d_134_110 (by decide) ?_
              refine w_icmp_eq (g := 139) d_134_112 (by decide) (by omega) (fun h112 => ?_) (fun h112 => ?_)
              · exact absurd h112 (by omega)
              · refine w_ld d_134_115 rfl rfl rfl ?_
                refine w_bip d_134_116 (by decide) ?_
                refine w_icmp_eq (g := 139) d_134_118 (by decide) (by omega) (fun h118 => ?_) (fun h118 => ?_)
                · exact absurd h118 (by omega)
                · refine w_ld d_134_121 rfl rfl rfl ?_
                  refine w_bip d_134_122 (by decide) ?_
                  refine w_icmp_eq (g := 139) d_134_124 (by decide) (by omega) (fun h124 => ?_) (fun h124 => ?_)
                  · exact absurd h124 (by omega)
                  · refine w_ld d_134_127 rfl rfl rfl ?_
                    refine w_bip d_134_128 (by decide) ?_
                    refine w_icmp_eq (g := 139) d_134_130 (by decide) (by omega) (fun h130 => ?_) (fun h130 => ?_)
                    · refine w_con d_134_139 ?_
                      refine w_goto (g := 144) d_134_140 (by decide) ?_
                      refine w_st1 (L' := [_, _, _, _, _, _, _, _, _]) d_134_144 rfl (by decide) rfl (by decide) rfl ?_
                      refine w_ld d_134_146 rfl rfl rfl ?_
                      refine w_ld d_134_147 rfl rfl rfl ?_
                      refine w_bip d_134_148 (by decide) ?_
                      refine w_icmp_ne (g := 157) d_134_150 (by decide) (by omega) (fun h150 => ?_) (fun h150 => ?_)
                      · refine w_ld d_134_157 rfl rfl rfl ?_
                        refine w_bip d_134_158 (by decide) ?_
                        refine w_icmp_ne (g := 167) d_134_160 (by decide) (by omega) (fun h160 => ?_) (fun h160 => ?_)
                        · refine w_ld d_134_167 rfl rfl rfl ?_
                          refine w_bip d_134_168 (by decide) ?_
                          refine w_icmp_ne (g := 177) d_134_170 (by decide) (by omega) (fun h170 => ?_) (fun h170 => ?_)
                          · refine w_ld d_134_177 rfl rfl rfl ?_
                            refine w_bip d_134_178 (by decide) ?_
                            refine w_icmp_ne (g := 187) d_134_180 (by decide) (by omega) (fun h180 => ?_) (fun h180 => ?_)
                            · refine w_ld d_134_187 rfl rfl rfl ?_
                              refine w_bip d_134_188 (by decide) ?_
                              refine w_icmp_ne (g := 197) d_134_190 (by decide) (by omega) (fun h190 => ?_) (fun h190 => ?_)
                              · refine w_ld d_134_197 rfl rfl rfl ?_
                                refine w_bip d_134_198 (by decide) ?_
                                refine w_icmp_ne (g := 208) d_134_200 (by decide) (by omega) (fun h200 => ?_) (fun h200 => ?_)
                                · refine w_ld d_134_208 rfl rfl rfl ?_
                                  refine w_bip d_134_209 (by decide) ?_
                                  refine w_icmp_ne (g := 219) d_134_211 (by decide) (by omega) (fun h211 => ?_) (fun h211 => ?_)
                                  · refine w_ld d_134_219 rfl rfl rfl ?_
                                    refine w_if_eq (g := 228) d_134_221 (by decide) (by decide) (fun h221 => ?_) (fun h221 => ?_)
                                    · exact absurd h221 (by decide)
                                    · refine w_con d_134_224 ?_
                                      refine w_goto (g := 230) d_134_225 (by decide) ?_
                                      refine w_ld d_134_230 rfl rfl rfl ?_
                                      refine w_cV1 (a := 46) (as := [_, _]) (rest := _) rfl d_134_231 (by rfl) (by rfl) (by first | rfl | assumption) (by rfl) (by rfl) (Nat.le_of_ble_eq_true rfl) (by omega) (by omega) hmk ?_
                                      refine w_st1 (L' := [_, _, _, _, _, _, _, _, _]) d_134_234 rfl (by decide) rfl (by decide) rfl ?_
                                      refine w_con d_134_236 ?_
                                      refine w_st1 (L' := [_, _, _, _, _, _, _, _, _]) d_134_237 rfl (by decide) rfl (by decide) rfl ?_
                                      refine w_ld d_134_239 rfl rfl rfl ?_
                                      refine w_bip d_134_240 (by decide) ?_
                                      refine w_icmp_ne (g := 252) d_134_242 (by decide) (by omega) (fun h242 => ?_) (fun h242 => ?_)
                                      · refine w_ld d_134_252 rfl rfl rfl ?_
                                        refine w_bip d_134_253 (by decide) ?_
                                        refine w_icmp_ne (g := 318) d_134_255 (by decide) (by omega) (fun h255 => ?_) (fun h255 => ?_)
                                        · refine w_ld d_134_318 rfl rfl rfl ?_
                                          refine w_bip d_134_319 (by decide) ?_
                                          refine w_icmp_eq (g := 330) d_134_321 (by decide) (by omega) (fun h321 => ?_) (fun h321 => ?_)
                                          · exact absurd h321 (by omega)
                                          · refine w_ld d_134_324 rfl rfl rfl ?_
                                            refine w_bip d_134_325 (by decide) ?_
                                            refine w_icmp_ne (g := 341) d_134_327 (by decide) (by omega) (fun h327 => ?_) (fun h327 => ?_)
                                            · refine w_ld d_134_341 rfl rfl rfl ?_
                                              refine w_bip d_134_342 (by decide) ?_
                                              refine w_icmp_eq (g := 353) d_134_344 (by decide) (by omega) (fun h344 => ?_) (fun h344 => ?_)
                                              · exact absurd h344 (by omega)
                                              · refine w_ld d_134_347 rfl rfl rfl ?_
                                                refine w_bip d_134_348 (by decide) ?_
                                                refine w_icmp_ne (g := 386) d_134_350 (by decide) (by omega) (fun h350 => ?_) (fun h350 => ?_)
                                                · refine w_ld d_134_386 rfl rfl rfl ?_
                                                  refine w_bip d_134_387 (by decide) ?_
                                                  refine w_icmp_ne (g := 423) d_134_389 (by decide) (by omega) (fun h389 => ?_) (fun h389 => ?_)
                                                  · refine w_ld d_134_423 rfl rfl rfl ?_
                                                    refine w_if_eq (g := 449) d_134_425 (by decide) (by decide) (fun h425 => ?_) (fun h425 => ?_)
                                                    · exact absurd h425 (by decide)
                                                    · refine w_ld d_134_428 rfl rfl rfl ?_
                                                      refine w_ld d_134_429 rfl rfl rfl ?_
                                                      refine w_ld d_134_431 rfl rfl rfl ?_
                                                      refine w_gI d_134_432 (by rfl) (by first | rfl | assumption) (by rfl) (by first | exact n24 | exact n25 | rfl) ?_
                                                      refine w_con d_134_435 ?_
                                                      refine w_iadd d_134_436 ?_
                                                      refine w_ld d_134_437 rfl rfl rfl ?_
                                                      refine w_gI d_134_438 (by rfl) (by first | rfl | assumption) (by rfl) (by first | exact n24 | exact n25 | rfl) ?_
                                                      refine w_con d_134_441 ?_
                                                      refine w_isub d_134_442 ?_
                                                      refine w_cV0 (a := 46) (as := [_, _, _]) (rest := _) rfl d_134_443 (by rfl) (by rfl) (by first | rfl | assumption) (by rfl) (by rfl) (Nat.le_of_ble_eq_true rfl) (by omega) (by omega) (m_setWord (by omega)) ?_
                                                      refine w_goto (g := 525) d_134_446 (by decide) ?_
                                                      refine w_ld d_134_525 rfl rfl rfl ?_
                                                      refine w_if_ne (g := 535) d_134_527 (by decide) (by decide) (fun h527 => ?_) (fun h527 => ?_)
                                                      · have f49 : (stA (stA ν 51 (256 + n) (μ.1 46 24 + 1)) 52 (256 + n) (μ.1 46 25 - 1)).2.2 49 (256 + n) = 4 := (by rw [sw_row.1 49 (by decide) (by decide)]; exact r49)
                                                        have f50 : (stA (stA ν 51 (256 + n) (μ.1 46 24 + 1)) 52 (256 + n) (μ.1 46 25 - 1)).2.2 50 (256 + n) = 0 := (by rw [sw_row.1 50 (by decide) (by decide)]; exact r50)
                                                        have f51 : (stA (stA ν 51 (256 + n) (μ.1 46 24 + 1)) 52 (256 + n) (μ.1 46 25 - 1)).2.2 51 (256 + n) = μ.1 46 24 + 1 := sw_row.2.1
                                                        have f52 : (stA (stA ν 51 (256 + n) (μ.1 46 24 + 1)) 52 (256 + n) (μ.1 46 25 - 1)).2.2 52 (256 + n) = μ.1 46 25 - 1 := sw_row.2.2
                                                        have f53 : (stA (stA ν 51 (256 + n) (μ.1 46 24 + 1)) 52 (256 + n) (μ.1 46 25 - 1)).2.2 53 (256 + n) = 0 := (by rw [sw_row.1 53 (by decide) (by decide)]; exact r53)
                                                        have f55 : (stA (stA ν 51 (256 + n) (μ.1 46 24 + 1)) 52 (256 + n) (μ.1 46 25 - 1)).2.2 55 (256 + n) = q := (by rw [sw_row.1 55 (by decide) (by decide)]; exact r55)
                                                        have f56 : (stA (stA ν 51 (256 + n) (μ.1 46 24 + 1)) 52 (256 + n) (μ.1 46 25 - 1)).2.2 56 (256 + n) = -1 := (by rw [sw_row.1 56 (by decide) (by decide)]; exact r56)
                                                        have fk : mk1 μ (stA (stA ν 51 (256 + n) (μ.1 46 24 + 1)) 52 (256 + n) (μ.1 46 25 - 1)) n := (mk1_A (mk1_A hk1 (by decide) rfl) (by decide) rfl)
                                                        refine w_ld d_134_535 rfl rfl rfl ?_
                                                        refine w_ld d_134_536 rfl rfl rfl ?_
                                                        refine w_cVm (a := 46) (as := [_]) (rest := _) rfl d_134_538 (by rfl) (by rfl) rfl (by rfl) (by rfl) (Nat.le_of_ble_eq_true rfl) (by omega) (by omega) (m_finish fk hM ⟨hn.1, by omega⟩ f56 f53 (by rw [f49]; decide) (by rw [f50]; decide) (by rw [f51, f52]; omega) (by omega) (by omega)) (fun μ' hm => ?_)
                                                        refine w_ret d_134_541 rfl ?_
                                                        have hmn : (mn (fun i => μ.2.2 57 (μ.1 46 24 + i)) (μ.1 46 25)) = some (4, 0, 1, μ.1 46 25 - 1) := by
                                                          unfold mn
                                                          rw [if_neg (by omega), if_neg (by omega), if_pos (by omega)]
                                                        exact ⟨μ', rfl, mmP_some hmn (by decide) (fin_ok hm ⟨f49, f50, Or.inr f51, f52, f53, f55⟩), rfl⟩
                                                      · exact absurd h527 (by decide)
                                                  · exact absurd h389 (by omega)
                                                · exact absurd h350 (by omega)
                                            · exact absurd h327 (by omega)
                                        · exact absurd h255 (by omega)
                                      · exact absurd h242 (by omega)
                                  · exact absurd h211 (by omega)
                                · exact absurd h200 (by omega)
                              · exact absurd h190 (by omega)
                            · exact absurd h180 (by omega)
                          · exact absurd h170 (by omega)
                        · exact absurd h160 (by omega)
                      · exact absurd h150 (by omega)
                    · exact absurd h130 (by omega)
  · exact absurd hc h30
theorem m_mean_c {sc : Nat × (Nat → Int32)} {fr lo : Nat} {μ : Mem} {ρ : Nat × Nat × Nat} (hM : MI μ) {n : Int} (hn : μ.1 46 17 = n ∧ 0 ≤ n ∧ n ≤ 125) (hr : 480 ≤ μ.1 46 24 ∧ 0 ≤ μ.1 46 25 ∧ μ.1 46 24 + μ.1 46 25 ≤ 718 ∧ μ.1 46 25 ≤ 238) (hw : ∀ i, 0 ≤ i → i < μ.1 46 25 → 32 ≤ μ.2.2 57 (μ.1 46 24 + i) ∧ μ.2.2 57 (μ.1 46 24 + i) ≤ 126) (h16 : μ.1 46 16 = -1) (hpl : 0 ≤ μ.1 46 15 ∧ μ.1 46 15 ≤ 900) {q : Int} (hq : 0 ≤ q ∧ q ≤ 900) (hf : 12 ≤ fr) (hl : 500 ≤ lo) {al : Int} (hal : al = 1 ∧ μ.1 46 25 = 2 ∨ al = 0 ∧ μ.1 46 25 ≠ 2) (hc : (wl0 (fun i => μ.2.2 57 (μ.1 46 24 + i)) (μ.1 46 25) 0) = 126) (hd : (wl0 (fun i => μ.2.2 57 (μ.1 46 24 + i)) (μ.1 46 25) 1) = 96) : w_P sc fr lo 134 7 9 false (none) prog_9_method_30_code 27 [some (.ref 46), some (.int (ji q)), some (.int (ji (wl0 (fun i => μ.2.2 57 (μ.1 46 24 + i)) (μ.1 46 25) 0))), some (.int (ji (wl0 (fun i => μ.2.2 57 (μ.1 46 24 + i)) (μ.1 46 25) 1))), some (.int (ji al)), none, none, none, none] [] (hp μ, ρ) (fun o t' => ∃ μ' : Mem, o = .inl none ∧ mmP μ μ' (fun i => μ.2.2 57 (μ.1 46 24 + i)) (μ.1 46 25) (μ.1 46 24) q n ∧ t' = (hp μ', ρ)) := by
  have l0 := wl_wl0 (w := (fun i => μ.2.2 57 (μ.1 46 24 + i))) (s := (μ.1 46 25)) hw (k := 0) (by decide)
  have l1 := wl_wl0 (w := (fun i => μ.2.2 57 (μ.1 46 24 + i))) (s := (μ.1 46 25)) hw (k := 1) (by decide)
  have l2 := wl_wl0 (w := (fun i => μ.2.2 57 (μ.1 46 24 + i))) (s := (μ.1 46 25)) hw (k := 2) (by decide)
  have rl : ∀ (ν : Mem) (k : Int), (∀ p, p = 24 ∨ p = 25 → ν.1 46 p = μ.1 46 p) → ν.2.2 57 = μ.2.2 57 → 0 ≤ k ∧ k < 100 → w_E sc (fr - 1) (lo - (19 + 2)) 127 [.ref 46, .int (ji k)] (hp ν, ρ) (.inl (some (.int (ji (wl0 (fun i => μ.2.2 57 (μ.1 46 24 + i)) (μ.1 46 25) k))))) (hp ν, ρ) := fun ν k h1 h2 hk => by
    have e := m_rawLetter (sc := sc) (fr := fr - 1) (lo := lo - (19 + 2)) (μ := ν) (ρ := ρ) (by rw [h1 24 (by omega), h1 25 (by omega)]; omega) (k := k) (by omega)
    rw [h1 24 (by omega), h1 25 (by omega), h2] at e
    exact e
  have rl0 : ∀ k : Int, 0 ≤ k ∧ k < 100 → w_E sc (fr - 1) (lo - (19 + 2)) 127 [.ref 46, .int (ji k)] (hp μ, ρ) (.inl (some (.int (ji (wl0 (fun i => μ.2.2 57 (μ.1 46 24 + i)) (μ.1 46 25) k))))) (hp μ, ρ) := fun k hk => rl μ k (fun _ _ => rfl) rfl hk
  obtain ⟨ν, hk1, ⟨r49, r50, r51, r52, r53, r54, r55, r56⟩, hmk⟩ := m_mk sc (fr - 1) (lo - (19 + 4)) ρ (μ := μ) ⟨hn.1, hn.2.1, by omega⟩ 4 q
  have n24 : ν.1 46 24 = μ.1 46 24 := hk1.1 46 24 (by decide)
  have n25 : ν.1 46 25 = μ.1 46 25 := hk1.1 46 25 (by decide)
  have n16 : ν.1 46 16 = -1 := (hk1.1 46 16 (by decide)).trans h16
  have n57 : ν.2.2 57 = μ.2.2 57 := by funext i; exact hk1.2.2.2 57 i (by omega)
  have rlν : ∀ k : Int, 0 ≤ k ∧ k < 100 → w_E sc (fr - 1) (lo - (19 + 2)) 127 [.ref 46, .int (ji k)] (hp ν, ρ) (.inl (some (.int (ji (wl0 (fun i => μ.2.2 57 (μ.1 46 24 + i)) (μ.1 46 25) k))))) (hp ν, ρ) := fun k hk => rl ν k (fun p hp => by rcases hp with rfl | rfl <;> first | exact n24 | exact n25) n57 hk
  refine w_ld d_134_27 rfl rfl rfl ?_
  refine w_bip d_134_28 (by decide) ?_
  refine w_icmp_eq (g := 79) d_134_30 (by decide) (by omega) (fun h30 => ?_) (fun h30 => ?_)
  · refine w_ld d_134_79 rfl rfl rfl ?_
    refine w_bip d_134_80 (by decide) ?_
    refine w_icmp_eq (g := 139) d_134_82 (by decide) (by omega) (fun h82 => ?_) (fun h82 => ?_)
    · exact absurd h82 (by omega)
    · refine w_ld d_134_85 rfl rfl rfl ?_
      refine w_bip d_134_86 (by decide) ?_
      refine w_icmp_eq (g := 139) d_134_88 (by decide) (by omega) (fun h88 => ?_) (fun h88 => ?_)
      · exact absurd h88 (by omega)
      · refine w_ld d_134_91 rfl rfl rfl ?_
        refine w_bip d_134_92 (by decide) ?_
        refine w_icmp_eq (g := 139) d_134_94 (by decide) (by omega) (fun h94 => ?_) (fun h94 => ?_)
        · exact absurd h94 (by omega)
        · refine w_ld d_134_97 rfl rfl rfl ?_
          refine w_bip d_134_98 (by decide) ?_
          refine w_icmp_eq (g := 139) d_134_100 (by decide) (by omega) (fun h100 => ?_) (fun h100 => ?_)
          · exact absurd h100 (by omega)
          · refine w_ld d_134_103 rfl rfl rfl ?_
            refine w_bip d_134_104 (by decide) ?_
            refine w_icmp_eq (g := 139) d_134_106 (by decide) (by omega) (fun h106 => ?_) (fun h106 => ?_)
            · exact absurd h106 (by omega)
            · refine w_ld d_134_109 rfl rfl rfl ?_
              refine w_bip d_134_110 (by decide) ?_
              refine w_icmp_eq (g := 139) d_134_112 (by decide) (by omega) (fun h112 => ?_) (fun h112 => ?_)
              · exact absurd h112 (by omega)
              · refine w_ld d_134_115 rfl rfl rfl ?_
                refine w_bip d_134_116 (by decide) ?_
                refine w_icmp_eq (g := 139) d_134_118 (by decide) (by omega) (fun h118 => ?_) (fun h118 => ?_)
                · exact absurd h118 (by omega)
                · refine w_ld d_134_121 rfl rfl rfl ?_
                  refine w_bip d_134_122 (by decide) ?_
                  refine w_icmp_eq (g := 139) d_134_124 (by decide) (by omega) (fun h124 => ?_) (fun h124 => ?_)
                  · exact absurd h124 (by omega)
                  · refine w_ld d_134_127 rfl rfl rfl ?_
                    refine w_bip d_134_128 (by decide) ?_
                    refine w_icmp_eq (g := 139) d_134_130 (by decide) (by omega) (fun h130 => ?_) (fun h130 => ?_)
                    · exact absurd h130 (by omega)
                    · refine w_ld d_134_133 rfl rfl rfl ?_
                      refine w_bip d_134_134 (by decide) ?_
                      refine w_icmp_ne (g := 143) d_134_136 (by decide) (by omega) (fun h136 => ?_) (fun h136 => ?_)
                      · exact absurd h136 (by omega)
                      · refine w_con d_134_139 ?_
                        refine w_goto (g := 144) d_134_140 (by decide) ?_
                        refine w_st1 (L' := [_, _, _, _, _, _, _, _, _]) d_134_144 rfl (by decide) rfl (by decide) rfl ?_
                        refine w_ld d_134_146 rfl rfl rfl ?_
                        refine w_ld d_134_147 rfl rfl rfl ?_
                        refine w_bip d_134_148 (by decide) ?_
                        refine w_icmp_ne (g := 157) d_134_150 (by decide) (by omega) (fun h150 => ?_) (fun h150 => ?_)
                        · refine w_ld d_134_157 rfl rfl rfl ?_
                          refine w_bip d_134_158 (by decide) ?_
                          refine w_icmp_ne (g := 167) d_134_160 (by decide) (by omega) (fun h160 => ?_) (fun h160 => ?_)
                          · refine w_ld d_134_167 rfl rfl rfl ?_
                            refine w_bip d_134_168 (by decide) ?_
                            refine w_icmp_ne (g := 177) d_134_170 (by decide) (by omega) (fun h170 => ?_) (fun h170 => ?_)
                            · refine w_ld d_134_177 rfl rfl rfl ?_
                              refine w_bip d_134_178 (by decide) ?_
                              refine w_icmp_ne (g := 187) d_134_180 (by decide) (by omega) (fun h180 => ?_) (fun h180 => ?_)
                              · refine w_ld d_134_187 rfl rfl rfl ?_
                                refine w_bip d_134_188 (by decide) ?_
                                refine w_icmp_ne (g := 197) d_134_190 (by decide) (by omega) (fun h190 => ?_) (fun h190 => ?_)
                                · refine w_ld d_134_197 rfl rfl rfl ?_
                                  refine w_bip d_134_198 (by decide) ?_
                                  refine w_icmp_ne (g := 208) d_134_200 (by decide) (by omega) (fun h200 => ?_) (fun h200 => ?_)
                                  · refine w_ld d_134_208 rfl rfl rfl ?_
                                    refine w_bip d_134_209 (by decide) ?_
                                    refine w_icmp_ne (g := 219) d_134_211 (by decide) (by omega) (fun h211 => ?_) (fun h211 => ?_)
                                    · refine w_ld d_134_219 rfl rfl rfl ?_
                                      refine w_if_eq (g := 228) d_134_221 (by decide) (by decide) (fun h221 => ?_) (fun h221 => ?_)
                                      · exact absurd h221 (by decide)
                                      · refine w_con d_134_224 ?_
                                        refine w_goto (g := 230) d_134_225 (by decide) ?_
                                        refine w_ld d_134_230 rfl rfl rfl ?_
                                        refine w_cV1 (a := 46) (as := [_, _]) (rest := _) rfl d_134_231 (by rfl) (by rfl) (by first | rfl | assumption) (by rfl) (by rfl) (Nat.le_of_ble_eq_true rfl) (by omega) (by omega) hmk ?_
                                        refine w_st1 (L' := [_, _, _, _, _, _, _, _, _]) d_134_234 rfl (by decide) rfl (by decide) rfl ?_
                                        refine w_con d_134_236 ?_
                                        refine w_st1 (L' := [_, _, _, _, _, _, _, _, _]) d_134_237 rfl (by decide) rfl (by decide) rfl ?_
                                        refine w_ld d_134_239 rfl rfl rfl ?_
                                        refine w_bip d_134_240 (by decide) ?_
                                        refine w_icmp_ne (g := 252) d_134_242 (by decide) (by omega) (fun h242 => ?_) (fun h242 => ?_)
                                        · refine w_ld d_134_252 rfl rfl rfl ?_
                                          refine w_bip d_134_253 (by decide) ?_
                                          refine w_icmp_ne (g := 318) d_134_255 (by decide) (by omega) (fun h255 => ?_) (fun h255 => ?_)
                                          · refine w_ld d_134_318 rfl rfl rfl ?_
                                            refine w_bip d_134_319 (by decide) ?_
                                            refine w_icmp_eq (g := 330) d_134_321 (by decide) (by omega) (fun h321 => ?_) (fun h321 => ?_)
                                            · exact absurd h321 (by omega)
                                            · refine w_ld d_134_324 rfl rfl rfl ?_
                                              refine w_bip d_134_325 (by decide) ?_
                                              refine w_icmp_ne (g := 341) d_134_327 (by decide) (by omega) (fun h327 => ?_) (fun h327 => ?_)
                                              · refine w_ld d_134_341 rfl rfl rfl ?_
                                                refine w_bip d_134_342 (by decide) ?_
                                                refine w_icmp_eq (g := 353) d_134_344 (by decide) (by omega) (fun h344 => ?_) (fun h344 => ?_)
                                                · exact absurd h344 (by omega)
                                                · refine w_ld d_134_347 rfl rfl rfl ?_
                                                  refine w_bip d_134_348 (by decide) ?_
                                                  refine w_icmp_ne (g := 386) d_134_350 (by decide) (by omega) (fun h350 => ?_) (fun h350 => ?_)
                                                  · refine w_ld d_134_386 rfl rfl rfl ?_
                                                    refine w_bip d_134_387 (by decide) ?_
                                                    refine w_icmp_ne (g := 423) d_134_389 (by decide) (by omega) (fun h389 => ?_) (fun h389 => ?_)
                                                    · refine w_ld d_134_423 rfl rfl rfl ?_
                                                      refine w_if_eq (g := 449) d_134_425 (by decide) (by decide) (fun h425 => ?_) (fun h425 => ?_)
                                                      · exact absurd h425 (by decide)
                                                      · refine w_ld d_134_428 rfl rfl rfl ?_
                                                        refine w_ld d_134_429 rfl rfl rfl ?_
                                                        refine w_ld d_134_431 rfl rfl rfl ?_
                                                        refine w_gI d_134_432 (by rfl) (by first | rfl | assumption) (by rfl) (by first | exact n24 | exact n25 | rfl) ?_
                                                        refine w_con d_134_435 ?_
                                                        refine w_iadd d_134_436 ?_
                                                        refine w_ld d_134_437 rfl rfl rfl ?_
                                                        refine w_gI d_134_438 (by rfl) (by first | rfl | assumption) (by rfl) (by first | exact n24 | exact n25 | rfl) ?_
                                                        refine w_con d_134_441 ?_
                                                        refine w_isub d_134_442 ?_
                                                        refine w_cV0 (a := 46) (as := [_, _, _]) (rest := _) rfl d_134_443 (by rfl) (by rfl) (by first | rfl | assumption) (by rfl) (by rfl) (Nat.le_of_ble_eq_true rfl) (by omega) (by omega) (m_setWord (by omega)) ?_
                                                        refine w_goto (g := 525) d_134_446 (by decide) ?_
                                                        refine w_ld d_134_525 rfl rfl rfl ?_
                                                        refine w_if_ne (g := 535) d_134_527 (by decide) (by decide) (fun h527 => ?_) (fun h527 => ?_)
                                                        · have f49 : (stA (stA ν 51 (256 + n) (μ.1 46 24 + 1)) 52 (256 + n) (μ.1 46 25 - 1)).2.2 49 (256 + n) = 4 := (by rw [sw_row.1 49 (by decide) (by decide)]; exact r49)
                                                          have f50 : (stA (stA ν 51 (256 + n) (μ.1 46 24 + 1)) 52 (256 + n) (μ.1 46 25 - 1)).2.2 50 (256 + n) = 0 := (by rw [sw_row.1 50 (by decide) (by decide)]; exact r50)
                                                          have f51 : (stA (stA ν 51 (256 + n) (μ.1 46 24 + 1)) 52 (256 + n) (μ.1 46 25 - 1)).2.2 51 (256 + n) = μ.1 46 24 + 1 := sw_row.2.1
                                                          have f52 : (stA (stA ν 51 (256 + n) (μ.1 46 24 + 1)) 52 (256 + n) (μ.1 46 25 - 1)).2.2 52 (256 + n) = μ.1 46 25 - 1 := sw_row.2.2
                                                          have f53 : (stA (stA ν 51 (256 + n) (μ.1 46 24 + 1)) 52 (256 + n) (μ.1 46 25 - 1)).2.2 53 (256 + n) = 0 := (by rw [sw_row.1 53 (by decide) (by decide)]; exact r53)
                                                          have f55 : (stA (stA ν 51 (256 + n) (μ.1 46 24 + 1)) 52 (256 + n) (μ.1 46 25 - 1)).2.2 55 (256 + n) = q := (by rw [sw_row.1 55 (by decide) (by decide)]; exact r55)
                                                          have f56 : (stA (stA ν 51 (256 + n) (μ.1 46 24 + 1)) 52 (256 + n) (μ.1 46 25 - 1)).2.2 56 (256 + n) = -1 := (by rw [sw_row.1 56 (by decide) (by decide)]; exact r56)
                                                          have fk : mk1 μ (stA (stA ν 51 (256 + n) (μ.1 46 24 + 1)) 52 (256 + n) (μ.1 46 25 - 1)) n := (mk1_A (mk1_A hk1 (by decide) rfl) (by decide) rfl)
                                                          refine w_ld d_134_535 rfl rfl rfl ?_
                                                          refine w_ld d_134_536 rfl rfl rfl ?_
                                                          refine w_cVm (a := 46) (as := [_]) (rest := _) rfl d_134_538 (by rfl) (by rfl) rfl (by rfl) (by rfl) (Nat.le_of_ble_eq_true rfl) (by omega) (by omega) (m_finish fk hM ⟨hn.1, by omega⟩ f56 f53 (by rw [f49]; decide) (by rw [f50]; decide) (by rw [f51, f52]; omega) (by omega) (by omega)) (fun μ' hm => ?_)
                                                          refine w_ret d_134_541 rfl ?_
                                                          have hmn : (mn (fun i => μ.2.2 57 (μ.1 46 24 + i)) (μ.1 46 25)) = some (4, 0, 1, μ.1 46 25 - 1) := by
                                                            unfold mn
                                                            rw [if_neg (by omega), if_neg (by omega), if_pos (by omega)]
                                                          exact ⟨μ', rfl, mmP_some hmn (by decide) (fin_ok hm ⟨f49, f50, Or.inr f51, f52, f53, f55⟩), rfl⟩
                                                        · exact absurd h527 (by decide)
                                                    · exact absurd h389 (by omega)
                                                  · exact absurd h350 (by omega)
                                              · exact absurd h327 (by omega)
                                          · exact absurd h255 (by omega)
                                        · exact absurd h242 (by omega)
                                    · exact absurd h211 (by omega)
                                  · exact absurd h200 (by omega)
                                · exact absurd h190 (by omega)
                              · exact absurd h180 (by omega)
                            · exact absurd h170 (by omega)
                          · exact absurd h160 (by omega)
                        · exact absurd h150 (by omega)
  · exact absurd hc h30
theorem m_mean_n {sc : Nat × (Nat → Int32)} {fr lo : Nat} {μ : Mem} {ρ : Nat × Nat × Nat} (hM : MI μ) {n : Int} (hn : μ.1 46 17 = n ∧ 0 ≤ n ∧ n ≤ 125) (hr : 480 ≤ μ.1 46 24 ∧ 0 ≤ μ.1 46 25 ∧ μ.1 46 24 + μ.1 46 25 ≤ 718 ∧ μ.1 46 25 ≤ 238) (hw : ∀ i, 0 ≤ i → i < μ.1 46 25 → 32 ≤ μ.2.2 57 (μ.1 46 24 + i) ∧ μ.2.2 57 (μ.1 46 24 + i) ≤ 126) (h16 : μ.1 46 16 = -1) (hpl : 0 ≤ μ.1 46 15 ∧ μ.1 46 15 ≤ 900) {q : Int} (hq : 0 ≤ q ∧ q ≤ 900) (hf : 12 ≤ fr) (hl : 500 ≤ lo) {al : Int} (hal : al = 1 ∧ μ.1 46 25 = 2 ∨ al = 0 ∧ μ.1 46 25 ≠ 2) (hc : (wl0 (fun i => μ.2.2 57 (μ.1 46 24 + i)) (μ.1 46 25) 0) = 126) (hd : (wl0 (fun i => μ.2.2 57 (μ.1 46 24 + i)) (μ.1 46 25) 1) = 95) : w_P sc fr lo 134 7 9 false (none) prog_9_method_30_code 27 [some (.ref 46), some (.int (ji q)), some (.int (ji (wl0 (fun i => μ.2.2 57 (μ.1 46 24 + i)) (μ.1 46 25) 0))), some (.int (ji (wl0 (fun i => μ.2.2 57 (μ.1 46 24 + i)) (μ.1 46 25) 1))), some (.int (ji al)), none, none, none, none] [] (hp μ, ρ) (fun o t' => ∃ μ' : Mem, o = .inl none ∧ mmP μ μ' (fun i => μ.2.2 57 (μ.1 46 24 + i)) (μ.1 46 25) (μ.1 46 24) q n ∧ t' = (hp μ', ρ)) := by
  have l0 := wl_wl0 (w := (fun i => μ.2.2 57 (μ.1 46 24 + i))) (s := (μ.1 46 25)) hw (k := 0) (by decide)
  have l1 := wl_wl0 (w := (fun i => μ.2.2 57 (μ.1 46 24 + i))) (s := (μ.1 46 25)) hw (k := 1) (by decide)
  have l2 := wl_wl0 (w := (fun i => μ.2.2 57 (μ.1 46 24 + i))) (s := (μ.1 46 25)) hw (k := 2) (by decide)
  have rl : ∀ (ν : Mem) (k : Int), (∀ p, p = 24 ∨ p = 25 → ν.1 46 p = μ.1 46 p) → ν.2.2 57 = μ.2.2 57 → 0 ≤ k ∧ k < 100 → w_E sc (fr - 1) (lo - (19 + 2)) 127 [.ref 46, .int (ji k)] (hp ν, ρ) (.inl (some (.int (ji (wl0 (fun i => μ.2.2 57 (μ.1 46 24 + i)) (μ.1 46 25) k))))) (hp ν, ρ) := fun ν k h1 h2 hk => by
    have e := m_rawLetter (sc := sc) (fr := fr - 1) (lo := lo - (19 + 2)) (μ := ν) (ρ := ρ) (by rw [h1 24 (by omega), h1 25 (by omega)]; omega) (k := k) (by omega)
    rw [h1 24 (by omega), h1 25 (by omega), h2] at e
    exact e
  have rl0 : ∀ k : Int, 0 ≤ k ∧ k < 100 → w_E sc (fr - 1) (lo - (19 + 2)) 127 [.ref 46, .int (ji k)] (hp μ, ρ) (.inl (some (.int (ji (wl0 (fun i => μ.2.2 57 (μ.1 46 24 + i)) (μ.1 46 25) k))))) (hp μ, ρ) := fun k hk => rl μ k (fun _ _ => rfl) rfl hk
  obtain ⟨ν, hk1, ⟨r49, r50, r51, r52, r53, r54, r55, r56⟩, hmk⟩ := m_mk sc (fr - 1) (lo - (19 + 4)) ρ (μ := μ) ⟨hn.1, hn.2.1, by omega⟩ 0 q
  have n24 : ν.1 46 24 = μ.1 46 24 := hk1.1 46 24 (by decide)
  have n25 : ν.1 46 25 = μ.1 46 25 := hk1.1 46 25 (by decide)
  have n16 : ν.1 46 16 = -1 := (hk1.1 46 16 (by decide)).trans h16
  have n57 : ν.2.2 57 = μ.2.2 57 := by funext i; exact hk1.2.2.2 57 i (by omega)
  have rlν : ∀ k : Int, 0 ≤ k ∧ k < 100 → w_E sc (fr - 1) (lo - (19 + 2)) 127 [.ref 46, .int (ji k)] (hp ν, ρ) (.inl (some (.int (ji (wl0 (fun i => μ.2.2 57 (μ.1 46 24 + i)) (μ.1 46 25) k))))) (hp ν, ρ) := fun k hk => rl ν k (fun p hp => by rcases hp with rfl | rfl <;> first | exact n24 | exact n25) n57 hk
  refine w_ld d_134_27 rfl rfl rfl ?_
  refine w_bip d_134_28 (by decide) ?_
  refine w_icmp_eq (g := 79) d_134_30 (by decide) (by omega) (fun h30 => ?_) (fun h30 => ?_)
  · refine w_ld d_134_79 rfl rfl rfl ?_
    refine w_bip d_134_80 (by decide) ?_
    refine w_icmp_eq (g := 139) d_134_82 (by decide) (by omega) (fun h82 => ?_) (fun h82 => ?_)
    · refine w_con d_134_139 ?_
      refine w_goto (g := 144) d_134_140 (by decide) ?_
      refine w_st1 (L' := [_, _, _, _, _, _, _, _, _]) d_134_144 rfl (by decide) rfl (by decide) rfl ?_
      refine w_ld d_134_146 rfl rfl rfl ?_
      refine w_ld d_134_147 rfl rfl rfl ?_
      refine w_bip d_134_148 (by decide) ?_
      refine w_icmp_ne (g := 157) d_134_150 (by decide) (by omega) (fun h150 => ?_) (fun h150 => ?_)
      · exact absurd h150 (by omega)
      · refine w_con d_134_153 ?_
        refine w_goto (g := 230) d_134_154 (by decide) ?_
        refine w_ld d_134_230 rfl rfl rfl ?_
        refine w_cV1 (a := 46) (as := [_, _]) (rest := _) rfl d_134_231 (by rfl) (by rfl) (by first | rfl | assumption) (by rfl) (by rfl) (Nat.le_of_ble_eq_true rfl) (by omega) (by omega) hmk ?_
        refine w_st1 (L' := [_, _, _, _, _, _, _, _, _]) d_134_234 rfl (by decide) rfl (by decide) rfl ?_
        refine w_con d_134_236 ?_
        refine w_st1 (L' := [_, _, _, _, _, _, _, _, _]) d_134_237 rfl (by decide) rfl (by decide) rfl ?_
        refine w_ld d_134_239 rfl rfl rfl ?_
        refine w_bip d_134_240 (by decide) ?_
        refine w_icmp_ne (g := 252) d_134_242 (by decide) (by omega) (fun h242 => ?_) (fun h242 => ?_)
        · exact absurd h242 (by omega)
        · refine w_ld d_134_245 rfl rfl rfl ?_
          refine w_st1 (L' := [_, _, _, _, _, _, _, _, _]) d_134_247 rfl (by decide) rfl (by decide) rfl ?_
          refine w_goto (g := 525) d_134_249 (by decide) ?_
          refine w_ld d_134_525 rfl rfl rfl ?_
          refine w_if_ne (g := 535) d_134_527 (by decide) (by omega) (fun h527 => ?_) (fun h527 => ?_)
          · have f49 : ν.2.2 49 (256 + n) = 0 := r49
            have f50 : ν.2.2 50 (256 + n) = 0 := r50
            have f51 : ν.2.2 51 (256 + n) = 0 := r51
            have f52 : ν.2.2 52 (256 + n) = 0 := r52
            have f53 : ν.2.2 53 (256 + n) = 0 := r53
            have f55 : ν.2.2 55 (256 + n) = q := r55
            have f56 : ν.2.2 56 (256 + n) = -1 := r56
            have fk : mk1 μ ν n := hk1
            refine w_ld d_134_535 rfl rfl rfl ?_
            refine w_ld d_134_536 rfl rfl rfl ?_
            refine w_cVm (a := 46) (as := [_]) (rest := _) rfl d_134_538 (by rfl) (by rfl) rfl (by rfl) (by rfl) (Nat.le_of_ble_eq_true rfl) (by omega) (by omega) (m_finish fk hM ⟨hn.1, by omega⟩ f56 f53 (by rw [f49]; decide) (by rw [f50]; decide) (by rw [f51, f52]; omega) (by omega) (by omega)) (fun μ' hm => ?_)
            refine w_ret d_134_541 rfl ?_
            have hmn : (mn (fun i => μ.2.2 57 (μ.1 46 24 + i)) (μ.1 46 25)) = some (0, 0, 0, 0) := by
              unfold mn
              rw [if_neg (by omega), if_neg (by omega), if_neg (by omega), if_pos (by omega), if_pos (by omega)]
            exact ⟨μ', rfl, mmP_some hmn (by decide) (fin_ok hm ⟨f49, f50, Or.inl rfl, f52, f53, f55⟩), rfl⟩
          · refine w_ld d_134_530 rfl rfl rfl ?_
            refine w_ld d_134_531 rfl rfl rfl ?_
            refine w_cV0 (a := 46) (as := [_]) (rest := _) rfl d_134_532 (by rfl) (by rfl) (by first | rfl | assumption) (by rfl) (by rfl) (Nat.le_of_ble_eq_true rfl) (by omega) (by omega) (by have e := m_fail (sc := sc) (fr := fr - 1) (lo := lo - (19 + 2)) (μ := ν) (ρ := ρ) (by rw [show (ν).1 46 16 = -1 from n16]; decide) (k := q); rw [show (ν).1 46 16 = -1 from n16, if_pos (by decide)] at e; exact e) ?_
            have f49 : ν.2.2 49 (256 + n) = 0 := r49
            have f50 : ν.2.2 50 (256 + n) = 0 := r50
            have f51 : ν.2.2 51 (256 + n) = 0 := r51
            have f52 : ν.2.2 52 (256 + n) = 0 := r52
            have f53 : ν.2.2 53 (256 + n) = 0 := r53
            have f55 : ν.2.2 55 (256 + n) = q := r55
            have f56 : ν.2.2 56 (256 + n) = -1 := r56
            have fk : mk1 μ ν n := hk1
            refine w_ld d_134_535 rfl rfl rfl ?_
            refine w_ld d_134_536 rfl rfl rfl ?_
            refine w_cVm (a := 46) (as := [_]) (rest := _) rfl d_134_538 (by rfl) (by rfl) rfl (by rfl) (by rfl) (Nat.le_of_ble_eq_true rfl) (by omega) (by omega) (m_finish (mk1_I fk (q := 16) (x := q) (by decide)) (MI_16 hM q) ⟨hn.1, by omega⟩ f56 f53 (show 0 ≤ ν.2.2 49 (256 + n) ∧ ν.2.2 49 (256 + n) ≤ 12 by rw [f49]; decide) (show _ ≤ ν.2.2 50 (256 + n) ∧ ν.2.2 50 (256 + n) < _ by rw [f50]; decide) (show (0 ≤ ν.2.2 52 (256 + n) ∧ ν.2.2 52 (256 + n) ≤ 240) ∧ (ν.2.2 52 (256 + n) = 0 ∨ 0 ≤ ν.2.2 51 (256 + n) ∧ ν.2.2 51 (256 + n) + ν.2.2 52 (256 + n) ≤ 720) by rw [f51, f52]; omega) (by omega) (by omega)) (fun μ' hm => ?_)
            refine w_ret d_134_541 rfl ?_
            have hmn : (mn (fun i => μ.2.2 57 (μ.1 46 24 + i)) (μ.1 46 25)) = none := by
              unfold mn
              rw [if_neg (by omega), if_neg (by omega), if_neg (by omega), if_pos (by omega), if_neg (by omega)]
            exact ⟨μ', rfl, mmP_none hmn (fin_bad (m := 0) hn.2.1 hpl hm.1 hm.2.1), rfl⟩
    · exact absurd h82 (by omega)
  · exact absurd hc h30
theorem m_mean_q {sc : Nat × (Nat → Int32)} {fr lo : Nat} {μ : Mem} {ρ : Nat × Nat × Nat} (hM : MI μ) {n : Int} (hn : μ.1 46 17 = n ∧ 0 ≤ n ∧ n ≤ 125) (hr : 480 ≤ μ.1 46 24 ∧ 0 ≤ μ.1 46 25 ∧ μ.1 46 24 + μ.1 46 25 ≤ 718 ∧ μ.1 46 25 ≤ 238) (hw : ∀ i, 0 ≤ i → i < μ.1 46 25 → 32 ≤ μ.2.2 57 (μ.1 46 24 + i) ∧ μ.2.2 57 (μ.1 46 24 + i) ≤ 126) (h16 : μ.1 46 16 = -1) (hpl : 0 ≤ μ.1 46 15 ∧ μ.1 46 15 ≤ 900) {q : Int} (hq : 0 ≤ q ∧ q ≤ 900) (hf : 12 ≤ fr) (hl : 500 ≤ lo) {al : Int} (hal : al = 1 ∧ μ.1 46 25 = 2 ∨ al = 0 ∧ μ.1 46 25 ≠ 2) (hc : (wl0 (fun i => μ.2.2 57 (μ.1 46 24 + i)) (μ.1 46 25) 0) = 126) (hd : (wl0 (fun i => μ.2.2 57 (μ.1 46 24 + i)) (μ.1 46 25) 1) = 63) : w_P sc fr lo 134 7 9 false (none) prog_9_method_30_code 27 [some (.ref 46), some (.int (ji q)), some (.int (ji (wl0 (fun i => μ.2.2 57 (μ.1 46 24 + i)) (μ.1 46 25) 0))), some (.int (ji (wl0 (fun i => μ.2.2 57 (μ.1 46 24 + i)) (μ.1 46 25) 1))), some (.int (ji al)), none, none, none, none] [] (hp μ, ρ) (fun o t' => ∃ μ' : Mem, o = .inl none ∧ mmP μ μ' (fun i => μ.2.2 57 (μ.1 46 24 + i)) (μ.1 46 25) (μ.1 46 24) q n ∧ t' = (hp μ', ρ)) := by
  have l0 := wl_wl0 (w := (fun i => μ.2.2 57 (μ.1 46 24 + i))) (s := (μ.1 46 25)) hw (k := 0) (by decide)
  have l1 := wl_wl0 (w := (fun i => μ.2.2 57 (μ.1 46 24 + i))) (s := (μ.1 46 25)) hw (k := 1) (by decide)
  have l2 := wl_wl0 (w := (fun i => μ.2.2 57 (μ.1 46 24 + i))) (s := (μ.1 46 25)) hw (k := 2) (by decide)
  have rl : ∀ (ν : Mem) (k : Int), (∀ p, p = 24 ∨ p = 25 → ν.1 46 p = μ.1 46 p) → ν.2.2 57 = μ.2.2 57 → 0 ≤ k ∧ k < 100 → w_E sc (fr - 1) (lo - (19 + 2)) 127 [.ref 46, .int (ji k)] (hp ν, ρ) (.inl (some (.int (ji (wl0 (fun i => μ.2.2 57 (μ.1 46 24 + i)) (μ.1 46 25) k))))) (hp ν, ρ) := fun ν k h1 h2 hk => by
    have e := m_rawLetter (sc := sc) (fr := fr - 1) (lo := lo - (19 + 2)) (μ := ν) (ρ := ρ) (by rw [h1 24 (by omega), h1 25 (by omega)]; omega) (k := k) (by omega)
    rw [h1 24 (by omega), h1 25 (by omega), h2] at e
    exact e
  have rl0 : ∀ k : Int, 0 ≤ k ∧ k < 100 → w_E sc (fr - 1) (lo - (19 + 2)) 127 [.ref 46, .int (ji k)] (hp μ, ρ) (.inl (some (.int (ji (wl0 (fun i => μ.2.2 57 (μ.1 46 24 + i)) (μ.1 46 25) k))))) (hp μ, ρ) := fun k hk => rl μ k (fun _ _ => rfl) rfl hk
  obtain ⟨ν, hk1, ⟨r49, r50, r51, r52, r53, r54, r55, r56⟩, hmk⟩ := m_mk sc (fr - 1) (lo - (19 + 4)) ρ (μ := μ) ⟨hn.1, hn.2.1, by omega⟩ 1 q
  have n24 : ν.1 46 24 = μ.1 46 24 := hk1.1 46 24 (by decide)
  have n25 : ν.1 46 25 = μ.1 46 25 := hk1.1 46 25 (by decide)
  have n16 : ν.1 46 16 = -1 := (hk1.1 46 16 (by decide)).trans h16
  have n57 : ν.2.2 57 = μ.2.2 57 := by funext i; exact hk1.2.2.2 57 i (by omega)
  have rlν : ∀ k : Int, 0 ≤ k ∧ k < 100 → w_E sc (fr - 1) (lo - (19 + 2)) 127 [.ref 46, .int (ji k)] (hp ν, ρ) (.inl (some (.int (ji (wl0 (fun i => μ.2.2 57 (μ.1 46 24 + i)) (μ.1 46 25) k))))) (hp ν, ρ) := fun k hk => rl ν k (fun p hp => by rcases hp with rfl | rfl <;> first | exact n24 | exact n25) n57 hk
  refine w_ld d_134_27 rfl rfl rfl ?_
  refine w_bip d_134_28 (by decide) ?_
  refine w_icmp_eq (g := 79) d_134_30 (by decide) (by omega) (fun h30 => ?_) (fun h30 => ?_)
  · refine w_ld d_134_79 rfl rfl rfl ?_
    refine w_bip d_134_80 (by decide) ?_
    refine w_icmp_eq (g := 139) d_134_82 (by decide) (by omega) (fun h82 => ?_) (fun h82 => ?_)
    · exact absurd h82 (by omega)
    · refine w_ld d_134_85 rfl rfl rfl ?_
      refine w_bip d_134_86 (by decide) ?_
      refine w_icmp_eq (g := 139) d_134_88 (by decide) (by omega) (fun h88 => ?_) (fun h88 => ?_)
      · refine w_con d_134_139 ?_
        refine w_goto (g := 144) d_134_140 (by decide) ?_
        refine w_st1 (L' := [_, _, _, _, _, _, _, _, _]) d_134_144 rfl (by decide) rfl (by decide) rfl ?_
        refine w_ld d_134_146 rfl rfl rfl ?_
        refine w_ld d_134_147 rfl rfl rfl ?_
        refine w_bip d_134_148 (by decide) ?_
        refine w_icmp_ne (g := 157) d_134_150 (by decide) (by omega) (fun h150 => ?_) (fun h150 => ?_)
        · refine w_ld d_134_157 rfl rfl rfl ?_
          refine w_bip d_134_158 (by decide) ?_
          refine w_icmp_ne (g := 167) d_134_160 (by decide) (by omega) (fun h160 => ?_) (fun h160 => ?_)
          · exact absurd h160 (by omega)
          · refine w_con d_134_163 ?_
            refine w_goto (g := 230) d_134_164 (by decide) ?_
            refine w_ld d_134_230 rfl rfl rfl ?_
            refine w_cV1 (a := 46) (as := [_, _]) (rest := _) rfl d_134_231 (by rfl) (by rfl) (by first | rfl | assumption) (by rfl) (by rfl) (Nat.le_of_ble_eq_true rfl) (by omega) (by omega) hmk ?_
            refine w_st1 (L' := [_, _, _, _, _, _, _, _, _]) d_134_234 rfl (by decide) rfl (by decide) rfl ?_
            refine w_con d_134_236 ?_
            refine w_st1 (L' := [_, _, _, _, _, _, _, _, _]) d_134_237 rfl (by decide) rfl (by decide) rfl ?_
            refine w_ld d_134_239 rfl rfl rfl ?_
            refine w_bip d_134_240 (by decide) ?_
            refine w_icmp_ne (g := 252) d_134_242 (by decide) (by omega) (fun h242 => ?_) (fun h242 => ?_)
            · refine w_ld d_134_252 rfl rfl rfl ?_
              refine w_bip d_134_253 (by decide) ?_
              refine w_icmp_ne (g := 318) d_134_255 (by decide) (by omega) (fun h255 => ?_) (fun h255 => ?_)
              · exact absurd h255 (by omega)
              · refine w_ld d_134_258 rfl rfl rfl ?_
                refine w_gI d_134_259 (by rfl) (by first | rfl | assumption) (by rfl) (by first | exact n24 | exact n25 | rfl) ?_
                refine w_con d_134_262 ?_
                refine w_icmp_ne (g := 290) d_134_263 (by decide) (by omega) (fun h263 => ?_) (fun h263 => ?_)
                · refine w_con d_134_290 ?_
                  refine w_st1 (L' := [_, _, _, _, _, _, _, _, _]) d_134_291 rfl (by decide) rfl (by decide) rfl ?_
                  refine w_ld d_134_293 rfl rfl rfl ?_
                  refine w_getF d_134_294 (by rfl) (by first | rfl | assumption) (by rfl) (by rfl) ?_
                  refine w_ld d_134_297 rfl rfl rfl ?_
                  refine w_ld d_134_299 rfl rfl rfl ?_
                  refine w_con d_134_300 ?_
                  refine w_cV1 (a := 46) (as := [_]) (rest := _) rfl d_134_301 (by rfl) (by rfl) (by first | rfl | assumption) (by rfl) (by rfl) (Nat.le_of_ble_eq_true rfl) (by omega) (by omega) (rlν 2 (by decide)) ?_
                  refine w_bip d_134_304 (by decide) ?_
                  refine w_icmp_ne (g := 313) d_134_306 (by decide) (by omega) (fun h306 => ?_) (fun h306 => ?_)
                  · refine w_lcon0 d_134_313 ?_
                    refine w_last d_134_314 (by first | rfl | assumption) (by omega) ?_
                    refine w_goto (g := 525) d_134_315 (by decide) ?_
                    refine w_ld d_134_525 rfl rfl rfl ?_
                    refine w_if_ne (g := 535) d_134_527 (by decide) (by decide) (fun h527 => ?_) (fun h527 => ?_)
                    · exact absurd rfl h527
                    · refine w_ld d_134_530 rfl rfl rfl ?_
                      refine w_ld d_134_531 rfl rfl rfl ?_
                      refine w_cV0 (a := 46) (as := [_]) (rest := _) rfl d_134_532 (by rfl) (by rfl) (by first | rfl | assumption) (by rfl) (by rfl) (Nat.le_of_ble_eq_true rfl) (by omega) (by omega) (by have e := m_fail (sc := sc) (fr := fr - 1) (lo := lo - (19 + 2)) (μ := (stA ν 50 (256 + n) (0))) (ρ := ρ) (by rw [show ((stA ν 50 (256 + n) (0))).1 46 16 = -1 from n16]; decide) (k := q); rw [show ((stA ν 50 (256 + n) (0))).1 46 16 = -1 from n16, if_pos (by decide)] at e; exact e) ?_
                      have f49 : (stA ν 50 (256 + n) (0)).2.2 49 (256 + n) = 1 := (by rw [stA_o2 (by decide)]; exact r49)
                      have f50 : (stA ν 50 (256 + n) (0)).2.2 50 (256 + n) = 0 := (stA_at _ _ _ _)
                      have f51 : (stA ν 50 (256 + n) (0)).2.2 51 (256 + n) = 0 := (by rw [stA_o2 (by decide)]; exact r51)
                      have f52 : (stA ν 50 (256 + n) (0)).2.2 52 (256 + n) = 0 := (by rw [stA_o2 (by decide)]; exact r52)
                      have f53 : (stA ν 50 (256 + n) (0)).2.2 53 (256 + n) = 0 := (by rw [stA_o2 (by decide)]; exact r53)
                      have f55 : (stA ν 50 (256 + n) (0)).2.2 55 (256 + n) = q := (by rw [stA_o2 (by decide)]; exact r55)
                      have f56 : (stA ν 50 (256 + n) (0)).2.2 56 (256 + n) = -1 := (by rw [stA_o2 (by decide)]; exact r56)
                      have fk : mk1 μ (stA ν 50 (256 + n) (0)) n := (mk1_A hk1 (by decide) rfl)
                      refine w_ld d_134_535 rfl rfl rfl ?_
                      refine w_ld d_134_536 rfl rfl rfl ?_
                      refine w_cVm (a := 46) (as := [_]) (rest := _) rfl d_134_538 (by rfl) (by rfl) rfl (by rfl) (by rfl) (Nat.le_of_ble_eq_true rfl) (by omega) (by omega) (m_finish (mk1_I fk (q := 16) (x := q) (by decide)) (MI_16 hM q) ⟨hn.1, by omega⟩ f56 f53 (show 0 ≤ (stA ν 50 (256 + n) (0)).2.2 49 (256 + n) ∧ (stA ν 50 (256 + n) (0)).2.2 49 (256 + n) ≤ 12 by rw [f49]; decide) (show _ ≤ (stA ν 50 (256 + n) (0)).2.2 50 (256 + n) ∧ (stA ν 50 (256 + n) (0)).2.2 50 (256 + n) < _ by rw [f50]; decide) (show (0 ≤ (stA ν 50 (256 + n) (0)).2.2 52 (256 + n) ∧ (stA ν 50 (256 + n) (0)).2.2 52 (256 + n) ≤ 240) ∧ ((stA ν 50 (256 + n) (0)).2.2 52 (256 + n) = 0 ∨ 0 ≤ (stA ν 50 (256 + n) (0)).2.2 51 (256 + n) ∧ (stA ν 50 (256 + n) (0)).2.2 51 (256 + n) + (stA ν 50 (256 + n) (0)).2.2 52 (256 + n) ≤ 720) by rw [f51, f52]; omega) (by omega) (by omega)) (fun μ' hm => ?_)
                      refine w_ret d_134_541 rfl ?_
                      have hmn : (mn (fun i => μ.2.2 57 (μ.1 46 24 + i)) (μ.1 46 25)) = none := by
                        unfold mn
                        rw [if_neg (by omega), if_neg (by omega), if_neg (by omega), if_neg (by omega), if_pos (by omega), if_neg (by omega)]
                      exact ⟨μ', rfl, mmP_none hmn (fin_bad (m := 0) hn.2.1 hpl hm.1 hm.2.1), rfl⟩
                  · refine w_lcon1 d_134_309 ?_
                    refine w_goto (g := 314) d_134_310 (by decide) ?_
                    refine w_last d_134_314 (by first | rfl | assumption) (by omega) ?_
                    refine w_goto (g := 525) d_134_315 (by decide) ?_
                    refine w_ld d_134_525 rfl rfl rfl ?_
                    refine w_if_ne (g := 535) d_134_527 (by decide) (by decide) (fun h527 => ?_) (fun h527 => ?_)
                    · exact absurd rfl h527
                    · refine w_ld d_134_530 rfl rfl rfl ?_
                      refine w_ld d_134_531 rfl rfl rfl ?_
                      refine w_cV0 (a := 46) (as := [_]) (rest := _) rfl d_134_532 (by rfl) (by rfl) (by first | rfl | assumption) (by rfl) (by rfl) (Nat.le_of_ble_eq_true rfl) (by omega) (by omega) (by have e := m_fail (sc := sc) (fr := fr - 1) (lo := lo - (19 + 2)) (μ := (stA ν 50 (256 + n) (1))) (ρ := ρ) (by rw [show ((stA ν 50 (256 + n) (1))).1 46 16 = -1 from n16]; decide) (k := q); rw [show ((stA ν 50 (256 + n) (1))).1 46 16 = -1 from n16, if_pos (by decide)] at e; exact e) ?_
                      have f49 : (stA ν 50 (256 + n) (1)).2.2 49 (256 + n) = 1 := (by rw [stA_o2 (by decide)]; exact r49)
                      have f50 : (stA ν 50 (256 + n) (1)).2.2 50 (256 + n) = 1 := (stA_at _ _ _ _)
                      have f51 : (stA ν 50 (256 + n) (1)).2.2 51 (256 + n) = 0 := (by rw [stA_o2 (by decide)]; exact r51)
                      have f52 : (stA ν 50 (256 + n) (1)).2.2 52 (256 + n) = 0 := (by rw [stA_o2 (by decide)]; exact r52)
                      have f53 : (stA ν 50 (256 + n) (1)).2.2 53 (256 + n) = 0 := (by rw [stA_o2 (by decide)]; exact r53)
                      have f55 : (stA ν 50 (256 + n) (1)).2.2 55 (256 + n) = q := (by rw [stA_o2 (by decide)]; exact r55)
                      have f56 : (stA ν 50 (256 + n) (1)).2.2 56 (256 + n) = -1 := (by rw [stA_o2 (by decide)]; exact r56)
                      have fk : mk1 μ (stA ν 50 (256 + n) (1)) n := (mk1_A hk1 (by decide) rfl)
                      refine w_ld d_134_535 rfl rfl rfl ?_
                      refine w_ld d_134_536 rfl rfl rfl ?_
                      refine w_cVm (a := 46) (as := [_]) (rest := _) rfl d_134_538 (by rfl) (by rfl) rfl (by rfl) (by rfl) (Nat.le_of_ble_eq_true rfl) (by omega) (by omega) (m_finish (mk1_I fk (q := 16) (x := q) (by decide)) (MI_16 hM q) ⟨hn.1, by omega⟩ f56 f53 (show 0 ≤ (stA ν 50 (256 + n) (1)).2.2 49 (256 + n) ∧ (stA ν 50 (256 + n) (1)).2.2 49 (256 + n) ≤ 12 by rw [f49]; decide) (show _ ≤ (stA ν 50 (256 + n) (1)).2.2 50 (256 + n) ∧ (stA ν 50 (256 + n) (1)).2.2 50 (256 + n) < _ by rw [f50]; decide) (show (0 ≤ (stA ν 50 (256 + n) (1)).2.2 52 (256 + n) ∧ (stA ν 50 (256 + n) (1)).2.2 52 (256 + n) ≤ 240) ∧ ((stA ν 50 (256 + n) (1)).2.2 52 (256 + n) = 0 ∨ 0 ≤ (stA ν 50 (256 + n) (1)).2.2 51 (256 + n) ∧ (stA ν 50 (256 + n) (1)).2.2 51 (256 + n) + (stA ν 50 (256 + n) (1)).2.2 52 (256 + n) ≤ 720) by rw [f51, f52]; omega) (by omega) (by omega)) (fun μ' hm => ?_)
                      refine w_ret d_134_541 rfl ?_
                      have hmn : (mn (fun i => μ.2.2 57 (μ.1 46 24 + i)) (μ.1 46 25)) = none := by
                        unfold mn
                        rw [if_neg (by omega), if_neg (by omega), if_neg (by omega), if_neg (by omega), if_pos (by omega), if_neg (by omega)]
                      exact ⟨μ', rfl, mmP_none hmn (fin_bad (m := 0) hn.2.1 hpl hm.1 hm.2.1), rfl⟩
                · refine w_ld d_134_266 rfl rfl rfl ?_
                  refine w_con d_134_267 ?_
                  refine w_cV1 (a := 46) (as := [_]) (rest := _) rfl d_134_268 (by rfl) (by rfl) (by first | rfl | assumption) (by rfl) (by rfl) (Nat.le_of_ble_eq_true rfl) (by omega) (by omega) (rlν 2 (by decide)) ?_
                  refine w_bip d_134_271 (by decide) ?_
                  refine w_icmp_eq (g := 286) d_134_273 (by decide) (by omega) (fun h273 => ?_) (fun h273 => ?_)
                  · refine w_con d_134_286 ?_
                    refine w_goto (g := 291) d_134_287 (by decide) ?_
                    refine w_st1 (L' := [_, _, _, _, _, _, _, _, _]) d_134_291 rfl (by decide) rfl (by decide) rfl ?_
                    refine w_ld d_134_293 rfl rfl rfl ?_
                    refine w_getF d_134_294 (by rfl) (by first | rfl | assumption) (by rfl) (by rfl) ?_
                    refine w_ld d_134_297 rfl rfl rfl ?_
                    refine w_ld d_134_299 rfl rfl rfl ?_
                    refine w_con d_134_300 ?_
                    refine w_cV1 (a := 46) (as := [_]) (rest := _) rfl d_134_301 (by rfl) (by rfl) (by first | rfl | assumption) (by rfl) (by rfl) (Nat.le_of_ble_eq_true rfl) (by omega) (by omega) (rlν 2 (by decide)) ?_
                    refine w_bip d_134_304 (by decide) ?_
                    refine w_icmp_ne (g := 313) d_134_306 (by decide) (by omega) (fun h306 => ?_) (fun h306 => ?_)
                    · exact absurd h273 h306
                    · refine w_lcon1 d_134_309 ?_
                      refine w_goto (g := 314) d_134_310 (by decide) ?_
                      refine w_last d_134_314 (by first | rfl | assumption) (by omega) ?_
                      refine w_goto (g := 525) d_134_315 (by decide) ?_
                      refine w_ld d_134_525 rfl rfl rfl ?_
                      refine w_if_ne (g := 535) d_134_527 (by decide) (by decide) (fun h527 => ?_) (fun h527 => ?_)
                      · have f49 : (stA ν 50 (256 + n) (1)).2.2 49 (256 + n) = 1 := (by rw [stA_o2 (by decide)]; exact r49)
                        have f50 : (stA ν 50 (256 + n) (1)).2.2 50 (256 + n) = 1 := (stA_at _ _ _ _)
                        have f51 : (stA ν 50 (256 + n) (1)).2.2 51 (256 + n) = 0 := (by rw [stA_o2 (by decide)]; exact r51)
                        have f52 : (stA ν 50 (256 + n) (1)).2.2 52 (256 + n) = 0 := (by rw [stA_o2 (by decide)]; exact r52)
                        have f53 : (stA ν 50 (256 + n) (1)).2.2 53 (256 + n) = 0 := (by rw [stA_o2 (by decide)]; exact r53)
                        have f55 : (stA ν 50 (256 + n) (1)).2.2 55 (256 + n) = q := (by rw [stA_o2 (by decide)]; exact r55)
                        have f56 : (stA ν 50 (256 + n) (1)).2.2 56 (256 + n) = -1 := (by rw [stA_o2 (by decide)]; exact r56)
                        have fk : mk1 μ (stA ν 50 (256 + n) (1)) n := (mk1_A hk1 (by decide) rfl)
                        refine w_ld d_134_535 rfl rfl rfl ?_
                        refine w_ld d_134_536 rfl rfl rfl ?_
                        refine w_cVm (a := 46) (as := [_]) (rest := _) rfl d_134_538 (by rfl) (by rfl) rfl (by rfl) (by rfl) (Nat.le_of_ble_eq_true rfl) (by omega) (by omega) (m_finish fk hM ⟨hn.1, by omega⟩ f56 f53 (by rw [f49]; decide) (by rw [f50]; decide) (by rw [f51, f52]; omega) (by omega) (by omega)) (fun μ' hm => ?_)
                        refine w_ret d_134_541 rfl ?_
                        have hmn : (mn (fun i => μ.2.2 57 (μ.1 46 24 + i)) (μ.1 46 25)) = some (1, 1, 0, 0) := by
                          unfold mn
                          rw [if_neg (by omega), if_neg (by omega), if_neg (by omega), if_neg (by omega), if_pos (by omega), if_pos (by omega), if_pos (by omega)]
                        exact ⟨μ', rfl, mmP_some hmn (by decide) (fin_ok hm ⟨f49, f50, Or.inl rfl, f52, f53, f55⟩), rfl⟩
                      · exact absurd h527 (by decide)
                  · refine w_ld d_134_276 rfl rfl rfl ?_
                    refine w_con d_134_277 ?_
                    refine w_cV1 (a := 46) (as := [_]) (rest := _) rfl d_134_278 (by rfl) (by rfl) (by first | rfl | assumption) (by rfl) (by rfl) (Nat.le_of_ble_eq_true rfl) (by omega) (by omega) (rlν 2 (by decide)) ?_
                    refine w_bip d_134_281 (by decide) ?_
                    refine w_icmp_ne (g := 290) d_134_283 (by decide) (by omega) (fun h283 => ?_) (fun h283 => ?_)
                    · refine w_con d_134_290 ?_
                      refine w_st1 (L' := [_, _, _, _, _, _, _, _, _]) d_134_291 rfl (by decide) rfl (by decide) rfl ?_
                      refine w_ld d_134_293 rfl rfl rfl ?_
                      refine w_getF d_134_294 (by rfl) (by first | rfl | assumption) (by rfl) (by rfl) ?_
                      refine w_ld d_134_297 rfl rfl rfl ?_
                      refine w_ld d_134_299 rfl rfl rfl ?_
                      refine w_con d_134_300 ?_
                      refine w_cV1 (a := 46) (as := [_]) (rest := _) rfl d_134_301 (by rfl) (by rfl) (by first | rfl | assumption) (by rfl) (by rfl) (Nat.le_of_ble_eq_true rfl) (by omega) (by omega) (rlν 2 (by decide)) ?_
                      refine w_bip d_134_304 (by decide) ?_
                      refine w_icmp_ne (g := 313) d_134_306 (by decide) (by omega) (fun h306 => ?_) (fun h306 => ?_)
                      · refine w_lcon0 d_134_313 ?_
                        refine w_last d_134_314 (by first | rfl | assumption) (by omega) ?_
                        refine w_goto (g := 525) d_134_315 (by decide) ?_
                        refine w_ld d_134_525 rfl rfl rfl ?_
                        refine w_if_ne (g := 535) d_134_527 (by decide) (by decide) (fun h527 => ?_) (fun h527 => ?_)
                        · exact absurd rfl h527
                        · refine w_ld d_134_530 rfl rfl rfl ?_
                          refine w_ld d_134_531 rfl rfl rfl ?_
                          refine w_cV0 (a := 46) (as := [_]) (rest := _) rfl d_134_532 (by rfl) (by rfl) (by first | rfl | assumption) (by rfl) (by rfl) (Nat.le_of_ble_eq_true rfl) (by omega) (by omega) (by have e := m_fail (sc := sc) (fr := fr - 1) (lo := lo - (19 + 2)) (μ := (stA ν 50 (256 + n) (0))) (ρ := ρ) (by rw [show ((stA ν 50 (256 + n) (0))).1 46 16 = -1 from n16]; decide) (k := q); rw [show ((stA ν 50 (256 + n) (0))).1 46 16 = -1 from n16, if_pos (by decide)] at e; exact e) ?_
                          have f49 : (stA ν 50 (256 + n) (0)).2.2 49 (256 + n) = 1 := (by rw [stA_o2 (by decide)]; exact r49)
                          have f50 : (stA ν 50 (256 + n) (0)).2.2 50 (256 + n) = 0 := (stA_at _ _ _ _)
                          have f51 : (stA ν 50 (256 + n) (0)).2.2 51 (256 + n) = 0 := (by rw [stA_o2 (by decide)]; exact r51)
                          have f52 : (stA ν 50 (256 + n) (0)).2.2 52 (256 + n) = 0 := (by rw [stA_o2 (by decide)]; exact r52)
                          have f53 : (stA ν 50 (256 + n) (0)).2.2 53 (256 + n) = 0 := (by rw [stA_o2 (by decide)]; exact r53)
                          have f55 : (stA ν 50 (256 + n) (0)).2.2 55 (256 + n) = q := (by rw [stA_o2 (by decide)]; exact r55)
                          have f56 : (stA ν 50 (256 + n) (0)).2.2 56 (256 + n) = -1 := (by rw [stA_o2 (by decide)]; exact r56)
                          have fk : mk1 μ (stA ν 50 (256 + n) (0)) n := (mk1_A hk1 (by decide) rfl)
                          refine w_ld d_134_535 rfl rfl rfl ?_
                          refine w_ld d_134_536 rfl rfl rfl ?_
                          refine w_cVm (a := 46) (as := [_]) (rest := _) rfl d_134_538 (by rfl) (by rfl) rfl (by rfl) (by rfl) (Nat.le_of_ble_eq_true rfl) (by omega) (by omega) (m_finish (mk1_I fk (q := 16) (x := q) (by decide)) (MI_16 hM q) ⟨hn.1, by omega⟩ f56 f53 (show 0 ≤ (stA ν 50 (256 + n) (0)).2.2 49 (256 + n) ∧ (stA ν 50 (256 + n) (0)).2.2 49 (256 + n) ≤ 12 by rw [f49]; decide) (show _ ≤ (stA ν 50 (256 + n) (0)).2.2 50 (256 + n) ∧ (stA ν 50 (256 + n) (0)).2.2 50 (256 + n) < _ by rw [f50]; decide) (show (0 ≤ (stA ν 50 (256 + n) (0)).2.2 52 (256 + n) ∧ (stA ν 50 (256 + n) (0)).2.2 52 (256 + n) ≤ 240) ∧ ((stA ν 50 (256 + n) (0)).2.2 52 (256 + n) = 0 ∨ 0 ≤ (stA ν 50 (256 + n) (0)).2.2 51 (256 + n) ∧ (stA ν 50 (256 + n) (0)).2.2 51 (256 + n) + (stA ν 50 (256 + n) (0)).2.2 52 (256 + n) ≤ 720) by rw [f51, f52]; omega) (by omega) (by omega)) (fun μ' hm => ?_)
                          refine w_ret d_134_541 rfl ?_
                          have hmn : (mn (fun i => μ.2.2 57 (μ.1 46 24 + i)) (μ.1 46 25)) = none := by
                            unfold mn
                            rw [if_neg (by omega), if_neg (by omega), if_neg (by omega), if_neg (by omega), if_pos (by omega), if_neg (by omega)]
                          exact ⟨μ', rfl, mmP_none hmn (fin_bad (m := 0) hn.2.1 hpl hm.1 hm.2.1), rfl⟩
                      · exact absurd h306 h273
                    · refine w_con d_134_286 ?_
                      refine w_goto (g := 291) d_134_287 (by decide) ?_
                      refine w_st1 (L' := [_, _, _, _, _, _, _, _, _]) d_134_291 rfl (by decide) rfl (by decide) rfl ?_
                      refine w_ld d_134_293 rfl rfl rfl ?_
                      refine w_getF d_134_294 (by rfl) (by first | rfl | assumption) (by rfl) (by rfl) ?_
                      refine w_ld d_134_297 rfl rfl rfl ?_
                      refine w_ld d_134_299 rfl rfl rfl ?_
                      refine w_con d_134_300 ?_
                      refine w_cV1 (a := 46) (as := [_]) (rest := _) rfl d_134_301 (by rfl) (by rfl) (by first | rfl | assumption) (by rfl) (by rfl) (Nat.le_of_ble_eq_true rfl) (by omega) (by omega) (rlν 2 (by decide)) ?_
                      refine w_bip d_134_304 (by decide) ?_
                      refine w_icmp_ne (g := 313) d_134_306 (by decide) (by omega) (fun h306 => ?_) (fun h306 => ?_)
                      · refine w_lcon0 d_134_313 ?_
                        refine w_last d_134_314 (by first | rfl | assumption) (by omega) ?_
                        refine w_goto (g := 525) d_134_315 (by decide) ?_
                        refine w_ld d_134_525 rfl rfl rfl ?_
                        refine w_if_ne (g := 535) d_134_527 (by decide) (by decide) (fun h527 => ?_) (fun h527 => ?_)
                        · have f49 : (stA ν 50 (256 + n) (0)).2.2 49 (256 + n) = 1 := (by rw [stA_o2 (by decide)]; exact r49)
                          have f50 : (stA ν 50 (256 + n) (0)).2.2 50 (256 + n) = 0 := (stA_at _ _ _ _)
                          have f51 : (stA ν 50 (256 + n) (0)).2.2 51 (256 + n) = 0 := (by rw [stA_o2 (by decide)]; exact r51)
                          have f52 : (stA ν 50 (256 + n) (0)).2.2 52 (256 + n) = 0 := (by rw [stA_o2 (by decide)]; exact r52)
                          have f53 : (stA ν 50 (256 + n) (0)).2.2 53 (256 + n) = 0 := (by rw [stA_o2 (by decide)]; exact r53)
                          have f55 : (stA ν 50 (256 + n) (0)).2.2 55 (256 + n) = q := (by rw [stA_o2 (by decide)]; exact r55)
                          have f56 : (stA ν 50 (256 + n) (0)).2.2 56 (256 + n) = -1 := (by rw [stA_o2 (by decide)]; exact r56)
                          have fk : mk1 μ (stA ν 50 (256 + n) (0)) n := (mk1_A hk1 (by decide) rfl)
                          refine w_ld d_134_535 rfl rfl rfl ?_
                          refine w_ld d_134_536 rfl rfl rfl ?_
                          refine w_cVm (a := 46) (as := [_]) (rest := _) rfl d_134_538 (by rfl) (by rfl) rfl (by rfl) (by rfl) (Nat.le_of_ble_eq_true rfl) (by omega) (by omega) (m_finish fk hM ⟨hn.1, by omega⟩ f56 f53 (by rw [f49]; decide) (by rw [f50]; decide) (by rw [f51, f52]; omega) (by omega) (by omega)) (fun μ' hm => ?_)
                          refine w_ret d_134_541 rfl ?_
                          have hmn : (mn (fun i => μ.2.2 57 (μ.1 46 24 + i)) (μ.1 46 25)) = some (1, 0, 0, 0) := by
                            unfold mn
                            rw [if_neg (by omega), if_neg (by omega), if_neg (by omega), if_neg (by omega), if_pos (by omega), if_pos (by omega), if_neg (by omega)]
                          exact ⟨μ', rfl, mmP_some hmn (by decide) (fin_ok hm ⟨f49, f50, Or.inl rfl, f52, f53, f55⟩), rfl⟩
                        · exact absurd h527 (by decide)
                      · exact absurd h306 h273
            · exact absurd h242 (by omega)
        · exact absurd h150 (by omega)
      · exact absurd h88 (by omega)
  · exact absurd hc h30
theorem m_mean_i {sc : Nat × (Nat → Int32)} {fr lo : Nat} {μ : Mem} {ρ : Nat × Nat × Nat} (hM : MI μ) {n : Int} (hn : μ.1 46 17 = n ∧ 0 ≤ n ∧ n ≤ 125) (hr : 480 ≤ μ.1 46 24 ∧ 0 ≤ μ.1 46 25 ∧ μ.1 46 24 + μ.1 46 25 ≤ 718 ∧ μ.1 46 25 ≤ 238) (hw : ∀ i, 0 ≤ i → i < μ.1 46 25 → 32 ≤ μ.2.2 57 (μ.1 46 24 + i) ∧ μ.2.2 57 (μ.1 46 24 + i) ≤ 126) (h16 : μ.1 46 16 = -1) (hpl : 0 ≤ μ.1 46 15 ∧ μ.1 46 15 ≤ 900) {q : Int} (hq : 0 ≤ q ∧ q ≤ 900) (hf : 12 ≤ fr) (hl : 500 ≤ lo) {al : Int} (hal : al = 1 ∧ μ.1 46 25 = 2 ∨ al = 0 ∧ μ.1 46 25 ≠ 2) (hc : (wl0 (fun i => μ.2.2 57 (μ.1 46 24 + i)) (μ.1 46 25) 0) = 126) (hd : (wl0 (fun i => μ.2.2 57 (μ.1 46 24 + i)) (μ.1 46 25) 1) = 105) : w_P sc fr lo 134 7 9 false (none) prog_9_method_30_code 27 [some (.ref 46), some (.int (ji q)), some (.int (ji (wl0 (fun i => μ.2.2 57 (μ.1 46 24 + i)) (μ.1 46 25) 0))), some (.int (ji (wl0 (fun i => μ.2.2 57 (μ.1 46 24 + i)) (μ.1 46 25) 1))), some (.int (ji al)), none, none, none, none] [] (hp μ, ρ) (fun o t' => ∃ μ' : Mem, o = .inl none ∧ mmP μ μ' (fun i => μ.2.2 57 (μ.1 46 24 + i)) (μ.1 46 25) (μ.1 46 24) q n ∧ t' = (hp μ', ρ)) := by
  have l0 := wl_wl0 (w := (fun i => μ.2.2 57 (μ.1 46 24 + i))) (s := (μ.1 46 25)) hw (k := 0) (by decide)
  have l1 := wl_wl0 (w := (fun i => μ.2.2 57 (μ.1 46 24 + i))) (s := (μ.1 46 25)) hw (k := 1) (by decide)
  have l2 := wl_wl0 (w := (fun i => μ.2.2 57 (μ.1 46 24 + i))) (s := (μ.1 46 25)) hw (k := 2) (by decide)
  have rl : ∀ (ν : Mem) (k : Int), (∀ p, p = 24 ∨ p = 25 → ν.1 46 p = μ.1 46 p) → ν.2.2 57 = μ.2.2 57 → 0 ≤ k ∧ k < 100 → w_E sc (fr - 1) (lo - (19 + 2)) 127 [.ref 46, .int (ji k)] (hp ν, ρ) (.inl (some (.int (ji (wl0 (fun i => μ.2.2 57 (μ.1 46 24 + i)) (μ.1 46 25) k))))) (hp ν, ρ) := fun ν k h1 h2 hk => by
    have e := m_rawLetter (sc := sc) (fr := fr - 1) (lo := lo - (19 + 2)) (μ := ν) (ρ := ρ) (by rw [h1 24 (by omega), h1 25 (by omega)]; omega) (k := k) (by omega)
    rw [h1 24 (by omega), h1 25 (by omega), h2] at e
    exact e
  have rl0 : ∀ k : Int, 0 ≤ k ∧ k < 100 → w_E sc (fr - 1) (lo - (19 + 2)) 127 [.ref 46, .int (ji k)] (hp μ, ρ) (.inl (some (.int (ji (wl0 (fun i => μ.2.2 57 (μ.1 46 24 + i)) (μ.1 46 25) k))))) (hp μ, ρ) := fun k hk => rl μ k (fun _ _ => rfl) rfl hk
  obtain ⟨ν, hk1, ⟨r49, r50, r51, r52, r53, r54, r55, r56⟩, hmk⟩ := m_mk sc (fr - 1) (lo - (19 + 4)) ρ (μ := μ) ⟨hn.1, hn.2.1, by omega⟩ 2 q
  have n24 : ν.1 46 24 = μ.1 46 24 := hk1.1 46 24 (by decide)
  have n25 : ν.1 46 25 = μ.1 46 25 := hk1.1 46 25 (by decide)
  have n16 : ν.1 46 16 = -1 := (hk1.1 46 16 (by decide)).trans h16
  have n57 : ν.2.2 57 = μ.2.2 57 := by funext i; exact hk1.2.2.2 57 i (by omega)
  have rlν : ∀ k : Int, 0 ≤ k ∧ k < 100 → w_E sc (fr - 1) (lo - (19 + 2)) 127 [.ref 46, .int (ji k)] (hp ν, ρ) (.inl (some (.int (ji (wl0 (fun i => μ.2.2 57 (μ.1 46 24 + i)) (μ.1 46 25) k))))) (hp ν, ρ) := fun k hk => rl ν k (fun p hp => by rcases hp with rfl | rfl <;> first | exact n24 | exact n25) n57 hk
  refine w_ld d_134_27 rfl rfl rfl ?_
  refine w_bip d_134_28 (by decide) ?_
  refine w_icmp_eq (g := 79) d_134_30 (by decide) (by omega) (fun h30 => ?_) (fun h30 => ?_)
  · refine w_ld d_134_79 rfl rfl rfl ?_
    refine w_bip d_134_80 (by decide) ?_
    refine w_icmp_eq (g := 139) d_134_82 (by decide) (by omega) (fun h82 => ?_) (fun h82 => ?_)
    · exact absurd h82 (by omega)
    · refine w_ld d_134_85 rfl rfl rfl ?_
      refine w_bip d_134_86 (by decide) ?_
      refine w_icmp_eq (g := 139) d_134_88 (by decide) (by omega) (fun h88 => ?_) (fun h88 => ?_)
      · exact absurd h88 (by omega)
      · refine w_ld d_134_91 rfl rfl rfl ?_
        refine w_bip d_134_92 (by decide) ?_
        refine w_icmp_eq (g := 139) d_134_94 (by decide) (by omega) (fun h94 => ?_) (fun h94 => ?_)
        · refine w_con d_134_139 ?_
          refine w_goto (g := 144) d_134_140 (by decide) ?_
          refine w_st1 (L' := [_, _, _, _, _, _, _, _, _]) d_134_144 rfl (by decide) rfl (by decide) rfl ?_
          refine w_ld d_134_146 rfl rfl rfl ?_
          refine w_ld d_134_147 rfl rfl rfl ?_
          refine w_bip d_134_148 (by decide) ?_
          refine w_icmp_ne (g := 157) d_134_150 (by decide) (by omega) (fun h150 => ?_) (fun h150 => ?_)
          · refine w_ld d_134_157 rfl rfl rfl ?_
            refine w_bip d_134_158 (by decide) ?_
            refine w_icmp_ne (g := 167) d_134_160 (by decide) (by omega) (fun h160 => ?_) (fun h160 => ?_)
            · refine w_ld d_134_167 rfl rfl rfl ?_
              refine w_bip d_134_168 (by decide) ?_
              refine w_icmp_ne (g := 177) d_134_170 (by decide) (by omega) (fun h170 => ?_) (fun h170 => ?_)
              · exact absurd h170 (by omega)
              · refine w_con d_134_173 ?_
                refine w_goto (g := 230) d_134_174 (by decide) ?_
                refine w_ld d_134_230 rfl rfl rfl ?_
                refine w_cV1 (a := 46) (as := [_, _]) (rest := _) rfl d_134_231 (by rfl) (by rfl) (by first | rfl | assumption) (by rfl) (by rfl) (Nat.le_of_ble_eq_true rfl) (by omega) (by omega) hmk ?_
                refine w_st1 (L' := [_, _, _, _, _, _, _, _, _]) d_134_234 rfl (by decide) rfl (by decide) rfl ?_
                refine w_con d_134_236 ?_
                refine w_st1 (L' := [_, _, _, _, _, _, _, _, _]) d_134_237 rfl (by decide) rfl (by decide) rfl ?_
                refine w_ld d_134_239 rfl rfl rfl ?_
                refine w_bip d_134_240 (by decide) ?_
                refine w_icmp_ne (g := 252) d_134_242 (by decide) (by omega) (fun h242 => ?_) (fun h242 => ?_)
                · refine w_ld d_134_252 rfl rfl rfl ?_
                  refine w_bip d_134_253 (by decide) ?_
                  refine w_icmp_ne (g := 318) d_134_255 (by decide) (by omega) (fun h255 => ?_) (fun h255 => ?_)
                  · refine w_ld d_134_318 rfl rfl rfl ?_
                    refine w_bip d_134_319 (by decide) ?_
                    refine w_icmp_eq (g := 330) d_134_321 (by decide) (by omega) (fun h321 => ?_) (fun h321 => ?_)
                    · refine w_ld d_134_330 rfl rfl rfl ?_
                      refine w_ld d_134_331 rfl rfl rfl ?_
                      have hs2 : 2 ≤ μ.1 46 25 := by omega
                      have e := m_isNumber (sc := sc) (fr := fr - 1) (lo := lo - (19 + 8)) (μ := ν) (ρ := ρ) (v := (256 + n)) (by rw [n24, n25]; omega) (by rw [n24, n25, n57]; exact hw) (by omega) (by rw [n25]; omega) r50 (by omega) (by omega)
                      rw [n24, n25, n57] at e
                      obtain ⟨o1, t1, hot, hN⟩ := e
                      rcases hot with ⟨x, hx, rfl, rfl⟩ | ⟨hx, rfl, rfl⟩
                      · have hxr : -9223372036854775808 ≤ x ∧ x < 9223372036854775808 := by
                          unfold nmb at hx
                          split at hx
                          · rename_i hz
                            cases hx
                            exact scn_in hz.2.1
                          · cases hx
                        refine w_cV1 (a := 46) (as := [_]) (rest := _) rfl d_134_333 (by rfl) (by rfl) rfl (by rfl) (by rfl) (Nat.le_of_ble_eq_true rfl) (by omega) (by omega) ⟨_, _, ⟨rfl, rfl⟩, hN⟩ ?_
                        refine w_st1 (L' := [_, _, _, _, _, _, _, _, _]) d_134_336 rfl (by decide) rfl (by decide) rfl ?_
                        refine w_goto (g := 525) d_134_338 (by decide) ?_
                        refine w_ld d_134_525 rfl rfl rfl ?_
                        refine w_if_ne (g := 535) d_134_527 (by decide) (by decide) (fun h527 => ?_) (fun h527 => ?_)
                        · have f49 : (stA ν 50 (256 + n) (x)).2.2 49 (256 + n) = 2 := (by rw [stA_o2 (by decide)]; exact r49)
                          have f50 : (stA ν 50 (256 + n) (x)).2.2 50 (256 + n) = x := (stA_at _ _ _ _)
                          have f51 : (stA ν 50 (256 + n) (x)).2.2 51 (256 + n) = 0 := (by rw [stA_o2 (by decide)]; exact r51)
                          have f52 : (stA ν 50 (256 + n) (x)).2.2 52 (256 + n) = 0 := (by rw [stA_o2 (by decide)]; exact r52)
                          have f53 : (stA ν 50 (256 + n) (x)).2.2 53 (256 + n) = 0 := (by rw [stA_o2 (by decide)]; exact r53)
                          have f55 : (stA ν 50 (256 + n) (x)).2.2 55 (256 + n) = q := (by rw [stA_o2 (by decide)]; exact r55)
                          have f56 : (stA ν 50 (256 + n) (x)).2.2 56 (256 + n) = -1 := (by rw [stA_o2 (by decide)]; exact r56)
                          have fk : mk1 μ (stA ν 50 (256 + n) (x)) n := (mk1_A hk1 (by decide) rfl)
                          refine w_ld d_134_535 rfl rfl rfl ?_
                          refine w_ld d_134_536 rfl rfl rfl ?_
                          refine w_cVm (a := 46) (as := [_]) (rest := _) rfl d_134_538 (by rfl) (by rfl) rfl (by rfl) (by rfl) (Nat.le_of_ble_eq_true rfl) (by omega) (by omega) (m_finish fk hM ⟨hn.1, by omega⟩ f56 f53 (by rw [f49]; decide) (by rw [f50]; exact hxr) (by rw [f51, f52]; omega) (by omega) (by omega)) (fun μ' hm => ?_)
                          refine w_ret d_134_541 rfl ?_
                          have hmn : (mn (fun i => μ.2.2 57 (μ.1 46 24 + i)) (μ.1 46 25)) = some (2, x, 0, 0) := by
                            unfold mn
                            rw [if_neg (by omega), if_neg (by omega), if_neg (by omega), if_neg (by omega), if_neg (by omega), if_pos (by omega), hx]
                            rfl
                          exact ⟨μ', rfl, mmP_some hmn (by decide) (fin_ok hm ⟨f49, f50, Or.inl rfl, f52, f53, f55⟩), rfl⟩
                        · exact absurd h527 (by decide)
                      · refine w_cV1 (a := 46) (as := [_]) (rest := _) rfl d_134_333 (by rfl) (by rfl) rfl (by rfl) (by rfl) (Nat.le_of_ble_eq_true rfl) (by omega) (by omega) ⟨_, _, ⟨rfl, rfl⟩, hN⟩ ?_
                        refine w_st1 (L' := [_, _, _, _, _, _, _, _, _]) d_134_336 rfl (by decide) rfl (by decide) rfl ?_
                        refine w_goto (g := 525) d_134_338 (by decide) ?_
                        refine w_ld d_134_525 rfl rfl rfl ?_
                        refine w_if_ne (g := 535) d_134_527 (by decide) (by decide) (fun h527 => ?_) (fun h527 => ?_)
                        · exact absurd rfl h527
                        · refine w_ld d_134_530 rfl rfl rfl ?_
                          refine w_ld d_134_531 rfl rfl rfl ?_
                          refine w_cV0 (a := 46) (as := [_]) (rest := _) rfl d_134_532 (by rfl) (by rfl) (by first | rfl | assumption) (by rfl) (by rfl) (Nat.le_of_ble_eq_true rfl) (by omega) (by omega) (by have e := m_fail (sc := sc) (fr := fr - 1) (lo := lo - (19 + 2)) (μ := ν) (ρ := ρ) (by rw [show (ν).1 46 16 = -1 from n16]; decide) (k := q); rw [show (ν).1 46 16 = -1 from n16, if_pos (by decide)] at e; exact e) ?_
                          have f49 : ν.2.2 49 (256 + n) = 2 := r49
                          have f50 : ν.2.2 50 (256 + n) = 0 := r50
                          have f51 : ν.2.2 51 (256 + n) = 0 := r51
                          have f52 : ν.2.2 52 (256 + n) = 0 := r52
                          have f53 : ν.2.2 53 (256 + n) = 0 := r53
                          have f55 : ν.2.2 55 (256 + n) = q := r55
                          have f56 : ν.2.2 56 (256 + n) = -1 := r56
                          have fk : mk1 μ ν n := hk1
                          refine w_ld d_134_535 rfl rfl rfl ?_
                          refine w_ld d_134_536 rfl rfl rfl ?_
                          refine w_cVm (a := 46) (as := [_]) (rest := _) rfl d_134_538 (by rfl) (by rfl) rfl (by rfl) (by rfl) (Nat.le_of_ble_eq_true rfl) (by omega) (by omega) (m_finish (mk1_I fk (q := 16) (x := q) (by decide)) (MI_16 hM q) ⟨hn.1, by omega⟩ f56 f53 (show 0 ≤ ν.2.2 49 (256 + n) ∧ ν.2.2 49 (256 + n) ≤ 12 by rw [f49]; decide) (show _ ≤ ν.2.2 50 (256 + n) ∧ ν.2.2 50 (256 + n) < _ by rw [f50]; decide) (show (0 ≤ ν.2.2 52 (256 + n) ∧ ν.2.2 52 (256 + n) ≤ 240) ∧ (ν.2.2 52 (256 + n) = 0 ∨ 0 ≤ ν.2.2 51 (256 + n) ∧ ν.2.2 51 (256 + n) + ν.2.2 52 (256 + n) ≤ 720) by rw [f51, f52]; omega) (by omega) (by omega)) (fun μ' hm => ?_)
                          refine w_ret d_134_541 rfl ?_
                          have hmn : (mn (fun i => μ.2.2 57 (μ.1 46 24 + i)) (μ.1 46 25)) = none := by
                            unfold mn
                            rw [if_neg (by omega), if_neg (by omega), if_neg (by omega), if_neg (by omega), if_neg (by omega), if_pos (by omega), hx]
                            rfl
                          exact ⟨μ', rfl, mmP_none hmn (fin_bad (m := 0) hn.2.1 hpl hm.1 hm.2.1), rfl⟩
                    · exact absurd h321 (by omega)
                  · exact absurd h255 (by omega)
                · exact absurd h242 (by omega)
            · exact absurd h160 (by omega)
          · exact absurd h150 (by omega)
        · exact absurd h94 (by omega)
  · exact absurd hc h30
theorem m_mean_m {sc : Nat × (Nat → Int32)} {fr lo : Nat} {μ : Mem} {ρ : Nat × Nat × Nat} (hM : MI μ) {n : Int} (hn : μ.1 46 17 = n ∧ 0 ≤ n ∧ n ≤ 125) (hr : 480 ≤ μ.1 46 24 ∧ 0 ≤ μ.1 46 25 ∧ μ.1 46 24 + μ.1 46 25 ≤ 718 ∧ μ.1 46 25 ≤ 238) (hw : ∀ i, 0 ≤ i → i < μ.1 46 25 → 32 ≤ μ.2.2 57 (μ.1 46 24 + i) ∧ μ.2.2 57 (μ.1 46 24 + i) ≤ 126) (h16 : μ.1 46 16 = -1) (hpl : 0 ≤ μ.1 46 15 ∧ μ.1 46 15 ≤ 900) {q : Int} (hq : 0 ≤ q ∧ q ≤ 900) (hf : 12 ≤ fr) (hl : 500 ≤ lo) {al : Int} (hal : al = 1 ∧ μ.1 46 25 = 2 ∨ al = 0 ∧ μ.1 46 25 ≠ 2) (hc : (wl0 (fun i => μ.2.2 57 (μ.1 46 24 + i)) (μ.1 46 25) 0) = 126) (hd : (wl0 (fun i => μ.2.2 57 (μ.1 46 24 + i)) (μ.1 46 25) 1) = 109) : w_P sc fr lo 134 7 9 false (none) prog_9_method_30_code 27 [some (.ref 46), some (.int (ji q)), some (.int (ji (wl0 (fun i => μ.2.2 57 (μ.1 46 24 + i)) (μ.1 46 25) 0))), some (.int (ji (wl0 (fun i => μ.2.2 57 (μ.1 46 24 + i)) (μ.1 46 25) 1))), some (.int (ji al)), none, none, none, none] [] (hp μ, ρ) (fun o t' => ∃ μ' : Mem, o = .inl none ∧ mmP μ μ' (fun i => μ.2.2 57 (μ.1 46 24 + i)) (μ.1 46 25) (μ.1 46 24) q n ∧ t' = (hp μ', ρ)) := by
  have l0 := wl_wl0 (w := (fun i => μ.2.2 57 (μ.1 46 24 + i))) (s := (μ.1 46 25)) hw (k := 0) (by decide)
  have l1 := wl_wl0 (w := (fun i => μ.2.2 57 (μ.1 46 24 + i))) (s := (μ.1 46 25)) hw (k := 1) (by decide)
  have l2 := wl_wl0 (w := (fun i => μ.2.2 57 (μ.1 46 24 + i))) (s := (μ.1 46 25)) hw (k := 2) (by decide)
  have rl : ∀ (ν : Mem) (k : Int), (∀ p, p = 24 ∨ p = 25 → ν.1 46 p = μ.1 46 p) → ν.2.2 57 = μ.2.2 57 → 0 ≤ k ∧ k < 100 → w_E sc (fr - 1) (lo - (19 + 2)) 127 [.ref 46, .int (ji k)] (hp ν, ρ) (.inl (some (.int (ji (wl0 (fun i => μ.2.2 57 (μ.1 46 24 + i)) (μ.1 46 25) k))))) (hp ν, ρ) := fun ν k h1 h2 hk => by
    have e := m_rawLetter (sc := sc) (fr := fr - 1) (lo := lo - (19 + 2)) (μ := ν) (ρ := ρ) (by rw [h1 24 (by omega), h1 25 (by omega)]; omega) (k := k) (by omega)
    rw [h1 24 (by omega), h1 25 (by omega), h2] at e
    exact e
  have rl0 : ∀ k : Int, 0 ≤ k ∧ k < 100 → w_E sc (fr - 1) (lo - (19 + 2)) 127 [.ref 46, .int (ji k)] (hp μ, ρ) (.inl (some (.int (ji (wl0 (fun i => μ.2.2 57 (μ.1 46 24 + i)) (μ.1 46 25) k))))) (hp μ, ρ) := fun k hk => rl μ k (fun _ _ => rfl) rfl hk
  obtain ⟨ν, hk1, ⟨r49, r50, r51, r52, r53, r54, r55, r56⟩, hmk⟩ := m_mk sc (fr - 1) (lo - (19 + 4)) ρ (μ := μ) ⟨hn.1, hn.2.1, by omega⟩ 3 q
  have n24 : ν.1 46 24 = μ.1 46 24 := hk1.1 46 24 (by decide)
  have n25 : ν.1 46 25 = μ.1 46 25 := hk1.1 46 25 (by decide)
  have n16 : ν.1 46 16 = -1 := (hk1.1 46 16 (by decide)).trans h16
  have n57 : ν.2.2 57 = μ.2.2 57 := by funext i; exact hk1.2.2.2 57 i (by omega)
  have rlν : ∀ k : Int, 0 ≤ k ∧ k < 100 → w_E sc (fr - 1) (lo - (19 + 2)) 127 [.ref 46, .int (ji k)] (hp ν, ρ) (.inl (some (.int (ji (wl0 (fun i => μ.2.2 57 (μ.1 46 24 + i)) (μ.1 46 25) k))))) (hp ν, ρ) := fun k hk => rl ν k (fun p hp => by rcases hp with rfl | rfl <;> first | exact n24 | exact n25) n57 hk
  refine w_ld d_134_27 rfl rfl rfl ?_
  refine w_bip d_134_28 (by decide) ?_
  refine w_icmp_eq (g := 79) d_134_30 (by decide) (by omega) (fun h30 => ?_) (fun h30 => ?_)
  · refine w_ld d_134_79 rfl rfl rfl ?_
    refine w_bip d_134_80 (by decide) ?_
    refine w_icmp_eq (g := 139) d_134_82 (by decide) (by omega) (fun h82 => ?_) (fun h82 => ?_)
    · exact absurd h82 (by omega)
    · refine w_ld d_134_85 rfl rfl rfl ?_
      refine w_bip d_134_86 (by decide) ?_
      refine w_icmp_eq (g := 139) d_134_88 (by decide) (by omega) (fun h88 => ?_) (fun h88 => ?_)
      · exact absurd h88 (by omega)
      · refine w_ld d_134_91 rfl rfl rfl ?_
        refine w_bip d_134_92 (by decide) ?_
        refine w_icmp_eq (g := 139) d_134_94 (by decide) (by omega) (fun h94 => ?_) (fun h94 => ?_)
        · exact absurd h94 (by omega)
        · refine w_ld d_134_97 rfl rfl rfl ?_
          refine w_bip d_134_98 (by decide) ?_
          refine w_icmp_eq (g := 139) d_134_100 (by decide) (by omega) (fun h100 => ?_) (fun h100 => ?_)
          · refine w_con d_134_139 ?_
            refine w_goto (g := 144) d_134_140 (by decide) ?_
            refine w_st1 (L' := [_, _, _, _, _, _, _, _, _]) d_134_144 rfl (by decide) rfl (by decide) rfl ?_
            refine w_ld d_134_146 rfl rfl rfl ?_
            refine w_ld d_134_147 rfl rfl rfl ?_
            refine w_bip d_134_148 (by decide) ?_
            refine w_icmp_ne (g := 157) d_134_150 (by decide) (by omega) (fun h150 => ?_) (fun h150 => ?_)
            · refine w_ld d_134_157 rfl rfl rfl ?_
              refine w_bip d_134_158 (by decide) ?_
              refine w_icmp_ne (g := 167) d_134_160 (by decide) (by omega) (fun h160 => ?_) (fun h160 => ?_)
              · refine w_ld d_134_167 rfl rfl rfl ?_
                refine w_bip d_134_168 (by decide) ?_
                refine w_icmp_ne (g := 177) d_134_170 (by decide) (by omega) (fun h170 => ?_) (fun h170 => ?_)
                · refine w_ld d_134_177 rfl rfl rfl ?_
                  refine w_bip d_134_178 (by decide) ?_
                  refine w_icmp_ne (g := 187) d_134_180 (by decide) (by omega) (fun h180 => ?_) (fun h180 => ?_)
                  · exact absurd h180 (by omega)
                  · refine w_con d_134_183 ?_
                    refine w_goto (g := 230) d_134_184 (by decide) ?_
                    refine w_ld d_134_230 rfl rfl rfl ?_
                    refine w_cV1 (a := 46) (as := [_, _]) (rest := _) rfl d_134_231 (by rfl) (by rfl) (by first | rfl | assumption) (by rfl) (by rfl) (Nat.le_of_ble_eq_true rfl) (by omega) (by omega) hmk ?_
                    refine w_st1 (L' := [_, _, _, _, _, _, _, _, _]) d_134_234 rfl (by decide) rfl (by decide) rfl ?_
                    refine w_con d_134_236 ?_
                    refine w_st1 (L' := [_, _, _, _, _, _, _, _, _]) d_134_237 rfl (by decide) rfl (by decide) rfl ?_
                    refine w_ld d_134_239 rfl rfl rfl ?_
                    refine w_bip d_134_240 (by decide) ?_
                    refine w_icmp_ne (g := 252) d_134_242 (by decide) (by omega) (fun h242 => ?_) (fun h242 => ?_)
                    · refine w_ld d_134_252 rfl rfl rfl ?_
                      refine w_bip d_134_253 (by decide) ?_
                      refine w_icmp_ne (g := 318) d_134_255 (by decide) (by omega) (fun h255 => ?_) (fun h255 => ?_)
                      · refine w_ld d_134_318 rfl rfl rfl ?_
                        refine w_bip d_134_319 (by decide) ?_
                        refine w_icmp_eq (g := 330) d_134_321 (by decide) (by omega) (fun h321 => ?_) (fun h321 => ?_)
                        · exact absurd h321 (by omega)
                        · refine w_ld d_134_324 rfl rfl rfl ?_
                          refine w_bip d_134_325 (by decide) ?_
                          refine w_icmp_ne (g := 341) d_134_327 (by decide) (by omega) (fun h327 => ?_) (fun h327 => ?_)
                          · exact absurd h327 (by omega)
                          · refine w_ld d_134_330 rfl rfl rfl ?_
                            refine w_ld d_134_331 rfl rfl rfl ?_
                            have hs2 : 2 ≤ μ.1 46 25 := by omega
                            have e := m_isNumber (sc := sc) (fr := fr - 1) (lo := lo - (19 + 8)) (μ := ν) (ρ := ρ) (v := (256 + n)) (by rw [n24, n25]; omega) (by rw [n24, n25, n57]; exact hw) (by omega) (by rw [n25]; omega) r50 (by omega) (by omega)
                            rw [n24, n25, n57] at e
                            obtain ⟨o1, t1, hot, hN⟩ := e
                            rcases hot with ⟨x, hx, rfl, rfl⟩ | ⟨hx, rfl, rfl⟩
                            · have hxr : -9223372036854775808 ≤ x ∧ x < 9223372036854775808 := by
                                unfold nmb at hx
                                split at hx
                                · rename_i hz
                                  cases hx
                                  exact scn_in hz.2.1
                                · cases hx
                              refine w_cV1 (a := 46) (as := [_]) (rest := _) rfl d_134_333 (by rfl) (by rfl) rfl (by rfl) (by rfl) (Nat.le_of_ble_eq_true rfl) (by omega) (by omega) ⟨_, _, ⟨rfl, rfl⟩, hN⟩ ?_
                              refine w_st1 (L' := [_, _, _, _, _, _, _, _, _]) d_134_336 rfl (by decide) rfl (by decide) rfl ?_
                              refine w_goto (g := 525) d_134_338 (by decide) ?_
                              refine w_ld d_134_525 rfl rfl rfl ?_
                              refine w_if_ne (g := 535) d_134_527 (by decide) (by decide) (fun h527 => ?_) (fun h527 => ?_)
                              · have f49 : (stA ν 50 (256 + n) (x)).2.2 49 (256 + n) = 3 := (by rw [stA_o2 (by decide)]; exact r49)
                                have f50 : (stA ν 50 (256 + n) (x)).2.2 50 (256 + n) = x := (stA_at _ _ _ _)
                                have f51 : (stA ν 50 (256 + n) (x)).2.2 51 (256 + n) = 0 := (by rw [stA_o2 (by decide)]; exact r51)
                                have f52 : (stA ν 50 (256 + n) (x)).2.2 52 (256 + n) = 0 := (by rw [stA_o2 (by decide)]; exact r52)
                                have f53 : (stA ν 50 (256 + n) (x)).2.2 53 (256 + n) = 0 := (by rw [stA_o2 (by decide)]; exact r53)
                                have f55 : (stA ν 50 (256 + n) (x)).2.2 55 (256 + n) = q := (by rw [stA_o2 (by decide)]; exact r55)
                                have f56 : (stA ν 50 (256 + n) (x)).2.2 56 (256 + n) = -1 := (by rw [stA_o2 (by decide)]; exact r56)
                                have fk : mk1 μ (stA ν 50 (256 + n) (x)) n := (mk1_A hk1 (by decide) rfl)
                                refine w_ld d_134_535 rfl rfl rfl ?_
                                refine w_ld d_134_536 rfl rfl rfl ?_
                                refine w_cVm (a := 46) (as := [_]) (rest := _) rfl d_134_538 (by rfl) (by rfl) rfl (by rfl) (by rfl) (Nat.le_of_ble_eq_true rfl) (by omega) (by omega) (m_finish fk hM ⟨hn.1, by omega⟩ f56 f53 (by rw [f49]; decide) (by rw [f50]; exact hxr) (by rw [f51, f52]; omega) (by omega) (by omega)) (fun μ' hm => ?_)
                                refine w_ret d_134_541 rfl ?_
                                have hmn : (mn (fun i => μ.2.2 57 (μ.1 46 24 + i)) (μ.1 46 25)) = some (3, x, 0, 0) := by
                                  unfold mn
                                  rw [if_neg (by omega), if_neg (by omega), if_neg (by omega), if_neg (by omega), if_neg (by omega), if_neg (by omega), if_pos (by omega), hx]
                                  rfl
                                exact ⟨μ', rfl, mmP_some hmn (by decide) (fin_ok hm ⟨f49, f50, Or.inl rfl, f52, f53, f55⟩), rfl⟩
                              · exact absurd h527 (by decide)
                            · refine w_cV1 (a := 46) (as := [_]) (rest := _) rfl d_134_333 (by rfl) (by rfl) rfl (by rfl) (by rfl) (Nat.le_of_ble_eq_true rfl) (by omega) (by omega) ⟨_, _, ⟨rfl, rfl⟩, hN⟩ ?_
                              refine w_st1 (L' := [_, _, _, _, _, _, _, _, _]) d_134_336 rfl (by decide) rfl (by decide) rfl ?_
                              refine w_goto (g := 525) d_134_338 (by decide) ?_
                              refine w_ld d_134_525 rfl rfl rfl ?_
                              refine w_if_ne (g := 535) d_134_527 (by decide) (by decide) (fun h527 => ?_) (fun h527 => ?_)
                              · exact absurd rfl h527
                              · refine w_ld d_134_530 rfl rfl rfl ?_
                                refine w_ld d_134_531 rfl rfl rfl ?_
                                refine w_cV0 (a := 46) (as := [_]) (rest := _) rfl d_134_532 (by rfl) (by rfl) (by first | rfl | assumption) (by rfl) (by rfl) (Nat.le_of_ble_eq_true rfl) (by omega) (by omega) (by have e := m_fail (sc := sc) (fr := fr - 1) (lo := lo - (19 + 2)) (μ := ν) (ρ := ρ) (by rw [show (ν).1 46 16 = -1 from n16]; decide) (k := q); rw [show (ν).1 46 16 = -1 from n16, if_pos (by decide)] at e; exact e) ?_
                                have f49 : ν.2.2 49 (256 + n) = 3 := r49
                                have f50 : ν.2.2 50 (256 + n) = 0 := r50
                                have f51 : ν.2.2 51 (256 + n) = 0 := r51
                                have f52 : ν.2.2 52 (256 + n) = 0 := r52
                                have f53 : ν.2.2 53 (256 + n) = 0 := r53
                                have f55 : ν.2.2 55 (256 + n) = q := r55
                                have f56 : ν.2.2 56 (256 + n) = -1 := r56
                                have fk : mk1 μ ν n := hk1
                                refine w_ld d_134_535 rfl rfl rfl ?_
                                refine w_ld d_134_536 rfl rfl rfl ?_
                                refine w_cVm (a := 46) (as := [_]) (rest := _) rfl d_134_538 (by rfl) (by rfl) rfl (by rfl) (by rfl) (Nat.le_of_ble_eq_true rfl) (by omega) (by omega) (m_finish (mk1_I fk (q := 16) (x := q) (by decide)) (MI_16 hM q) ⟨hn.1, by omega⟩ f56 f53 (show 0 ≤ ν.2.2 49 (256 + n) ∧ ν.2.2 49 (256 + n) ≤ 12 by rw [f49]; decide) (show _ ≤ ν.2.2 50 (256 + n) ∧ ν.2.2 50 (256 + n) < _ by rw [f50]; decide) (show (0 ≤ ν.2.2 52 (256 + n) ∧ ν.2.2 52 (256 + n) ≤ 240) ∧ (ν.2.2 52 (256 + n) = 0 ∨ 0 ≤ ν.2.2 51 (256 + n) ∧ ν.2.2 51 (256 + n) + ν.2.2 52 (256 + n) ≤ 720) by rw [f51, f52]; omega) (by omega) (by omega)) (fun μ' hm => ?_)
                                refine w_ret d_134_541 rfl ?_
                                have hmn : (mn (fun i => μ.2.2 57 (μ.1 46 24 + i)) (μ.1 46 25)) = none := by
                                  unfold mn
                                  rw [if_neg (by omega), if_neg (by omega), if_neg (by omega), if_neg (by omega), if_neg (by omega), if_neg (by omega), if_pos (by omega), hx]
                                  rfl
                                exact ⟨μ', rfl, mmP_none hmn (fin_bad (m := 0) hn.2.1 hpl hm.1 hm.2.1), rfl⟩
                      · exact absurd h255 (by omega)
                    · exact absurd h242 (by omega)
                · exact absurd h170 (by omega)
              · exact absurd h160 (by omega)
            · exact absurd h150 (by omega)
          · exact absurd h100 (by omega)
  · exact absurd hc h30
theorem m_mean_k {sc : Nat × (Nat → Int32)} {fr lo : Nat} {μ : Mem} {ρ : Nat × Nat × Nat} (hM : MI μ) {n : Int} (hn : μ.1 46 17 = n ∧ 0 ≤ n ∧ n ≤ 125) (hr : 480 ≤ μ.1 46 24 ∧ 0 ≤ μ.1 46 25 ∧ μ.1 46 24 + μ.1 46 25 ≤ 718 ∧ μ.1 46 25 ≤ 238) (hw : ∀ i, 0 ≤ i → i < μ.1 46 25 → 32 ≤ μ.2.2 57 (μ.1 46 24 + i) ∧ μ.2.2 57 (μ.1 46 24 + i) ≤ 126) (h16 : μ.1 46 16 = -1) (hpl : 0 ≤ μ.1 46 15 ∧ μ.1 46 15 ≤ 900) {q : Int} (hq : 0 ≤ q ∧ q ≤ 900) (hf : 12 ≤ fr) (hl : 500 ≤ lo) {al : Int} (hal : al = 1 ∧ μ.1 46 25 = 2 ∨ al = 0 ∧ μ.1 46 25 ≠ 2) (hc : (wl0 (fun i => μ.2.2 57 (μ.1 46 24 + i)) (μ.1 46 25) 0) = 126) (hd : (wl0 (fun i => μ.2.2 57 (μ.1 46 24 + i)) (μ.1 46 25) 1) = 58) : w_P sc fr lo 134 7 9 false (none) prog_9_method_30_code 27 [some (.ref 46), some (.int (ji q)), some (.int (ji (wl0 (fun i => μ.2.2 57 (μ.1 46 24 + i)) (μ.1 46 25) 0))), some (.int (ji (wl0 (fun i => μ.2.2 57 (μ.1 46 24 + i)) (μ.1 46 25) 1))), some (.int (ji al)), none, none, none, none] [] (hp μ, ρ) (fun o t' => ∃ μ' : Mem, o = .inl none ∧ mmP μ μ' (fun i => μ.2.2 57 (μ.1 46 24 + i)) (μ.1 46 25) (μ.1 46 24) q n ∧ t' = (hp μ', ρ)) := by
  have l0 := wl_wl0 (w := (fun i => μ.2.2 57 (μ.1 46 24 + i))) (s := (μ.1 46 25)) hw (k := 0) (by decide)
  have l1 := wl_wl0 (w := (fun i => μ.2.2 57 (μ.1 46 24 + i))) (s := (μ.1 46 25)) hw (k := 1) (by decide)
  have l2 := wl_wl0 (w := (fun i => μ.2.2 57 (μ.1 46 24 + i))) (s := (μ.1 46 25)) hw (k := 2) (by decide)
  have rl : ∀ (ν : Mem) (k : Int), (∀ p, p = 24 ∨ p = 25 → ν.1 46 p = μ.1 46 p) → ν.2.2 57 = μ.2.2 57 → 0 ≤ k ∧ k < 100 → w_E sc (fr - 1) (lo - (19 + 2)) 127 [.ref 46, .int (ji k)] (hp ν, ρ) (.inl (some (.int (ji (wl0 (fun i => μ.2.2 57 (μ.1 46 24 + i)) (μ.1 46 25) k))))) (hp ν, ρ) := fun ν k h1 h2 hk => by
    have e := m_rawLetter (sc := sc) (fr := fr - 1) (lo := lo - (19 + 2)) (μ := ν) (ρ := ρ) (by rw [h1 24 (by omega), h1 25 (by omega)]; omega) (k := k) (by omega)
    rw [h1 24 (by omega), h1 25 (by omega), h2] at e
    exact e
  have rl0 : ∀ k : Int, 0 ≤ k ∧ k < 100 → w_E sc (fr - 1) (lo - (19 + 2)) 127 [.ref 46, .int (ji k)] (hp μ, ρ) (.inl (some (.int (ji (wl0 (fun i => μ.2.2 57 (μ.1 46 24 + i)) (μ.1 46 25) k))))) (hp μ, ρ) := fun k hk => rl μ k (fun _ _ => rfl) rfl hk
  obtain ⟨ν, hk1, ⟨r49, r50, r51, r52, r53, r54, r55, r56⟩, hmk⟩ := m_mk sc (fr - 1) (lo - (19 + 4)) ρ (μ := μ) ⟨hn.1, hn.2.1, by omega⟩ 5 q
  have n24 : ν.1 46 24 = μ.1 46 24 := hk1.1 46 24 (by decide)
  have n25 : ν.1 46 25 = μ.1 46 25 := hk1.1 46 25 (by decide)
  have n16 : ν.1 46 16 = -1 := (hk1.1 46 16 (by decide)).trans h16
  have n57 : ν.2.2 57 = μ.2.2 57 := by funext i; exact hk1.2.2.2 57 i (by omega)
  have rlν : ∀ k : Int, 0 ≤ k ∧ k < 100 → w_E sc (fr - 1) (lo - (19 + 2)) 127 [.ref 46, .int (ji k)] (hp ν, ρ) (.inl (some (.int (ji (wl0 (fun i => μ.2.2 57 (μ.1 46 24 + i)) (μ.1 46 25) k))))) (hp ν, ρ) := fun k hk => rl ν k (fun p hp => by rcases hp with rfl | rfl <;> first | exact n24 | exact n25) n57 hk
  refine w_ld d_134_27 rfl rfl rfl ?_
  refine w_bip d_134_28 (by decide) ?_
  refine w_icmp_eq (g := 79) d_134_30 (by decide) (by omega) (fun h30 => ?_) (fun h30 => ?_)
  · refine w_ld d_134_79 rfl rfl rfl ?_
    refine w_bip d_134_80 (by decide) ?_
    refine w_icmp_eq (g := 139) d_134_82 (by decide) (by omega) (fun h82 => ?_) (fun h82 => ?_)
    · exact absurd h82 (by omega)
    · refine w_ld d_134_85 rfl rfl rfl ?_
      refine w_bip d_134_86 (by decide) ?_
      refine w_icmp_eq (g := 139) d_134_88 (by decide) (by omega) (fun h88 => ?_) (fun h88 => ?_)
      · exact absurd h88 (by omega)
      · refine w_ld d_134_91 rfl rfl rfl ?_
        refine w_bip d_134_92 (by decide) ?_
        refine w_icmp_eq (g := 139) d_134_94 (by decide) (by omega) (fun h94 => ?_) (fun h94 => ?_)
        · exact absurd h94 (by omega)
        · refine w_ld d_134_97 rfl rfl rfl ?_
          refine w_bip d_134_98 (by decide) ?_
          refine w_icmp_eq (g := 139) d_134_100 (by decide) (by omega) (fun h100 => ?_) (fun h100 => ?_)
          · exact absurd h100 (by omega)
          · refine w_ld d_134_103 rfl rfl rfl ?_
            refine w_bip d_134_104 (by decide) ?_
            refine w_icmp_eq (g := 139) d_134_106 (by decide) (by omega) (fun h106 => ?_) (fun h106 => ?_)
            · refine w_con d_134_139 ?_
              refine w_goto (g := 144) d_134_140 (by decide) ?_
              refine w_st1 (L' := [_, _, _, _, _, _, _, _, _]) d_134_144 rfl (by decide) rfl (by decide) rfl ?_
              refine w_ld d_134_146 rfl rfl rfl ?_
              refine w_ld d_134_147 rfl rfl rfl ?_
              refine w_bip d_134_148 (by decide) ?_
              refine w_icmp_ne (g := 157) d_134_150 (by decide) (by omega) (fun h150 => ?_) (fun h150 => ?_)
              · refine w_ld d_134_157 rfl rfl rfl ?_
                refine w_bip d_134_158 (by decide) ?_
                refine w_icmp_ne (g := 167) d_134_160 (by decide) (by omega) (fun h160 => ?_) (fun h160 => ?_)
                · refine w_ld d_134_167 rfl rfl rfl ?_
                  refine w_bip d_134_168 (by decide) ?_
                  refine w_icmp_ne (g := 177) d_134_170 (by decide) (by omega) (fun h170 => ?_) (fun h170 => ?_)
                  · refine w_ld d_134_177 rfl rfl rfl ?_
                    refine w_bip d_134_178 (by decide) ?_
                    refine w_icmp_ne (g := 187) d_134_180 (by decide) (by omega) (fun h180 => ?_) (fun h180 => ?_)
                    · refine w_ld d_134_187 rfl rfl rfl ?_
                      refine w_bip d_134_188 (by decide) ?_
                      refine w_icmp_ne (g := 197) d_134_190 (by decide) (by omega) (fun h190 => ?_) (fun h190 => ?_)
                      · exact absurd h190 (by omega)
                      · refine w_con d_134_193 ?_
                        refine w_goto (g := 230) d_134_194 (by decide) ?_
                        refine w_ld d_134_230 rfl rfl rfl ?_
                        refine w_cV1 (a := 46) (as := [_, _]) (rest := _) rfl d_134_231 (by rfl) (by rfl) (by first | rfl | assumption) (by rfl) (by rfl) (Nat.le_of_ble_eq_true rfl) (by omega) (by omega) hmk ?_
                        refine w_st1 (L' := [_, _, _, _, _, _, _, _, _]) d_134_234 rfl (by decide) rfl (by decide) rfl ?_
                        refine w_con d_134_236 ?_
                        refine w_st1 (L' := [_, _, _, _, _, _, _, _, _]) d_134_237 rfl (by decide) rfl (by decide) rfl ?_
                        refine w_ld d_134_239 rfl rfl rfl ?_
                        refine w_bip d_134_240 (by decide) ?_
                        refine w_icmp_ne (g := 252) d_134_242 (by decide) (by omega) (fun h242 => ?_) (fun h242 => ?_)
                        · refine w_ld d_134_252 rfl rfl rfl ?_
                          refine w_bip d_134_253 (by decide) ?_
                          refine w_icmp_ne (g := 318) d_134_255 (by decide) (by omega) (fun h255 => ?_) (fun h255 => ?_)
                          · refine w_ld d_134_318 rfl rfl rfl ?_
                            refine w_bip d_134_319 (by decide) ?_
                            refine w_icmp_eq (g := 330) d_134_321 (by decide) (by omega) (fun h321 => ?_) (fun h321 => ?_)
                            · exact absurd h321 (by omega)
                            · refine w_ld d_134_324 rfl rfl rfl ?_
                              refine w_bip d_134_325 (by decide) ?_
                              refine w_icmp_ne (g := 341) d_134_327 (by decide) (by omega) (fun h327 => ?_) (fun h327 => ?_)
                              · refine w_ld d_134_341 rfl rfl rfl ?_
                                refine w_bip d_134_342 (by decide) ?_
                                refine w_icmp_eq (g := 353) d_134_344 (by decide) (by omega) (fun h344 => ?_) (fun h344 => ?_)
                                · refine w_ld d_134_353 rfl rfl rfl ?_
                                  refine w_if_ne (g := 362) d_134_355 (by decide) (by omega) (fun h355 => ?_) (fun h355 => ?_)
                                  · refine w_con d_134_362 ?_
                                    refine w_st1 (L' := [_, _, _, _, _, _, _, _, _]) d_134_363 rfl (by decide) rfl (by decide) rfl ?_
                                    refine w_ld d_134_365 rfl rfl rfl ?_
                                    refine w_ld d_134_366 rfl rfl rfl ?_
                                    refine w_ld d_134_368 rfl rfl rfl ?_
                                    refine w_gI d_134_369 (by rfl) (by first | rfl | assumption) (by rfl) (by first | exact n24 | exact n25 | rfl) ?_
                                    refine w_con d_134_372 ?_
                                    refine w_iadd d_134_373 ?_
                                    refine w_ld d_134_374 rfl rfl rfl ?_
                                    refine w_gI d_134_375 (by rfl) (by first | rfl | assumption) (by rfl) (by first | exact n24 | exact n25 | rfl) ?_
                                    refine w_con d_134_378 ?_
                                    refine w_isub d_134_379 ?_
                                    refine w_cV0 (a := 46) (as := [_, _, _]) (rest := _) rfl d_134_380 (by rfl) (by rfl) (by first | rfl | assumption) (by rfl) (by rfl) (Nat.le_of_ble_eq_true rfl) (by omega) (by omega) (m_setWord (by omega)) ?_
                                    refine w_goto (g := 525) d_134_383 (by decide) ?_
                                    refine w_ld d_134_525 rfl rfl rfl ?_
                                    refine w_if_ne (g := 535) d_134_527 (by decide) (by decide) (fun h527 => ?_) (fun h527 => ?_)
                                    · exact absurd rfl h527
                                    · refine w_ld d_134_530 rfl rfl rfl ?_
                                      refine w_ld d_134_531 rfl rfl rfl ?_
                                      refine w_cV0 (a := 46) (as := [_]) (rest := _) rfl d_134_532 (by rfl) (by rfl) (by first | rfl | assumption) (by rfl) (by rfl) (Nat.le_of_ble_eq_true rfl) (by omega) (by omega) (by have e := m_fail (sc := sc) (fr := fr - 1) (lo := lo - (19 + 2)) (μ := (stA (stA ν 51 (256 + n) (μ.1 46 24 + 2)) 52 (256 + n) (μ.1 46 25 - 2))) (ρ := ρ) (by rw [show ((stA (stA ν 51 (256 + n) (μ.1 46 24 + 2)) 52 (256 + n) (μ.1 46 25 - 2))).1 46 16 = -1 from n16]; decide) (k := q); rw [show ((stA (stA ν 51 (256 + n) (μ.1 46 24 + 2)) 52 (256 + n) (μ.1 46 25 - 2))).1 46 16 = -1 from n16, if_pos (by decide)] at e; exact e) ?_
                                      have f49 : (stA (stA ν 51 (256 + n) (μ.1 46 24 + 2)) 52 (256 + n) (μ.1 46 25 - 2)).2.2 49 (256 + n) = 5 := (by rw [sw_row.1 49 (by decide) (by decide)]; exact r49)
                                      have f50 : (stA (stA ν 51 (256 + n) (μ.1 46 24 + 2)) 52 (256 + n) (μ.1 46 25 - 2)).2.2 50 (256 + n) = 0 := (by rw [sw_row.1 50 (by decide) (by decide)]; exact r50)
                                      have f51 : (stA (stA ν 51 (256 + n) (μ.1 46 24 + 2)) 52 (256 + n) (μ.1 46 25 - 2)).2.2 51 (256 + n) = μ.1 46 24 + 2 := sw_row.2.1
                                      have f52 : (stA (stA ν 51 (256 + n) (μ.1 46 24 + 2)) 52 (256 + n) (μ.1 46 25 - 2)).2.2 52 (256 + n) = μ.1 46 25 - 2 := sw_row.2.2
                                      have f53 : (stA (stA ν 51 (256 + n) (μ.1 46 24 + 2)) 52 (256 + n) (μ.1 46 25 - 2)).2.2 53 (256 + n) = 0 := (by rw [sw_row.1 53 (by decide) (by decide)]; exact r53)
                                      have f55 : (stA (stA ν 51 (256 + n) (μ.1 46 24 + 2)) 52 (256 + n) (μ.1 46 25 - 2)).2.2 55 (256 + n) = q := (by rw [sw_row.1 55 (by decide) (by decide)]; exact r55)
                                      have f56 : (stA (stA ν 51 (256 + n) (μ.1 46 24 + 2)) 52 (256 + n) (μ.1 46 25 - 2)).2.2 56 (256 + n) = -1 := (by rw [sw_row.1 56 (by decide) (by decide)]; exact r56)
                                      have fk : mk1 μ (stA (stA ν 51 (256 + n) (μ.1 46 24 + 2)) 52 (256 + n) (μ.1 46 25 - 2)) n := (mk1_A (mk1_A hk1 (by decide) rfl) (by decide) rfl)
                                      refine w_ld d_134_535 rfl rfl rfl ?_
                                      refine w_ld d_134_536 rfl rfl rfl ?_
                                      refine w_cVm (a := 46) (as := [_]) (rest := _) rfl d_134_538 (by rfl) (by rfl) rfl (by rfl) (by rfl) (Nat.le_of_ble_eq_true rfl) (by omega) (by omega) (m_finish (mk1_I fk (q := 16) (x := q) (by decide)) (MI_16 hM q) ⟨hn.1, by omega⟩ f56 f53 (show 0 ≤ (stA (stA ν 51 (256 + n) (μ.1 46 24 + 2)) 52 (256 + n) (μ.1 46 25 - 2)).2.2 49 (256 + n) ∧ (stA (stA ν 51 (256 + n) (μ.1 46 24 + 2)) 52 (256 + n) (μ.1 46 25 - 2)).2.2 49 (256 + n) ≤ 12 by rw [f49]; decide) (show _ ≤ (stA (stA ν 51 (256 + n) (μ.1 46 24 + 2)) 52 (256 + n) (μ.1 46 25 - 2)).2.2 50 (256 + n) ∧ (stA (stA ν 51 (256 + n) (μ.1 46 24 + 2)) 52 (256 + n) (μ.1 46 25 - 2)).2.2 50 (256 + n) < _ by rw [f50]; decide) (show (0 ≤ (stA (stA ν 51 (256 + n) (μ.1 46 24 + 2)) 52 (256 + n) (μ.1 46 25 - 2)).2.2 52 (256 + n) ∧ (stA (stA ν 51 (256 + n) (μ.1 46 24 + 2)) 52 (256 + n) (μ.1 46 25 - 2)).2.2 52 (256 + n) ≤ 240) ∧ ((stA (stA ν 51 (256 + n) (μ.1 46 24 + 2)) 52 (256 + n) (μ.1 46 25 - 2)).2.2 52 (256 + n) = 0 ∨ 0 ≤ (stA (stA ν 51 (256 + n) (μ.1 46 24 + 2)) 52 (256 + n) (μ.1 46 25 - 2)).2.2 51 (256 + n) ∧ (stA (stA ν 51 (256 + n) (μ.1 46 24 + 2)) 52 (256 + n) (μ.1 46 25 - 2)).2.2 51 (256 + n) + (stA (stA ν 51 (256 + n) (μ.1 46 24 + 2)) 52 (256 + n) (μ.1 46 25 - 2)).2.2 52 (256 + n) ≤ 720) by rw [f51, f52]; omega) (by omega) (by omega)) (fun μ' hm => ?_)
                                      refine w_ret d_134_541 rfl ?_
                                      have hmn : (mn (fun i => μ.2.2 57 (μ.1 46 24 + i)) (μ.1 46 25)) = none := by
                                        unfold mn
                                        rw [if_neg (by omega), if_neg (by omega), if_neg (by omega), if_neg (by omega), if_neg (by omega), if_neg (by omega), if_neg (by omega), if_pos (by omega), if_neg (by omega)]
                                      exact ⟨μ', rfl, mmP_none hmn (fin_bad (m := 0) hn.2.1 hpl hm.1 hm.2.1), rfl⟩
                                  · refine w_con d_134_358 ?_
                                    refine w_goto (g := 363) d_134_359 (by decide) ?_
                                    refine w_st1 (L' := [_, _, _, _, _, _, _, _, _]) d_134_363 rfl (by decide) rfl (by decide) rfl ?_
                                    refine w_ld d_134_365 rfl rfl rfl ?_
                                    refine w_ld d_134_366 rfl rfl rfl ?_
                                    refine w_ld d_134_368 rfl rfl rfl ?_
                                    refine w_gI d_134_369 (by rfl) (by first | rfl | assumption) (by rfl) (by first | exact n24 | exact n25 | rfl) ?_
                                    refine w_con d_134_372 ?_
                                    refine w_iadd d_134_373 ?_
                                    refine w_ld d_134_374 rfl rfl rfl ?_
                                    refine w_gI d_134_375 (by rfl) (by first | rfl | assumption) (by rfl) (by first | exact n24 | exact n25 | rfl) ?_
                                    refine w_con d_134_378 ?_
                                    refine w_isub d_134_379 ?_
                                    refine w_cV0 (a := 46) (as := [_, _, _]) (rest := _) rfl d_134_380 (by rfl) (by rfl) (by first | rfl | assumption) (by rfl) (by rfl) (Nat.le_of_ble_eq_true rfl) (by omega) (by omega) (m_setWord (by omega)) ?_
                                    refine w_goto (g := 525) d_134_383 (by decide) ?_
                                    refine w_ld d_134_525 rfl rfl rfl ?_
                                    refine w_if_ne (g := 535) d_134_527 (by decide) (by decide) (fun h527 => ?_) (fun h527 => ?_)
                                    · have f49 : (stA (stA ν 51 (256 + n) (μ.1 46 24 + 2)) 52 (256 + n) (μ.1 46 25 - 2)).2.2 49 (256 + n) = 5 := (by rw [sw_row.1 49 (by decide) (by decide)]; exact r49)
                                      have f50 : (stA (stA ν 51 (256 + n) (μ.1 46 24 + 2)) 52 (256 + n) (μ.1 46 25 - 2)).2.2 50 (256 + n) = 0 := (by rw [sw_row.1 50 (by decide) (by decide)]; exact r50)
                                      have f51 : (stA (stA ν 51 (256 + n) (μ.1 46 24 + 2)) 52 (256 + n) (μ.1 46 25 - 2)).2.2 51 (256 + n) = μ.1 46 24 + 2 := sw_row.2.1
                                      have f52 : (stA (stA ν 51 (256 + n) (μ.1 46 24 + 2)) 52 (256 + n) (μ.1 46 25 - 2)).2.2 52 (256 + n) = μ.1 46 25 - 2 := sw_row.2.2
                                      have f53 : (stA (stA ν 51 (256 + n) (μ.1 46 24 + 2)) 52 (256 + n) (μ.1 46 25 - 2)).2.2 53 (256 + n) = 0 := (by rw [sw_row.1 53 (by decide) (by decide)]; exact r53)
                                      have f55 : (stA (stA ν 51 (256 + n) (μ.1 46 24 + 2)) 52 (256 + n) (μ.1 46 25 - 2)).2.2 55 (256 + n) = q := (by rw [sw_row.1 55 (by decide) (by decide)]; exact r55)
                                      have f56 : (stA (stA ν 51 (256 + n) (μ.1 46 24 + 2)) 52 (256 + n) (μ.1 46 25 - 2)).2.2 56 (256 + n) = -1 := (by rw [sw_row.1 56 (by decide) (by decide)]; exact r56)
                                      have fk : mk1 μ (stA (stA ν 51 (256 + n) (μ.1 46 24 + 2)) 52 (256 + n) (μ.1 46 25 - 2)) n := (mk1_A (mk1_A hk1 (by decide) rfl) (by decide) rfl)
                                      refine w_ld d_134_535 rfl rfl rfl ?_
                                      refine w_ld d_134_536 rfl rfl rfl ?_
                                      refine w_cVm (a := 46) (as := [_]) (rest := _) rfl d_134_538 (by rfl) (by rfl) rfl (by rfl) (by rfl) (Nat.le_of_ble_eq_true rfl) (by omega) (by omega) (m_finish fk hM ⟨hn.1, by omega⟩ f56 f53 (by rw [f49]; decide) (by rw [f50]; decide) (by rw [f51, f52]; omega) (by omega) (by omega)) (fun μ' hm => ?_)
                                      refine w_ret d_134_541 rfl ?_
                                      have hmn : (mn (fun i => μ.2.2 57 (μ.1 46 24 + i)) (μ.1 46 25)) = some (5, 0, 2, μ.1 46 25 - 2) := by
                                        unfold mn
                                        rw [if_neg (by omega), if_neg (by omega), if_neg (by omega), if_neg (by omega), if_neg (by omega), if_neg (by omega), if_neg (by omega), if_pos (by omega), if_pos (by omega)]
                                      exact ⟨μ', rfl, mmP_some hmn (by decide) (fin_ok hm ⟨f49, f50, Or.inr f51, f52, f53, f55⟩), rfl⟩
                                    · exact absurd h527 (by decide)
                                · exact absurd h344 (by omega)
                              · exact absurd h327 (by omega)
                          · exact absurd h255 (by omega)
                        · exact absurd h242 (by omega)
                    · exact absurd h180 (by omega)
                  · exact absurd h170 (by omega)
                · exact absurd h160 (by omega)
              · exact absurd h150 (by omega)
            · exact absurd h106 (by omega)
  · exact absurd hc h30
theorem m_mean_s {sc : Nat × (Nat → Int32)} {fr lo : Nat} {μ : Mem} {ρ : Nat × Nat × Nat} (hM : MI μ) {n : Int} (hn : μ.1 46 17 = n ∧ 0 ≤ n ∧ n ≤ 125) (hr : 480 ≤ μ.1 46 24 ∧ 0 ≤ μ.1 46 25 ∧ μ.1 46 24 + μ.1 46 25 ≤ 718 ∧ μ.1 46 25 ≤ 238) (hw : ∀ i, 0 ≤ i → i < μ.1 46 25 → 32 ≤ μ.2.2 57 (μ.1 46 24 + i) ∧ μ.2.2 57 (μ.1 46 24 + i) ≤ 126) (h16 : μ.1 46 16 = -1) (hpl : 0 ≤ μ.1 46 15 ∧ μ.1 46 15 ≤ 900) {q : Int} (hq : 0 ≤ q ∧ q ≤ 900) (hf : 12 ≤ fr) (hl : 500 ≤ lo) {al : Int} (hal : al = 1 ∧ μ.1 46 25 = 2 ∨ al = 0 ∧ μ.1 46 25 ≠ 2) (hc : (wl0 (fun i => μ.2.2 57 (μ.1 46 24 + i)) (μ.1 46 25) 0) = 126) (hd : (wl0 (fun i => μ.2.2 57 (μ.1 46 24 + i)) (μ.1 46 25) 1) = 36) : w_P sc fr lo 134 7 9 false (none) prog_9_method_30_code 27 [some (.ref 46), some (.int (ji q)), some (.int (ji (wl0 (fun i => μ.2.2 57 (μ.1 46 24 + i)) (μ.1 46 25) 0))), some (.int (ji (wl0 (fun i => μ.2.2 57 (μ.1 46 24 + i)) (μ.1 46 25) 1))), some (.int (ji al)), none, none, none, none] [] (hp μ, ρ) (fun o t' => ∃ μ' : Mem, o = .inl none ∧ mmP μ μ' (fun i => μ.2.2 57 (μ.1 46 24 + i)) (μ.1 46 25) (μ.1 46 24) q n ∧ t' = (hp μ', ρ)) := by
  have l0 := wl_wl0 (w := (fun i => μ.2.2 57 (μ.1 46 24 + i))) (s := (μ.1 46 25)) hw (k := 0) (by decide)
  have l1 := wl_wl0 (w := (fun i => μ.2.2 57 (μ.1 46 24 + i))) (s := (μ.1 46 25)) hw (k := 1) (by decide)
  have l2 := wl_wl0 (w := (fun i => μ.2.2 57 (μ.1 46 24 + i))) (s := (μ.1 46 25)) hw (k := 2) (by decide)
  have rl : ∀ (ν : Mem) (k : Int), (∀ p, p = 24 ∨ p = 25 → ν.1 46 p = μ.1 46 p) → ν.2.2 57 = μ.2.2 57 → 0 ≤ k ∧ k < 100 → w_E sc (fr - 1) (lo - (19 + 2)) 127 [.ref 46, .int (ji k)] (hp ν, ρ) (.inl (some (.int (ji (wl0 (fun i => μ.2.2 57 (μ.1 46 24 + i)) (μ.1 46 25) k))))) (hp ν, ρ) := fun ν k h1 h2 hk => by
    have e := m_rawLetter (sc := sc) (fr := fr - 1) (lo := lo - (19 + 2)) (μ := ν) (ρ := ρ) (by rw [h1 24 (by omega), h1 25 (by omega)]; omega) (k := k) (by omega)
    rw [h1 24 (by omega), h1 25 (by omega), h2] at e
    exact e
  have rl0 : ∀ k : Int, 0 ≤ k ∧ k < 100 → w_E sc (fr - 1) (lo - (19 + 2)) 127 [.ref 46, .int (ji k)] (hp μ, ρ) (.inl (some (.int (ji (wl0 (fun i => μ.2.2 57 (μ.1 46 24 + i)) (μ.1 46 25) k))))) (hp μ, ρ) := fun k hk => rl μ k (fun _ _ => rfl) rfl hk
  obtain ⟨ν, hk1, ⟨r49, r50, r51, r52, r53, r54, r55, r56⟩, hmk⟩ := m_mk sc (fr - 1) (lo - (19 + 4)) ρ (μ := μ) ⟨hn.1, hn.2.1, by omega⟩ 6 q
  have n24 : ν.1 46 24 = μ.1 46 24 := hk1.1 46 24 (by decide)
  have n25 : ν.1 46 25 = μ.1 46 25 := hk1.1 46 25 (by decide)
  have n16 : ν.1 46 16 = -1 := (hk1.1 46 16 (by decide)).trans h16
  have n57 : ν.2.2 57 = μ.2.2 57 := by funext i; exact hk1.2.2.2 57 i (by omega)
  have rlν : ∀ k : Int, 0 ≤ k ∧ k < 100 → w_E sc (fr - 1) (lo - (19 + 2)) 127 [.ref 46, .int (ji k)] (hp ν, ρ) (.inl (some (.int (ji (wl0 (fun i => μ.2.2 57 (μ.1 46 24 + i)) (μ.1 46 25) k))))) (hp ν, ρ) := fun k hk => rl ν k (fun p hp => by rcases hp with rfl | rfl <;> first | exact n24 | exact n25) n57 hk
  refine w_ld d_134_27 rfl rfl rfl ?_
  refine w_bip d_134_28 (by decide) ?_
  refine w_icmp_eq (g := 79) d_134_30 (by decide) (by omega) (fun h30 => ?_) (fun h30 => ?_)
  · refine w_ld d_134_79 rfl rfl rfl ?_
    refine w_bip d_134_80 (by decide) ?_
    refine w_icmp_eq (g := 139) d_134_82 (by decide) (by omega) (fun h82 => ?_) (fun h82 => ?_)
    · exact absurd h82 (by omega)
    · refine w_ld d_134_85 rfl rfl rfl ?_
      refine w_bip d_134_86 (by decide) ?_
      refine w_icmp_eq (g := 139) d_134_88 (by decide) (by omega) (fun h88 => ?_) (fun h88 => ?_)
      · exact absurd h88 (by omega)
      · refine w_ld d_134_91 rfl rfl rfl ?_
        refine w_bip d_134_92 (by decide) ?_
        refine w_icmp_eq (g := 139) d_134_94 (by decide) (by omega) (fun h94 => ?_) (fun h94 => ?_)
        · exact absurd h94 (by omega)
        · refine w_ld d_134_97 rfl rfl rfl ?_
          refine w_bip d_134_98 (by decide) ?_
          refine w_icmp_eq (g := 139) d_134_100 (by decide) (by omega) (fun h100 => ?_) (fun h100 => ?_)
          · exact absurd h100 (by omega)
          · refine w_ld d_134_103 rfl rfl rfl ?_
            refine w_bip d_134_104 (by decide) ?_
            refine w_icmp_eq (g := 139) d_134_106 (by decide) (by omega) (fun h106 => ?_) (fun h106 => ?_)
            · exact absurd h106 (by omega)
            · refine w_ld d_134_109 rfl rfl rfl ?_
              refine w_bip d_134_110 (by decide) ?_
              refine w_icmp_eq (g := 139) d_134_112 (by decide) (by omega) (fun h112 => ?_) (fun h112 => ?_)
              · refine w_con d_134_139 ?_
                refine w_goto (g := 144) d_134_140 (by decide) ?_
                refine w_st1 (L' := [_, _, _, _, _, _, _, _, _]) d_134_144 rfl (by decide) rfl (by decide) rfl ?_
                refine w_ld d_134_146 rfl rfl rfl ?_
                refine w_ld d_134_147 rfl rfl rfl ?_
                refine w_bip d_134_148 (by decide) ?_
                refine w_icmp_ne (g := 157) d_134_150 (by decide) (by omega) (fun h150 => ?_) (fun h150 => ?_)
                · refine w_ld d_134_157 rfl rfl rfl ?_
                  refine w_bip d_134_158 (by decide) ?_
                  refine w_icmp_ne (g := 167) d_134_160 (by decide) (by omega) (fun h160 => ?_) (fun h160 => ?_)
                  · refine w_ld d_134_167 rfl rfl rfl ?_
                    refine w_bip d_134_168 (by decide) ?_
                    refine w_icmp_ne (g := 177) d_134_170 (by decide) (by omega) (fun h170 => ?_) (fun h170 => ?_)
                    · refine w_ld d_134_177 rfl rfl rfl ?_
                      refine w_bip d_134_178 (by decide) ?_
                      refine w_icmp_ne (g := 187) d_134_180 (by decide) (by omega) (fun h180 => ?_) (fun h180 => ?_)
                      · refine w_ld d_134_187 rfl rfl rfl ?_
                        refine w_bip d_134_188 (by decide) ?_
                        refine w_icmp_ne (g := 197) d_134_190 (by decide) (by omega) (fun h190 => ?_) (fun h190 => ?_)
                        · refine w_ld d_134_197 rfl rfl rfl ?_
                          refine w_bip d_134_198 (by decide) ?_
                          refine w_icmp_ne (g := 208) d_134_200 (by decide) (by omega) (fun h200 => ?_) (fun h200 => ?_)
                          · exact absurd h200 (by omega)
                          · refine w_bip d_134_203 (by decide) ?_
                            refine w_goto (g := 230) d_134_205 (by decide) ?_
                            refine w_ld d_134_230 rfl rfl rfl ?_
                            refine w_cV1 (a := 46) (as := [_, _]) (rest := _) rfl d_134_231 (by rfl) (by rfl) (by first | rfl | assumption) (by rfl) (by rfl) (Nat.le_of_ble_eq_true rfl) (by omega) (by omega) hmk ?_
                            refine w_st1 (L' := [_, _, _, _, _, _, _, _, _]) d_134_234 rfl (by decide) rfl (by decide) rfl ?_
                            refine w_con d_134_236 ?_
                            refine w_st1 (L' := [_, _, _, _, _, _, _, _, _]) d_134_237 rfl (by decide) rfl (by decide) rfl ?_
                            refine w_ld d_134_239 rfl rfl rfl ?_
                            refine w_bip d_134_240 (by decide) ?_
                            refine w_icmp_ne (g := 252) d_134_242 (by decide) (by omega) (fun h242 => ?_) (fun h242 => ?_)
                            · refine w_ld d_134_252 rfl rfl rfl ?_
                              refine w_bip d_134_253 (by decide) ?_
                              refine w_icmp_ne (g := 318) d_134_255 (by decide) (by omega) (fun h255 => ?_) (fun h255 => ?_)
                              · refine w_ld d_134_318 rfl rfl rfl ?_
                                refine w_bip d_134_319 (by decide) ?_
                                refine w_icmp_eq (g := 330) d_134_321 (by decide) (by omega) (fun h321 => ?_) (fun h321 => ?_)
                                · exact absurd h321 (by omega)
                                · refine w_ld d_134_324 rfl rfl rfl ?_
                                  refine w_bip d_134_325 (by decide) ?_
                                  refine w_icmp_ne (g := 341) d_134_327 (by decide) (by omega) (fun h327 => ?_) (fun h327 => ?_)
                                  · refine w_ld d_134_341 rfl rfl rfl ?_
                                    refine w_bip d_134_342 (by decide) ?_
                                    refine w_icmp_eq (g := 353) d_134_344 (by decide) (by omega) (fun h344 => ?_) (fun h344 => ?_)
                                    · exact absurd h344 (by omega)
                                    · refine w_ld d_134_347 rfl rfl rfl ?_
                                      refine w_bip d_134_348 (by decide) ?_
                                      refine w_icmp_ne (g := 386) d_134_350 (by decide) (by omega) (fun h350 => ?_) (fun h350 => ?_)
                                      · exact absurd h350 (by omega)
                                      · refine w_ld d_134_353 rfl rfl rfl ?_
                                        refine w_if_ne (g := 362) d_134_355 (by decide) (by omega) (fun h355 => ?_) (fun h355 => ?_)
                                        · refine w_con d_134_362 ?_
                                          refine w_st1 (L' := [_, _, _, _, _, _, _, _, _]) d_134_363 rfl (by decide) rfl (by decide) rfl ?_
                                          refine w_ld d_134_365 rfl rfl rfl ?_
                                          refine w_ld d_134_366 rfl rfl rfl ?_
                                          refine w_ld d_134_368 rfl rfl rfl ?_
                                          refine w_gI d_134_369 (by rfl) (by first | rfl | assumption) (by rfl) (by first | exact n24 | exact n25 | rfl) ?_
                                          refine w_con d_134_372 ?_
                                          refine w_iadd d_134_373 ?_
                                          refine w_ld d_134_374 rfl rfl rfl ?_
                                          refine w_gI d_134_375 (by rfl) (by first | rfl | assumption) (by rfl) (by first | exact n24 | exact n25 | rfl) ?_
                                          refine w_con d_134_378 ?_
                                          refine w_isub d_134_379 ?_
                                          refine w_cV0 (a := 46) (as := [_, _, _]) (rest := _) rfl d_134_380 (by rfl) (by rfl) (by first | rfl | assumption) (by rfl) (by rfl) (Nat.le_of_ble_eq_true rfl) (by omega) (by omega) (m_setWord (by omega)) ?_
                                          refine w_goto (g := 525) d_134_383 (by decide) ?_
                                          refine w_ld d_134_525 rfl rfl rfl ?_
                                          refine w_if_ne (g := 535) d_134_527 (by decide) (by decide) (fun h527 => ?_) (fun h527 => ?_)
                                          · exact absurd rfl h527
                                          · refine w_ld d_134_530 rfl rfl rfl ?_
                                            refine w_ld d_134_531 rfl rfl rfl ?_
                                            refine w_cV0 (a := 46) (as := [_]) (rest := _) rfl d_134_532 (by rfl) (by rfl) (by first | rfl | assumption) (by rfl) (by rfl) (Nat.le_of_ble_eq_true rfl) (by omega) (by omega) (by have e := m_fail (sc := sc) (fr := fr - 1) (lo := lo - (19 + 2)) (μ := (stA (stA ν 51 (256 + n) (μ.1 46 24 + 2)) 52 (256 + n) (μ.1 46 25 - 2))) (ρ := ρ) (by rw [show ((stA (stA ν 51 (256 + n) (μ.1 46 24 + 2)) 52 (256 + n) (μ.1 46 25 - 2))).1 46 16 = -1 from n16]; decide) (k := q); rw [show ((stA (stA ν 51 (256 + n) (μ.1 46 24 + 2)) 52 (256 + n) (μ.1 46 25 - 2))).1 46 16 = -1 from n16, if_pos (by decide)] at e; exact e) ?_
                                            have f49 : (stA (stA ν 51 (256 + n) (μ.1 46 24 + 2)) 52 (256 + n) (μ.1 46 25 - 2)).2.2 49 (256 + n) = 6 := (by rw [sw_row.1 49 (by decide) (by decide)]; exact r49)
                                            have f50 : (stA (stA ν 51 (256 + n) (μ.1 46 24 + 2)) 52 (256 + n) (μ.1 46 25 - 2)).2.2 50 (256 + n) = 0 := (by rw [sw_row.1 50 (by decide) (by decide)]; exact r50)
                                            have f51 : (stA (stA ν 51 (256 + n) (μ.1 46 24 + 2)) 52 (256 + n) (μ.1 46 25 - 2)).2.2 51 (256 + n) = μ.1 46 24 + 2 := sw_row.2.1
                                            have f52 : (stA (stA ν 51 (256 + n) (μ.1 46 24 + 2)) 52 (256 + n) (μ.1 46 25 - 2)).2.2 52 (256 + n) = μ.1 46 25 - 2 := sw_row.2.2
                                            have f53 : (stA (stA ν 51 (256 + n) (μ.1 46 24 + 2)) 52 (256 + n) (μ.1 46 25 - 2)).2.2 53 (256 + n) = 0 := (by rw [sw_row.1 53 (by decide) (by decide)]; exact r53)
                                            have f55 : (stA (stA ν 51 (256 + n) (μ.1 46 24 + 2)) 52 (256 + n) (μ.1 46 25 - 2)).2.2 55 (256 + n) = q := (by rw [sw_row.1 55 (by decide) (by decide)]; exact r55)
                                            have f56 : (stA (stA ν 51 (256 + n) (μ.1 46 24 + 2)) 52 (256 + n) (μ.1 46 25 - 2)).2.2 56 (256 + n) = -1 := (by rw [sw_row.1 56 (by decide) (by decide)]; exact r56)
                                            have fk : mk1 μ (stA (stA ν 51 (256 + n) (μ.1 46 24 + 2)) 52 (256 + n) (μ.1 46 25 - 2)) n := (mk1_A (mk1_A hk1 (by decide) rfl) (by decide) rfl)
                                            refine w_ld d_134_535 rfl rfl rfl ?_
                                            refine w_ld d_134_536 rfl rfl rfl ?_
                                            refine w_cVm (a := 46) (as := [_]) (rest := _) rfl d_134_538 (by rfl) (by rfl) rfl (by rfl) (by rfl) (Nat.le_of_ble_eq_true rfl) (by omega) (by omega) (m_finish (mk1_I fk (q := 16) (x := q) (by decide)) (MI_16 hM q) ⟨hn.1, by omega⟩ f56 f53 (show 0 ≤ (stA (stA ν 51 (256 + n) (μ.1 46 24 + 2)) 52 (256 + n) (μ.1 46 25 - 2)).2.2 49 (256 + n) ∧ (stA (stA ν 51 (256 + n) (μ.1 46 24 + 2)) 52 (256 + n) (μ.1 46 25 - 2)).2.2 49 (256 + n) ≤ 12 by rw [f49]; decide) (show _ ≤ (stA (stA ν 51 (256 + n) (μ.1 46 24 + 2)) 52 (256 + n) (μ.1 46 25 - 2)).2.2 50 (256 + n) ∧ (stA (stA ν 51 (256 + n) (μ.1 46 24 + 2)) 52 (256 + n) (μ.1 46 25 - 2)).2.2 50 (256 + n) < _ by rw [f50]; decide) (show (0 ≤ (stA (stA ν 51 (256 + n) (μ.1 46 24 + 2)) 52 (256 + n) (μ.1 46 25 - 2)).2.2 52 (256 + n) ∧ (stA (stA ν 51 (256 + n) (μ.1 46 24 + 2)) 52 (256 + n) (μ.1 46 25 - 2)).2.2 52 (256 + n) ≤ 240) ∧ ((stA (stA ν 51 (256 + n) (μ.1 46 24 + 2)) 52 (256 + n) (μ.1 46 25 - 2)).2.2 52 (256 + n) = 0 ∨ 0 ≤ (stA (stA ν 51 (256 + n) (μ.1 46 24 + 2)) 52 (256 + n) (μ.1 46 25 - 2)).2.2 51 (256 + n) ∧ (stA (stA ν 51 (256 + n) (μ.1 46 24 + 2)) 52 (256 + n) (μ.1 46 25 - 2)).2.2 51 (256 + n) + (stA (stA ν 51 (256 + n) (μ.1 46 24 + 2)) 52 (256 + n) (μ.1 46 25 - 2)).2.2 52 (256 + n) ≤ 720) by rw [f51, f52]; omega) (by omega) (by omega)) (fun μ' hm => ?_)
                                            refine w_ret d_134_541 rfl ?_
                                            have hmn : (mn (fun i => μ.2.2 57 (μ.1 46 24 + i)) (μ.1 46 25)) = none := by
                                              unfold mn
                                              rw [if_neg (by omega), if_neg (by omega), if_neg (by omega), if_neg (by omega), if_neg (by omega), if_neg (by omega), if_neg (by omega), if_neg (by omega), if_pos (by omega), if_neg (by omega)]
                                            exact ⟨μ', rfl, mmP_none hmn (fin_bad (m := 0) hn.2.1 hpl hm.1 hm.2.1), rfl⟩
                                        · refine w_con d_134_358 ?_
                                          refine w_goto (g := 363) d_134_359 (by decide) ?_
                                          refine w_st1 (L' := [_, _, _, _, _, _, _, _, _]) d_134_363 rfl (by decide) rfl (by decide) rfl ?_
                                          refine w_ld d_134_365 rfl rfl rfl ?_
                                          refine w_ld d_134_366 rfl rfl rfl ?_
                                          refine w_ld d_134_368 rfl rfl rfl ?_
                                          refine w_gI d_134_369 (by rfl) (by first | rfl | assumption) (by rfl) (by first | exact n24 | exact n25 | rfl) ?_
                                          refine w_con d_134_372 ?_
                                          refine w_iadd d_134_373 ?_
                                          refine w_ld d_134_374 rfl rfl rfl ?_
                                          refine w_gI d_134_375 (by rfl) (by first | rfl | assumption) (by rfl) (by first | exact n24 | exact n25 | rfl) ?_
                                          refine w_con d_134_378 ?_
                                          refine w_isub d_134_379 ?_
                                          refine w_cV0 (a := 46) (as := [_, _, _]) (rest := _) rfl d_134_380 (by rfl) (by rfl) (by first | rfl | assumption) (by rfl) (by rfl) (Nat.le_of_ble_eq_true rfl) (by omega) (by omega) (m_setWord (by omega)) ?_
                                          refine w_goto (g := 525) d_134_383 (by decide) ?_
                                          refine w_ld d_134_525 rfl rfl rfl ?_
                                          refine w_if_ne (g := 535) d_134_527 (by decide) (by decide) (fun h527 => ?_) (fun h527 => ?_)
                                          · have f49 : (stA (stA ν 51 (256 + n) (μ.1 46 24 + 2)) 52 (256 + n) (μ.1 46 25 - 2)).2.2 49 (256 + n) = 6 := (by rw [sw_row.1 49 (by decide) (by decide)]; exact r49)
                                            have f50 : (stA (stA ν 51 (256 + n) (μ.1 46 24 + 2)) 52 (256 + n) (μ.1 46 25 - 2)).2.2 50 (256 + n) = 0 := (by rw [sw_row.1 50 (by decide) (by decide)]; exact r50)
                                            have f51 : (stA (stA ν 51 (256 + n) (μ.1 46 24 + 2)) 52 (256 + n) (μ.1 46 25 - 2)).2.2 51 (256 + n) = μ.1 46 24 + 2 := sw_row.2.1
                                            have f52 : (stA (stA ν 51 (256 + n) (μ.1 46 24 + 2)) 52 (256 + n) (μ.1 46 25 - 2)).2.2 52 (256 + n) = μ.1 46 25 - 2 := sw_row.2.2
                                            have f53 : (stA (stA ν 51 (256 + n) (μ.1 46 24 + 2)) 52 (256 + n) (μ.1 46 25 - 2)).2.2 53 (256 + n) = 0 := (by rw [sw_row.1 53 (by decide) (by decide)]; exact r53)
                                            have f55 : (stA (stA ν 51 (256 + n) (μ.1 46 24 + 2)) 52 (256 + n) (μ.1 46 25 - 2)).2.2 55 (256 + n) = q := (by rw [sw_row.1 55 (by decide) (by decide)]; exact r55)
                                            have f56 : (stA (stA ν 51 (256 + n) (μ.1 46 24 + 2)) 52 (256 + n) (μ.1 46 25 - 2)).2.2 56 (256 + n) = -1 := (by rw [sw_row.1 56 (by decide) (by decide)]; exact r56)
                                            have fk : mk1 μ (stA (stA ν 51 (256 + n) (μ.1 46 24 + 2)) 52 (256 + n) (μ.1 46 25 - 2)) n := (mk1_A (mk1_A hk1 (by decide) rfl) (by decide) rfl)
                                            refine w_ld d_134_535 rfl rfl rfl ?_
                                            refine w_ld d_134_536 rfl rfl rfl ?_
                                            refine w_cVm (a := 46) (as := [_]) (rest := _) rfl d_134_538 (by rfl) (by rfl) rfl (by rfl) (by rfl) (Nat.le_of_ble_eq_true rfl) (by omega) (by omega) (m_finish fk hM ⟨hn.1, by omega⟩ f56 f53 (by rw [f49]; decide) (by rw [f50]; decide) (by rw [f51, f52]; omega) (by omega) (by omega)) (fun μ' hm => ?_)
                                            refine w_ret d_134_541 rfl ?_
                                            have hmn : (mn (fun i => μ.2.2 57 (μ.1 46 24 + i)) (μ.1 46 25)) = some (6, 0, 2, μ.1 46 25 - 2) := by
                                              unfold mn
                                              rw [if_neg (by omega), if_neg (by omega), if_neg (by omega), if_neg (by omega), if_neg (by omega), if_neg (by omega), if_neg (by omega), if_neg (by omega), if_pos (by omega), if_pos (by omega)]
                                            exact ⟨μ', rfl, mmP_some hmn (by decide) (fin_ok hm ⟨f49, f50, Or.inr f51, f52, f53, f55⟩), rfl⟩
                                          · exact absurd h527 (by decide)
                                  · exact absurd h327 (by omega)
                              · exact absurd h255 (by omega)
                            · exact absurd h242 (by omega)
                        · exact absurd h190 (by omega)
                      · exact absurd h180 (by omega)
                    · exact absurd h170 (by omega)
                  · exact absurd h160 (by omega)
                · exact absurd h150 (by omega)
              · exact absurd h112 (by omega)
  · exact absurd hc h30
theorem m_mean_h {sc : Nat × (Nat → Int32)} {fr lo : Nat} {μ : Mem} {ρ : Nat × Nat × Nat} (hM : MI μ) {n : Int} (hn : μ.1 46 17 = n ∧ 0 ≤ n ∧ n ≤ 125) (hr : 480 ≤ μ.1 46 24 ∧ 0 ≤ μ.1 46 25 ∧ μ.1 46 24 + μ.1 46 25 ≤ 718 ∧ μ.1 46 25 ≤ 238) (hw : ∀ i, 0 ≤ i → i < μ.1 46 25 → 32 ≤ μ.2.2 57 (μ.1 46 24 + i) ∧ μ.2.2 57 (μ.1 46 24 + i) ≤ 126) (h16 : μ.1 46 16 = -1) (hpl : 0 ≤ μ.1 46 15 ∧ μ.1 46 15 ≤ 900) {q : Int} (hq : 0 ≤ q ∧ q ≤ 900) (hf : 12 ≤ fr) (hl : 500 ≤ lo) {al : Int} (hal : al = 1 ∧ μ.1 46 25 = 2 ∨ al = 0 ∧ μ.1 46 25 ≠ 2) (hc : (wl0 (fun i => μ.2.2 57 (μ.1 46 24 + i)) (μ.1 46 25) 0) = 126) (hd : (wl0 (fun i => μ.2.2 57 (μ.1 46 24 + i)) (μ.1 46 25) 1) = 99) : w_P sc fr lo 134 7 9 false (none) prog_9_method_30_code 27 [some (.ref 46), some (.int (ji q)), some (.int (ji (wl0 (fun i => μ.2.2 57 (μ.1 46 24 + i)) (μ.1 46 25) 0))), some (.int (ji (wl0 (fun i => μ.2.2 57 (μ.1 46 24 + i)) (μ.1 46 25) 1))), some (.int (ji al)), none, none, none, none] [] (hp μ, ρ) (fun o t' => ∃ μ' : Mem, o = .inl none ∧ mmP μ μ' (fun i => μ.2.2 57 (μ.1 46 24 + i)) (μ.1 46 25) (μ.1 46 24) q n ∧ t' = (hp μ', ρ)) := by
  have l0 := wl_wl0 (w := (fun i => μ.2.2 57 (μ.1 46 24 + i))) (s := (μ.1 46 25)) hw (k := 0) (by decide)
  have l1 := wl_wl0 (w := (fun i => μ.2.2 57 (μ.1 46 24 + i))) (s := (μ.1 46 25)) hw (k := 1) (by decide)
  have l2 := wl_wl0 (w := (fun i => μ.2.2 57 (μ.1 46 24 + i))) (s := (μ.1 46 25)) hw (k := 2) (by decide)
  have rl : ∀ (ν : Mem) (k : Int), (∀ p, p = 24 ∨ p = 25 → ν.1 46 p = μ.1 46 p) → ν.2.2 57 = μ.2.2 57 → 0 ≤ k ∧ k < 100 → w_E sc (fr - 1) (lo - (19 + 2)) 127 [.ref 46, .int (ji k)] (hp ν, ρ) (.inl (some (.int (ji (wl0 (fun i => μ.2.2 57 (μ.1 46 24 + i)) (μ.1 46 25) k))))) (hp ν, ρ) := fun ν k h1 h2 hk => by
    have e := m_rawLetter (sc := sc) (fr := fr - 1) (lo := lo - (19 + 2)) (μ := ν) (ρ := ρ) (by rw [h1 24 (by omega), h1 25 (by omega)]; omega) (k := k) (by omega)
    rw [h1 24 (by omega), h1 25 (by omega), h2] at e
    exact e
  have rl0 : ∀ k : Int, 0 ≤ k ∧ k < 100 → w_E sc (fr - 1) (lo - (19 + 2)) 127 [.ref 46, .int (ji k)] (hp μ, ρ) (.inl (some (.int (ji (wl0 (fun i => μ.2.2 57 (μ.1 46 24 + i)) (μ.1 46 25) k))))) (hp μ, ρ) := fun k hk => rl μ k (fun _ _ => rfl) rfl hk
  obtain ⟨ν, hk1, ⟨r49, r50, r51, r52, r53, r54, r55, r56⟩, hmk⟩ := m_mk sc (fr - 1) (lo - (19 + 4)) ρ (μ := μ) ⟨hn.1, hn.2.1, by omega⟩ 7 q
  have n24 : ν.1 46 24 = μ.1 46 24 := hk1.1 46 24 (by decide)
  have n25 : ν.1 46 25 = μ.1 46 25 := hk1.1 46 25 (by decide)
  have n16 : ν.1 46 16 = -1 := (hk1.1 46 16 (by decide)).trans h16
  have n57 : ν.2.2 57 = μ.2.2 57 := by funext i; exact hk1.2.2.2 57 i (by omega)
  have rlν : ∀ k : Int, 0 ≤ k ∧ k < 100 → w_E sc (fr - 1) (lo - (19 + 2)) 127 [.ref 46, .int (ji k)] (hp ν, ρ) (.inl (some (.int (ji (wl0 (fun i => μ.2.2 57 (μ.1 46 24 + i)) (μ.1 46 25) k))))) (hp ν, ρ) := fun k hk => rl ν k (fun p hp => by rcases hp with rfl | rfl <;> first | exact n24 | exact n25) n57 hk
  refine w_ld d_134_27 rfl rfl rfl ?_
  refine w_bip d_134_28 (by decide) ?_
  refine w_icmp_eq (g := 79) d_134_30 (by decide) (by omega) (fun h30 => ?_) (fun h30 => ?_)
  · refine w_ld d_134_79 rfl rfl rfl ?_
    refine w_bip d_134_80 (by decide) ?_
    refine w_icmp_eq (g := 139) d_134_82 (by decide) (by omega) (fun h82 => ?_) (fun h82 => ?_)
    · exact absurd h82 (by omega)
    · refine w_ld d_134_85 rfl rfl rfl ?_
      refine w_bip d_134_86 (by decide) ?_
      refine w_icmp_eq (g := 139) d_134_88 (by decide) (by omega) (fun h88 => ?_) (fun h88 => ?_)
      · exact absurd h88 (by omega)
      · refine w_ld d_134_91 rfl rfl rfl ?_
        refine w_bip d_134_92 (by decide) ?_
        refine w_icmp_eq (g := 139) d_134_94 (by decide) (by omega) (fun h94 => ?_) (fun h94 => ?_)
        · exact absurd h94 (by omega)
        · refine w_ld d_134_97 rfl rfl rfl ?_
          refine w_bip d_134_98 (by decide) ?_
          refine w_icmp_eq (g := 139) d_134_100 (by decide) (by omega) (fun h100 => ?_) (fun h100 => ?_)
          · exact absurd h100 (by omega)
          · refine w_ld d_134_103 rfl rfl rfl ?_
            refine w_bip d_134_104 (by decide) ?_
            refine w_icmp_eq (g := 139) d_134_106 (by decide) (by omega) (fun h106 => ?_) (fun h106 => ?_)
            · exact absurd h106 (by omega)
            · refine w_ld d_134_109 rfl rfl rfl ?_
              refine w_bip d_134_110 (by decide) ?_
              refine w_icmp_eq (g := 139) d_134_112 (by decide) (by omega) (fun h112 => ?_) (fun h112 => ?_)
              · exact absurd h112 (by omega)
              · refine w_ld d_134_115 rfl rfl rfl ?_
                refine w_bip d_134_116 (by decide) ?_
                refine w_icmp_eq (g := 139) d_134_118 (by decide) (by omega) (fun h118 => ?_) (fun h118 => ?_)
                · refine w_con d_134_139 ?_
                  refine w_goto (g := 144) d_134_140 (by decide) ?_
                  refine w_st1 (L' := [_, _, _, _, _, _, _, _, _]) d_134_144 rfl (by decide) rfl (by decide) rfl ?_
                  refine w_ld d_134_146 rfl rfl rfl ?_
                  refine w_ld d_134_147 rfl rfl rfl ?_
                  refine w_bip d_134_148 (by decide) ?_
                  refine w_icmp_ne (g := 157) d_134_150 (by decide) (by omega) (fun h150 => ?_) (fun h150 => ?_)
                  · refine w_ld d_134_157 rfl rfl rfl ?_
                    refine w_bip d_134_158 (by decide) ?_
                    refine w_icmp_ne (g := 167) d_134_160 (by decide) (by omega) (fun h160 => ?_) (fun h160 => ?_)
                    · refine w_ld d_134_167 rfl rfl rfl ?_
                      refine w_bip d_134_168 (by decide) ?_
                      refine w_icmp_ne (g := 177) d_134_170 (by decide) (by omega) (fun h170 => ?_) (fun h170 => ?_)
                      · refine w_ld d_134_177 rfl rfl rfl ?_
                        refine w_bip d_134_178 (by decide) ?_
                        refine w_icmp_ne (g := 187) d_134_180 (by decide) (by omega) (fun h180 => ?_) (fun h180 => ?_)
                        · refine w_ld d_134_187 rfl rfl rfl ?_
                          refine w_bip d_134_188 (by decide) ?_
                          refine w_icmp_ne (g := 197) d_134_190 (by decide) (by omega) (fun h190 => ?_) (fun h190 => ?_)
                          · refine w_ld d_134_197 rfl rfl rfl ?_
                            refine w_bip d_134_198 (by decide) ?_
                            refine w_icmp_ne (g := 208) d_134_200 (by decide) (by omega) (fun h200 => ?_) (fun h200 => ?_)
                            · refine w_ld d_134_208 rfl rfl rfl ?_
                              refine w_bip d_134_209 (by decide) ?_
                              refine w_icmp_ne (g := 219) d_134_211 (by decide) (by omega) (fun h211 => ?_) (fun h211 => ?_)
                              · exact absurd h211 (by omega)
                              · refine w_bip d_134_214 (by decide) ?_
                                refine w_goto (g := 230) d_134_216 (by decide) ?_
                                refine w_ld d_134_230 rfl rfl rfl ?_
                                refine w_cV1 (a := 46) (as := [_, _]) (rest := _) rfl d_134_231 (by rfl) (by rfl) (by first | rfl | assumption) (by rfl) (by rfl) (Nat.le_of_ble_eq_true rfl) (by omega) (by omega) hmk ?_
                                refine w_st1 (L' := [_, _, _, _, _, _, _, _, _]) d_134_234 rfl (by decide) rfl (by decide) rfl ?_
                                refine w_con d_134_236 ?_
                                refine w_st1 (L' := [_, _, _, _, _, _, _, _, _]) d_134_237 rfl (by decide) rfl (by decide) rfl ?_
                                refine w_ld d_134_239 rfl rfl rfl ?_
                                refine w_bip d_134_240 (by decide) ?_
                                refine w_icmp_ne (g := 252) d_134_242 (by decide) (by omega) (fun h242 => ?_) (fun h242 => ?_)
                                · refine w_ld d_134_252 rfl rfl rfl ?_
                                  refine w_bip d_134_253 (by decide) ?_
                                  refine w_icmp_ne (g := 318) d_134_255 (by decide) (by omega) (fun h255 => ?_) (fun h255 => ?_)
                                  · refine w_ld d_134_318 rfl rfl rfl ?_
                                    refine w_bip d_134_319 (by decide) ?_
                                    refine w_icmp_eq (g := 330) d_134_321 (by decide) (by omega) (fun h321 => ?_) (fun h321 => ?_)
                                    · exact absurd h321 (by omega)
                                    · refine w_ld d_134_324 rfl rfl rfl ?_
                                      refine w_bip d_134_325 (by decide) ?_
                                      refine w_icmp_ne (g := 341) d_134_327 (by decide) (by omega) (fun h327 => ?_) (fun h327 => ?_)
                                      · refine w_ld d_134_341 rfl rfl rfl ?_
                                        refine w_bip d_134_342 (by decide) ?_
                                        refine w_icmp_eq (g := 353) d_134_344 (by decide) (by omega) (fun h344 => ?_) (fun h344 => ?_)
                                        · exact absurd h344 (by omega)
                                        · refine w_ld d_134_347 rfl rfl rfl ?_
                                          refine w_bip d_134_348 (by decide) ?_
                                          refine w_icmp_ne (g := 386) d_134_350 (by decide) (by omega) (fun h350 => ?_) (fun h350 => ?_)
                                          · refine w_ld d_134_386 rfl rfl rfl ?_
                                            refine w_bip d_134_387 (by decide) ?_
                                            refine w_icmp_ne (g := 423) d_134_389 (by decide) (by omega) (fun h389 => ?_) (fun h389 => ?_)
                                            · exact absurd h389 (by omega)
                                            · refine w_ld d_134_392 rfl rfl rfl ?_
                                              refine w_gI d_134_393 (by rfl) (by first | rfl | assumption) (by rfl) (by first | exact n24 | exact n25 | rfl) ?_
                                              refine w_con d_134_396 ?_
                                              refine w_icmp_ne (g := 404) d_134_397 (by decide) (by omega) (fun h397 => ?_) (fun h397 => ?_)
                                              · refine w_con d_134_404 ?_
                                                refine w_st1 (L' := [_, _, _, _, _, _, _, _, _]) d_134_405 rfl (by decide) rfl (by decide) rfl ?_
                                                refine w_ld d_134_407 rfl rfl rfl ?_
                                                refine w_getF d_134_408 (by rfl) (by first | rfl | assumption) (by rfl) (by rfl) ?_
                                                refine w_ld d_134_411 rfl rfl rfl ?_
                                                refine w_ld d_134_413 rfl rfl rfl ?_
                                                refine w_con d_134_414 ?_
                                                refine w_cV1 (a := 46) (as := [_]) (rest := _) rfl d_134_415 (by rfl) (by rfl) (by first | rfl | assumption) (by rfl) (by rfl) (Nat.le_of_ble_eq_true rfl) (by omega) (by omega) (rlν 2 (by decide)) ?_
                                                refine w_i2l d_134_418 (by omega) ?_
                                                refine w_last d_134_419 (by first | rfl | assumption) (by omega) ?_
                                                refine w_goto (g := 525) d_134_420 (by decide) ?_
                                                refine w_ld d_134_525 rfl rfl rfl ?_
                                                refine w_if_ne (g := 535) d_134_527 (by decide) (by decide) (fun h527 => ?_) (fun h527 => ?_)
                                                · exact absurd rfl h527
                                                · refine w_ld d_134_530 rfl rfl rfl ?_
                                                  refine w_ld d_134_531 rfl rfl rfl ?_
                                                  refine w_cV0 (a := 46) (as := [_]) (rest := _) rfl d_134_532 (by rfl) (by rfl) (by first | rfl | assumption) (by rfl) (by rfl) (Nat.le_of_ble_eq_true rfl) (by omega) (by omega) (by have e := m_fail (sc := sc) (fr := fr - 1) (lo := lo - (19 + 2)) (μ := (stA ν 50 (256 + n) ((wl0 (fun i => μ.2.2 57 (μ.1 46 24 + i)) (μ.1 46 25) 2)))) (ρ := ρ) (by rw [show ((stA ν 50 (256 + n) ((wl0 (fun i => μ.2.2 57 (μ.1 46 24 + i)) (μ.1 46 25) 2)))).1 46 16 = -1 from n16]; decide) (k := q); rw [show ((stA ν 50 (256 + n) ((wl0 (fun i => μ.2.2 57 (μ.1 46 24 + i)) (μ.1 46 25) 2)))).1 46 16 = -1 from n16, if_pos (by decide)] at e; exact e) ?_
                                                  have f49 : (stA ν 50 (256 + n) ((wl0 (fun i => μ.2.2 57 (μ.1 46 24 + i)) (μ.1 46 25) 2))).2.2 49 (256 + n) = 7 := (by rw [stA_o2 (by decide)]; exact r49)
                                                  have f50 : (stA ν 50 (256 + n) ((wl0 (fun i => μ.2.2 57 (μ.1 46 24 + i)) (μ.1 46 25) 2))).2.2 50 (256 + n) = (wl0 (fun i => μ.2.2 57 (μ.1 46 24 + i)) (μ.1 46 25) 2) := (stA_at _ _ _ _)
                                                  have f51 : (stA ν 50 (256 + n) ((wl0 (fun i => μ.2.2 57 (μ.1 46 24 + i)) (μ.1 46 25) 2))).2.2 51 (256 + n) = 0 := (by rw [stA_o2 (by decide)]; exact r51)
                                                  have f52 : (stA ν 50 (256 + n) ((wl0 (fun i => μ.2.2 57 (μ.1 46 24 + i)) (μ.1 46 25) 2))).2.2 52 (256 + n) = 0 := (by rw [stA_o2 (by decide)]; exact r52)
                                                  have f53 : (stA ν 50 (256 + n) ((wl0 (fun i => μ.2.2 57 (μ.1 46 24 + i)) (μ.1 46 25) 2))).2.2 53 (256 + n) = 0 := (by rw [stA_o2 (by decide)]; exact r53)
                                                  have f55 : (stA ν 50 (256 + n) ((wl0 (fun i => μ.2.2 57 (μ.1 46 24 + i)) (μ.1 46 25) 2))).2.2 55 (256 + n) = q := (by rw [stA_o2 (by decide)]; exact r55)
                                                  have f56 : (stA ν 50 (256 + n) ((wl0 (fun i => μ.2.2 57 (μ.1 46 24 + i)) (μ.1 46 25) 2))).2.2 56 (256 + n) = -1 := (by rw [stA_o2 (by decide)]; exact r56)
                                                  have fk : mk1 μ (stA ν 50 (256 + n) ((wl0 (fun i => μ.2.2 57 (μ.1 46 24 + i)) (μ.1 46 25) 2))) n := (mk1_A hk1 (by decide) rfl)
                                                  refine w_ld d_134_535 rfl rfl rfl ?_
                                                  refine w_ld d_134_536 rfl rfl rfl ?_
                                                  refine w_cVm (a := 46) (as := [_]) (rest := _) rfl d_134_538 (by rfl) (by rfl) rfl (by rfl) (by rfl) (Nat.le_of_ble_eq_true rfl) (by omega) (by omega) (m_finish (mk1_I fk (q := 16) (x := q) (by decide)) (MI_16 hM q) ⟨hn.1, by omega⟩ f56 f53 (show 0 ≤ (stA ν 50 (256 + n) ((wl0 (fun i => μ.2.2 57 (μ.1 46 24 + i)) (μ.1 46 25) 2))).2.2 49 (256 + n) ∧ (stA ν 50 (256 + n) ((wl0 (fun i => μ.2.2 57 (μ.1 46 24 + i)) (μ.1 46 25) 2))).2.2 49 (256 + n) ≤ 12 by rw [f49]; decide) (show _ ≤ (stA ν 50 (256 + n) ((wl0 (fun i => μ.2.2 57 (μ.1 46 24 + i)) (μ.1 46 25) 2))).2.2 50 (256 + n) ∧ (stA ν 50 (256 + n) ((wl0 (fun i => μ.2.2 57 (μ.1 46 24 + i)) (μ.1 46 25) 2))).2.2 50 (256 + n) < _ by rw [f50]; omega) (show (0 ≤ (stA ν 50 (256 + n) ((wl0 (fun i => μ.2.2 57 (μ.1 46 24 + i)) (μ.1 46 25) 2))).2.2 52 (256 + n) ∧ (stA ν 50 (256 + n) ((wl0 (fun i => μ.2.2 57 (μ.1 46 24 + i)) (μ.1 46 25) 2))).2.2 52 (256 + n) ≤ 240) ∧ ((stA ν 50 (256 + n) ((wl0 (fun i => μ.2.2 57 (μ.1 46 24 + i)) (μ.1 46 25) 2))).2.2 52 (256 + n) = 0 ∨ 0 ≤ (stA ν 50 (256 + n) ((wl0 (fun i => μ.2.2 57 (μ.1 46 24 + i)) (μ.1 46 25) 2))).2.2 51 (256 + n) ∧ (stA ν 50 (256 + n) ((wl0 (fun i => μ.2.2 57 (μ.1 46 24 + i)) (μ.1 46 25) 2))).2.2 51 (256 + n) + (stA ν 50 (256 + n) ((wl0 (fun i => μ.2.2 57 (μ.1 46 24 + i)) (μ.1 46 25) 2))).2.2 52 (256 + n) ≤ 720) by rw [f51, f52]; omega) (by omega) (by omega)) (fun μ' hm => ?_)
                                                  refine w_ret d_134_541 rfl ?_
                                                  have hmn : (mn (fun i => μ.2.2 57 (μ.1 46 24 + i)) (μ.1 46 25)) = none := by
                                                    unfold mn
                                                    rw [if_neg (by omega), if_neg (by omega), if_neg (by omega), if_neg (by omega), if_neg (by omega), if_neg (by omega), if_neg (by omega), if_neg (by omega), if_neg (by omega), if_pos (by omega), if_neg (by omega)]
                                                  exact ⟨μ', rfl, mmP_none hmn (fin_bad (m := 0) hn.2.1 hpl hm.1 hm.2.1), rfl⟩
                                              · refine w_con d_134_400 ?_
                                                refine w_goto (g := 405) d_134_401 (by decide) ?_
                                                refine w_st1 (L' := [_, _, _, _, _, _, _, _, _]) d_134_405 rfl (by decide) rfl (by decide) rfl ?_
                                                refine w_ld d_134_407 rfl rfl rfl ?_
                                                refine w_getF d_134_408 (by rfl) (by first | rfl | assumption) (by rfl) (by rfl) ?_
                                                refine w_ld d_134_411 rfl rfl rfl ?_
                                                refine w_ld d_134_413 rfl rfl rfl ?_
                                                refine w_con d_134_414 ?_
                                                refine w_cV1 (a := 46) (as := [_]) (rest := _) rfl d_134_415 (by rfl) (by rfl) (by first | rfl | assumption) (by rfl) (by rfl) (Nat.le_of_ble_eq_true rfl) (by omega) (by omega) (rlν 2 (by decide)) ?_
                                                refine w_i2l d_134_418 (by omega) ?_
                                                refine w_last d_134_419 (by first | rfl | assumption) (by omega) ?_
                                                refine w_goto (g := 525) d_134_420 (by decide) ?_
                                                refine w_ld d_134_525 rfl rfl rfl ?_
                                                refine w_if_ne (g := 535) d_134_527 (by decide) (by decide) (fun h527 => ?_) (fun h527 => ?_)
                                                · have f49 : (stA ν 50 (256 + n) ((wl0 (fun i => μ.2.2 57 (μ.1 46 24 + i)) (μ.1 46 25) 2))).2.2 49 (256 + n) = 7 := (by rw [stA_o2 (by decide)]; exact r49)
                                                  have f50 : (stA ν 50 (256 + n) ((wl0 (fun i => μ.2.2 57 (μ.1 46 24 + i)) (μ.1 46 25) 2))).2.2 50 (256 + n) = (wl0 (fun i => μ.2.2 57 (μ.1 46 24 + i)) (μ.1 46 25) 2) := (stA_at _ _ _ _)
                                                  have f51 : (stA ν 50 (256 + n) ((wl0 (fun i => μ.2.2 57 (μ.1 46 24 + i)) (μ.1 46 25) 2))).2.2 51 (256 + n) = 0 := (by rw [stA_o2 (by decide)]; exact r51)
                                                  have f52 : (stA ν 50 (256 + n) ((wl0 (fun i => μ.2.2 57 (μ.1 46 24 + i)) (μ.1 46 25) 2))).2.2 52 (256 + n) = 0 := (by rw [stA_o2 (by decide)]; exact r52)
                                                  have f53 : (stA ν 50 (256 + n) ((wl0 (fun i => μ.2.2 57 (μ.1 46 24 + i)) (μ.1 46 25) 2))).2.2 53 (256 + n) = 0 := (by rw [stA_o2 (by decide)]; exact r53)
                                                  have f55 : (stA ν 50 (256 + n) ((wl0 (fun i => μ.2.2 57 (μ.1 46 24 + i)) (μ.1 46 25) 2))).2.2 55 (256 + n) = q := (by rw [stA_o2 (by decide)]; exact r55)
                                                  have f56 : (stA ν 50 (256 + n) ((wl0 (fun i => μ.2.2 57 (μ.1 46 24 + i)) (μ.1 46 25) 2))).2.2 56 (256 + n) = -1 := (by rw [stA_o2 (by decide)]; exact r56)
                                                  have fk : mk1 μ (stA ν 50 (256 + n) ((wl0 (fun i => μ.2.2 57 (μ.1 46 24 + i)) (μ.1 46 25) 2))) n := (mk1_A hk1 (by decide) rfl)
                                                  refine w_ld d_134_535 rfl rfl rfl ?_
                                                  refine w_ld d_134_536 rfl rfl rfl ?_
                                                  refine w_cVm (a := 46) (as := [_]) (rest := _) rfl d_134_538 (by rfl) (by rfl) rfl (by rfl) (by rfl) (Nat.le_of_ble_eq_true rfl) (by omega) (by omega) (m_finish fk hM ⟨hn.1, by omega⟩ f56 f53 (by rw [f49]; decide) (by rw [f50]; omega) (by rw [f51, f52]; omega) (by omega) (by omega)) (fun μ' hm => ?_)
                                                  refine w_ret d_134_541 rfl ?_
                                                  have hmn : (mn (fun i => μ.2.2 57 (μ.1 46 24 + i)) (μ.1 46 25)) = some (7, (wl (fun i => μ.2.2 57 (μ.1 46 24 + i)) (μ.1 46 25) 2), 0, 0) := by
                                                    unfold mn
                                                    rw [if_neg (by omega), if_neg (by omega), if_neg (by omega), if_neg (by omega), if_neg (by omega), if_neg (by omega), if_neg (by omega), if_neg (by omega), if_neg (by omega), if_pos (by omega), if_pos (by omega)]
                                                  exact ⟨μ', rfl, mmP_some hmn (by decide) (fin_ok hm ⟨f49, f50.trans (by omega), Or.inl rfl, f52, f53, f55⟩), rfl⟩
                                                · exact absurd h527 (by decide)
                                          · exact absurd h350 (by omega)
                                      · exact absurd h327 (by omega)
                                  · exact absurd h255 (by omega)
                                · exact absurd h242 (by omega)
                            · exact absurd h200 (by omega)
                          · exact absurd h190 (by omega)
                        · exact absurd h180 (by omega)
                      · exact absurd h170 (by omega)
                    · exact absurd h160 (by omega)
                  · exact absurd h150 (by omega)
                · exact absurd h118 (by omega)
  · exact absurd hc h30
