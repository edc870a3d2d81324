/-! THE PURE PART, 81: contracts: contents, arrays, elements -/
theorem EP_none {sc : Nat × (Nat → Int32)} {t x : Nat} {d key : Int} {e : Nat} {μ : Mem} {ρ : Nat × Nat × Nat} {v : Option Value} {τ : z_T} (h : EP sc t x d key e μ ρ (.inl v) τ) : v = none := by
  rcases h with ⟨h, _⟩ | ⟨h, _⟩
  · exact Sum.inl.inj h
  · cases h
theorem spl_tgk {t k : Nat} {μ : Mem} : (μ.1 20 9 - 2 = slen k ∧ ∀ j, 0 ≤ j → j < μ.1 20 9 - 2 → μ.2.2 (t + 7 + 1) (μ.1 20 8 + 2 + j) = sch k j) ↔ tgk (fun i => μ.2.2 (t + 7 + 1) (μ.1 20 8 + i)) (μ.1 20 9) k := by
  unfold tgk
  constructor
  · rintro ⟨h1, h2⟩
    refine ⟨by omega, fun j j0 j1 => ?_⟩
    have := h2 j j0 (by omega)
    rw [Int.add_assoc] at this
    exact this
  · rintro ⟨h1, h2⟩
    refine ⟨by omega, fun j j0 j1 => ?_⟩
    rw [Int.add_assoc]
    exact h2 j j0 (by omega)
theorem mn_G {t : Nat} {μ : Mem} (h : isG t μ) : mn (fun i => μ.2.2 (t + 7 + 1) (μ.1 20 8 + i)) (μ.1 20 9) = none := by
  unfold mn
  rw [h.1, h.2]
  rfl
theorem ctM3 {t x : Nat} {top s : Int} {μ : Mem} : ctM t x top (μ.2.2 (t + 1) top) s μ = stA (stI μ 20 5 (cpl x μ + 1)) 25 top s := by
  unfold ctM
  have := stA_self (stI μ 20 5 (cpl x μ + 1)) (t + 1) top
  rw [show (stI μ 20 5 (cpl x μ + 1)).2.2 (t + 1) top = μ.2.2 (t + 1) top from rfl] at this
  rw [this]
/-- requireArray, either way -/
theorem t_rqS {sc : Nat × (Nat → Int32)} {fr lo : Nat} {μ : Mem} {ρ : Nat × Nat × Nat} {t : Nat} (hT : isT t) (ht : μ.2.1 20 4 = .ref t) {top kd : Int} (h0 : 0 ≤ top ∧ top < 240) (hP : 0 ≤ μ.2.2 (t + 5) top ∧ μ.2.2 (t + 5) top ≤ 240) (hk0 : 0 ≤ μ.2.2 (t + 1) top ∧ μ.2.2 (t + 1) top ≤ 12) (hkd : 0 ≤ kd ∧ kd ≤ 12) (hf : 8 ≤ fr) (hl : 200 ≤ lo) (hr : 1 ≤ ρ.2.1 ∧ 6 ≤ ρ.2.2) : w_S sc fr lo 57 [.ref 20, .int (ji top), .int (ji kd)] (hp μ, ρ) (fun o τ => (o = .inl none ∧ (μ.2.2 (t + 1) top = 8 ∧ (kd = 11 → μ.2.2 (t + 5) top % 2 = 0)) ∧ τ = (hp μ, ρ)) ∨ (o = .inr (1, ρ.1) ∧ (μ.2.2 (t + 1) top ≠ 8 ∨ kd = 11 ∧ μ.2.2 (t + 5) top % 2 = 1) ∧ τ = (hp (stI μ 20 6 (μ.2.2 25 top)), ρ.1 + 1, ρ.2.1 - 1, ρ.2.2 - 6))) := by
  by_cases h : μ.2.2 (t + 1) top ≠ 8 ∨ kd = 11 ∧ μ.2.2 (t + 5) top % 2 = 1
  · refine (t_rqax hT ht h0 hP hk0 hkd h hf hl hr).mono ?_
    rintro o τ ⟨rfl, rfl⟩
    exact Or.inr ⟨rfl, h, rfl⟩
  · have h' : μ.2.2 (t + 1) top = 8 ∧ (kd = 11 → μ.2.2 (t + 5) top % 2 = 0) := by omega
    refine (t_rqa hT ht h0 hP hk0 hkd h').mono ?_
    rintro o τ ⟨rfl, rfl⟩
    exact Or.inl ⟨rfl, h', rfl⟩
/-- refuseTwins behind a tag -/
theorem t_twC {sc : Nat × (Nat → Int32)} {fr lo : Nat} {μ0 μ : Mem} {ρ : Nat × Nat × Nat} {t x e : Nat} {d key top kd m s : Int} (hT : isT t) (hX : x = 42 ∨ x = 44) (h : AC sc t x d key (e + 1) top m s μ0 μ) (h0 : μ0.1 t 7 = top) (hG : GL μ0) (hd : 0 ≤ d ∧ d ≤ 7) (he : e ≤ 9) (hs : 0 ≤ s ∧ s ≤ 240) (hc : cch x μ = 93) (h8 : μ.2.2 (t + 1) top = 8) (hm : m = 4 ∧ kd = 10 ∨ m = 6 ∧ kd = 11 ∧ μ.2.2 (t + 5) top % 2 = 0) (hf : 30 ≤ fr) (hl : 1000 ≤ lo) (hr : 1 ≤ ρ.2.1 ∧ 6 ≤ ρ.2.2) : w_S sc fr lo 51 [.ref 20, .int (ji top)] (hp (stA (stI μ 20 5 (cpl x μ + 1)) (t + 1) top kd), ρ) (fun o τ => (o = .inl none ∧ EG sc t x d key (e + 2) μ0 (ctM t x top kd s μ) ∧ τ = (hp (stA (stI μ 20 5 (cpl x μ + 1)) (t + 1) top kd), ρ)) ∨ (o = .inr (1, ρ.1) ∧ ∃ μ' w, EB sc t x d key μ0 μ' w ∧ τ = (hp μ', ρ.1 + 1, ρ.2.1 - 1, ρ.2.2 - 6))) := by
  have h1 := h.1
  have h3 := h.2.2.1
  have h4 := h.2.2.2.1
  have hcp := cpl_in h1
  have hsz := h1.2.1
  have hpl := h1.2.2.2.2.1
  have hlt := cch_lt hc (by decide)
  have hCp := CI_mv hT hX h1 (p := cpl x μ + 1) (by omega) (by omega)
  have e7 : (stI μ 20 5 (cpl x μ + 1)).1 t 7 = μ.1 t 7 := stI_ne (by unfold isT at hT; omega)
  have hGp : GV t (e + 1) top (stI μ 20 5 (cpl x μ + 1)) := GV_mv h3 e7 (stI_ne (by unfold isT at hT; omega)) rfl
  obtain ⟨c1, c2, c3, c4, c5⟩ := kind_rows hT hX hCp hGp (kd := kd) (by rw [e7]; omega) (by omega)
  have e5 : (stA (stI μ 20 5 (cpl x μ + 1)) (t + 1) top kd).2.2 (t + 5) top = μ.2.2 (t + 5) top := stA_ne (by omega)
  have e1 : (stA (stI μ 20 5 (cpl x μ + 1)) (t + 1) top kd).2.2 (t + 1) top = kd := stA_at _ _ _ _
  have hGc : GL (stA (stI μ 20 5 (cpl x μ + 1)) (t + 1) top kd) := GL_of hT hG (cfr_trans (cfr_trans h.2.1.1 (cfr_I (Or.inl rfl))) (cfr_A (by omega))) c1
  have rt := h3.2.1.2 top (Int.le_refl _) h3.1
  have hpr : ∀ n : Nat, (n : Int) < μ.2.2 (t + 5) top → top < pt (vT μ t) top n ∧ pt (vT μ t) top n < μ.1 t 7 := fun n hn => by
    have q := rt.2.2.2.2.2 n hn
    have q2 := rt.2.2.2.1.2.1
    omega
  rw [e7] at c3 c5
  rcases hm with ⟨hm, hk⟩ | ⟨hm, hk, hev⟩
  · refine (t_twins1 hT c1.1.2 c2 (by rw [e7]; exact h3.1) (fun k k1 k2 => c3 k k1 (by rw [e7] at k2; exact k2)) hGc (by rw [e1]; omega) hf hl hr).mono ?_
    rintro o τ (⟨rfl, hno, rfl⟩ | ⟨rfl, k, hk1, hk2, hk3, rfl⟩)
    · refine Or.inl ⟨rfl, AC_fin hT hX h h0 hd he hs hc (Or.inr ⟨h8, Or.inl ⟨hm, hk, fun n m' nm hm' z => ?_⟩⟩), rfl⟩
      have q1 := hpr n (by omega)
      have q2 := hpr m' hm'
      refine hno n m' nm (by rw [e5, Nat.one_mul]; exact hm') ?_
      rw [Nat.one_mul, Nat.one_mul, c4, c4]
      exact (c5 _ _ q1.1 q1.2 q2.1 q2.2).mp z
    · rw [e5] at hk1
      exact Or.inr ⟨rfl, _, _, AC_X2 (sN := 1) hT hX h hd hc h8 (by omega) (Or.inl ⟨hm, rfl⟩) hk1 hk2 hk3, rfl⟩
  · refine (t_twins2 hT c1.1.2 c2 (by rw [e7]; exact h3.1) (fun k k1 k2 => c3 k k1 (by rw [e7] at k2; exact k2)) hGc (by rw [e1]; omega) (by rw [e5]; exact hev) hf hl hr).mono ?_
    rintro o τ (⟨rfl, hno, rfl⟩ | ⟨rfl, k, hk1, hk2, hk3, rfl⟩)
    · refine Or.inl ⟨rfl, AC_fin hT hX h h0 hd he hs hc (Or.inr ⟨h8, Or.inr (Or.inr ⟨hm, hk, hev, fun n m' nm hm' z => ?_⟩)⟩), rfl⟩
      have q1 := hpr (2 * n) (by omega)
      have q2 := hpr (2 * m') (by omega)
      refine hno n m' nm (by rw [e5]; omega) ?_
      rw [c4, c4]
      exact (c5 _ _ q1.1 q1.2 q2.1 q2.2).mp z
    · rw [e5] at hk1
      exact Or.inr ⟨rfl, _, _, AC_X2 (sN := 2) hT hX h hd hc h8 (by omega) (Or.inr ⟨hm, rfl, hev⟩) hk1 hk2 hk3, rfl⟩
theorem t_content {sc : Nat × (Nat → Int32)} {fr lo : Nat} {μ : Mem} {ρ : Nat × Nat × Nat} {t x : Nat} (hT : isT t) (hX : x = 42 ∨ x = 44) {d key top : Int} {e : Nat} {μ0 : Mem} (h0 : μ0.1 t 7 = top) (hd : 0 ≤ d ∧ d ≤ 7) (he : e + 1 ≤ 9) (hG : GL μ0) {fe le : Nat} (hE : ElC sc t x (d + 1) (e + 1) fe le) (hf : fe + 60 ≤ fr) (hl : le + 1400 ≤ lo) (hr : 1 ≤ ρ.2.1 ∧ 6 ≤ ρ.2.2) {μa : Mem} (hA0 : A0 sc t x d key (e + 1) top μ0 μa) (ht0 : 0 ≤ top ∧ top ≤ 123) (hc0 : cch x μa = 34) (hW : WDc t x μa μ) (hS : SimW sc t x (d + 1) 0 μa μ) (hGt : isG t μ) (h2 : 2 < μ.1 20 9) : w_S sc fr lo 53 [.ref 20, .int (ji top), .int (ji d)] (hp μ, ρ) (EP sc t x d key (e + 2) μ0 ρ) := by
  obtain ⟨hT0, hT1, hT2, hT3, hT4, hT5, hT6, hT7, hT8⟩ := hT.sh
  have hT9 : t = 2 ∨ t = 11 ∨ t = 26 := hT
  have hC := hW.1
  have hu := hC.2.2.2.2.2.1
  have hpl := hC.2.2.2.2.1
  have hsz := hC.2.1
  have hw8 := hW.2.2.2.2.2.2.2.1
  have htt := hC.1.2
  have hst0 : 0 ≤ μ.2.2 25 top ∧ μ.2.2 25 top ≤ 240 := by
    rw [hW.2.2.1 25 (Or.inr rfl)]
    exact hA0.2.2.1.2.2.2.2.2.2.2
  refine w_S.of (L0 := [some (.ref 20), some (.int (ji top)), some (.int (ji d)), none, none, none, none]) rfl rfl (Nat.le_of_ble_eq_true rfl) (by rfl) ?_
  refine w_ld d_53_0 rfl rfl rfl ?_
  refine w_gI d_53_1 (by rfl) (by first | rfl | assumption) (by rfl) (by (try simp only [Nat.reduceAdd]) <;> rfl) ?_
  refine w_con d_53_4 ?_
  refine w_iadd d_53_5 ?_
  refine w_st1 (L' := [_, _, _, _, _, _, _]) d_53_6 rfl (by decide) rfl (by decide) rfl ?_
  refine w_ld d_53_7 rfl rfl rfl ?_
  refine w_gI d_53_8 (by rfl) (by first | rfl | assumption) (by rfl) (by (try simp only [Nat.reduceAdd]) <;> rfl) ?_
  refine w_con d_53_11 ?_
  refine w_isub d_53_12 ?_
  refine w_st1 (L' := [_, _, _, _, _, _, _]) d_53_13 rfl (by decide) rfl (by decide) rfl ?_
  refine w_ld d_53_15 rfl rfl rfl ?_
  refine w_ld d_53_16 rfl rfl rfl ?_
  refine w_ld d_53_17 rfl rfl rfl ?_
  refine w_cVr (as := [_, _]) (rest := _) rfl d_53_19 (by rfl) (by rfl) (by first | rfl | assumption) (by rfl) (by rfl) (Nat.le_of_ble_eq_true rfl) (by omega) (by omega) (t_kot hT htt (by omega) (by omega) hC.2.2.2.2.2.2.1 (by omega) (by omega)) (fun r hkt => ?_)
  refine w_st1 (L' := [_, _, _, _, _, _, _]) d_53_22 rfl (by decide) rfl (by decide) rfl ?_
  refine w_ld d_53_24 rfl rfl rfl ?_
  refine w_getF d_53_25 (by rfl) (by first | rfl | assumption) (by rfl) (by rfl) ?_
  refine w_ld d_53_28 rfl rfl rfl ?_
  refine w_aI d_53_29 (by first | rfl | assumption) (by omega) (by (try simp only [Nat.reduceAdd]) <;> rfl) ?_
  refine w_st1 (L' := [_, _, _, _, _, _, _]) d_53_30 rfl (by decide) rfl (by decide) rfl ?_
  refine w_ld d_53_32 rfl rfl rfl ?_
  refine w_bip d_53_34 (by decide) ?_
  refine w_icmp_ne (g := 53) d_53_36 (by decide) (by rcases hkt with z | z | z | z | z <;> omega) (fun h36 => ?_) (fun h36 => ?_)
  · refine w_ld d_53_53 rfl rfl rfl ?_
    refine w_getR d_53_54 (by rfl) (by first | rfl | assumption) (by rfl) htt ?_
    refine w_ld d_53_57 rfl rfl rfl ?_
    refine w_cV0 (as := [_]) (rest := _) rfl d_53_58 (by rfl) (by rfl) (by first | rfl | assumption) (by rfl) (by rfl) (Nat.le_of_ble_eq_true rfl) (by omega) (by omega) (t_tcut hT) ?_
    obtain ⟨m, hm, hA1⟩ : ∃ m, (r = -1 ∧ m = 3 ∨ r = 10 ∧ m = 4 ∨ r = 9 ∧ m = 5 ∨ r = 11 ∧ m = 6) ∧ AD sc t x d key top m (μ.2.2 25 top) μ0 (stI μ t 7 top) := by
      rcases hkt with ⟨z, y⟩ | ⟨z, n1, y⟩ | ⟨z, n1, n2, y⟩ | ⟨z, n1, n2, n3, y⟩ | ⟨z, _⟩
      · exact ⟨3, by omega, A0_drop hT hX hA0 hd (by omega) hc0 hW hS hGt h2 (k := 1) (Or.inl ⟨rfl, rfl⟩) (spl_tgk.mp y) (fun i i1 i2 => by omega)⟩
      · exact ⟨4, by omega, A0_drop hT hX hA0 hd (by omega) hc0 hW hS hGt h2 (k := 2) (Or.inr (Or.inl ⟨rfl, rfl⟩)) (spl_tgk.mp y) (fun i i1 i2 => by
          obtain rfl : i = 1 := by omega
          exact fun w => n1 (spl_tgk.mpr w))⟩
      · exact ⟨5, by omega, A0_drop hT hX hA0 hd (by omega) hc0 hW hS hGt h2 (k := 3) (Or.inr (Or.inr (Or.inl ⟨rfl, rfl⟩))) (spl_tgk.mp y) (fun i i1 i2 => by
          rcases (show i = 1 ∨ i = 2 by omega) with rfl | rfl
          · exact fun w => n1 (spl_tgk.mpr w)
          · exact fun w => n2 (spl_tgk.mpr w))⟩
      · exact ⟨6, by omega, A0_drop hT hX hA0 hd (by omega) hc0 hW hS hGt h2 (k := 4) (Or.inr (Or.inr (Or.inr ⟨rfl, rfl⟩))) (spl_tgk.mp y) (fun i i1 i2 => by
          rcases (show i = 1 ∨ i = 2 ∨ i = 3 by omega) with rfl | rfl | rfl
          · exact fun w => n1 (spl_tgk.mpr w)
          · exact fun w => n2 (spl_tgk.mpr w)
          · exact fun w => n3 (spl_tgk.mpr w))⟩
      · omega
    refine w_ld d_53_61 rfl rfl rfl ?_
    refine w_cV0 (as := []) (rest := _) rfl d_53_62 (by rfl) (by rfl) (by first | rfl | assumption) (by rfl) (by rfl) (Nat.le_of_ble_eq_true rfl) (by omega) (by omega) (t_skp hX hA1.1 (by omega) (by omega)) ?_
    refine w_ld d_53_65 rfl rfl rfl ?_
    refine w_bip d_53_66 (by decide) ?_
    refine w_cVq (as := [_]) (rest := _) rfl d_53_68 (by rfl) (by rfl) (by first | rfl | assumption) (by rfl) (by rfl) (Nat.le_of_ble_eq_true rfl) (by omega) (by omega) (t_expS hT hX hA1.1 (c := 44) (by decide) (by omega) (by omega) hr) ?_ ?_
    rotate_left
    · rintro r τ (⟨hv, _⟩ | ⟨hv, hc1, rfl⟩)
      · cases hv
      · obtain rfl := Sum.inr.inj hv
        exact EP_bad (AD_sepX hT hX hA1 hd (by omega) hc1)
    rintro v τ (⟨hv, hcc1, rfl⟩ | ⟨hv, _⟩)
    rotate_left
    · cases hv
    obtain rfl := Sum.inl.inj hv
    have hlt1 := cch_lt hcc1 (by decide)
    have hCq1 := CI_mv hT hX hA1.1 (p := cpl x (stI μ t 7 top) + 1) (by have := cpl_in hA1.1; omega) (by omega)
    have hGq1 : GL (stI (stI μ t 7 top) 20 5 (cpl x (stI μ t 7 top) + 1)) := GL_of hT hG (cfr_trans hA1.2.1.1 (cfr_I (Or.inl rfl))) hCq1
    have hcpq1 := cpl_in hA1.1
    have e7q1 : (stI (stI μ t 7 top) 20 5 (cpl x (stI μ t 7 top) + 1)).1 t 7 = (stI μ t 7 top).1 t 7 := stI_ne (by omega)
    have hn1 := hA1.2.2.1
    refine w_ld d_53_71 rfl rfl rfl ?_
    refine w_con d_53_72 ?_
    refine w_ld d_53_73 rfl rfl rfl ?_
    refine w_con d_53_74 ?_
    refine w_iadd d_53_75 ?_
    refine w_cVq (as := [_, _]) (rest := _) rfl d_53_76 (by rfl) (by rfl) (by first | rfl | assumption) (by rfl) (by rfl) (Nat.le_of_ble_eq_true rfl) (by omega) (by omega) (hE _ _ _ ρ 0 (by omega) (by omega) hCq1 hGq1 (by decide) (by rw [e7q1, show (stI (stI μ t 7 top) 20 5 (cpl x (stI μ t 7 top) + 1)).1 20 5 = cpl x (stI μ t 7 top) + 1 from stI_at _ _ _ _]; omega) hr) ?_ ?_
    rotate_left
    · rintro r τ (⟨hv, _⟩ | ⟨hv, μ9, w9, rfl, hb9⟩)
      · cases hv
      · obtain rfl := Sum.inr.inj hv
        exact EP_bad (AD_elemX hT hX hA1 hd (by omega) hcc1 hb9)
    rintro v τ (⟨hv, μ2, rfl, hg2⟩ | ⟨hv, _⟩)
    rotate_left
    · cases hv
    obtain rfl := Sum.inl.inj hv
    have hA2 := AD_elem hT hX hA1 (by omega) hd (by omega) hcc1 hg2
    have hrt := hA2.2.2.1.2.1.2 top (Int.le_refl _) hA2.2.2.1.1
    refine w_ld d_53_79 rfl rfl rfl ?_
    refine w_cV0 (as := []) (rest := _) rfl d_53_80 (by rfl) (by rfl) (by first | rfl | assumption) (by rfl) (by rfl) (Nat.le_of_ble_eq_true rfl) (by omega) (by omega) (t_skp hX hA2.1 (by omega) (by omega)) ?_
    refine w_ld d_53_83 rfl rfl rfl ?_
    refine w_bip d_53_84 (by decide) ?_
    refine w_cVq (as := [_]) (rest := _) rfl d_53_86 (by rfl) (by rfl) (by first | rfl | assumption) (by rfl) (by rfl) (Nat.le_of_ble_eq_true rfl) (by omega) (by omega) (t_expS hT hX hA2.1 (c := 93) (by decide) (by omega) (by omega) hr) ?_ ?_
    rotate_left
    · rintro r τ (⟨hv, _⟩ | ⟨hv, hc1, rfl⟩)
      · cases hv
      · obtain rfl := Sum.inr.inj hv
        exact EP_bad (AC_sepX hT hX hA2 hd (by omega) hc1)
    rintro v τ (⟨hv, hcc2, rfl⟩ | ⟨hv, _⟩)
    rotate_left
    · cases hv
    obtain rfl := Sum.inl.inj hv
    have hlt2 := cch_lt hcc2 (by decide)
    have hCq2 := CI_mv hT hX hA2.1 (p := cpl x μ2 + 1) (by have := cpl_in hA2.1; omega) (by omega)
    have hGq2 : GL (stI μ2 20 5 (cpl x μ2 + 1)) := GL_of hT hG (cfr_trans hA2.2.1.1 (cfr_I (Or.inl rfl))) hCq2
    have hcpq2 := cpl_in hA2.1
    have e7q2 : (stI μ2 20 5 (cpl x μ2 + 1)).1 t 7 = μ2.1 t 7 := stI_ne (by omega)
    refine w_ld d_53_89 rfl rfl rfl ?_
    refine w_bip d_53_91 (by decide) ?_
    refine w_icmp_ne (g := 110) d_53_93 (by decide) (by omega) (fun h93 => ?_) (fun h93 => ?_)
    · refine w_ld d_53_110 rfl rfl rfl ?_
      refine w_con d_53_112 ?_
      refine w_icmp_eq (g := 146) d_53_113 (by decide) (by omega) (fun h113 => ?_) (fun h113 => ?_)
      · refine w_ld d_53_146 rfl rfl rfl ?_
        refine w_getF d_53_147 (by rfl) (by first | rfl | assumption) (by rfl) (by rfl) ?_
        refine w_ld d_53_150 rfl rfl rfl ?_
        refine w_ld d_53_151 rfl rfl rfl ?_
        refine w_iast d_53_153 (by first | rfl | assumption) (by omega) ?_
        refine w_ret d_53_154 rfl ?_
        have hgo := AC_fin (kd := μ2.2.2 (t + 1) top) hT hX hA2 h0 hd (by omega) hst0 hcc2 (Or.inl ⟨by omega, rfl⟩)
        rw [ctM3] at hgo
        exact EP_ok hgo
      · refine w_ld d_53_116 rfl rfl rfl ?_
        refine w_ld d_53_117 rfl rfl rfl ?_
        refine w_ld d_53_118 rfl rfl rfl ?_
        refine w_cVq (as := [_, _]) (rest := _) rfl d_53_120 (by rfl) (by rfl) (by first | rfl | assumption) (by rfl) (by rfl) (Nat.le_of_ble_eq_true rfl) (by omega) (by omega) (t_rqS (μ := stI μ2 20 5 (cpl x μ2 + 1)) hT hCq2.1.2 (by omega) hrt.2.2.1 hrt.1 (by omega) (by omega) (by omega) hr) ?_ ?_
        rotate_left
        · rintro r0 τ (⟨hv, _⟩ | ⟨hv, hbad, rfl⟩)
          · cases hv
          · obtain rfl := Sum.inr.inj hv
            have hbad : μ2.2.2 (t + 1) top ≠ 8 ∨ r = 11 ∧ μ2.2.2 (t + 5) top % 2 = 1 := hbad
            exact EP_bad (AC_X1 hT hX hA2 hd hcc2 (by omega))
        rintro v τ (⟨hv, hok, rfl⟩ | ⟨hv, _⟩)
        rotate_left
        · cases hv
        obtain rfl := Sum.inl.inj hv
        obtain ⟨hok8, hok11⟩ : μ2.2.2 (t + 1) top = 8 ∧ (r = 11 → μ2.2.2 (t + 5) top % 2 = 0) := hok
        refine w_ld d_53_123 rfl rfl rfl ?_
        refine w_getR d_53_124 (by rfl) (by first | rfl | assumption) (by rfl) (hCq2.1.2) ?_
        refine w_getF d_53_127 (by rfl) (by first | rfl | assumption) (by rfl) (by rfl) ?_
        refine w_ld d_53_130 rfl rfl rfl ?_
        refine w_ld d_53_131 rfl rfl rfl ?_
        refine w_iast d_53_133 (by first | rfl | assumption) (by omega) ?_
        refine w_ld d_53_134 rfl rfl rfl ?_
        refine w_bip d_53_136 (by decide) ?_
        refine w_icmp_eq (g := 146) d_53_138 (by decide) (by omega) (fun h138 => ?_) (fun h138 => ?_)
        · refine w_ld d_53_146 rfl rfl rfl ?_
          refine w_getF d_53_147 (by rfl) (by first | rfl | assumption) (by rfl) (by rfl) ?_
          refine w_ld d_53_150 rfl rfl rfl ?_
          refine w_ld d_53_151 rfl rfl rfl ?_
          refine w_iast d_53_153 (by first | rfl | assumption) (by omega) ?_
          refine w_ret d_53_154 rfl ?_
          exact EP_ok (AC_fin (kd := r) hT hX hA2 h0 hd (by omega) hst0 hcc2 (Or.inr ⟨hok8, Or.inr (Or.inl ⟨by omega, by omega⟩)⟩))
        · refine w_ld d_53_141 rfl rfl rfl ?_
          refine w_ld d_53_142 rfl rfl rfl ?_
          refine w_cVq (as := [_]) (rest := _) rfl d_53_143 (by rfl) (by rfl) (by first | rfl | assumption) (by rfl) (by rfl) (Nat.le_of_ble_eq_true rfl) (by omega) (by omega) (t_twC hT hX hA2 h0 hG hd (by omega) hst0 hcc2 hok8 (by omega) (by omega) (by omega) hr) ?_ ?_
          rotate_left
          · rintro r0 τ (⟨hv, _⟩ | ⟨hv, μ9, w9, hb9, rfl⟩)
            · cases hv
            · obtain rfl := Sum.inr.inj hv
              exact EP_bad hb9
          rintro v τ (⟨hv, hgo, rfl⟩ | ⟨hv, _⟩)
          rotate_left
          · cases hv
          obtain rfl := Sum.inl.inj hv
          refine w_ld d_53_146 rfl rfl rfl ?_
          refine w_getF d_53_147 (by rfl) (by first | rfl | assumption) (by rfl) (by rfl) ?_
          refine w_ld d_53_150 rfl rfl rfl ?_
          refine w_ld d_53_151 rfl rfl rfl ?_
          refine w_iast d_53_153 (by first | rfl | assumption) (by omega) ?_
          refine w_ret d_53_154 rfl ?_
          exact EP_ok hgo
    · exact absurd h93 (by omega)
  · refine w_ld d_53_39 rfl rfl rfl ?_
    refine w_getR d_53_40 (by rfl) (by first | rfl | assumption) (by rfl) htt ?_
    refine w_ld d_53_43 rfl rfl rfl ?_
    refine w_ld d_53_44 rfl rfl rfl ?_
    refine w_ld d_53_45 rfl rfl rfl ?_
    refine w_cV0 (as := [_, _, _]) (rest := _) rfl d_53_47 (by rfl) (by rfl) (by first | rfl | assumption) (by rfl) (by rfl) (Nat.le_of_ble_eq_true rfl) (by omega) (by omega) (t_giveWord hT (by omega)) ?_
    refine w_goto (g := 61) d_53_50 (by decide) ?_
    have hA1 : AL sc t x d key (e + 1) top 12 7 0 μ0 (stA (stA μ (t + 3) top (μ.1 20 8 + 2)) (t + 4) top (μ.1 20 9 - 2)) := A0_tag hT hX hA0 hd (by omega) hc0 hW hS hGt h2 (fun k hk0 => by
      rcases hkt with ⟨z, _⟩ | ⟨z, _⟩ | ⟨z, _⟩ | ⟨z, _⟩ | ⟨_, n1, n2, n3, n4⟩
      · omega
      · omega
      · omega
      · omega
      · rcases hk0 with rfl | rfl | rfl | rfl
        · exact fun y => n1 (spl_tgk.mpr y)
        · exact fun y => n2 (spl_tgk.mpr y)
        · exact fun y => n3 (spl_tgk.mpr y)
        · exact fun y => n4 (spl_tgk.mpr y))
    refine w_ld d_53_61 rfl rfl rfl ?_
    refine w_cV0 (as := []) (rest := _) rfl d_53_62 (by rfl) (by rfl) (by first | rfl | assumption) (by rfl) (by rfl) (Nat.le_of_ble_eq_true rfl) (by omega) (by omega) (t_skp hX hA1.1 (by omega) (by omega)) ?_
    refine w_ld d_53_65 rfl rfl rfl ?_
    refine w_bip d_53_66 (by decide) ?_
    refine w_cVq (as := [_]) (rest := _) rfl d_53_68 (by rfl) (by rfl) (by first | rfl | assumption) (by rfl) (by rfl) (Nat.le_of_ble_eq_true rfl) (by omega) (by omega) (t_expS hT hX hA1.1 (c := 44) (by decide) (by omega) (by omega) hr) ?_ ?_
    rotate_left
    · rintro r τ (⟨hv, _⟩ | ⟨hv, hc1, rfl⟩)
      · cases hv
      · obtain rfl := Sum.inr.inj hv
        exact EP_bad (AL_sepX hT hX hA1 hd (by decide) (by omega))
    rintro v τ (⟨hv, hcc1, rfl⟩ | ⟨hv, _⟩)
    rotate_left
    · cases hv
    obtain rfl := Sum.inl.inj hv
    have hlt1 := cch_lt hcc1 (by decide)
    have hCq1 := CI_mv hT hX hA1.1 (p := cpl x (stA (stA μ (t + 3) top (μ.1 20 8 + 2)) (t + 4) top (μ.1 20 9 - 2)) + 1) (by have := cpl_in hA1.1; omega) (by omega)
    have hGq1 : GL (stI (stA (stA μ (t + 3) top (μ.1 20 8 + 2)) (t + 4) top (μ.1 20 9 - 2)) 20 5 (cpl x (stA (stA μ (t + 3) top (μ.1 20 8 + 2)) (t + 4) top (μ.1 20 9 - 2)) + 1)) := GL_of hT hG (cfr_trans hA1.2.1.1 (cfr_I (Or.inl rfl))) hCq1
    have hcpq1 := cpl_in hA1.1
    have e7q1 : (stI (stA (stA μ (t + 3) top (μ.1 20 8 + 2)) (t + 4) top (μ.1 20 9 - 2)) 20 5 (cpl x (stA (stA μ (t + 3) top (μ.1 20 8 + 2)) (t + 4) top (μ.1 20 9 - 2)) + 1)).1 t 7 = (stA (stA μ (t + 3) top (μ.1 20 8 + 2)) (t + 4) top (μ.1 20 9 - 2)).1 t 7 := stI_ne (by omega)
    have hn1 := hA1.2.2.2.1
    refine w_ld d_53_71 rfl rfl rfl ?_
    refine w_con d_53_72 ?_
    refine w_ld d_53_73 rfl rfl rfl ?_
    refine w_con d_53_74 ?_
    refine w_iadd d_53_75 ?_
    refine w_cVq (as := [_, _]) (rest := _) rfl d_53_76 (by rfl) (by rfl) (by first | rfl | assumption) (by rfl) (by rfl) (Nat.le_of_ble_eq_true rfl) (by omega) (by omega) (hE _ _ _ ρ 0 (by omega) (by omega) hCq1 hGq1 (by decide) (by rw [e7q1, stI_at]; omega) hr) ?_ ?_
    rotate_left
    · rintro r τ (⟨hv, _⟩ | ⟨hv, μ9, w9, rfl, hb9⟩)
      · cases hv
      · obtain rfl := Sum.inr.inj hv
        exact EP_bad (AL_elemX hT hX hA1 hd (by decide) (Or.inr rfl) (Or.inr ⟨rfl, by omega⟩) hcc1 hb9)
    rintro v τ (⟨hv, μ2, rfl, hg2⟩ | ⟨hv, _⟩)
    rotate_left
    · cases hv
    obtain rfl := Sum.inl.inj hv
    have hA2 := AL_elem hT hX hA1 hd (by decide) (Or.inr rfl) (Or.inr ⟨rfl, by omega⟩) hcc1 hg2
    have hst : μ2.2.2 25 top = μ.2.2 25 top := by
      have hk := hg2.2.1.2.1 25 top (Or.inr rfl) (by rw [e7q1]; exact hA1.2.2.1.1.2.1)
      rw [hk]
      show (stA (stA μ (t + 3) top (μ.1 20 8 + 2)) (t + 4) top (μ.1 20 9 - 2)).2.2 25 top = _
      rw [stA_ne (by omega), stA_ne (by omega)]
    refine w_ld d_53_79 rfl rfl rfl ?_
    refine w_cV0 (as := []) (rest := _) rfl d_53_80 (by rfl) (by rfl) (by first | rfl | assumption) (by rfl) (by rfl) (Nat.le_of_ble_eq_true rfl) (by omega) (by omega) (t_skp hX hA2.1 (by omega) (by omega)) ?_
    refine w_ld d_53_83 rfl rfl rfl ?_
    refine w_bip d_53_84 (by decide) ?_
    refine w_cVq (as := [_]) (rest := _) rfl d_53_86 (by rfl) (by rfl) (by first | rfl | assumption) (by rfl) (by rfl) (Nat.le_of_ble_eq_true rfl) (by omega) (by omega) (t_expS hT hX hA2.1 (c := 93) (by decide) (by omega) (by omega) hr) ?_ ?_
    rotate_left
    · rintro r τ (⟨hv, _⟩ | ⟨hv, hc1, rfl⟩)
      · cases hv
      · obtain rfl := Sum.inr.inj hv
        exact EP_bad (AL_sepX hT hX hA2 hd (by decide) (by omega))
    rintro v τ (⟨hv, hcc2, rfl⟩ | ⟨hv, _⟩)
    rotate_left
    · cases hv
    obtain rfl := Sum.inl.inj hv
    have hlt2 := cch_lt hcc2 (by decide)
    have hCq2 := CI_mv hT hX hA2.1 (p := cpl x μ2 + 1) (by have := cpl_in hA2.1; omega) (by omega)
    have hGq2 : GL (stI μ2 20 5 (cpl x μ2 + 1)) := GL_of hT hG (cfr_trans hA2.2.1.1 (cfr_I (Or.inl rfl))) hCq2
    have hcpq2 := cpl_in hA2.1
    have e7q2 : (stI μ2 20 5 (cpl x μ2 + 1)).1 t 7 = μ2.1 t 7 := stI_ne (by omega)
    refine w_ld d_53_89 rfl rfl rfl ?_
    refine w_bip d_53_91 (by decide) ?_
    refine w_icmp_ne (g := 110) d_53_93 (by decide) (by omega) (fun h93 => ?_) (fun h93 => ?_)
    · exact absurd h93 (by omega)
    · refine w_ld d_53_96 rfl rfl rfl ?_
      refine w_getR d_53_97 (by rfl) (by first | rfl | assumption) (by rfl) (hA2.1.1.2) ?_
      refine w_ld d_53_100 rfl rfl rfl ?_
      refine w_bip d_53_101 (by decide) ?_
      refine w_con d_53_103 ?_
      refine w_cV0 (as := [_, _, _]) (rest := _) rfl d_53_104 (by rfl) (by rfl) (by first | rfl | assumption) (by rfl) (by rfl) (Nat.le_of_ble_eq_true rfl) (by omega) (by omega) (t_close hT (by omega)) ?_
      refine w_goto (g := 146) d_53_107 (by decide) ?_
      refine w_ld d_53_146 rfl rfl rfl ?_
      refine w_getF d_53_147 (by rfl) (by first | rfl | assumption) (by rfl) (by rfl) ?_
      refine w_ld d_53_150 rfl rfl rfl ?_
      refine w_ld d_53_151 rfl rfl rfl ?_
      refine w_iast d_53_153 (by first | rfl | assumption) (by omega) ?_
      refine w_ret d_53_154 rfl ?_
      obtain ⟨f1, f5, f6, fI, fR, fA⟩ := cls_f (μ := stI μ2 20 5 (cpl x μ2 + 1)) (t := t) (k := top) (kd := 12) (p := ((1 : Nat) : Int))
      have e9 := stA_self (cls (stI μ2 20 5 (cpl x μ2 + 1)) t top 12 ((1 : Nat) : Int)) 25 top
      rw [show (cls (stI μ2 20 5 (cpl x μ2 + 1)) t top 12 ((1 : Nat) : Int)).2.2 25 top = μ.2.2 25 top from (fA 25 top (by omega)).trans hst] at e9
      have hgo := AL_close hT hX hA2 h0 hd he (Or.inr ⟨rfl, rfl, rfl⟩) hcc2
      rw [← e9] at hgo
      exact EP_ok hgo
