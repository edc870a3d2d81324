/-! THE PURE PART, 99i: write, in both -/
theorem IvL_wr {μ ν : Mem} {y : Nat} (hY : y = 42 ∨ y = 44) (k : IvL μ) (h1 : ∀ a q, a ≠ 36 → a ≠ 39 → a ≠ y → a ≠ 46 → ν.1 a q = μ.1 a q) (h46 : ν.1 46 1 = μ.1 46 1 ∧ ν.1 46 4 = μ.1 46 4) (h2 : (∀ q, ν.2.1 1 q = μ.2.1 1 q) ∧ ν.2.1 20 4 = μ.2.1 20 4) (h3 : ∀ a, a ≠ 37 → a ≠ 38 → a ≠ 40 → a ≠ 41 → a ≠ y + 1 → a ≠ 47 → (a < 62 ∨ 73 < a) → ν.2.2 a = μ.2.2 a) (hy : (0 ≤ ν.1 y 1 ∧ ν.1 y 1 ≤ 240) ∧ ∀ k, 0 ≤ ν.2.2 (y + 1) k ∧ ν.2.2 (y + 1) k < 65536) (h39 : (0 ≤ ν.1 39 1 ∧ ν.1 39 1 ≤ 480) ∧ ∀ k, 0 ≤ ν.2.2 40 k ∧ ν.2.2 40 k < 65536) (hT : ∃ x, (x = 42 ∨ x = 44) ∧ Ti ν x) (h47 : ∀ k, 0 ≤ ν.2.2 47 k ∧ ν.2.2 47 k < 65536) : IvL ν := by
  obtain ⟨k1, k2, k3, t0, t1, t2, a0, a1, a2, b0, b1, b2, c0, c1, c2, k4⟩ := k
  have e : ∀ t r, isT t → Si μ t r → Si ν t r := fun t r ht k => by
    have ht : t = 2 ∨ t = 11 ∨ t = 26 := ht
    exact Si_eq (fun a _ _ => h3 a (by omega) (by omega) (by omega) (by omega) (by omega) (by omega) (by omega)) (fun a _ _ => h3 a (by omega) (by omega) (by omega) (by omega) (by omega) (by omega) (by omega)) (h1 _ _ (by omega) (by omega) (by omega) (by omega)) (h1 _ _ (by omega) (by omega) (by omega) (by omega)) k
  refine ⟨fun a n ha => ?_, hT, ⟨by rw [h1 20 6 (by omega) (by omega) (by omega) (by omega), h46.1]; exact k3.1, by rw [h46.1]; exact k3.2.1, by rw [h46.1]; exact k3.2.2.1, fun m => ⟨h47 m, by rw [h3 57 (by omega) (by omega) (by omega) (by omega) (by omega) (by omega) (by omega)]; exact (k3.2.2.2 m).2⟩⟩, t0, t1, t2, a0, a1, a2, b0, b1, b2, by rw [h2.1]; exact c0, by rw [h2.1]; exact c1, by rw [h2.2]; exact c2, ?_⟩
  · by_cases z : a = y
    · subst z
      have hn : n = 240 := by rcases ha with ⟨_, z⟩ | ⟨z, _⟩ <;> omega
      subst hn
      exact hy
    by_cases z2 : a = 39
    · subst z2
      have hn : n = 480 := by rcases ha with ⟨z, _⟩ | ⟨_, z⟩ <;> omega
      subst hn
      exact h39
    · have hb : a = 9 ∨ a = 18 ∨ a = 33 ∨ a = 42 ∨ a = 44 := by rcases ha with ⟨z, _⟩ | ⟨z, _⟩ <;> omega
      rw [h1 a 1 (by omega) (by omega) (by omega) (by omega), h3 (a + 1) (by omega) (by omega) (by omega) (by omega) (by omega) (by omega) (by omega)]
      exact k1 a n ha
  · rw [h46.2]
    rcases k4 with ⟨z, z1, z2⟩ | ⟨z, z1, z2⟩
    · exact Or.inl ⟨z, e _ _ a0 z1, e _ _ a1 z2⟩
    · exact Or.inr ⟨z, e _ _ a0 z1, e _ _ a1 z2⟩
theorem vM_arr {μ ν : Mem} (h : ∀ a, 49 ≤ a → a ≤ 57 → ν.2.2 a = μ.2.2 a) : vM ν = vM μ := by
  unfold vM
  rw [h 49 (by omega) (by omega), h 50 (by omega) (by omega), h 51 (by omega) (by omega), h 52 (by omega) (by omega), h 53 (by omega) (by omega), h 54 (by omega) (by omega), h 57 (by omega) (by omega)]
theorem MRg_arr {C : Int → Prop} {μ ν : Mem} (h : ∀ a, 49 ≤ a → a ≤ 57 → ν.2.2 a = μ.2.2 a) (g : MRg C μ) : MRg C ν := by
  refine ⟨fun v hv => ?_, by rw [vM_arr h]; exact g.2.1, by rw [h 57 (by omega) (by omega)]; exact g.2.2⟩
  have z := g.1 v hv
  unfold mrw at z ⊢
  rw [h 49 (by omega) (by omega), h 50 (by omega) (by omega), h 51 (by omega) (by omega), h 52 (by omega) (by omega), h 53 (by omega) (by omega), h 54 (by omega) (by omega)]
  exact z
theorem Si_MR {μ : Mem} {t : Nat} {r : Int} (h : Si μ t r) (hr : r = 0 ∨ r = 1) (h57 : ∀ k, 0 ≤ μ.2.2 57 k ∧ μ.2.2 57 k < 65536) : MRg (fun v => 128 * r ≤ v ∧ v < 128 * r + μ.1 t 7) μ := by
  have h124 := h.1
  refine ⟨fun v hv => ?_, fun v hv => ?_, h57⟩
  · obtain ⟨k, rfl⟩ : ∃ k, v = 128 * r + k := ⟨v - 128 * r, by omega⟩
    have hk : 0 ≤ k ∧ k < μ.1 t 7 := by omega
    obtain ⟨x1, x2, x3, x4, x5, x6, x7, x8⟩ := Si_rowM h hr hk
    obtain ⟨s1, s2, s3, s4, s5⟩ := h
    obtain ⟨_, ⟨z1, z2, z3, z4⟩, r1, r2, r3, r4, r5, r6, r7⟩ := s5 k hk.1 hk.2
    refine ⟨by omega, x3, x4, x5, x6, ⟨x7, x8⟩, ?_, ?_, ?_⟩
    · rw [r1, r2]; exact z3
    · rw [r1, r4, r3]; exact z1
    · rw [r1, r4]; exact z2
  · obtain ⟨k, rfl⟩ : ∃ k, v = 128 * r + k := ⟨v - 128 * r, by omega⟩
    have hk : 0 ≤ k ∧ k < μ.1 t 7 := by omega
    obtain ⟨x1, x2, _⟩ := Si_rowM h hr hk
    have x1 : okv (9 + 1) (vM μ) (128 * r + k) := x1
    refine ⟨x1.2.1, fun n hn => ?_⟩
    have := x2 n hn
    omega
theorem wcl_1 {t y : Nat} {μ : Mem} {a q : Nat} (h1 : a ≠ 36) (h2 : a ≠ 39) (h3 : a ≠ y) : (wcl t y μ).1 a q = μ.1 a q := (stI_ne (by omega)).trans ((stI_ne (by omega)).trans (stI_ne (by omega)))
theorem prt_at {l : List Int} (h : prt l) {i : Nat} (hi : i < l.length) : 32 ≤ l.getD i 0 ∧ l.getD i 0 ≤ 126 := by
  have e : l.getD i 0 = l[i] := by simp [List.getD_eq_getElem?_getD, hi]
  rw [e]
  exact h _ (List.getElem_mem hi)
theorem cpw_47 {μ : Mem} {k q : Int} : (cpw μ k).2.2 47 q = if 0 ≤ q ∧ q < k then μ.2.2 64 q else μ.2.2 47 q := by
  show (if 47 = 47 ∧ 0 ≤ q ∧ q < k then μ.2.2 64 q else μ.2.2 47 q) = _
  by_cases z : 0 ≤ q ∧ q < k
  · rw [if_pos z, if_pos ⟨rfl, z⟩]
  · rw [if_neg z, if_neg (fun y => z y.2)]
theorem la_write {sc : Nat × (Nat → Int32)} {μ : Mem} {ρ : Nat × Nat × Nat} {Q : z_O → z_T → Prop} {i : Int} (hi : 0 ≤ i ∧ i + 3 < sc.1 ∧ sc.1 ≤ 2048) (h : IvL μ) (hρ : 1 ≤ ρ.2.1 ∧ 6 ≤ ρ.2.2) (K : ∀ μ' ρ', IvL μ' → (ρ.2.1 ≤ ρ'.2.1 + 1 ∧ ρ.2.2 ≤ ρ'.2.2 + 6) → w_P sc 2048 84000 9999 8 8 false ret code 742 [some (.float 1000), some (.ref 0), some (.ref 46), some (.ref 73), some (.int (ji i)), none, none, none] [] (hp μ', ρ') Q) : w_P sc 2048 84000 9999 8 8 false ret code 255 [some (.float 1000), some (.ref 0), some (.ref 46), some (.ref 73), some (.int (ji i)), none, none, none] [] (hp μ, ρ) Q := by
  have hp1 := scv_in sc (i + 1)
  by_cases hk : scv sc (i + 1) = 0 ∨ scv sc (i + 1) = 1
  · obtain ⟨t, r, hT, ht, hA, hS⟩ := h.slot hk
    obtain ⟨s1, s2, s3, s4, s5⟩ := id hS
    have hr : r = 0 ∨ r = 1 := by omega
    have hT9 : t = 2 ∨ t = 11 ∨ t = 26 := hT
    by_cases h0 : μ.1 t 7 = 0
    · -- nothing to write
      have hR1 := t_writeE (sc := sc) (fr := 2048 - 1 - 1) (lo := 84000 - (19 + 4) - (19 + 2)) (ρ := ρ) hT hk ht h0 (by omega) (by omega) hρ
      have hL := l_writeE (sc := sc) (fr := 2048 - 1) (lo := 84000 - (19 + 4)) hR1 (by omega) (by omega)
      exact lc_write hi hL (m_writeE hk hA (by omega) (by omega) (by omega)) (stI_at _ _ _ _) (by decide) (fun z => by omega) (by decide) (fun z => by omega) (K _ _ (IvL_code h 2) (by show _ ≤ ρ.2.1 - 1 + 1 ∧ _ ≤ ρ.2.2 - 6 + 6; omega))
    · have hpos : 0 < μ.1 t 7 := by omega
      obtain ⟨k1, ⟨x, hX, q1, q2, q3, q4⟩, k3, _⟩ := id h
      obtain ⟨y, hxy⟩ : ∃ y : Nat, y = 86 - x := ⟨86 - x, rfl⟩
      have hY : y = 42 ∨ y = 44 := by omega
      rw [← hxy] at q2
      have hG : GL μ := fun a n ha => (k1 a n ha).2
      have gy := (k1 y 240 (by unfold isL; omega)).1
      have g39 := (k1 39 480 (by unfold isL; omega)).1
      have h57 : ∀ k, 0 ≤ μ.2.2 57 k ∧ μ.2.2 57 k < 65536 := fun k => (k3.2.2.2 k).2
      have hTR : TR0 t μ := ⟨s1, s3, fun k k0 k1 => (s5 k k0 k1).2.1⟩
      obtain ⟨hiso, hreg⟩ := Si_iso hS
      have hq : ∀ k, (0 ≤ k ∧ k < μ.1 t 7) → (0 ≤ (vT μ t).1 k ∧ (vT μ t).1 k ≤ 12) ∧ ((vT μ t).1 k = 12 → (vT μ t).2.2.1 k = 1) := fun k hk => ⟨(s3.2 k hk.1 hk.2).1, (s5 k hk.1 hk.2).2.1.2.1⟩
      have hpr : ∀ k, (0 ≤ k ∧ k < μ.1 t 7) → rwp (vT μ t) k := fun k hk => ⟨(s5 k hk.1 hk.2).2.1.2.2.2, (s5 k hk.1 hk.2).2.1.2.2.1⟩
      have hwt : wtm (vM μ) (128 * r) = wtr (vT μ t) := by
        have e := wtm_iso hiso hreg hq ⟨by omega, hpos⟩
        rw [Int.zero_add] at e
        exact e
      have hok : okv 10 (vM μ) (128 * r) := by
        have e := (Si_rowM hS hr (k := 0) ⟨by omega, hpos⟩).1
        rw [Int.add_zero] at e
        exact e
      have hMR := Si_MR hS hr h57
      obtain ⟨o, τ, hQ, hE⟩ := (t_wtr (sc := sc) (fr := 2048 - 1 - 1 - 1) (lo := 84000 - (19 + 4) - (19 + 2) - (19 + 2)) (ρ := ρ) hT hY q2 hG hTR ((s5 0 (by omega) hpos).1) hpos (by omega) (by omega) (by omega) (by omega) hρ).ex
      have hl0 : (wcl t y μ).1 y 1 = 0 := stI_at _ _ _ _
      rcases hQ with ⟨l, N, hw, hlen, rfl, μ1, rfl, hf, hWC, hD⟩ | ⟨hno, rfl, μ1, rfl, hf, hyb, h39b, hGL⟩
      · -- it went well
        rw [hl0] at hlen
        have hpl := prt_wtr hreg hq hpr ⟨by omega, hpos⟩ hw
        have hc : μ1.1 y 1 = l.length := by rw [hD.1, hl0]; omega
        have e0 : μ1.2.1 = (stR μ 35 4 (.ref t)).2.1 := hf.2.1
        have hx1 : μ1.2.1 0 3 = .ref x := by rw [e0]; exact (stR_ne (by omega)).trans q1
        have hy1 : μ1.2.1 35 3 = .ref y := hWC.1.1
        have hR1 := t_write (sc := sc) (fr := 2048 - 1 - 1) (lo := 84000 - (19 + 4) - (19 + 2)) hT hk ht ⟨hpos, by omega⟩ hX hY hE hx1 hy1 (by omega) (by omega)
        have hL := l_write (sc := sc) (fr := 2048 - 1) (lo := 84000 - (19 + 4)) (by omega) hR1 (by omega) (by omega)
        generalize hμ2 : stA (stR (stR μ1 35 3 (.ref x)) 0 3 (.ref y)) 73 0 (μ1.1 y 1) = μ2 at hL
        have f1 : ∀ a q, μ2.1 a q = μ1.1 a q := fun a q => by rw [← hμ2]; rfl
        have fR : ∀ a q, ¬ (a = 0 ∧ q = 3) → ¬ (a = 35 ∧ (q = 3 ∨ q = 4)) → μ2.2.1 a q = μ.2.1 a q := fun a q z1 z2 => by
          rw [← hμ2]
          show (stR (stR μ1 35 3 (.ref x)) 0 3 (.ref y)).2.1 a q = _
          rw [stR_ne z1, stR_ne (by omega), e0]
          exact stR_ne (by omega)
        have fR0 : μ2.2.1 0 3 = .ref y := by
          rw [← hμ2]
          show (stR (stR μ1 35 3 (.ref x)) 0 3 (.ref y)).2.1 0 3 = _
          exact stR_at _ _ _ _
        have fR3 : μ2.2.1 35 3 = .ref x := by
          rw [← hμ2]
          show (stR (stR μ1 35 3 (.ref x)) 0 3 (.ref y)).2.1 35 3 = _
          rw [stR_ne (by omega)]
          exact stR_at _ _ _ _
        have fA : ∀ a, a ≠ 73 → μ2.2.2 a = μ1.2.2 a := fun a ha => by rw [← hμ2]; exact stA_o2 ha
        have f73 : μ2.2.2 73 0 = l.length := by rw [← hμ2, stA_at, hc]
        have eA : ∀ a, a ≠ 37 → a ≠ 38 → a ≠ 40 → a ≠ 41 → a ≠ y + 1 → a ≠ 73 → μ2.2.2 a = μ.2.2 a := fun a z1 z2 z3 z4 z5 z6 => (fA a z6).trans (hf.2.2 a z1 z2 z3 z4 z5)
        have eI : ∀ a q, a ≠ 36 → a ≠ 39 → a ≠ y → μ2.1 a q = μ.1 a q := fun a q z1 z2 z3 => (f1 a q).trans ((hf.1 a q z1 z2 z3).trans (wcl_1 z1 z2 z3))
        have eM : ∀ a, 49 ≤ a → a ≤ 57 → (stI μ2 46 0 0).2.2 a = μ.2.2 a := fun a z1 z2 => eA a (by omega) (by omega) (by omega) (by omega) (by omega) (by omega)
        obtain ⟨o2, τ2, ⟨rfl, ν, rfl, hM, hmw⟩, hWA⟩ := (m_writeAll (sc := sc) (fr := 2048 - 1 - 1) (lo := 84000 - (19 + 3) - (19 + 5)) (ρ := ρ) (MRg_arr eM hMR) (r := 128 * r) ⟨by omega, by omega⟩ (by rw [vM_arr eM]; exact hok) (by omega) (by omega)).ex
        rw [vM_arr eM, hwt, hw, show wrn (fun _ => some (l, N)) (some ([], [])) = some (l, N) from (if_pos (by show 0 + l.length ≤ 240; omega)).trans (by rw [List.nil_append])] at hM
        obtain ⟨m1, m2, m3, m4, m5⟩ := hM
        have h46 : ∀ q, ¬ (q = 26 ∨ q = 30 ∨ q = 31 ∨ q = 32 ∨ q = 33 ∨ q = 41) → q ≠ 0 → ν.1 46 q = μ.1 46 q := fun q z z0 => (hmw.1 46 q (by omega)).trans ((stI_ne (by omega)).trans (eI 46 q (by omega) (by omega) (by omega)))
        have hW := m_writeOK (sc := sc) (fr := 2048 - 1) (lo := 84000 - (19 + 3)) (μ := μ2) (ρ := ρ) (r := r) (n := (l.length : Int)) hk (by rw [eI 46 4 (by omega) (by omega) (by omega)]; exact hA) (by rw [eA 48 (by omega) (by omega) (by omega) (by omega) (by omega) (by omega)]; omega) hWA m1 ⟨m2.1, by omega, by omega⟩ (by omega) (by omega)
        have g1 : ∀ a q, a ≠ 46 → (cpw (stI ν 46 3 (l.length : Int)) (l.length : Int)).1 a q = μ2.1 a q := fun a q z => (show (stI ν 46 3 (l.length : Int)).1 a q = ν.1 a q from stI_ne (by omega)).trans ((hmw.1 a q (by omega)).trans (stI_ne (by omega)))
        have g46 : ∀ q, ¬ (q = 26 ∨ q = 30 ∨ q = 31 ∨ q = 32 ∨ q = 33 ∨ q = 41) → q ≠ 0 → q ≠ 3 → (cpw (stI ν 46 3 (l.length : Int)) (l.length : Int)).1 46 q = μ.1 46 q := fun q z z0 z3 => (show (stI ν 46 3 (l.length : Int)).1 46 q = ν.1 46 q from stI_ne (by omega)).trans (h46 q z z0)
        have gR : (cpw (stI ν 46 3 (l.length : Int)) (l.length : Int)).2.1 = μ2.2.1 := hmw.2.1
        have gA : ∀ a, a ≠ 47 → (a < 62 ∨ 72 < a) → (cpw (stI ν 46 3 (l.length : Int)) (l.length : Int)).2.2 a = μ2.2.2 a := fun a z1 z2 => (cpw_o z1).trans (hmw.2.2 a z2)
        have gy1 : (cpw (stI ν 46 3 (l.length : Int)) (l.length : Int)).1 y 1 = l.length := by rw [g1 y 1 (by omega), f1 y 1]; exact hc
        have gyA : (cpw (stI ν 46 3 (l.length : Int)) (l.length : Int)).2.2 (y + 1) = μ1.2.2 (y + 1) := (gA (y + 1) (by omega) (by omega)).trans (fA (y + 1) (by omega))
        have hw39 := hWC.2.2.1
        have hIv : IvL (cpw (stI ν 46 3 (l.length : Int)) (l.length : Int)) := by
          refine IvL_wr hY h (fun a q z1 z2 z3 z4 => (g1 a q z4).trans (eI a q z1 z2 z3)) ⟨g46 1 (by omega) (by omega) (by omega), g46 4 (by omega) (by omega) (by omega)⟩ ⟨fun q => by rw [gR]; exact fR 1 q (by omega) (by omega), by rw [gR]; exact fR 20 4 (by omega) (by omega)⟩ (fun a z1 z2 z3 z4 z5 z6 z7 => (gA a z6 (by omega)).trans (eA a z1 z2 z3 z4 z5 (by omega))) ⟨by rw [gy1]; omega, by rw [gyA]; exact hWC.2.2.2.1 y 240 (by unfold isL; omega)⟩ ⟨?_, ?_⟩ ⟨y, hY, by rw [gR]; exact fR0, by rw [gR, fR3]; exact congrArg _ (by omega), ?_, fun k z1 z2 => ?_⟩ (fun k => ?_)
          · rw [g1 39 1 (by omega), f1 39 1]
            have e : ((([] : List Int).length : Nat) : Int) = 0 := rfl
            omega
          · rw [gA 40 (by omega) (by omega), fA 40 (by omega)]
            exact hWC.2.2.2.1 39 480 (by unfold isL; omega)
          · rw [gy1]
            show (stI ν 46 3 (l.length : Int)).1 46 3 = _
            exact stI_at _ _ _ _
          · rw [gy1] at z2
            have e1 : (cpw (stI ν 46 3 (l.length : Int)) (l.length : Int)).2.2 47 k = l.getD k.toNat 0 := by
              rw [cpw_47, if_pos ⟨z1, z2⟩]
              have e := m3 k.toNat (by omega)
              rw [show ((k.toNat : Nat) : Int) = k by omega] at e
              exact e
            have e2 : (cpw (stI ν 46 3 (l.length : Int)) (l.length : Int)).2.2 (y + 1) k = l.getD k.toNat 0 := by
              rw [gyA]
              have e := hD.2.2 k.toNat (by omega)
              rw [hl0, show (0 : Int) + ((k.toNat : Nat) : Int) = k by omega] at e
              exact e
            rw [e1, e2]
            exact ⟨rfl, prt_at hpl (by omega)⟩
          · rw [cpw_47]
            by_cases z : 0 ≤ k ∧ k < l.length
            · rw [if_pos z]
              have e := m3 k.toNat (by omega)
              rw [show ((k.toNat : Nat) : Int) = k by omega] at e
              have e3 := prt_at hpl (i := k.toNat) (by omega)
              show 0 ≤ ν.2.2 64 k ∧ ν.2.2 64 k < 65536
              rw [e]
              omega
            · rw [if_neg z]
              show 0 ≤ ν.2.2 47 k ∧ ν.2.2 47 k < 65536
              rw [hmw.2.2 47 (by omega)]
              show 0 ≤ μ2.2.2 47 k ∧ μ2.2.2 47 k < 65536
              rw [eA 47 (by omega) (by omega) (by omega) (by omega) (by omega) (by omega)]
              exact (k3.2.2.2 k).1
        have e73 : (cpw (stI ν 46 3 (l.length : Int)) (l.length : Int)).2.2 73 0 = l.length := by rw [gA 73 (by omega) (by omega)]; exact f73
        have ec : (cpw (stI ν 46 3 (l.length : Int)) (l.length : Int)).1 46 0 = 0 := (show (stI ν 46 3 (l.length : Int)).1 46 0 = ν.1 46 0 from stI_ne (by omega)).trans ((hmw.1 46 0 (by omega)).trans (stI_at _ _ _ _))
        exact lc_write hi hL hW ec (by decide) (fun _ => e73) (by omega) (fun _ => by rw [e73]; omega) (K _ ρ hIv (by omega))
      · -- there is no room, or it is too deep
        have hR1 := t_writeX (sc := sc) (fr := 2048 - 1 - 1) (lo := 84000 - (19 + 4) - (19 + 2)) hT hk ht ⟨hpos, by omega⟩ hE (by omega) (by omega)
        have hL := l_writeX (sc := sc) (fr := 2048 - 1) (lo := 84000 - (19 + 4)) hR1 (by omega) (by omega)
        have e0 : μ1.2.1 = (stR μ 35 4 (.ref t)).2.1 := hf.2.1
        have eA : ∀ a, a ≠ 37 → a ≠ 38 → a ≠ 40 → a ≠ 41 → a ≠ y + 1 → μ1.2.2 a = μ.2.2 a := fun a z1 z2 z3 z4 z5 => hf.2.2 a z1 z2 z3 z4 z5
        have eI : ∀ a q, a ≠ 36 → a ≠ 39 → a ≠ y → μ1.1 a q = μ.1 a q := fun a q z1 z2 z3 => (hf.1 a q z1 z2 z3).trans (wcl_1 z1 z2 z3)
        have eM : ∀ a, 49 ≤ a → a ≤ 57 → (stI μ1 46 0 0).2.2 a = μ.2.2 a := fun a z1 z2 => eA a (by omega) (by omega) (by omega) (by omega) (by omega)
        obtain ⟨o2, τ2, ⟨rfl, ν, rfl, hM, hmw⟩, hWA⟩ := (m_writeAll (sc := sc) (fr := 2048 - 1 - 1) (lo := 84000 - (19 + 3) - (19 + 5)) (ρ := (ρ.1 + 1, ρ.2.1 - 1, ρ.2.2 - 6)) (MRg_arr eM hMR) (r := 128 * r) ⟨by omega, by omega⟩ (by rw [vM_arr eM]; exact hok) (by omega) (by omega)).ex
        rw [vM_arr eM, hwt] at hM
        have hn : wrn (fun _ => wtr (vT μ t)) (some ([], [])) = none := by
          cases hz : wtr (vT μ t) with
          | none => rfl
          | some p =>
            obtain ⟨l, N⟩ := p
            have e := hno l N hz
            rw [hl0] at e
            exact if_neg (by show ¬ 0 + l.length ≤ 240; omega)
        rw [hn] at hM
        have hW := m_writeX (sc := sc) (fr := 2048 - 1) (lo := 84000 - (19 + 3)) (μ := μ1) (ρ := (ρ.1 + 1, ρ.2.1 - 1, ρ.2.2 - 6)) (r := r) hk (by rw [eI 46 4 (by omega) (by omega) (by omega)]; exact hA) (by rw [eA 48 (by omega) (by omega) (by omega) (by omega) (by omega)]; omega) hWA hM.1 (by omega) (by omega)
        have g1 : ∀ a q, ¬ (a = 46 ∧ (q = 0 ∨ q = 26 ∨ q = 30 ∨ q = 31 ∨ q = 32 ∨ q = 33 ∨ q = 41)) → (stI ν 46 0 3).1 a q = μ1.1 a q := fun a q z => (stI_ne (by omega)).trans ((hmw.1 a q (by omega)).trans (stI_ne (by omega)))
        have gR : (stI ν 46 0 3).2.1 = μ1.2.1 := hmw.2.1
        have gA : ∀ a, a < 62 ∨ 72 < a → (stI ν 46 0 3).2.2 a = μ1.2.2 a := fun a z => hmw.2.2 a z
        have fR : ∀ a q, ¬ (a = 35 ∧ q = 4) → μ1.2.1 a q = μ.2.1 a q := fun a q z => by
          rw [e0]
          exact stR_ne z
        have hIv : IvL (stI ν 46 0 3) := by
          refine IvL_wr hY h (fun a q z1 z2 z3 z4 => (g1 a q (by omega)).trans (eI a q z1 z2 z3)) ⟨(g1 46 1 (by omega)).trans (eI 46 1 (by omega) (by omega) (by omega)), (g1 46 4 (by omega)).trans (eI 46 4 (by omega) (by omega) (by omega))⟩ ⟨fun q => by rw [gR]; exact fR 1 q (by omega), by rw [gR]; exact fR 20 4 (by omega)⟩ (fun a z1 z2 z3 z4 z5 z6 z7 => (gA a (by omega)).trans (eA a z1 z2 z3 z4 z5)) ⟨by rw [g1 y 1 (by omega)]; exact hyb, by rw [gA (y + 1) (by omega)]; exact hGL y 240 (by unfold isL; omega)⟩ ⟨by rw [g1 39 1 (by omega)]; exact h39b, by rw [gA 40 (by omega)]; exact hGL 39 480 (by unfold isL; omega)⟩ ⟨x, hX, by rw [gR, fR 0 3 (by omega)]; exact q1, by rw [gR, fR 35 3 (by omega), ← hxy]; exact q2, ?_, fun k z1 z2 => ?_⟩ (fun k => ?_)
          · rw [g1 46 3 (by omega), g1 x 1 (by omega), eI 46 3 (by omega) (by omega) (by omega), eI x 1 (by omega) (by omega) (by omega)]
            exact q3
          · rw [g1 x 1 (by omega), eI x 1 (by omega) (by omega) (by omega)] at z2
            rw [gA 47 (by omega), gA (x + 1) (by omega), eA 47 (by omega) (by omega) (by omega) (by omega) (by omega), eA (x + 1) (by omega) (by omega) (by omega) (by omega) (by omega)]
            exact q4 k z1 z2
          · rw [gA 47 (by omega), eA 47 (by omega) (by omega) (by omega) (by omega) (by omega)]
            exact (k3.2.2.2 k).1
        exact lc_write hi hL hW (stI_at _ _ _ _) (by decide) (fun z => by omega) (by decide) (fun z => by omega) (K _ _ hIv (by show _ ≤ ρ.2.1 - 1 + 1 ∧ _ ≤ ρ.2.2 - 6 + 6; omega))
  · have hR1 := t_writeI (sc := sc) (fr := 2048 - 1 - 1) (lo := 84000 - (19 + 4) - (19 + 2)) (μ := μ) (ρ := ρ) hp1 hk (by omega) (by omega) hρ
    have hL := l_writeI (sc := sc) (fr := 2048 - 1) (lo := 84000 - (19 + 4)) hR1 (by omega) (by omega)
    exact lc_write hi hL (m_writeI hp1 hk (by omega) (by omega)) (stI_at _ _ _ _) (by decide) (fun z => by omega) (by decide) (fun z => by omega) (K _ _ (IvL_code h 1) (by show _ ≤ ρ.2.1 - 1 + 1 ∧ _ ≤ ρ.2.2 - 6 + 6; omega))
/-- the law's loop, from the i-th int on -/
theorem law_loop (sc : Nat × (Nat → Int32)) (hL : sc.1 ≤ 2048) : ∀ (n : Nat) (j : Nat) (μ : Mem) (ρ : Nat × Nat × Nat), 513 - j = n → j ≤ 513 → IvL μ → (n ≤ ρ.2.1 ∧ 6 * n ≤ ρ.2.2) → w_P sc 2048 84000 9999 8 8 false ret code 23 [some (.float 1000), some (.ref 0), some (.ref 46), some (.ref 73), some (.int (ji ((4 * j : Nat) : Int))), none, none, none] [] (hp μ, ρ) (fun o _ => o = .inl (some (.int 1))) := by
  intro n
  induction n with
  | zero =>
    intro j μ ρ hn hj hI hρ
    exact law_head (by omega) (fun h3 => by omega)
  | succ n ih =>
    intro j μ ρ hn hj hI hρ
    refine law_head (by omega) (fun h3 => ?_)
    have hi : 0 ≤ ((4 * j : Nat) : Int) ∧ ((4 * j : Nat) : Int) + 3 < (sc.1 : Int) ∧ sc.1 ≤ 2048 := by omega
    have K : ∀ (μ' : Mem) (ρ' : Nat × Nat × Nat), IvL μ' → (ρ.2.1 ≤ ρ'.2.1 + 1 ∧ ρ.2.2 ≤ ρ'.2.2 + 6) → w_P sc 2048 84000 9999 8 8 false ret code 742 [some (.float 1000), some (.ref 0), some (.ref 46), some (.ref 73), some (.int (ji ((4 * j : Nat) : Int))), none, none, none] [] (hp μ', ρ') (fun o _ => o = .inl (some (.int 1))) := fun μ' ρ' hI' hρ' => by
      refine law_next ?_
      have e := ih (j + 1) μ' ρ' (by omega) (by omega) hI' (by omega)
      rw [show ((4 * (j + 1) : Nat) : Int) = ((4 * j : Nat) : Int) + 4 by omega] at e
      exact e
    exact law_step hi hI (by omega) (la_read hi hI (by omega) K) (la_write hi hI (by omega) K) (la_same hi hI (by omega) K) K
theorem law_all (sc : Nat × (Nat → Int32)) (hL : sc.1 ≤ 2048) : w_P sc 2048 84000 9999 8 8 false ret code 23 [some (.float 1000), some (.ref 0), some (.ref 46), some (.ref 73), some (.int (ji 0)), none, none, none] [] (hp mu0, 74, 601024 - 74, 7293034 - 11796) (fun o _ => o = .inl (some (.int 1))) :=
  law_loop sc hL 513 0 mu0 (74, 601024 - 74, 7293034 - 11796) rfl (by decide) IvL_mu0 ⟨by decide, by decide⟩
