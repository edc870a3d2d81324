/-! THE PURE PART, 72: an array is closed in both -/
/-- the class's rows are the reference's, moved by 256 -/
theorem Rel_iso {t x : Nat} {d lo : Int} {μ ν : Mem} (hR : Rel t x d μ ν) (hlo : 0 ≤ lo) (hg : ∀ k, lo ≤ k → k < μ.1 t 7 → 0 ≤ ν.2.2 56 (256 + k)) (hr : rok μ t lo (μ.1 t 7)) : iso 256 (vT μ t) (vM ν) (fun k => lo ≤ k ∧ k < μ.1 t 7) := fun k hk => by
  obtain ⟨r1, r2, r3, r4, r5, r6, r7⟩ := hR.2.2.2.2.2.2 k (by omega) hk.2 (hg k hk.1 hk.2)
  have q := (hr.2 k hk.1 hk.2).2.2.2.2.1
  rw [show k + 256 = 256 + k by omega]
  refine ⟨⟨r1.symm, r2.symm, r4.symm, r3.symm, fun y y0 y1 => ?_⟩, ?_⟩
  · have y1 : y < μ.2.2 (t + 4) k := y1
    show μ.2.2 (t + 7 + 1) (μ.2.2 (t + 3) k + y) = ν.2.2 57 (ν.2.2 51 (256 + k) + y)
    rcases r7 with z | z
    · omega
    · rw [z.1, show 480 + μ.2.2 (t + 3) k + y = 480 + (μ.2.2 (t + 3) k + y) by omega]
      exact (hR.2.2.2.2.1 _ (by omega) (by omega)).symm
  · show 256 + k + ν.2.2 54 (256 + k) = μ.2.2 (t + 6) k + 256
    omega
/-- groups of the reference are what is same in the class -/
theorem grp_al {t x : Nat} {d lo : Int} {μ ν : Mem} (hR : Rel t x d μ ν) (hlo : 0 ≤ lo) (hg : ∀ k, lo ≤ k → k < μ.1 t 7 → 0 ≤ ν.2.2 56 (256 + k)) (hr : RWS t lo μ) {i k : Int} (hi : lo ≤ i ∧ i < μ.1 t 7) (hk : lo ≤ k ∧ k < μ.1 t 7) : ν.2.2 56 (256 + i) = ν.2.2 56 (256 + k) ↔ al 10 (vT μ t) i (vT μ t) k := by
  have h1 := Rel_iso hR hlo hg hr.1
  have h2 := al_iso h1 (RWS_reg hr) h1 (RWS_reg hr) 10 i k hi hk
  rw [h2, show i + 256 = 256 + i by omega, show k + 256 = 256 + k by omega]
  have e := hR.2.2.1.2.1
  exact (hR.2.2.2.2.2.1.2.1 (256 + i) (by omega) (by rw [e]; omega) (hg i hi.1 hi.2)).2.2.2 (256 + k) (by omega) (by rw [e]; omega) (hg k hk.1 hk.2)
/-- a row leaves the groups -/
theorem GI_drop {M M' : View} {g : Int → Int} {lo hi v : Int} (h : GI M g lo hi) (hnr : ∀ w, lo ≤ w → w < hi → w ≠ v → 0 ≤ g w → g w ≠ v) (hpa : ∀ w, lo ≤ w → w < hi → w ≠ v → 0 ≤ g w → ∀ n : Nat, (n : Int) < M.2.2.1 w → pt M w n ≠ v) (he : ∀ w, lo ≤ w → w < hi → w ≠ v → 0 ≤ g w → bas M w M' w ∧ M'.2.2.2.1 w = M.2.2.2.1 w) : GI M' (fun w => if w = v then -1 else g w) lo hi := by
  have hC : eqv M M' (fun w => lo ≤ w ∧ w < hi ∧ w ≠ v ∧ 0 ≤ g w) := fun w hw => he w hw.1 hw.2.1 hw.2.2.1 hw.2.2.2
  have hr : reg M (fun w => lo ≤ w ∧ w < hi ∧ w ≠ v ∧ 0 ≤ g w) := fun w hw => ⟨fun z => (h w hw.1 hw.2.1 hw.2.2.2).2.1.2.1 z, fun n hn => by
    have q := (h w hw.1 hw.2.1 hw.2.2.2).2.2.1 n hn
    exact ⟨q.1, q.2.1, hpa w hw.1 hw.2.1 hw.2.2.1 hw.2.2.2 n hn, q.2.2⟩⟩
  have hne : ∀ w, 0 ≤ (if w = v then -1 else g w) → w ≠ v ∧ 0 ≤ g w := fun w hw => by
    by_cases z : w = v
    · rw [if_pos z] at hw; omega
    · rw [if_neg z] at hw; exact ⟨z, hw⟩
  intro w w1 w2 w3
  obtain ⟨w4, w5⟩ := hne w w3
  obtain ⟨q1, q2, q3, q4⟩ := h w w1 w2 w5
  have hn := hnr w w1 w2 w4 w5
  refine ⟨?_, okv_eqv hC hr 10 ⟨w1, w2, w4, w5⟩ q2, fun n hn' => ?_, fun u u1 u2 u3 => ?_⟩
  · show lo ≤ (if w = v then -1 else g w) ∧ (if w = v then -1 else g w) < hi ∧ 0 ≤ (if (if w = v then -1 else g w) = v then -1 else g (if w = v then -1 else g w))
    rw [if_neg w4, if_neg hn]
    exact q1
  · have hn'' : (n : Int) < M.2.2.1 w := by rw [(he w w1 w2 w4 w5).1.2.2.1]; exact hn'
    have q := q3 n hn''
    have z := hpa w w1 w2 w4 w5 n hn''
    rw [pt_eqv hC hr ⟨w1, w2, w4, w5⟩ n (by omega)]
    show lo ≤ pt M w n ∧ pt M w n < hi ∧ 0 ≤ (if pt M w n = v then -1 else g (pt M w n))
    rw [if_neg z]
    exact q
  · obtain ⟨u4, u5⟩ := hne u u3
    show (if w = v then -1 else g w) = (if u = v then -1 else g u) ↔ _
    rw [if_neg w4, if_neg u4, q4 u u1 u2 u5]
    exact al_eqv hC hr 10 ⟨w1, w2, w4, w5⟩ ⟨u1, u2, u4, u5⟩
/-- the last steps of closeArray, with what the class has then -/
theorem cl_ok {sc : Nat × (Nat → Int32)} {fr lo : Nat} {ρ : Nat × Nat × Nat} {t x e : Nat} (hT : isT t) (hX : x = 42 ∨ x = 44) {d top n : Int} {μ μ' ν α : Mem} (hC : CI t x μ) (hR : Rel t x (d + 1) μ ν) (hd : 0 ≤ d ∧ d ≤ 7) (hn : μ.1 t 7 = n ∧ n ≤ 126) (h0 : 0 ≤ top ∧ top < n)
    (m1 : ∀ a q, a ≠ 20 → a ≠ 24 → μ'.1 a q = μ.1 a q) (m5 : μ'.1 20 5 = cpl x μ + 1) (m3 : ∀ a i, ¬ ((t + 1 ≤ a ∧ a ≤ t + 6 ∨ a = 25) ∧ i = top) → μ'.2.2 a i = μ.2.2 a i) (hlt : cpl x μ < μ.1 x 1)
    (r1 : ∀ q, q ≠ 15 → α.1 46 q = ν.1 46 q) (ro : ∀ a q, a ≠ 46 → α.1 a q = ν.1 a q) (r5 : α.1 46 15 = cpl x μ + 1) (r2 : α.2.1 = ν.2.1) (r3 : ∀ a i, ¬ (49 ≤ a ∧ a ≤ 54 ∧ i = 256 + top) → α.2.2 a i = ν.2.2 a i)
    (v1 : α.2.2 49 (256 + top) = μ'.2.2 (t + 1) top) (v2 : α.2.2 50 (256 + top) = μ'.2.2 (t + 2) top) (v3 : α.2.2 52 (256 + top) = μ'.2.2 (t + 4) top) (v4 : α.2.2 53 (256 + top) = μ'.2.2 (t + 5) top) (v5 : α.2.2 54 (256 + top) = μ'.2.2 (t + 6) top - top) (v6 : μ'.2.2 (t + 4) top = 0 ∨ α.2.2 51 (256 + top) = 480 + μ'.2.2 (t + 3) top)
    (hG : GI (vM α) (fun w => if w = 256 + top then -1 else α.2.2 56 w) 256 (256 + n)) (hGV : GV t e top μ') (hgr : ∀ k, top < k → k < n → 0 ≤ ν.2.2 56 (256 + k)) (hNR : ∀ k, 0 ≤ k → k < n → k ≠ top → 0 ≤ ν.2.2 56 (256 + k) → ν.2.2 56 (256 + k) ≠ 256 + top) (hbr : ν.2.2 61 (d + 1) = μ'.2.2 25 top) (hmd : 0 < d → 0 ≤ ν.2.2 59 d ∧ ν.2.2 59 d ≤ 7) (hf : 8 ≤ fr) (hl : 400 ≤ lo) {m s : Int} :
    w_P sc fr lo 148 7 4 false (none) prog_9_method_37_code 207 [some (.ref 46), some (.int (ji (256 + top))), some (.int (ji m)), some (.int (ji s))] [] (hp α, ρ) (fun o t' => ∃ ν' : Mem, o = .inl none ∧ Pst t x d top μ' ν ν' ∧ t' = (hp ν', ρ)) := by
  have hT' := hT
  unfold isT at hT
  have hpl := hC.2.2.2.2.1
  have hcp := cpl_in hC
  have hsz := hC.2.1
  obtain ⟨b1, b2, b3, b4, b5, b6, b7⟩ := hR
  obtain ⟨g1, g2, g3, g4, g5⟩ := hGV
  have en : μ'.1 t 7 = n := (m1 t 7 (by omega) (by omega)).trans hn.1
  have eu : μ'.1 (t + 7) 1 = μ.1 (t + 7) 1 := m1 (t + 7) 1 (by omega) (by omega)
  rw [en] at g1 g2 g3 g5
  have e17 : α.1 46 17 = n := by rw [r1 17 (by omega), b3.2.1, hn.1]
  have a57 : α.2.2 57 = ν.2.2 57 := funext fun i => r3 57 i (by omega)
  have a56 : α.2.2 56 = ν.2.2 56 := funext fun i => r3 56 i (by omega)
  have aw : μ'.2.2 (t + 7 + 1) = μ.2.2 (t + 7 + 1) := funext fun i => m3 _ i (by omega)
  have RRk : ∀ k, top < k → k < n → RR t μ' α k := fun k k1 k2 => RR_of (b7 k (by omega) (by omega) (hgr k k1 k2)) (fun a ha => m3 a k (by omega)) (fun a _ _ => r3 a (256 + k) (by omega)) (by rw [eu]; exact Int.le_refl _)
  have rt := g2.2 top (by omega) (by omega)
  -- the two views
  have hiso : iso 256 (vT μ' t) (vM α) (fun k => top ≤ k ∧ k < n) := fun k hk => by
    rw [show k + 256 = 256 + k by omega]
    have q := (g2.2 k hk.1 hk.2).2.2.2.2.1
    have rr : α.2.2 49 (256 + k) = μ'.2.2 (t + 1) k ∧ α.2.2 50 (256 + k) = μ'.2.2 (t + 2) k ∧ α.2.2 52 (256 + k) = μ'.2.2 (t + 4) k ∧ α.2.2 53 (256 + k) = μ'.2.2 (t + 5) k ∧ α.2.2 54 (256 + k) = μ'.2.2 (t + 6) k - k ∧ (μ'.2.2 (t + 4) k = 0 ∨ α.2.2 51 (256 + k) = 480 + μ'.2.2 (t + 3) k) := by
      by_cases z : k = top
      · subst z
        exact ⟨v1, v2, v3, v4, v5, v6⟩
      · obtain ⟨c1, c2, c3, c4, c5, _, c7⟩ := RRk k (by omega) hk.2
        exact ⟨c1, c2, c3, c4, c5, by rcases c7 with y | y; exact Or.inl y; exact Or.inr y.1⟩
    obtain ⟨c1, c2, c3, c4, c5, c7⟩ := rr
    refine ⟨⟨c1.symm, c2.symm, c4.symm, c3.symm, fun y y0 y1 => ?_⟩, ?_⟩
    · have y1 : y < μ'.2.2 (t + 4) k := y1
      show μ'.2.2 (t + 7 + 1) (μ'.2.2 (t + 3) k + y) = α.2.2 57 (α.2.2 51 (256 + k) + y)
      rcases c7 with z | z
      · omega
      · rw [z, a57, aw, show 480 + μ'.2.2 (t + 3) k + y = 480 + (μ'.2.2 (t + 3) k + y) by omega]
        exact (b5 _ (by omega) (by omega)).symm
    · show 256 + k + α.2.2 54 (256 + k) = μ'.2.2 (t + 6) k + 256
      omega
  have hreg : reg (vT μ' t) (fun k => top ≤ k ∧ k < n) := rok_reg g2 (fun k k1 k2 => (g5 k k1 k2).1)
  have oa : okv 10 (vM α) (256 + top) := by
    rw [show 256 + top = top + 256 by omega]
    exact okv_iso hiso hreg 10 top ⟨by omega, by omega⟩ (g5 top (by omega) (by omega)).1
  have pa : ∀ k : Nat, (k : Int) < α.2.2 53 (256 + top) → 256 ≤ pt (vM α) (256 + top) k ∧ pt (vM α) (256 + top) k < 256 + α.1 46 17 ∧ pt (vM α) (256 + top) k ≠ 256 + top ∧ 0 ≤ α.2.2 56 (pt (vM α) (256 + top) k) := fun k hk => by
    rw [v4] at hk
    have q := rt.2.2.2.2.2 k hk
    have q2 := rt.2.2.2.1.2.1
    rw [show 256 + top = top + 256 by omega, pt_iso hiso hreg ⟨by omega, by omega⟩ k (by show (k : Int) ≤ μ'.2.2 (t + 5) top; omega), e17, a56, show pt (vT μ' t) top k + 256 = 256 + pt (vT μ' t) top k by omega]
    exact ⟨by omega, by omega, by omega, hgr _ q.1 (by omega)⟩
  have ma : mok (stA α 56 (256 + top) (256 + top)) (256 + top) := by
    refine ⟨?_, ?_, ?_, ?_, ?_, ?_, ?_⟩
    · show 0 ≤ α.2.2 49 (256 + top) ∧ α.2.2 49 (256 + top) ≤ 12
      rw [v1]; exact rt.1
    · show -9223372036854775808 ≤ α.2.2 50 (256 + top) ∧ α.2.2 50 (256 + top) < 9223372036854775808
      rw [v2]; exact rt.2.1
    · show 0 ≤ α.2.2 53 (256 + top) ∧ α.2.2 53 (256 + top) ≤ 240
      rw [v4]; exact rt.2.2.1
    · show 1 ≤ α.2.2 54 (256 + top) ∧ α.2.2 54 (256 + top) ≤ 240
      rw [v5]; have := rt.2.2.2.1; omega
    · show 0 ≤ α.2.2 52 (256 + top) ∧ α.2.2 52 (256 + top) ≤ 240
      rw [v3]; have := rt.2.2.2.2.1; have := g2.1; omega
    · show α.2.2 52 (256 + top) = 0 ∨ 0 ≤ α.2.2 51 (256 + top) ∧ α.2.2 51 (256 + top) + α.2.2 52 (256 + top) ≤ 720
      rw [v3]
      have q := rt.2.2.2.2.1
      have q2 := g2.1
      rcases v6 with z | z
      · exact Or.inl z
      · exact Or.inr (by rw [z]; omega)
    · rw [stA_at]; omega
  have hrow : ∀ w, 256 ≤ w → w < 256 + α.1 46 17 → w ≠ 256 + top → 0 ≤ α.2.2 56 w → mok α w := fun w w1 w2 w3 w4 => by
    rw [e17] at w2
    rw [a56] at w4
    exact mok_eq (fun a _ _ => r3 a w (by omega)) (b6.2.2.1 w w1 (by rw [b3.2.1, hn.1]; exact w2) w4)
  have hgr2 : ∀ w, 256 ≤ w → w < 256 + α.1 46 17 → -1 ≤ α.2.2 56 w ∧ α.2.2 56 w < 384 := fun w w1 w2 => by
    rw [e17] at w2
    rw [a56]
    exact b6.2.2.2.1 w w1 (by rw [b3.2.1, hn.1]; exact w2)
  have e59 : α.2.2 59 = ν.2.2 59 := funext fun i => r3 59 i (by omega)
  refine (m_clTail (v := 256 + top) (m := m) (s := s) (d := d + 1) (by rw [e17]; omega) (by rw [e17]; omega) (by rw [r1 16 (by omega)]; exact b3.1) ⟨by rw [r1 19 (by omega)]; exact b3.2.2.2.1, by omega, by omega⟩ (by rw [e17]; exact hG) hrow hgr2 ma oa pa (by rw [a57]; exact b6.2.2.2.2) (fun z => by rw [e59, show d + 1 - 1 = d by omega]; exact hmd (by omega)) hf hl).mono ?_
  rintro o τ ⟨ν', rfl, ⟨c1, c2, c3, c4, c5, c6, c7, c8⟩, rfl⟩
  rw [show d + 1 - 1 = d by omega] at c2 c5 c8
  rw [e17] at c7
  refine ⟨ν', rfl, ?_, rfl⟩
  have f1 : ∀ q, q ≠ 15 → q ≠ 19 → ν'.1 46 q = ν.1 46 q := fun q h1 h2 => by rw [c3 46 q (by omega), r1 q h1]
  have f3 : ∀ a i, ¬ (49 ≤ a ∧ a ≤ 56 ∧ i = 256 + top) → ¬ (0 < d ∧ i = d ∧ (a = 59 ∨ a = 60)) → ν'.2.2 a i = ν.2.2 a i := fun a i h1 h2 => by rw [c5 a i (by omega) (by omega), r3 a i (by omega)]
  have f3a : ∀ a, a < 49 ∨ a = 57 ∨ 61 < a → ν'.2.2 a = ν.2.2 a := fun a ha => funext fun i => f3 a i (by omega) (by omega)
  have ex : μ'.1 x 1 = μ.1 x 1 := m1 x 1 (by omega) (by omega)
  have e21 : μ'.1 21 2 = μ.1 21 2 := m1 21 2 (by omega) (by omega)
  have xx : μ'.2.2 (x + 1) = μ.2.2 (x + 1) := funext fun i => m3 _ i (by omega)
  have x22 : μ'.2.2 22 = μ.2.2 22 := funext fun i => m3 _ i (by omega)
  have x23 : μ'.2.2 23 = μ.2.2 23 := funext fun i => m3 _ i (by omega)
  have e15 : ν'.1 46 15 = cpl x μ + 1 := by rw [c3 46 15 (by omega), r5]
  have g56 : ∀ k, k ≠ top → ν'.2.2 56 (256 + k) = ν.2.2 56 (256 + k) := fun k hk => f3 56 (256 + k) (by omega) (by omega)
  refine ⟨⟨by rw [f1 3 (by omega) (by omega), ex, f3a 47 (by omega), xx]; exact b1, ⟨?_, by rw [e15, ex]; omega⟩, ⟨by rw [f1 16 (by omega) (by omega)]; exact b3.1, by rw [f1 17 (by omega) (by omega), b3.2.1, en, hn.1], by rw [f1 18 (by omega) (by omega), eu]; exact b3.2.2.1, c2, by rw [f1 26 (by omega) (by omega), e21]; exact b3.2.2.2.2⟩, by rw [e21, f3a 62 (by omega), f3a 63 (by omega), x22, x23]; exact b4, by rw [eu, f3a 57 (by omega), aw]; exact b5, c1, fun k k0 k1 k2 => ?_⟩, ⟨fun a q h1 => by rw [c3 a q (by omega), ro a q h1], fun q h1 _ _ _ h2 _ _ _ => f1 q h1 h2, by rw [c4, r2], fun a ha => f3a a (by omega), fun a i h1 h2 h3 => f3 a i (by omega) (by omega), fun i _ => by rw [f3a 57 (by omega)]⟩, fun a i h1 h2 h3 => f3 a i (by omega) (by omega), fun k k1 k2 => ?_, fun k k0 k1 k2 k3 => ?_, fun a i h1 h2 h3 => f3 a i (by omega) (by omega), ⟨f3 58 d (by omega) (by omega), f3 61 d (by omega) (by omega)⟩, fun hd0 => ?_⟩
  · unfold cpl
    rw [f1 3 (by omega) (by omega), e15, f3a 47 (by omega), xx, ex, m5, b1.1]
    exact sk_cong b1.2.1 _ (by omega)
  · rw [en] at k1
    by_cases z : k = top
    · subst z
      have vv : ∀ a, 49 ≤ a → a ≤ 54 → ν'.2.2 a (256 + k) = α.2.2 a (256 + k) := fun a h1 h2 => c5 a (256 + k) (by omega) (by omega)
      refine ⟨by rw [vv 49 (by omega) (by omega), v1], by rw [vv 50 (by omega) (by omega), v2], by rw [vv 52 (by omega) (by omega), v3], by rw [vv 53 (by omega) (by omega), v4], by rw [vv 54 (by omega) (by omega), v5], ?_, ?_⟩
      · rw [c6, r3 61 (d + 1) (by omega), hbr]
      · rw [vv 51 (by omega) (by omega)]
        have q := rt.2.2.2.2.1
        rcases v6 with z | z
        · exact Or.inl z
        · exact Or.inr ⟨z, by omega, by omega⟩
    · rw [g56 k z] at k2
      exact RR_of (b7 k k0 (by omega) k2) (fun a ha => m3 a k (by omega)) (fun a h1 h2 => f3 a (256 + k) (by omega) (by omega)) (by rw [eu]; exact Int.le_refl _)
  · rw [en] at k2
    by_cases z : k = top
    · subst z; omega
    · rw [g56 k z]; exact hgr k (by omega) k2
  · rw [en] at k1
    rw [g56 k k2] at k3 ⊢
    exact hNR k k0 k1 k2 k3
  · obtain ⟨q1, q2⟩ := c8 hd0
    rw [q1, q2, r3 59 d (by omega), r3 60 d (by omega)]
    exact ⟨rfl, rfl⟩
