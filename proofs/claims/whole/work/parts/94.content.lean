/-! THE PURE PART, 76: what stands behind a tag, closed in both -/
/-- the content of a tag has been read: it took the array's row -/
def OC (t x : Nat) (D top m s : Int) (μ ν : Mem) : Prop := Rel t x D μ ν ∧ OL D top m 1 s ν ∧ (∀ k, top ≤ k → k < μ.1 t 7 → 0 ≤ ν.2.2 56 (256 + k)) ∧ (∀ k, 0 ≤ k → k < μ.1 t 7 → k ≠ top → 0 ≤ ν.2.2 56 (256 + k) → ν.2.2 56 (256 + k) ≠ 256 + top) ∧ ∀ k, 0 ≤ k → k < top → 0 ≤ ν.2.2 56 (256 + k) → ∀ n : Nat, (n : Int) < ν.2.2 53 (256 + k) → pt (vM ν) (256 + k) n ≠ 256 + top
theorem OC_of {t x : Nat} {D top m s : Int} {μb νb μ ν : Mem} (hb : OD t x D top m s μb νb) (hn : μb.1 t 7 = top ∧ 0 ≤ top) (hm : m ≠ 0) (hD : 0 < D) (g : Pst t x D top μ νb ν) : OC t x D top m s μ ν := by
  have hL := OL_step hb.2 hD g
  rw [if_neg hm] at hL
  refine ⟨g.1, hL, g.2.2.2.1, g.2.2.2.2.1, fun k k0 k1 k2 n hn' => ?_⟩
  have e : ∀ a, 49 ≤ a → a ≤ 56 → ∀ i, i < 256 + top → ν.2.2 a i = νb.2.2 a i := fun a a1 a2 i hi => g.2.2.1 a i a1 a2 hi
  rw [e 56 (by omega) (by omega) _ (by omega)] at k2
  rw [e 53 (by omega) (by omega) _ (by omega)] at hn'
  have e17 : νb.1 46 17 = top := hb.1.2.2.1.2.1.trans hn.1
  have q := (hb.1.2.2.2.2.2.1.2.1 (256 + k) (by omega) (by rw [e17]; omega) k2).2.2.1
  rw [e17] at q
  have h2 := pt_same (A := vM νb) (B := vM ν) (i := 256 + k) (n := 0) (j := n) (fun i hi => by
    have q1 := q i (show (i : Int) < νb.2.2 53 (256 + k) by omega)
    show pt (vM νb) (256 + k) i + ν.2.2 54 _ = pt (vM νb) (256 + k) i + νb.2.2 54 _
    rw [e 54 (by omega) (by omega) _ q1.2.1]) n (Nat.le_refl _)
  rw [h2]
  have q2 := (q n hn').2.1
  omega
/-- a value's row, as an array's -/
theorem GV_AS0 {t e : Nat} {top : Int} {μ : Mem} (h : GV t (e + 1) top μ) (hn : μ.1 t 7 ≤ 200) : AS0 t e top (μ.2.2 (t + 5) top).toNat μ ∧ ((μ.2.2 (t + 5) top).toNat : Int) = μ.2.2 (t + 5) top := by
  obtain ⟨g1, g2, g3, g4, g5⟩ := h
  have r := g2.2 top (Int.le_refl _) g1
  have g0 := g2.1
  refine ⟨⟨⟨g0.1, g1, hn⟩, ⟨⟨⟨by omega, g0.2⟩, fun k k1 k2 => g2.2 k (by omega) k2⟩, fun k k1 k2 => g5 k (by omega) k2⟩, fun m hm => ?_, by omega, r.2.1, r.2.2.2.2.1, (g5 top (Int.le_refl _) g1).2.2⟩, by omega⟩
  have q := r.2.2.2.2.2 m (by omega)
  rw [g3] at q
  exact ⟨q.1, q.2, g4.2.2.1 m (show (m : Int) < μ.2.2 (t + 5) top by omega)⟩
theorem cls_same {t : Nat} {top kd j : Int} {μ : Mem} (h5 : μ.2.2 (t + 5) top = j) (h6 : μ.2.2 (t + 6) top = μ.1 t 7) : cls μ t top kd j = stA μ (t + 1) top kd := by
  have e1 : stA (stA μ (t + 1) top kd) (t + 5) top j = stA μ (t + 1) top kd := by
    have := stA_self (stA μ (t + 1) top kd) (t + 5) top
    rw [stA_ne (by omega), h5] at this
    exact this
  unfold cls
  rw [e1]
  have := stA_self (stA μ (t + 1) top kd) (t + 6) top
  rw [stA_ne (by omega), h6] at this
  exact this
/-- an array turns to a set, a list, a map -/
theorem GV_kind {t x e : Nat} {top kd : Int} (hT : isT t) (hX : x = 42 ∨ x = 44) {μ : Mem} (hC : CI t x μ) (h : GV t (e + 1) top μ) (hn : μ.1 t 7 ≤ 200) (he : e ≤ 9) (hk : 9 ≤ kd ∧ kd ≤ 11) (h11 : kd = 11 → μ.2.2 (t + 5) top % 2 = 0) (hs : kd = 10 → ∀ n m : Nat, n < m → (m : Int) < μ.2.2 (t + 5) top → ¬ al 10 (vT μ t) (pt (vT μ t) top n) (vT μ t) (pt (vT μ t) top m)) (hm : kd = 11 → ∀ n m : Nat, n < m → (2 * m : Int) < μ.2.2 (t + 5) top → ¬ al 10 (vT μ t) (pt (vT μ t) top (2 * n)) (vT μ t) (pt (vT μ t) top (2 * m))) : CI t x (stA μ (t + 1) top kd) ∧ Kp t top μ (stA μ (t + 1) top kd) ∧ GV t (e + 1) top (stA μ (t + 1) top kd) := by
  obtain ⟨h0, hj⟩ := GV_AS0 h hn
  have hw := (h.2.2.2.2 top (Int.le_refl _) h.1).2.1.2.2.2
  obtain ⟨g1, g2, g3, _⟩ := GV_close0 hT hX hC h0 he (kd := kd) (by omega) (fun z => by omega) (fun z => by rw [hj]; exact h11 z) hw (fun z n m nm hm' => hs z n m nm (by omega)) (fun z n m nm hm' => hm z n m nm (by omega))
  rw [hj, cls_same rfl h.2.2.1] at g1 g2 g3
  exact ⟨g1, g2, g3⟩
theorem GV_25 {t x e : Nat} {top s : Int} (hT : isT t) (hX : x = 42 ∨ x = 44) {μ : Mem} (hC : CI t x μ) (h : GV t e top μ) (hs : 0 ≤ s ∧ s ≤ 240) : CI t x (stA μ 25 top s) ∧ Kp t top μ (stA μ 25 top s) ∧ GV t e top (stA μ 25 top s) := by
  have hT' := hT
  unfold isT at hT
  have y : ∀ a, a ≠ 25 → (stA μ 25 top s).2.2 a = μ.2.2 a := fun a ha => stA_o2 ha
  have ev : vT (stA μ 25 top s) t = vT μ t := by unfold vT; rw [y _ (by omega), y _ (by omega), y _ (by omega), y _ (by omega), y _ (by omega), y _ (by omega), y _ (by omega)]
  obtain ⟨g1, g2, g3, g4, g5⟩ := h
  refine ⟨CI_of hC rfl rfl rfl rfl (y _ (by omega)) (y _ (by omega)) (y _ (by omega)) (y _ (by omega)) (by have := hC.2.2.2.2.1; have := hC.2.2.2.2.2.1; show μ.1 (t + 7) 1 ≤ μ.1 20 5 ∧ μ.1 20 5 ≤ μ.1 x 1; omega) hC.2.2.2.2.2.2.2.2.2.2, ⟨cfr_A (by omega), fun a k _ hk => stA_ne (by omega), fun k _ => by rw [y _ (by omega)], Int.le_refl _, Int.le_refl _, rfl⟩, g1, rok_eq (fun a h1 h2 => y a (by omega)) rfl g2, by rw [y _ (by omega)]; exact g3, by rw [ev]; exact g4, fun k k1 k2 => ?_⟩
  obtain ⟨q1, q2, q3⟩ := g5 k k1 k2
  refine ⟨by rw [ev]; exact q1, ?_, ?_⟩
  · unfold rki at q2 ⊢
    rw [y _ (by omega), y _ (by omega), y _ (by omega), y _ (by omega), y _ (by omega), y _ (by omega)]
    exact q2
  · by_cases z : k = top
    · rw [z, stA_at]; exact hs
    · rw [stA_ne (by omega)]; exact q3
/-- the reference's state there -/
def alq (ν : Mem) (top kd : Int) : Mem := stA (stI (skM ν) 46 15 ((skM ν).1 46 15 + 1)) 49 (256 + top) kd
theorem alq_f {ν : Mem} {top kd : Int} : (∀ a q, ¬ (a = 46 ∧ q = 15) → (alq ν top kd).1 a q = ν.1 a q) ∧ (alq ν top kd).1 46 15 = (skM ν).1 46 15 + 1 ∧ (alq ν top kd).2.1 = ν.2.1 ∧ (∀ a i, ¬ (a = 49 ∧ i = 256 + top) → (alq ν top kd).2.2 a i = ν.2.2 a i) ∧ (alq ν top kd).2.2 49 (256 + top) = kd := by
  refine ⟨fun a q h => ?_, ?_, rfl, fun a i h => ?_, ?_⟩
  · show (stI (skM ν) 46 15 ((skM ν).1 46 15 + 1)).1 a q = _
    rw [stI_ne h]; exact stI_ne h
  · show (stI (skM ν) 46 15 ((skM ν).1 46 15 + 1)).1 46 15 = _
    exact stI_at _ _ _ _
  · unfold alq
    rw [stA_ne (by omega)]; rfl
  · unfold alq
    rw [stA_at]
theorem alq_mfw {ν : Mem} {top kd : Int} (h0 : 0 ≤ top) : mfw ν (alq ν top kd) := by
  obtain ⟨p1, p2, p3, p4, p5⟩ := alq_f (ν := ν) (top := top) (kd := kd)
  exact ⟨fun a q h1 => p1 a q (by omega), fun q h1 _ _ _ _ _ _ _ => p1 46 q (by omega), p3, fun a ha => funext fun i => p4 a i (by omega), fun a i h1 h2 h3 => p4 a i (by omega), fun i hi => p4 57 i (by omega)⟩
def ctM (t x : Nat) (top kd s : Int) (μ : Mem) : Mem := stA (stA (stI μ 20 5 (cpl x μ + 1)) (t + 1) top kd) 25 top s
theorem cl_tailC {sc : Nat × (Nat → Int32)} {fr lo : Nat} {ρ : Nat × Nat × Nat} {t x e : Nat} {d top kd m s : Int} (hT : isT t) (hX : x = 42 ∨ x = 44) {μ ν : Mem} (hC : CI t x μ) (hd : 0 ≤ d ∧ d ≤ 7) (h0 : 0 ≤ top ∧ top < μ.1 t 7) (hn : μ.1 t 7 ≤ 126) (hc : cch x μ = 93) (hO : OC t x (d + 1) top m s μ ν) (hGm : RWS t (top + 1) μ) (hGV : GV t e top (ctM t x top kd s μ)) (hmd : 0 < d → 0 ≤ ν.2.2 59 d ∧ ν.2.2 59 d ≤ 7) (hf : 8 ≤ fr) (hl : 400 ≤ lo) {m' s' : Int} : w_P sc fr lo 148 7 4 false (none) prog_9_method_37_code 207 [some (.ref 46), some (.int (ji (256 + top))), some (.int (ji m')), some (.int (ji s'))] [] (hp (alq ν top kd), ρ) (fun o t' => ∃ ν' : Mem, o = .inl none ∧ Pst t x d top (ctM t x top kd s μ) ν ν' ∧ t' = (hp ν', ρ)) := by
  obtain ⟨p1, p2, p3, p4, p5⟩ := alq_f (ν := ν) (top := top) (kd := kd)
  obtain ⟨o1, o2, o3, o4, o5⟩ := hO
  have hs := Rel_sk hT hX hC o1
  have hT' := hT
  unfold isT at hT
  have hlt := cch_lt hc (by decide)
  have e17 := o1.2.2.1.2.1
  have mA : ∀ a i, ¬ ((a = t + 1 ∨ a = 25) ∧ i = top) → (ctM t x top kd s μ).2.2 a i = μ.2.2 a i := fun a i h => by
    unfold ctM
    rw [stA_ne (by omega), stA_ne (by omega)]; rfl
  have m1 : (ctM t x top kd s μ).2.2 (t + 1) top = kd := by
    unfold ctM
    rw [stA_o2 (by omega), stA_at]
  have m25 : (ctM t x top kd s μ).2.2 25 top = s := stA_at _ _ _ _
  obtain ⟨r1, r2, r3, r4, r5, r6, r7⟩ := o1.2.2.2.2.2.2 top h0.1 h0.2 (o3 top (Int.le_refl _) h0.2)
  refine cl_ok (n := μ.1 t 7) hT' hX hC o1 hd ⟨rfl, hn⟩ h0 (fun a q h1 h2 => (show (ctM t x top kd s μ).1 a q = (stI μ 20 5 (cpl x μ + 1)).1 a q from rfl).trans (stI_ne (by omega))) ((show (ctM t x top kd s μ).1 20 5 = (stI μ 20 5 (cpl x μ + 1)).1 20 5 from rfl).trans (stI_at _ _ _ _)) (fun a i h => mA a i (by omega)) hlt (fun q h => p1 46 q (by omega)) (fun a q h => p1 a q (by omega)) (by rw [p2, hs.2]) p3 (fun a i h => p4 a i (by omega)) (by rw [p5, m1]) (by rw [p4 50 _ (by omega), mA (t + 2) _ (by omega), r2]) (by rw [p4 52 _ (by omega), mA (t + 4) _ (by omega), r3]) (by rw [p4 53 _ (by omega), mA (t + 5) _ (by omega), r4]) (by rw [p4 54 _ (by omega), mA (t + 6) _ (by omega), r5]) (by rw [p4 51 _ (by omega), mA (t + 4) _ (by omega), mA (t + 3) _ (by omega)]; exact r7.imp id (fun z => z.1)) ?_ hGV (fun k k1 k2 => o3 k (by omega) k2) o4 (by rw [m25]; exact o2.2.2.2) hmd hf hl
  have hG := o1.2.2.2.2.2.1.2.1
  rw [e17] at hG
  rw [show (alq ν top kd).2.2 56 = ν.2.2 56 from funext fun i => p4 56 i (by omega)]
  refine GI_drop hG (fun w w1 w2 w3 w4 => ?_) (fun w w1 w2 w3 w4 n hn' => ?_) (fun w w1 w2 w3 w4 => ?_)
  · have := o4 (w - 256) (by omega) (by omega) (by omega)
    rw [show 256 + (w - 256) = w by omega] at this
    exact this w4
  · by_cases z : w < 256 + top
    · have := o5 (w - 256) (by omega) (by omega)
      rw [show 256 + (w - 256) = w by omega] at this
      exact this w4 n hn'
    · have hi := Rel_iso o1 (lo := top + 1) (by omega) (fun k k1 k2 => o3 k (by omega) k2) hGm.1
      have hk : top + 1 ≤ w - 256 ∧ w - 256 < μ.1 t 7 := by omega
      have hrr := o1.2.2.2.2.2.2 (w - 256) (by omega) hk.2 (by rw [show 256 + (w - 256) = w by omega]; exact w4)
      have h53 : ν.2.2 53 w = μ.2.2 (t + 5) (w - 256) := by
        have := hrr.2.2.2.1
        rw [show 256 + (w - 256) = w by omega] at this
        exact this
      have hn'' : (n : Int) < μ.2.2 (t + 5) (w - 256) := by rw [← h53]; exact hn'
      have hp := pt_iso hi (RWS_reg hGm) hk n (show (n : Int) ≤ μ.2.2 (t + 5) (w - 256) by omega)
      rw [show w - 256 + 256 = w by omega] at hp
      rw [hp]
      have := ((hGm.1.2 (w - 256) hk.1 hk.2).2.2.2.2.2 n hn'').1
      omega
  · refine ⟨⟨(p4 49 w (by omega)).symm, (p4 50 w (by omega)).symm, (p4 53 w (by omega)).symm, (p4 52 w (by omega)).symm, fun y y0 y1 => ?_⟩, ?_⟩
    · show ν.2.2 57 (ν.2.2 51 w + y) = (alq ν top kd).2.2 57 ((alq ν top kd).2.2 51 w + y)
      rw [p4 51 w (by omega), p4 57 _ (by omega)]
    · show w + (alq ν top kd).2.2 54 w = w + ν.2.2 54 w
      rw [p4 54 w (by omega)]
/-- a tag's content, closed in both -/
theorem sim_cont {sc : Nat × (Nat → Int32)} {t x e : Nat} {d top kd m s f : Int} (hT : isT t) (hX : x = 42 ∨ x = 44) {μ ν : Mem} (hC : CI t x μ) (hG0 : GV t (e + 1) top μ) (hd : 0 ≤ d ∧ d ≤ 7) (hn : μ.1 t 7 ≤ 126) (hc : cch x μ = 93) (hO : OC t x (d + 1) top m s μ ν) (hGV : GV t (e + 1) top (ctM t x top kd s μ)) (hmd : 0 < d → 0 ≤ ν.2.2 59 d ∧ ν.2.2 59 d ≤ 7) (hm : m = 3 ∧ kd = μ.2.2 (t + 1) top ∨ μ.2.2 (t + 1) top = 8 ∧ (m = 4 ∧ kd = 10 ∧ (∀ n m : Nat, n < m → (m : Int) < μ.2.2 (t + 5) top → ¬ al 10 (vT μ t) (pt (vT μ t) top n) (vT μ t) (pt (vT μ t) top m)) ∨ m = 5 ∧ kd = 9 ∨ m = 6 ∧ kd = 11 ∧ μ.2.2 (t + 5) top % 2 = 0 ∧ ∀ n m : Nat, n < m → (2 * m : Int) < μ.2.2 (t + 5) top → ¬ al 10 (vT μ t) (pt (vT μ t) top (2 * n)) (vT μ t) (pt (vT μ t) top (2 * m)))) : Stq sc 0 f ν 0 0 (Pst t x d top (ctM t x top kd s μ) ν) := by
  obtain ⟨l1, l2, l3, l4⟩ := hO.2.1
  obtain ⟨h0, hj⟩ := GV_AS0 hG0 (by omega)
  obtain ⟨a1, a2, a4, a5, a6, a7, a8⟩ := h0
  obtain ⟨p1, p2, p3, p4, p5⟩ := alq_f (ν := ν) (top := top) (kd := kd)
  have hg := hO.2.2.1
  obtain ⟨r1, r2, r3, r4, r5, r6, r7⟩ := hO.1.2.2.2.2.2.2 top a1.1 a1.2.1 (hg top (Int.le_refl _) a1.2.1)
  have h19 : ν.1 46 19 = d + 1 := hO.1.2.2.1.2.2.2.1
  have h16 : ν.1 46 16 = -1 := hO.1.2.2.1.1
  refine L_cl hT hX hC hO.1 (by omega) l2 l3 (by omega) (by omega) (Or.inl rfl) (by omega) hc (fun fr lo ρ hf hl => ?_)
  have hv1 : (skM ν).2.2 58 (d + 1) = 256 + top ∧ 256 ≤ 256 + top ∧ 256 + top < 384 := ⟨l1, by omega, by omega⟩
  have hd1 : (skM ν).1 46 19 = d + 1 ∧ 1 ≤ d + 1 ∧ d + 1 ≤ 8 := ⟨(show (skM ν).1 46 19 = ν.1 46 19 from stI_ne (by omega)).trans h19, by omega, by omega⟩
  have h16s : (skM ν).1 46 16 = -1 := (show (skM ν).1 46 16 = ν.1 46 16 from stI_ne (by omega)).trans h16
  have tail := fun (m' s' : Int) => cl_tailC (sc := sc) (fr := fr) (lo := lo) (ρ := ρ) (m' := m') (s' := s') hT hX hC hd ⟨a1.1, a1.2.1⟩ hn hc hO a2 hGV hmd (by omega) (by omega)
  have hpr : ∀ m : Nat, m < (μ.2.2 (t + 5) top).toNat → top < pt (vT μ t) top m ∧ pt (vT μ t) top m < μ.1 t 7 := fun m hm => ⟨(a4 m hm).1, (a4 m hm).2.1⟩
  have h53 : (alq ν top kd).2.2 53 (256 + top) = ((μ.2.2 (t + 5) top).toNat : Int) := by rw [p4 53 _ (by omega), r4, hj]
  rcases hm with ⟨h3, hk⟩ | ⟨h8, ⟨h3, hk, hno⟩ | ⟨h3, hk⟩ | ⟨h3, hk, hev, hno⟩⟩
  · refine m_close3 (μ := skM ν) (fr := fr) (lo := lo) hv1 l2 hd1 (by omega) (by omega) h3 ?_
    have e : alq ν top kd = stI (skM ν) 46 15 ((skM ν).1 46 15 + 1) := by
      have := stA_self (stI (skM ν) 46 15 ((skM ν).1 46 15 + 1)) 49 (256 + top)
      rw [show (stI (skM ν) 46 15 ((skM ν).1 46 15 + 1)).2.2 49 (256 + top) = kd from r1.trans hk.symm] at this
      exact this
    rw [← e]
    exact tail m 0
  · subst hk
    exact m_close4 (μ := skM ν) (fr := fr) (lo := lo) hv1 l2 hd1 (by omega) (by omega) h16s h3 (r1.trans h8) (μ3 := alq ν top 10) (dbl_ok (α := alq ν top 10) (s := 1) (Or.inl rfl) hO.1 a2 (by omega) hn a5 (fun k k1 k2 => hg k (by omega) k2) hpr (fun a i h1 h2 h3 => p4 a i (by omega)) h53 ((p1 46 16 (by omega)).trans h16) (by omega) (by omega) (fun i k hik hk => by rw [Nat.one_mul, Nat.one_mul]; exact hno i k hik (by omega))) (tail m 1)
  · subst hk
    exact m_close5 (μ := skM ν) (fr := fr) (lo := lo) hv1 l2 hd1 (by omega) (by omega) h16s h3 (r1.trans h8) (tail m 1)
  · subst hk
    exact m_close6 (μ := skM ν) (fr := fr) (lo := lo) hv1 l2 hd1 (by omega) (by omega) h16s h3 (by show 0 ≤ ν.2.2 53 (256 + top) ∧ ν.2.2 53 (256 + top) ≤ 240; rw [r4]; omega) ⟨r1.trans h8, (congrArg (· % 2) r4).trans hev⟩ (μ3 := alq ν top 11) (dbl_ok (α := alq ν top 11) (s := 2) (Or.inr rfl) hO.1 a2 (by omega) hn a5 (fun k k1 k2 => hg k (by omega) k2) hpr (fun a i h1 h2 h3 => p4 a i (by omega)) h53 ((p1 46 16 (by omega)).trans h16) (by omega) (by omega) (fun i k hik hk => hno i k hik (by omega))) (tail m 1)
/-- what stands behind set, list or cmap is no array, or odd -/
theorem sim_contX1 {sc : Nat × (Nat → Int32)} {t x e : Nat} {d top m s f : Int} (hT : isT t) (hX : x = 42 ∨ x = 44) {μ ν : Mem} (hC : CI t x μ) (hG0 : GV t (e + 1) top μ) (hd : 0 ≤ d ∧ d ≤ 7) (hn : μ.1 t 7 ≤ 126) (hc : cch x μ = 93) (hO : OC t x (d + 1) top m s μ ν) (hmd : 0 < d → 0 ≤ ν.2.2 59 d ∧ ν.2.2 59 d ≤ 7) (hm : (m = 4 ∨ m = 5 ∨ m = 6) ∧ μ.2.2 (t + 1) top ≠ 8 ∨ m = 6 ∧ μ.2.2 (t + 5) top % 2 = 1) : StX sc 0 f ν (μ.2.2 25 top) := by
  obtain ⟨l1, l2, l3, l4⟩ := hO.2.1
  obtain ⟨h0, hj⟩ := GV_AS0 hG0 (by omega)
  have hk0 := (hG0.2.1.2 top (Int.le_refl _) hG0.1).1
  obtain ⟨a1, a2, a4, a5, a6, a7, a8⟩ := h0
  have hg := hO.2.2.1
  obtain ⟨r1, r2, r3, r4, r5, r6, r7⟩ := hO.1.2.2.2.2.2.2 top a1.1 a1.2.1 (hg top (Int.le_refl _) a1.2.1)
  have h19 : ν.1 46 19 = d + 1 := hO.1.2.2.1.2.2.2.1
  have h16 : ν.1 46 16 = -1 := hO.1.2.2.1.1
  have hsz := hC.2.1
  have hcp := cpl_in hC
  have h00 := hC.2.2.2.2.1
  refine StX_Stq (L_cl hT hX hC hO.1 (by omega) l2 l3 (by omega) (by omega) (Or.inl rfl) (by omega) hc (fun fr lo ρ hf hl => ?_))
  have hv1 : (skM ν).2.2 58 (d + 1) = 256 + top ∧ 256 ≤ 256 + top ∧ 256 + top < 384 := ⟨l1, by omega, by omega⟩
  have hd1 : (skM ν).1 46 19 = d + 1 ∧ 1 ≤ d + 1 ∧ d + 1 ≤ 8 := ⟨(show (skM ν).1 46 19 = ν.1 46 19 from stI_ne (by omega)).trans h19, by omega, by omega⟩
  have h16s : (skM ν).1 46 16 = -1 := (show (skM ν).1 46 16 = ν.1 46 16 from stI_ne (by omega)).trans h16
  have hk1 : 0 ≤ (skM ν).2.2 49 (256 + top) ∧ (skM ν).2.2 49 (256 + top) ≤ 12 := by
    show 0 ≤ ν.2.2 49 (256 + top) ∧ ν.2.2 49 (256 + top) ≤ 12
    rw [r1]; exact hk0
  have hfr : 0 ≤ (skM ν).2.2 55 (256 + top) ∧ (skM ν).2.2 55 (256 + top) ≤ 1000 := by
    show 0 ≤ ν.2.2 55 (256 + top) ∧ ν.2.2 55 (256 + top) ≤ 1000
    rw [r6]; omega
  have h53r : 0 ≤ (skM ν).2.2 53 (256 + top) ∧ (skM ν).2.2 53 (256 + top) ≤ 240 := by
    show 0 ≤ ν.2.2 53 (256 + top) ∧ ν.2.2 53 (256 + top) ≤ 240
    rw [r4]; omega
  obtain ⟨α, hα⟩ : ∃ α, α = stI (stI (skM ν) 46 15 ((skM ν).1 46 15 + 1)) 46 16 ((skM ν).2.2 55 (256 + top)) := ⟨_, rfl⟩
  have α2 : α.2.2 = ν.2.2 := by rw [hα]; rfl
  have α16 : α.1 46 16 = μ.2.2 25 top := by rw [hα, stI_at]; exact r6
  have α15 : α.1 46 15 = cpl x μ + 1 := by rw [hα, stI_ne (by omega), stI_at, (Rel_sk hT hX hC hO.1).2]
  have α19 : α.1 46 19 = d + 1 := by rw [hα, stI_ne (by omega), stI_ne (by omega)]; exact hd1.1
  have αw : mfw ν α := by rw [hα]; exact mfw_trans (mfw_trans (mfw_I (q := 15) (by decide)) (mfw_I (q := 15) (by decide))) (mfw_I (q := 16) (by decide))
  have hpr : ∀ m : Nat, m < (μ.2.2 (t + 5) top).toNat → top < pt (vT μ t) top m ∧ pt (vT μ t) top m < μ.1 t 7 := fun m hm => ⟨(a4 m hm).1, (a4 m hm).2.1⟩
  have h53 : α.2.2 53 (256 + top) = ((μ.2.2 (t + 5) top).toNat : Int) := by rw [α2, r4, hj]
  have hD := fun (sN : Nat) (hs : sN = 1 ∨ sN = 2) => m_doublesS (sc := sc) (fr := fr - 1) (lo := lo - (19 + 7)) (ρ := ρ) (μ := α) (v := 256 + top) hs (by omega) (by rw [h53]; omega) (dbl_pre hO.1 a2 (by omega) hn (fun k k1 k2 => hg k (by omega) k2) hpr (fun a i h1 h2 h3 => by rw [α2]) h53).2 (by rw [α16]; omega) (by omega) (by omega)
  have tail : ∀ m' s' : Int, w_P sc fr lo 148 7 4 false (none) prog_9_method_37_code 207 [some (.ref 46), some (.int (ji (256 + top))), some (.int (ji m')), some (.int (ji s'))] [] (hp α, ρ) (fun o t' => ∃ ν' : Mem, o = .inl none ∧ mbv ν ν' (μ.2.2 25 top) ∧ t' = (hp ν', ρ)) := fun m' s' => by
    refine (m_clTailX (fr := fr) (lo := lo) (d := d + 1) (by omega) (by rw [α16]; omega) ⟨α19, by omega, by omega⟩ (fun z => ?_) (by omega) (by omega)).mono ?_
    · rw [α2, show d + 1 - 1 = d by omega]
      exact hmd (by omega)
    · rintro o τ ⟨ν', rfl, ⟨q1, q2, q3, q4⟩, rfl⟩
      exact ⟨ν', rfl, ⟨⟨mfw_trans αw q1, by rw [q2, α16], by rw [q3, α15]; omega⟩, fun y => by rw [q4, α2]; exact hO.1.2.2.2.2.2.1.2.2.2.2 y⟩, rfl⟩
  rcases (show m = 4 ∧ μ.2.2 (t + 1) top ≠ 8 ∨ m = 5 ∧ μ.2.2 (t + 1) top ≠ 8 ∨ m = 6 ∧ (μ.2.2 (t + 1) top ≠ 8 ∨ μ.2.2 (t + 5) top % 2 = 1) by omega) with ⟨h3, h8⟩ | ⟨h3, h8⟩ | ⟨h3, h8⟩
  · exact m_close4x (μ := skM ν) (fr := fr) (lo := lo) hv1 l2 hd1 (by omega) (by omega) h16s h3 hk1 (fun z => h8 (r1.symm.trans z)) hfr (μ3 := α) (by rw [← hα]; exact hD 1 (Or.inl rfl)) (tail m 1)
  · exact m_close5x (μ := skM ν) (fr := fr) (lo := lo) hv1 l2 hd1 (by omega) (by omega) h16s h3 hk1 (fun z => h8 (r1.symm.trans z)) hfr (by rw [← hα]; exact tail m 1)
  · exact m_close6x (μ := skM ν) (fr := fr) (lo := lo) hv1 l2 hd1 (by omega) (by omega) h16s h3 h53r hk1 (h8.imp (fun y z => y (r1.symm.trans z)) (fun y => (congrArg (· % 2) r4).trans y)) hfr (μ3 := α) (by rw [← hα]; exact hD 2 (Or.inr rfl)) (tail m 1)
/-- a part of a set, a key of a cmap, comes twice -/
theorem sim_contX2 {sc : Nat × (Nat → Int32)} {t x e k sN : Nat} {d top m s f : Int} (hT : isT t) (hX : x = 42 ∨ x = 44) {μ ν : Mem} (hC : CI t x μ) (hG0 : GV t (e + 1) top μ) (hd : 0 ≤ d ∧ d ≤ 7) (hn : μ.1 t 7 ≤ 126) (hc : cch x μ = 93) (hO : OC t x (d + 1) top m s μ ν) (hmd : 0 < d → 0 ≤ ν.2.2 59 d ∧ ν.2.2 59 d ≤ 7) (h8 : μ.2.2 (t + 1) top = 8) (hm : m = 4 ∧ sN = 1 ∨ m = 6 ∧ sN = 2 ∧ μ.2.2 (t + 5) top % 2 = 0) (hk : ((sN * k : Nat) : Int) < μ.2.2 (t + 5) top) (htw : ∃ i, i < k ∧ al 10 (vT μ t) (pt (vT μ t) top (sN * i)) (vT μ t) (pt (vT μ t) top (sN * k))) (hfi : ∀ i k' : Nat, i < k' → k' < k → ¬ al 10 (vT μ t) (pt (vT μ t) top (sN * i)) (vT μ t) (pt (vT μ t) top (sN * k'))) : StX sc 0 f ν (μ.2.2 25 (pt (vT μ t) top (sN * k))) := by
  obtain ⟨l1, l2, l3, l4⟩ := hO.2.1
  obtain ⟨h0, hj⟩ := GV_AS0 hG0 (by omega)
  obtain ⟨a1, a2, a4, a5, a6, a7, a8⟩ := h0
  have hg := hO.2.2.1
  obtain ⟨r1, r2, r3, r4, r5, r6, r7⟩ := hO.1.2.2.2.2.2.2 top a1.1 a1.2.1 (hg top (Int.le_refl _) a1.2.1)
  have h19 : ν.1 46 19 = d + 1 := hO.1.2.2.1.2.2.2.1
  have h16 : ν.1 46 16 = -1 := hO.1.2.2.1.1
  have hsz := hC.2.1
  have hcp := cpl_in hC
  have h00 := hC.2.2.2.2.1
  have hlt := cch_lt hc (by decide)
  refine StX_Stq (L_cl hT hX hC hO.1 (by omega) l2 l3 (by omega) (by omega) (Or.inl rfl) (by omega) hc (fun fr lo ρ hf hl => ?_))
  have hv1 : (skM ν).2.2 58 (d + 1) = 256 + top ∧ 256 ≤ 256 + top ∧ 256 + top < 384 := ⟨l1, by omega, by omega⟩
  have hd1 : (skM ν).1 46 19 = d + 1 ∧ 1 ≤ d + 1 ∧ d + 1 ≤ 8 := ⟨(show (skM ν).1 46 19 = ν.1 46 19 from stI_ne (by omega)).trans h19, by omega, by omega⟩
  have h16s : (skM ν).1 46 16 = -1 := (show (skM ν).1 46 16 = ν.1 46 16 from stI_ne (by omega)).trans h16
  have h53r : 0 ≤ (skM ν).2.2 53 (256 + top) ∧ (skM ν).2.2 53 (256 + top) ≤ 240 := by
    show 0 ≤ ν.2.2 53 (256 + top) ∧ ν.2.2 53 (256 + top) ≤ 240
    rw [r4]; omega
  have hpr : ∀ m : Nat, m < (μ.2.2 (t + 5) top).toNat → top < pt (vT μ t) top m ∧ pt (vT μ t) top m < μ.1 t 7 := fun m hm => ⟨(a4 m hm).1, (a4 m hm).2.1⟩
  have hkj : sN * k < (μ.2.2 (t + 5) top).toNat := by omega
  have hst := (a2.2 _ (by have := (hpr _ hkj).1; omega) (hpr _ hkj).2).2.2
  have key : ∀ kd : Int, w_E sc (fr - 1) (lo - (19 + 7)) 149 [.ref 46, .int (ji (256 + top)), .int (ji (sN : Int))] (hp (alq ν top kd), ρ) (.inl none) (hp (stI (alq ν top kd) 46 16 (μ.2.2 25 (pt (vT μ t) top (sN * k)))), ρ) ∧ ∀ m' s' : Int, w_P sc fr lo 148 7 4 false (none) prog_9_method_37_code 207 [some (.ref 46), some (.int (ji (256 + top))), some (.int (ji m')), some (.int (ji s'))] [] (hp (stI (alq ν top kd) 46 16 (μ.2.2 25 (pt (vT μ t) top (sN * k)))), ρ) (fun o t' => ∃ ν' : Mem, o = .inl none ∧ mbv ν ν' (μ.2.2 25 (pt (vT μ t) top (sN * k))) ∧ t' = (hp ν', ρ)) := fun kd => by
    obtain ⟨p1, p2, p3, p4, p5⟩ := alq_f (ν := ν) (top := top) (kd := kd)
    refine ⟨dbl_bad (α := alq ν top kd) (s := sN) (by omega) hO.1 a2 (by omega) hn a5 (fun k k1 k2 => hg k (by omega) k2) hpr (fun a i h1 h2 h3 => p4 a i (by omega)) (by rw [p4 53 _ (by omega), r4, hj]) ((p1 46 16 (by omega)).trans h16) (by omega) (by omega) hkj htw hfi, fun m' s' => ?_⟩
    refine (m_clTailX (fr := fr) (lo := lo) (d := d + 1) (by omega) (by rw [stI_at]; omega) ⟨by rw [stI_ne (by omega), p1 46 19 (by omega)]; exact h19, by omega, by omega⟩ (fun z => ?_) (by omega) (by omega)).mono ?_
    · show 0 ≤ (alq ν top kd).2.2 59 (d + 1 - 1) ∧ (alq ν top kd).2.2 59 (d + 1 - 1) ≤ 7
      rw [p4 59 _ (by omega), show d + 1 - 1 = d by omega]
      exact hmd (by omega)
    · rintro o τ ⟨ν', rfl, ⟨q1, q2, q3, q4⟩, rfl⟩
      exact ⟨ν', rfl, ⟨⟨mfw_trans (mfw_trans (alq_mfw (by omega)) (mfw_I (q := 16) (by decide))) q1, by rw [q2, stI_at], by rw [q3, stI_ne (by omega), p2, (Rel_sk hT hX hC hO.1).2]; omega⟩, fun y => by rw [q4, show (stI (alq ν top kd) 46 16 (μ.2.2 25 (pt (vT μ t) top (sN * k)))).2.2 57 = ν.2.2 57 from funext fun i => p4 57 i (by omega)]; exact hO.1.2.2.2.2.2.1.2.2.2.2 y⟩, rfl⟩
  rcases hm with ⟨h3, h4⟩ | ⟨h3, h4, hev⟩
  · subst h4
    exact m_close4 (μ := skM ν) (fr := fr) (lo := lo) hv1 l2 hd1 (by omega) (by omega) h16s h3 (r1.trans h8) (key 10).1 ((key 10).2 m 1)
  · subst h4
    exact m_close6 (μ := skM ν) (fr := fr) (lo := lo) hv1 l2 hd1 (by omega) (by omega) h16s h3 h53r ⟨r1.trans h8, (congrArg (· % 2) r4).trans hev⟩ (key 11).1 ((key 11).2 m 1)
