/-! THE PURE PART, 71: an array that is being read -/
/-- the rows behind lo are whole -/
def RWS (t : Nat) (lo : Int) (μ : Mem) : Prop := rok μ t lo (μ.1 t 7) ∧ ∀ k, lo ≤ k → k < μ.1 t 7 → okv 10 (vT μ t) k ∧ rki μ t k ∧ 0 ≤ μ.2.2 25 k ∧ μ.2.2 25 k ≤ 240
/-- the class has read j parts of the array at top -/
def AS (t e : Nat) (top : Int) (j : Nat) (μ : Mem) : Prop := (0 ≤ top ∧ top < μ.1 t 7 ∧ μ.1 t 7 ≤ 200) ∧ RWS t (top + 1) μ ∧ pt (vT μ t) top j = μ.1 t 7 ∧ (∀ m : Nat, m < j → top < pt (vT μ t) top m ∧ pt (vT μ t) top m < μ.1 t 7 ∧ okv e (vT μ t) (pt (vT μ t) top m)) ∧ top + j < μ.1 t 7 ∧ μ.2.2 (t + 2) top = 0 ∧ (0 ≤ μ.2.2 (t + 3) top ∧ 0 ≤ μ.2.2 (t + 4) top ∧ μ.2.2 (t + 3) top + μ.2.2 (t + 4) top ≤ μ.1 (t + 7) 1) ∧ (0 ≤ μ.2.2 25 top ∧ μ.2.2 25 top ≤ 240)
theorem rok_reg {μ : Mem} {t : Nat} {lo hi : Int} (h : rok μ t lo hi) (ho : ∀ k, lo ≤ k → k < hi → okv 10 (vT μ t) k) : reg (vT μ t) (fun k => lo ≤ k ∧ k < hi) := fun k hk => ⟨fun z => (ho k hk.1 hk.2).2.1 z, fun n hn => by
  have r := (h.2 k hk.1 hk.2).2.2.2
  have p := r.2.2 n hn
  exact ⟨by omega, by have := r.1.2.1; omega⟩⟩
theorem RWS_reg {t : Nat} {lo : Int} {μ : Mem} (h : RWS t lo μ) : reg (vT μ t) (fun k => lo ≤ k ∧ k < μ.1 t 7) := rok_reg h.1 (fun k k1 k2 => (h.2 k k1 k2).1)
/-- rows and words that stay: the same values -/
theorem keep_eqv {t : Nat} {μ μ' : Mem} {lo hi : Int} (hr : rok μ t lo hi) (ha : ∀ a k, t + 1 ≤ a ∧ a ≤ t + 6 → lo ≤ k → k < hi → μ'.2.2 a k = μ.2.2 a k) (hw : ∀ k, k < μ.1 (t + 7) 1 → μ'.2.2 (t + 7 + 1) k = μ.2.2 (t + 7 + 1) k) : eqv (vT μ t) (vT μ' t) (fun k => lo ≤ k ∧ k < hi) := fun k hk => by
  have r := hr.2 k hk.1 hk.2
  have a := fun a h => ha a k h hk.1 hk.2
  refine ⟨⟨(a (t + 1) (by omega)).symm, (a (t + 2) (by omega)).symm, (a (t + 5) (by omega)).symm, (a (t + 4) (by omega)).symm, fun y y0 y1 => ?_⟩, a (t + 6) (by omega)⟩
  have y1 : y < μ.2.2 (t + 4) k := y1
  show μ.2.2 (t + 7 + 1) (μ.2.2 (t + 3) k + y) = μ'.2.2 (t + 7 + 1) (μ'.2.2 (t + 3) k + y)
  rw [a (t + 3) (by omega)]
  exact (hw _ (by have := r.2.2.2.2.1; omega)).symm
/-- rows lo to hi stay whole where nothing of them is changed -/
theorem rok_keep {t : Nat} {μ μ' : Mem} {lo hi hi' : Int} (hr : rok μ t lo hi) (hreg : reg (vT μ t) (fun k => lo ≤ k ∧ k < hi)) (ha : ∀ a k, t + 1 ≤ a ∧ a ≤ t + 6 → lo ≤ k → k < hi → μ'.2.2 a k = μ.2.2 a k) (hw : ∀ k, k < μ.1 (t + 7) 1 → μ'.2.2 (t + 7 + 1) k = μ.2.2 (t + 7 + 1) k) (hu : μ.1 (t + 7) 1 ≤ μ'.1 (t + 7) 1) (hh : hi ≤ hi') {k : Int} (k1 : lo ≤ k) (k2 : k < hi) : (0 ≤ μ'.2.2 (t + 1) k ∧ μ'.2.2 (t + 1) k ≤ 12) ∧ (-9223372036854775808 ≤ μ'.2.2 (t + 2) k ∧ μ'.2.2 (t + 2) k < 9223372036854775808) ∧ (0 ≤ μ'.2.2 (t + 5) k ∧ μ'.2.2 (t + 5) k ≤ 240) ∧ (k < μ'.2.2 (t + 6) k ∧ μ'.2.2 (t + 6) k ≤ hi' ∧ ∀ m, k ≤ m → m < μ'.2.2 (t + 6) k → μ'.2.2 (t + 6) m ≤ μ'.2.2 (t + 6) k) ∧ (0 ≤ μ'.2.2 (t + 3) k ∧ 0 ≤ μ'.2.2 (t + 4) k ∧ μ'.2.2 (t + 3) k + μ'.2.2 (t + 4) k ≤ μ'.1 (t + 7) 1) ∧ ∀ n : Nat, (n : Int) < μ'.2.2 (t + 5) k → k < pt (vT μ' t) k n ∧ pt (vT μ' t) k n < μ'.2.2 (t + 6) k := by
  obtain ⟨r1, r2, r3, r4, r5, r6⟩ := hr.2 k k1 k2
  have a := fun a h => ha a k h k1 k2
  rw [a (t + 1) (by omega), a (t + 2) (by omega), a (t + 3) (by omega), a (t + 4) (by omega), a (t + 5) (by omega), a (t + 6) (by omega)]
  refine ⟨r1, r2, r3, ⟨r4.1, by omega, fun m m1 m2 => ?_⟩, ⟨r5.1, r5.2.1, by omega⟩, fun n hn => ?_⟩
  · rw [ha (t + 6) m (by omega) (by omega) (by omega)]
    exact r4.2.2 m m1 m2
  · rw [pt_eqv (keep_eqv hr ha hw) hreg ⟨k1, k2⟩ n (by show (n : Int) ≤ μ.2.2 (t + 5) k; omega)]
    exact r6 n hn
theorem rki_keep {t : Nat} {μ μ' : Mem} {k : Int} (h : rki μ t k) (hr : 0 ≤ μ.2.2 (t + 3) k ∧ 0 ≤ μ.2.2 (t + 4) k ∧ μ.2.2 (t + 3) k + μ.2.2 (t + 4) k ≤ μ.1 (t + 7) 1) (ha : ∀ a, t + 1 ≤ a ∧ a ≤ t + 6 → μ'.2.2 a k = μ.2.2 a k) (hw : ∀ k, k < μ.1 (t + 7) 1 → μ'.2.2 (t + 7 + 1) k = μ.2.2 (t + 7 + 1) k) : rki μ' t k := by
  unfold rki
  rw [ha (t + 1) (by omega), ha (t + 2) (by omega), ha (t + 3) (by omega), ha (t + 4) (by omega), ha (t + 5) (by omega)]
  refine ⟨h.1, h.2.1, h.2.2.1, fun i i0 i1 => ?_⟩
  rw [hw _ (by omega)]
  exact h.2.2.2 i i0 i1
/-- rows below stay, and a value is behind them -/
theorem RWS_step {t e : Nat} {lo n : Int} {μ μ' : Mem} (h : RWS t lo μ) (hn : μ.1 t 7 = n) (hl : lo ≤ n) (hK : Kp t n μ μ') (hG : GV t e n μ') : RWS t lo μ' := by
  obtain ⟨g1, g2, g3, g4, g5⟩ := hG
  subst hn
  have ha : ∀ a k, t + 1 ≤ a ∧ a ≤ t + 6 → lo ≤ k → k < μ.1 t 7 → μ'.2.2 a k = μ.2.2 a k := fun a k h1 h2 h3 => hK.2.1 a k (Or.inl h1) h3
  have hq := keep_eqv h.1 ha hK.2.2.1
  refine ⟨⟨⟨h.1.1.1, g2.1.2.1, g2.1.2.2⟩, fun k k1 k2 => ?_⟩, fun k k1 k2 => ?_⟩
  · by_cases z : k < μ.1 t 7
    · exact rok_keep h.1 (RWS_reg h) ha hK.2.2.1 hK.2.2.2.1 (by omega) k1 z
    · exact g2.2 k (by omega) k2
  · by_cases z : k < μ.1 t 7
    · obtain ⟨o1, o2, o3⟩ := h.2 k k1 z
      refine ⟨okv_eqv hq (RWS_reg h) 10 ⟨k1, z⟩ o1, rki_keep o2 (h.1.2 k k1 z).2.2.2.2.1 (fun a h1 => ha a k h1 k1 z) hK.2.2.1, ?_⟩
      rw [hK.2.1 25 k (Or.inr rfl) z]
      exact o3
    · exact g5 k (by omega) k2
theorem pt_same {A B : View} {i n : Int} {j : Nat} (h : ∀ m : Nat, m < j → B.2.2.2.1 (pt A i m) = A.2.2.2.1 (pt A i m)) : ∀ m : Nat, m ≤ j → pt B i m = pt A i m
  | 0, _ => rfl
  | m + 1, hm => by
    show B.2.2.2.1 (pt B i m) = A.2.2.2.1 (pt A i m)
    rw [pt_same (n := n) h m (by omega)]
    exact h m (by omega)
theorem AS_step {t e : Nat} {top n : Int} {j : Nat} {μ μ' : Mem} (h : AS t e top j μ) (hn : μ.1 t 7 = n) (hK : Kp t n μ μ') (hG : GV t e n μ') (h200 : μ'.1 t 7 ≤ 200) : AS t e top (j + 1) μ' := by
  obtain ⟨a1, a2, a3, a4, a5, a6, a7, a8⟩ := h
  have hG0 := hG
  obtain ⟨g1, g2, g3, g4, g5⟩ := hG
  subst hn
  have ha : ∀ a k, t + 1 ≤ a ∧ a ≤ t + 6 → top + 1 ≤ k → k < μ.1 t 7 → μ'.2.2 a k = μ.2.2 a k := fun a k h1 h2 h3 => hK.2.1 a k (Or.inl h1) h3
  have hq := keep_eqv a2.1 ha hK.2.2.1
  have hp : ∀ m : Nat, m ≤ j → pt (vT μ' t) top m = pt (vT μ t) top m := pt_same (n := 0) (fun m hm => by
    have := a4 m hm
    exact hK.2.1 (t + 6) _ (Or.inl (by omega)) this.2.1)
  have et : ∀ a, t + 1 ≤ a ∧ a ≤ t + 6 ∨ a = 25 → μ'.2.2 a top = μ.2.2 a top := fun a h1 => hK.2.1 a top h1 (by omega)
  refine ⟨by omega, RWS_step a2 rfl (by omega) hK hG0, ?_, fun m hm => ?_, by omega, by rw [et (t + 2) (by omega)]; exact a6, by rw [et (t + 3) (by omega), et (t + 4) (by omega)]; have := hK.2.2.2.1; omega, by rw [et 25 (by omega)]; exact a8⟩
  · show μ'.2.2 (t + 6) (pt (vT μ' t) top j) = _
    rw [hp j (Nat.le_refl _), a3, g3]
  · by_cases z : m < j
    · rw [hp m (by omega)]
      have b := a4 m z
      exact ⟨b.1, by omega, okv_eqv hq (RWS_reg a2) e ⟨by omega, b.2.1⟩ b.2.2⟩
    · obtain rfl : m = j := by omega
      rw [hp m (Nat.le_refl _), a3]
      exact ⟨by omega, g1, g4⟩
/-- nothing of an array's state changes: the place moves -/
theorem AS_mv {t e : Nat} {top : Int} {j : Nat} {μ μ' : Mem} (h : AS t e top j μ) (h1 : μ'.1 t 7 = μ.1 t 7) (h2 : μ'.1 (t + 7) 1 = μ.1 (t + 7) 1) (h3 : μ'.2.2 = μ.2.2) : AS t e top j μ' := by
  have ev : vT μ' t = vT μ t := by unfold vT; rw [h3]
  have er : ∀ lo hi, rok μ t lo hi → rok μ' t lo hi := fun lo hi r => rok_eq (fun a _ _ => by rw [h3]) h2 r
  unfold AS RWS rki at h ⊢
  rw [h1, h2, ev, h3]
  exact ⟨h.1, ⟨er _ _ h.2.1.1, h.2.1.2⟩, h.2.2⟩
theorem cls_f {μ : Mem} {t : Nat} {k kd p : Int} : (cls μ t k kd p).2.2 (t + 1) k = kd ∧ (cls μ t k kd p).2.2 (t + 5) k = p ∧ (cls μ t k kd p).2.2 (t + 6) k = μ.1 t 7 ∧ (cls μ t k kd p).1 = μ.1 ∧ (cls μ t k kd p).2.1 = μ.2.1 ∧ ∀ a i, ¬ ((a = t + 1 ∨ a = t + 5 ∨ a = t + 6) ∧ i = k) → (cls μ t k kd p).2.2 a i = μ.2.2 a i := by
  unfold cls
  refine ⟨?_, ?_, ?_, rfl, rfl, fun a i h => ?_⟩
  · rw [stA_o2 (by omega), stA_o2 (by omega), stA_at]
  · rw [stA_o2 (by omega), stA_at]
  · rw [stA_at]
  · rw [stA_ne (by omega), stA_ne (by omega), stA_ne (by omega)]
/-- the array is closed: it is a value -/
theorem GV_close {t x e : Nat} (hT : isT t) (hX : x = 42 ∨ x = 44) {top kd : Int} {j : Nat} {μ : Mem} (hC : CI t x μ) (h : AS t e top j μ) (he : e ≤ 9) (hk : 8 ≤ kd ∧ kd ≤ 12) (h12 : kd = 12 → j = 1) (h11 : kd = 11 → (j : Int) % 2 = 0) (hw : ∀ i, 0 ≤ i → i < μ.2.2 (t + 4) top → 32 ≤ μ.2.2 (t + 7 + 1) (μ.2.2 (t + 3) top + i) ∧ μ.2.2 (t + 7 + 1) (μ.2.2 (t + 3) top + i) ≤ 126)
    (hs : kd = 10 → ∀ n m : Nat, n < m → m < j → ¬ al 10 (vT μ t) (pt (vT μ t) top n) (vT μ t) (pt (vT μ t) top m)) (hm : kd = 11 → ∀ n m : Nat, n < m → 2 * m < j → ¬ al 10 (vT μ t) (pt (vT μ t) top (2 * n)) (vT μ t) (pt (vT μ t) top (2 * m))) : CI t x (cls μ t top kd j) ∧ Kp t top μ (cls μ t top kd j) ∧ GV t (e + 1) top (cls μ t top kd j) ∧ eqv (vT μ t) (vT (cls μ t top kd j) t) (fun k => top + 1 ≤ k ∧ k < μ.1 t 7) ∧ ∀ m : Nat, m ≤ j → pt (vT (cls μ t top kd j) t) top m = pt (vT μ t) top m := by
  obtain ⟨f1, f5, f6, fI, fR, fA⟩ := cls_f (μ := μ) (t := t) (k := top) (kd := kd) (p := j)
  obtain ⟨a1, a2, a3, a4, a5, a6, a7, a8⟩ := h
  have hT' := hT
  unfold isT at hT
  have aw : (cls μ t top kd j).2.2 (t + 7 + 1) = μ.2.2 (t + 7 + 1) := funext fun i => fA _ i (by omega)
  have ha : ∀ a k, t + 1 ≤ a ∧ a ≤ t + 6 → top + 1 ≤ k → k < μ.1 t 7 → (cls μ t top kd j).2.2 a k = μ.2.2 a k := fun a k h1 h2 h3 => fA a k (by omega)
  have hww : ∀ k, k < μ.1 (t + 7) 1 → (cls μ t top kd j).2.2 (t + 7 + 1) k = μ.2.2 (t + 7 + 1) k := fun k _ => by rw [aw]
  have hq := keep_eqv a2.1 ha hww
  have hp : ∀ m : Nat, m ≤ j → pt (vT (cls μ t top kd j) t) top m = pt (vT μ t) top m := pt_same (n := 0) (fun m hm => by
    have := a4 m hm
    exact fA (t + 6) _ (by omega))
  have eu : (cls μ t top kd j).1 (t + 7) 1 = μ.1 (t + 7) 1 := by rw [fI]
  have en : (cls μ t top kd j).1 t 7 = μ.1 t 7 := by rw [fI]
  have hr := fun (k : Int) => rok_keep (k := k) (μ' := cls μ t top kd j) a2.1 (RWS_reg a2) ha hww (by rw [eu]; exact Int.le_refl _) (Int.le_refl (μ.1 t 7))
  have hpl := hC.2.2.2.2.1
  have hu := hC.2.2.2.2.2.1
  have ok : ∀ d, e ≤ d → d ≤ 9 → okv (d + 1) (vT (cls μ t top kd j) t) top := fun d d1 d2 => by
    have hpo : ∀ m : Nat, m < j → okv d (vT (cls μ t top kd j) t) (pt (vT μ t) top m) := fun m hm => by
      have b := a4 m hm
      exact okv_eqv hq (RWS_reg a2) d ⟨by omega, b.2.1⟩ (okv_le d1 b.2.2)
    have hnal : ∀ n m : Nat, n < j → m < j → ¬ al 10 (vT μ t) (pt (vT μ t) top n) (vT μ t) (pt (vT μ t) top m) → ¬ al d (vT (cls μ t top kd j) t) (pt (vT μ t) top n) (vT (cls μ t top kd j) t) (pt (vT μ t) top m) := fun n m hn hm h hz => by
      have b := a4 n hn
      have c := a4 m hm
      have z2 := (al_eqv hq (RWS_reg a2) d ⟨by omega, b.2.1⟩ ⟨by omega, c.2.1⟩).mpr hz
      exact h ((al_iff (okv_le d1 b.2.2) (okv_le (by omega : e ≤ 10) b.2.2)).mp z2)
    refine ⟨?_, fun z => ?_, fun m hm' => ?_, fun z n m nm hm' => ?_, fun z n m nm hm' => ?_⟩
    · show 0 ≤ (cls μ t top kd j).2.2 (t + 5) top
      rw [f5]; omega
    · have z : (cls μ t top kd j).2.2 (t + 1) top = 11 := z
      rw [f1] at z
      show (cls μ t top kd j).2.2 (t + 5) top % 2 = 0
      rw [f5]; exact h11 z
    · have hm' : (m : Int) < (cls μ t top kd j).2.2 (t + 5) top := hm'
      rw [f5] at hm'
      rw [hp m (by omega)]
      exact hpo m (by omega)
    · have z : (cls μ t top kd j).2.2 (t + 1) top = 10 := z
      rw [f1] at z
      have hm' : (m : Int) < (cls μ t top kd j).2.2 (t + 5) top := hm'
      rw [f5] at hm'
      rw [hp m (by omega), hp n (by omega)]
      exact hnal n m (by omega) (by omega) (hs z n m nm (by omega))
    · have z : (cls μ t top kd j).2.2 (t + 1) top = 11 := z
      rw [f1] at z
      have hm' : 2 * (m : Int) < (cls μ t top kd j).2.2 (t + 5) top := hm'
      rw [f5] at hm'
      rw [hp (2 * m) (by omega), hp (2 * n) (by omega)]
      exact hnal (2 * n) (2 * m) (by omega) (by omega) (hm z n m nm (by omega))
  refine ⟨CI_of hC (by rw [fI]) eu (by rw [fI]) fR (funext fun i => fA _ i (by omega)) aw (funext fun i => fA _ i (by omega)) (funext fun i => fA _ i (by omega)) (by rw [fI]; omega) (by rw [en]; omega), ⟨⟨fun a q _ _ _ _ _ => by rw [fI], fR, fun a h1 h2 h3 h4 => funext fun i => fA a i (by omega)⟩, fun a k h1 h2 => fA a k (by omega), hww, by rw [eu]; exact Int.le_refl _, by rw [fI]; exact Int.le_refl _, by rw [fI]⟩, ⟨by rw [en]; omega, ⟨⟨by omega, by rw [en]; omega, by rw [eu]; omega, by rw [eu]; have := hC.2.1; omega⟩, fun k k1 k2 => ?_⟩, by rw [f6, en], ok e (Nat.le_refl _) he, fun k k1 k2 => ?_⟩, hq, hp⟩
  · rw [en] at k2 ⊢
    by_cases z : k = top
    · subst z
      refine ⟨by rw [f1]; omega, by rw [fA _ _ (by omega), a6]; decide, by rw [f5]; omega, ⟨by rw [f6]; omega, by rw [f6]; exact Int.le_refl _, fun m m1 m2 => ?_⟩, by rw [fA (t + 3) _ (by omega), fA (t + 4) _ (by omega), eu]; exact a7, fun n hn => ?_⟩
      · rw [f6] at m2 ⊢
        by_cases zz : m = k
        · subst zz
          rw [f6]; exact Int.le_refl _
        · exact (hr m (by omega) m2).2.2.2.1.2.1
      · rw [f5] at hn
        rw [hp n (by omega), f6]
        have b := a4 n (by omega)
        exact ⟨b.1, b.2.1⟩
    · exact hr k (by omega) k2
  · rw [en] at k2
    by_cases z : k = top
    · subst z
      refine ⟨ok 9 he (Nat.le_refl _), ⟨fun z => by rw [f1] at z; omega, fun z => by rw [f1] at z; rw [f5, h12 z]; rfl, fun z => by rw [f1] at z; omega, fun i i0 i1 => ?_⟩, by rw [fA 25 _ (by omega)]; exact a8.1, by rw [fA 25 _ (by omega)]; exact a8.2⟩
      rw [fA (t + 4) _ (by omega)] at i1
      rw [aw, fA (t + 3) _ (by omega)]
      exact hw i i0 i1
    · obtain ⟨o1, o2, o3⟩ := a2.2 k (by omega) k2
      refine ⟨okv_eqv hq (RWS_reg a2) 10 ⟨by omega, k2⟩ o1, rki_keep o2 (a2.1.2 k (by omega) k2).2.2.2.2.1 (fun a h1 => ha a k h1 (by omega) k2) hww, ?_⟩
      rw [fA 25 _ (by omega)]
      exact o3
