/-! THE PURE PART, 75: closing, side by side -/
def AS0 (t e : Nat) (top : Int) (j : Nat) (μ : Mem) : Prop := (0 ≤ top ∧ top < μ.1 t 7 ∧ μ.1 t 7 ≤ 200) ∧ RWS t (top + 1) μ ∧ (∀ m : Nat, m < j → top < pt (vT μ t) top m ∧ pt (vT μ t) top m < μ.1 t 7 ∧ okv e (vT μ t) (pt (vT μ t) top m)) ∧ (j : Int) ≤ 240 ∧ (-9223372036854775808 ≤ μ.2.2 (t + 2) top ∧ μ.2.2 (t + 2) top < 9223372036854775808) ∧ (0 ≤ μ.2.2 (t + 3) top ∧ 0 ≤ μ.2.2 (t + 4) top ∧ μ.2.2 (t + 3) top + μ.2.2 (t + 4) top ≤ μ.1 (t + 7) 1) ∧ (0 ≤ μ.2.2 25 top ∧ μ.2.2 25 top ≤ 240)
theorem AS_0 {t e : Nat} {top : Int} {j : Nat} {μ : Mem} (h : AS t e top j μ) : AS0 t e top j μ := by
  obtain ⟨a1, a2, a3, a4, a5, a6, a7, a8⟩ := h
  exact ⟨a1, a2, a4, by omega, by rw [a6]; decide, a7, a8⟩
/-- the same, for a row that was a value before -/
theorem GV_close0 {t x e : Nat} (hT : isT t) (hX : x = 42 ∨ x = 44) {top kd : Int} {j : Nat} {μ : Mem} (hC : CI t x μ) (h : AS0 t e top j μ) (he : e ≤ 9) (hk : 8 ≤ kd ∧ kd ≤ 12) (h12 : kd = 12 → j = 1) (h11 : kd = 11 → (j : Int) % 2 = 0) (hw : ∀ i, 0 ≤ i → i < μ.2.2 (t + 4) top → 32 ≤ μ.2.2 (t + 7 + 1) (μ.2.2 (t + 3) top + i) ∧ μ.2.2 (t + 7 + 1) (μ.2.2 (t + 3) top + i) ≤ 126)
    (hs : kd = 10 → ∀ n m : Nat, n < m → m < j → ¬ al 10 (vT μ t) (pt (vT μ t) top n) (vT μ t) (pt (vT μ t) top m)) (hm : kd = 11 → ∀ n m : Nat, n < m → 2 * m < j → ¬ al 10 (vT μ t) (pt (vT μ t) top (2 * n)) (vT μ t) (pt (vT μ t) top (2 * m))) : CI t x (cls μ t top kd j) ∧ Kp t top μ (cls μ t top kd j) ∧ GV t (e + 1) top (cls μ t top kd j) ∧ eqv (vT μ t) (vT (cls μ t top kd j) t) (fun k => top + 1 ≤ k ∧ k < μ.1 t 7) ∧ ∀ m : Nat, m ≤ j → pt (vT (cls μ t top kd j) t) top m = pt (vT μ t) top m := by
  obtain ⟨f1, f5, f6, fI, fR, fA⟩ := cls_f (μ := μ) (t := t) (k := top) (kd := kd) (p := j)
  obtain ⟨a1, a2, a4, a5, a6, a7, a8⟩ := h
  have hT' := hT
  unfold isT at hT
  have aw : (cls μ t top kd j).2.2 (t + 7 + 1) = μ.2.2 (t + 7 + 1) := funext fun i => fA _ i (by omega)
  have ha : ∀ a k, t + 1 ≤ a ∧ a ≤ t + 6 → top + 1 ≤ k → k < μ.1 t 7 → (cls μ t top kd j).2.2 a k = μ.2.2 a k := fun a k h1 h2 h3 => fA a k (by omega)
  have hww : ∀ k, k < μ.1 (t + 7) 1 → (cls μ t top kd j).2.2 (t + 7 + 1) k = μ.2.2 (t + 7 + 1) k := fun k _ => by rw [aw]
  have hq := keep_eqv a2.1 ha hww
  have hp : ∀ m : Nat, m ≤ j → pt (vT (cls μ t top kd j) t) top m = pt (vT μ t) top m := pt_same (n := 0) (fun m hm => by
    have := a4 m hm
    exact fA (t + 6) _ (by omega))
  have eu : (cls μ t top kd j).1 (t + 7) 1 = μ.1 (t + 7) 1 := by rw [fI]
  have en : (cls μ t top kd j).1 t 7 = μ.1 t 7 := by rw [fI]
  have hr := fun (k : Int) => rok_keep (k := k) (μ' := cls μ t top kd j) a2.1 (RWS_reg a2) ha hww (by rw [eu]; exact Int.le_refl _) (Int.le_refl (μ.1 t 7))
  have hpl := hC.2.2.2.2.1
  have hu := hC.2.2.2.2.2.1
  have ok : ∀ d, e ≤ d → d ≤ 9 → okv (d + 1) (vT (cls μ t top kd j) t) top := fun d d1 d2 => by
    have hpo : ∀ m : Nat, m < j → okv d (vT (cls μ t top kd j) t) (pt (vT μ t) top m) := fun m hm => by
      have b := a4 m hm
      exact okv_eqv hq (RWS_reg a2) d ⟨by omega, b.2.1⟩ (okv_le d1 b.2.2)
    have hnal : ∀ n m : Nat, n < j → m < j → ¬ al 10 (vT μ t) (pt (vT μ t) top n) (vT μ t) (pt (vT μ t) top m) → ¬ al d (vT (cls μ t top kd j) t) (pt (vT μ t) top n) (vT (cls μ t top kd j) t) (pt (vT μ t) top m) := fun n m hn hm h hz => by
      have b := a4 n hn
      have c := a4 m hm
      have z2 := (al_eqv hq (RWS_reg a2) d ⟨by omega, b.2.1⟩ ⟨by omega, c.2.1⟩).mpr hz
      exact h ((al_iff (okv_le d1 b.2.2) (okv_le (by omega : e ≤ 10) b.2.2)).mp z2)
    refine ⟨?_, fun z => ?_, fun m hm' => ?_, fun z n m nm hm' => ?_, fun z n m nm hm' => ?_⟩
    · show 0 ≤ (cls μ t top kd j).2.2 (t + 5) top
      rw [f5]; omega
    · have z : (cls μ t top kd j).2.2 (t + 1) top = 11 := z
      rw [f1] at z
      show (cls μ t top kd j).2.2 (t + 5) top % 2 = 0
      rw [f5]; exact h11 z
    · have hm' : (m : Int) < (cls μ t top kd j).2.2 (t + 5) top := hm'
      rw [f5] at hm'
      rw [hp m (by omega)]
      exact hpo m (by omega)
    · have z : (cls μ t top kd j).2.2 (t + 1) top = 10 := z
      rw [f1] at z
      have hm' : (m : Int) < (cls μ t top kd j).2.2 (t + 5) top := hm'
      rw [f5] at hm'
      rw [hp m (by omega), hp n (by omega)]
      exact hnal n m (by omega) (by omega) (hs z n m nm (by omega))
    · have z : (cls μ t top kd j).2.2 (t + 1) top = 11 := z
      rw [f1] at z
      have hm' : 2 * (m : Int) < (cls μ t top kd j).2.2 (t + 5) top := hm'
      rw [f5] at hm'
      rw [hp (2 * m) (by omega), hp (2 * n) (by omega)]
      exact hnal (2 * n) (2 * m) (by omega) (by omega) (hm z n m nm (by omega))
  refine ⟨CI_of hC (by rw [fI]) eu (by rw [fI]) fR (funext fun i => fA _ i (by omega)) aw (funext fun i => fA _ i (by omega)) (funext fun i => fA _ i (by omega)) (by rw [fI]; omega) (by rw [en]; omega), ⟨⟨fun a q _ _ _ _ _ => by rw [fI], fR, fun a h1 h2 h3 h4 => funext fun i => fA a i (by omega)⟩, fun a k h1 h2 => fA a k (by omega), hww, by rw [eu]; exact Int.le_refl _, by rw [fI]; exact Int.le_refl _, by rw [fI]⟩, ⟨by rw [en]; omega, ⟨⟨by omega, by rw [en]; omega, by rw [eu]; omega, by rw [eu]; have := hC.2.1; omega⟩, fun k k1 k2 => ?_⟩, by rw [f6, en], ok e (Nat.le_refl _) he, fun k k1 k2 => ?_⟩, hq, hp⟩
  · rw [en] at k2 ⊢
    by_cases z : k = top
    · subst z
      refine ⟨by rw [f1]; omega, by rw [fA _ _ (by omega)]; exact a6, by rw [f5]; omega, ⟨by rw [f6]; omega, by rw [f6]; exact Int.le_refl _, fun m m1 m2 => ?_⟩, by rw [fA (t + 3) _ (by omega), fA (t + 4) _ (by omega), eu]; exact a7, fun n hn => ?_⟩
      · rw [f6] at m2 ⊢
        by_cases zz : m = k
        · subst zz
          rw [f6]; exact Int.le_refl _
        · exact (hr m (by omega) m2).2.2.2.1.2.1
      · rw [f5] at hn
        rw [hp n (by omega), f6]
        have b := a4 n (by omega)
        exact ⟨b.1, b.2.1⟩
    · exact hr k (by omega) k2
  · rw [en] at k2
    by_cases z : k = top
    · subst z
      refine ⟨ok 9 he (Nat.le_refl _), ⟨fun z => by rw [f1] at z; omega, fun z => by rw [f1] at z; rw [f5, h12 z]; rfl, fun z => by rw [f1] at z; omega, fun i i0 i1 => ?_⟩, by rw [fA 25 _ (by omega)]; exact a8.1, by rw [fA 25 _ (by omega)]; exact a8.2⟩
      rw [fA (t + 4) _ (by omega)] at i1
      rw [aw, fA (t + 3) _ (by omega)]
      exact hw i i0 i1
    · obtain ⟨o1, o2, o3⟩ := a2.2 k (by omega) k2
      refine ⟨okv_eqv hq (RWS_reg a2) 10 ⟨by omega, k2⟩ o1, rki_keep o2 (a2.1.2 k (by omega) k2).2.2.2.2.1 (fun a h1 => ha a k h1 (by omega) k2) hww, ?_⟩
      rw [fA 25 _ (by omega)]
      exact o3
theorem StX_Stq {sc : Nat × (Nat → Int32)} {w f w1 f1 b : Int} {ν : Mem} (h : Stq sc w f ν w1 f1 (fun ν' => mbv ν ν' b)) : StX sc w f ν b := fun fr lo ρ Q a c K => h fr lo ρ Q a c (fun ν' hm => K ν' w1 f1 hm)
/-- the reference comes to the array's end -/
theorem L_cl {sc : Nat × (Nat → Int32)} {t x : Nat} {D m j w f : Int} (hT : isT t) (hX : x = 42 ∨ x = 44) {μ ν : Mem} (hC : CI t x μ) (hR : Rel t x D μ ν) (hD : 0 < D ∧ D ≤ 8) (h59 : ν.2.2 59 D = m) (h60 : ν.2.2 60 D = j) (hm : 0 ≤ m ∧ m ≤ 7) (hj : 0 ≤ j ∧ j ≤ 240) (hwf : w = 0 ∨ w = 1 ∧ f = 1) (hg : 3 ≤ m ∧ j = 1 ∨ m < 3 ∧ (m ≠ 2 ∨ j % 2 = 0)) (hc : cch x μ = 93) {P : Mem → Prop} (h : ∀ (fr lo : Nat) (ρ : Nat × Nat × Nat), 30 ≤ fr → 1500 ≤ lo → w_S sc fr lo 148 [.ref 46] (hp (skM ν), ρ) (fun o t' => ∃ ν', o = .inl none ∧ P ν' ∧ t' = (hp ν', ρ))) : Stq sc w f ν 0 0 P := by
  intro fr lo ρ Q hf hl K
  have ec := Rel_ch hC hR
  have hs := Rel_sk hT hX hC hR
  have hsz := hC.2.1
  refine L_head (d := D) (by rw [hR.1.1]; exact hsz) hR.1.2.2 (by have := hR.2.1.2; omega) hR.2.2.1.1 ⟨hR.2.2.1.2.2.2.1, by omega, hD.2⟩ (by omega) (by omega) (by omega) ?_
  rw [ec]
  have hg1 := m_mayGoOn (sc := sc) (fr := fr - 1) (lo := lo - (19 + 4)) (μ := skM ν) (ρ := ρ) (d := D) ⟨hs.1.2.2.1.2.2.2.1, hD.1, hD.2⟩ (by show (0 ≤ ν.2.2 59 D ∧ ν.2.2 59 D ≤ 7) ∧ 0 ≤ ν.2.2 60 D ∧ ν.2.2 60 D ≤ 240; rw [h59, h60]; exact ⟨hm, hj⟩) (e := 1) (Or.inr rfl)
  rw [b01_t (by
    show (3 ≤ ν.2.2 59 D ∧ ((1 : Int) = 1 ∧ ν.2.2 60 D = 1 ∨ (1 : Int) = 0 ∧ ν.2.2 60 D = 0)) ∨ (ν.2.2 59 D < 3 ∧ ((1 : Int) = 0 ∨ ν.2.2 59 D ≠ 2 ∨ ν.2.2 60 D % 2 = 0))
    rw [h59, h60]; omega)] at hg1
  rcases hwf with hw | ⟨hw, hf1⟩
  · exact L_close hw hc (by omega) (by omega) hg1 (h (fr - 1) (lo - (19 + 4)) ρ (by omega) (by omega)) K
  · exact L_close1 hw hf1 hc (by omega) (by omega) hg1 (h (fr - 1) (lo - (19 + 4)) ρ (by omega) (by omega)) K
/-- where the parts stand in the reference -/
theorem pt_R {t : Nat} {top : Int} {j : Nat} {μ α : Mem} (hb : ∀ k, top < k → k < μ.1 t 7 → α.2.2 54 (256 + k) = μ.2.2 (t + 6) k - k) (hpr : ∀ m : Nat, m < j → top < pt (vT μ t) top m ∧ pt (vT μ t) top m < μ.1 t 7) : ∀ m : Nat, m ≤ j → pt (vM α) (256 + top) m = 256 + pt (vT μ t) top m
  | 0, _ => by show 256 + top + 1 = 256 + (top + 1); omega
  | m + 1, hm => by
    have h1 := hpr m (by omega)
    show pt (vM α) (256 + top) m + α.2.2 54 (pt (vM α) (256 + top) m) = 256 + μ.2.2 (t + 6) (pt (vT μ t) top m)
    rw [pt_R hb hpr m (by omega), hb _ h1.1 h1.2]
    omega
/-- the parts are rows that the reference may look at -/
theorem dbl_pre {t x : Nat} {D top : Int} {j : Nat} {μ ν α : Mem} (hR : Rel t x D μ ν) (hr : RWS t (top + 1) μ) (h0 : 0 ≤ top) (hn : μ.1 t 7 ≤ 126) (hgr : ∀ k, top < k → k < μ.1 t 7 → 0 ≤ ν.2.2 56 (256 + k)) (hpr : ∀ m : Nat, m < j → top < pt (vT μ t) top m ∧ pt (vT μ t) top m < μ.1 t 7) (r3 : ∀ a i, 49 ≤ a → a ≤ 57 → i ≠ 256 + top → α.2.2 a i = ν.2.2 a i) (h53 : α.2.2 53 (256 + top) = j) : (∀ m : Nat, m ≤ j → pt (vM α) (256 + top) m = 256 + pt (vT μ t) top m) ∧ ∀ n : Nat, (n : Int) < α.2.2 53 (256 + top) → (0 ≤ pt (vM α) (256 + top) n ∧ pt (vM α) (256 + top) n < 384) ∧ mok α (pt (vM α) (256 + top) n) ∧ 0 ≤ α.2.2 55 (pt (vM α) (256 + top) n) ∧ α.2.2 55 (pt (vM α) (256 + top) n) ≤ 1000 := by
  have rr : ∀ k, top < k → k < μ.1 t 7 → RR t μ ν k := fun k k1 k2 => hR.2.2.2.2.2.2 k (by omega) k2 (hgr k k1 k2)
  have hp := pt_R (α := α) (j := j) (fun k k1 k2 => by rw [r3 54 _ (by omega) (by omega) (by omega)]; exact (rr k k1 k2).2.2.2.2.1) hpr
  refine ⟨hp, fun n hn' => ?_⟩
  rw [h53] at hn'
  have h1 := hpr n (by omega)
  rw [hp n (by omega), r3 55 _ (by omega) (by omega) (by omega), (rr _ h1.1 h1.2).2.2.2.2.2.1]
  have h2 := (hr.2 _ (by omega) h1.2).2.2
  refine ⟨by omega, mok_eq (fun a a1 a2 => r3 a _ a1 (by omega) (by omega)) (hR.2.2.2.2.2.1.2.2.1 _ (by omega) (by rw [hR.2.2.1.2.1]; omega) (hgr _ h1.1 h1.2)), by omega, by omega⟩
/-- no part comes twice, in both -/
theorem dbl_ok {sc : Nat × (Nat → Int32)} {fr lo : Nat} {ρ : Nat × Nat × Nat} {t x : Nat} {D top : Int} {j s : Nat} {μ ν α : Mem} (hs : s = 1 ∨ s = 2) (hR : Rel t x D μ ν) (hr : RWS t (top + 1) μ) (h0 : 0 ≤ top ∧ top < 128) (hn : μ.1 t 7 ≤ 126) (hj : (j : Int) ≤ 240) (hgr : ∀ k, top < k → k < μ.1 t 7 → 0 ≤ ν.2.2 56 (256 + k)) (hpr : ∀ m : Nat, m < j → top < pt (vT μ t) top m ∧ pt (vT μ t) top m < μ.1 t 7) (r3 : ∀ a i, 49 ≤ a → a ≤ 57 → i ≠ 256 + top → α.2.2 a i = ν.2.2 a i) (h53 : α.2.2 53 (256 + top) = j) (h16 : α.1 46 16 = -1) (hf : 2 ≤ fr) (hl : 100 ≤ lo) (hno : ∀ i k : Nat, i < k → s * k < j → ¬ al 10 (vT μ t) (pt (vT μ t) top (s * i)) (vT μ t) (pt (vT μ t) top (s * k))) : w_E sc fr lo 149 [.ref 46, .int (ji (256 + top)), .int (ji (s : Int))] (hp α, ρ) (.inl none) (hp α, ρ) := by
  obtain ⟨hp, hp0⟩ := dbl_pre hR hr h0.1 hn hgr hpr r3 h53
  refine m_dblOK hs (by omega) (by rw [h53]; omega) hp0 h16 hf hl (fun k hk => ?_)
  rw [h53] at hk
  rintro ⟨i, hi, he⟩
  have hle : s * i ≤ s * k := Nat.mul_le_mul_left s (by omega)
  have q1 := hpr (s * i) (by omega)
  have q2 := hpr (s * k) (by omega)
  rw [hp (s * k) (by omega), hp (s * i) (by omega), r3 56 _ (by omega) (by omega) (by omega), r3 56 _ (by omega) (by omega) (by omega)] at he
  exact hno i k hi (by omega) ((grp_al hR (by omega) (fun k k1 k2 => hgr k (by omega) k2) hr ⟨by omega, q1.2⟩ ⟨by omega, q2.2⟩).mp he.symm)
/-- the first part that comes twice, in both -/
theorem dbl_bad {sc : Nat × (Nat → Int32)} {fr lo : Nat} {ρ : Nat × Nat × Nat} {t x : Nat} {D top : Int} {j s k : Nat} {μ ν α : Mem} (hs : s = 1 ∨ s = 2) (hR : Rel t x D μ ν) (hr : RWS t (top + 1) μ) (h0 : 0 ≤ top ∧ top < 128) (hn : μ.1 t 7 ≤ 126) (hj : (j : Int) ≤ 240) (hgr : ∀ k, top < k → k < μ.1 t 7 → 0 ≤ ν.2.2 56 (256 + k)) (hpr : ∀ m : Nat, m < j → top < pt (vT μ t) top m ∧ pt (vT μ t) top m < μ.1 t 7) (r3 : ∀ a i, 49 ≤ a → a ≤ 57 → i ≠ 256 + top → α.2.2 a i = ν.2.2 a i) (h53 : α.2.2 53 (256 + top) = j) (h16 : α.1 46 16 = -1) (hf : 2 ≤ fr) (hl : 100 ≤ lo) (hk : s * k < j) (htw : ∃ i, i < k ∧ al 10 (vT μ t) (pt (vT μ t) top (s * i)) (vT μ t) (pt (vT μ t) top (s * k))) (hfi : ∀ i k' : Nat, i < k' → k' < k → ¬ al 10 (vT μ t) (pt (vT μ t) top (s * i)) (vT μ t) (pt (vT μ t) top (s * k'))) : w_E sc fr lo 149 [.ref 46, .int (ji (256 + top)), .int (ji (s : Int))] (hp α, ρ) (.inl none) (hp (stI α 46 16 (μ.2.2 25 (pt (vT μ t) top (s * k)))), ρ) := by
  obtain ⟨hp, hp0⟩ := dbl_pre hR hr h0.1 hn hgr hpr r3 h53
  have hgp : ∀ i k' : Nat, i < k' → s * k' < j → (α.2.2 56 (pt (vM α) (256 + top) (s * k')) = α.2.2 56 (pt (vM α) (256 + top) (s * i)) ↔ al 10 (vT μ t) (pt (vT μ t) top (s * i)) (vT μ t) (pt (vT μ t) top (s * k'))) := fun i k' hi hk' => by
    have hle : s * i ≤ s * k' := Nat.mul_le_mul_left s (by omega)
    have q1 := hpr (s * i) (by omega)
    have q2 := hpr (s * k') (by omega)
    rw [hp (s * k') (by omega), hp (s * i) (by omega), r3 56 _ (by omega) (by omega) (by omega), r3 56 _ (by omega) (by omega) (by omega)]
    exact ⟨fun he => (grp_al hR (by omega) (fun k k1 k2 => hgr k (by omega) k2) hr ⟨by omega, q1.2⟩ ⟨by omega, q2.2⟩).mp he.symm, fun he => ((grp_al hR (by omega) (fun k k1 k2 => hgr k (by omega) k2) hr ⟨by omega, q1.2⟩ ⟨by omega, q2.2⟩).mpr he).symm⟩
  have hM := m_dblX (sc := sc) (fr := fr) (lo := lo) (ρ := ρ) hs (v := 256 + top) (by omega) (by rw [h53]; omega) hp0 h16 hf hl (k := k) (by rw [h53]; omega) (by
    obtain ⟨i, hi, ha⟩ := htw
    exact ⟨i, hi, (hgp i k hi hk).mpr ha⟩) (fun k' hk' => by
    rintro ⟨i, hi, he⟩
    have hle : s * k' ≤ s * k := Nat.mul_le_mul_left s (by omega)
    exact hfi i k' hi hk' ((hgp i k' hi (by omega)).mp he))
  have q := hpr (s * k) hk
  rw [hp (s * k) (by omega), r3 55 _ (by omega) (by omega) (by omega), (hR.2.2.2.2.2.2 _ (by omega) q.2 (hgr _ q.1 q.2)).2.2.2.2.2.1] at hM
  exact hM
theorem MI_NR {ν : Mem} {top n : Int} (h : MI ν) (hn : ν.1 46 17 = n) (hg : ν.2.2 56 (256 + top) = -1) : ∀ k, 0 ≤ k → k < n → k ≠ top → 0 ≤ ν.2.2 56 (256 + k) → ν.2.2 56 (256 + k) ≠ 256 + top := fun k k0 k1 _ k3 z => by
  have q := (h.2.1 (256 + k) (by omega) (by omega) k3).1.2.2
  rw [z, hg] at q
  omega
theorem cch_lt {x : Nat} {μ : Mem} {c : Int} (h : cch x μ = c) (hc : c ≠ 0) : cpl x μ < μ.1 x 1 := Decidable.byContradiction (fun z => by unfold cch at h; rw [if_neg z] at h; exact hc h.symm)
/-- the reference's state when an open row is closed -/
def alp (ν : Mem) (top j : Int) : Mem := stA (stA (stI (skM ν) 46 15 ((skM ν).1 46 15 + 1)) 53 (256 + top) j) 54 (256 + top) (256 + (skM ν).1 46 17 - (256 + top))
theorem alp_f {ν : Mem} {top j : Int} : (∀ a q, ¬ (a = 46 ∧ q = 15) → (alp ν top j).1 a q = ν.1 a q) ∧ (alp ν top j).1 46 15 = (skM ν).1 46 15 + 1 ∧ (alp ν top j).2.1 = ν.2.1 ∧ (∀ a i, ¬ ((a = 53 ∨ a = 54) ∧ i = 256 + top) → (alp ν top j).2.2 a i = ν.2.2 a i) ∧ (alp ν top j).2.2 53 (256 + top) = j ∧ (alp ν top j).2.2 54 (256 + top) = ν.1 46 17 - top := by
  refine ⟨fun a q h => ?_, ?_, rfl, fun a i h => ?_, ?_, ?_⟩
  · show (stI (skM ν) 46 15 ((skM ν).1 46 15 + 1)).1 a q = _
    rw [stI_ne h]; exact stI_ne h
  · show (stI (skM ν) 46 15 ((skM ν).1 46 15 + 1)).1 46 15 = _
    exact stI_at _ _ _ _
  · unfold alp
    rw [stA_ne (by omega), stA_ne (by omega)]; rfl
  · unfold alp
    rw [stA_o2 (by omega), stA_at]
  · unfold alp
    rw [stA_at, show (skM ν).1 46 17 = ν.1 46 17 from stI_ne (by omega)]; omega
theorem cl_tail {sc : Nat × (Nat → Int32)} {fr lo : Nat} {ρ : Nat × Nat × Nat} {t x e : Nat} {d top kd m : Int} {j : Nat} (hT : isT t) (hX : x = 42 ∨ x = 44) {μ ν : Mem} (hC : CI t x μ) (hA : AS t e top j μ) (hd : 0 ≤ d ∧ d ≤ 7) (hn : μ.1 t 7 ≤ 126) (hc : cch x μ = 93) (hO : OA t x (d + 1) top kd m j μ ν) (hGV : GV t (e + 1) top (cls (stI μ 20 5 (cpl x μ + 1)) t top kd j)) (hmd : 0 < d → 0 ≤ ν.2.2 59 d ∧ ν.2.2 59 d ≤ 7) (hf : 8 ≤ fr) (hl : 400 ≤ lo) {m' s' : Int} : w_P sc fr lo 148 7 4 false (none) prog_9_method_37_code 207 [some (.ref 46), some (.int (ji (256 + top))), some (.int (ji m')), some (.int (ji s'))] [] (hp (alp ν top j), ρ) (fun o t' => ∃ ν' : Mem, o = .inl none ∧ Pst t x d top (cls (stI μ 20 5 (cpl x μ + 1)) t top kd j) ν ν' ∧ t' = (hp ν', ρ)) := by
  obtain ⟨f1, f5, f6, fI, fR, fA⟩ := cls_f (μ := stI μ 20 5 (cpl x μ + 1)) (t := t) (k := top) (kd := kd) (p := j)
  obtain ⟨p1, p2, p3, p4, p5, p6⟩ := alp_f (ν := ν) (top := top) (j := j)
  obtain ⟨o1, o2, ⟨o3, o4, o5, o6, o7⟩, o8⟩ := hO
  obtain ⟨a1, a2, a3, a4, a5, a6, a7, a8⟩ := hA
  have hs := Rel_sk hT hX hC o1
  have hT' := hT
  unfold isT at hT
  have e7 : (stI μ 20 5 (cpl x μ + 1)).1 t 7 = μ.1 t 7 := stI_ne (by omega)
  have hlt := cch_lt hc (by decide)
  rw [e7] at f6
  have mA : ∀ a i, ¬ ((a = t + 1 ∨ a = t + 5 ∨ a = t + 6) ∧ i = top) → (cls (stI μ 20 5 (cpl x μ + 1)) t top kd j).2.2 a i = μ.2.2 a i := fun a i h => fA a i h
  have e17 := o1.2.2.1.2.1
  refine cl_ok (n := μ.1 t 7) hT' hX hC o1 hd ⟨rfl, hn⟩ ⟨a1.1, a1.2.1⟩ (fun a q h1 h2 => by rw [fI]; exact stI_ne (by omega)) (by rw [fI]; exact stI_at _ _ _ _) (fun a i h => mA a i (by omega)) hlt (fun q h => p1 46 q (by omega)) (fun a q h => p1 a q (by omega)) (by rw [p2, hs.2]) p3 (fun a i h => p4 a i (by omega)) (by rw [p4 49 _ (by omega), f1, o3]) (by rw [p4 50 _ (by omega), mA (t + 2) _ (by omega), a6, o4]) (by rw [p4 52 _ (by omega), mA (t + 4) _ (by omega), o5]) (by rw [p5, f5]) (by rw [p6, f6, e17]) (by rw [p4 51 _ (by omega), mA (t + 4) _ (by omega), mA (t + 3) _ (by omega)]; exact o6) ?_ hGV o8 (MI_NR o1.2.2.2.2.2.1 e17 o7) (by rw [mA 25 _ (by omega)]; exact o2.2.2.2) hmd hf hl
  have hMI : MI (alp ν top j) := MI_row (a := 256 + top) o1.2.2.2.2.2.1 (by rw [p1 46 17 (by omega)]; exact ⟨Int.le_refl _, o1.2.2.2.2.2.1.1.2⟩) (funext fun i => p4 57 i (by omega)) (fun _ => by rw [o7]; decide) (by rw [p4 56 _ (by omega), o7]; decide) (fun b v b1 b2 hv => p4 b v (by omega)) (fun v v1 v2 => by rw [p1 46 17 (by omega)] at v2; omega)
  have hG := hMI.2.1
  rw [p1 46 17 (by omega), e17] at hG
  rw [show (fun w => if w = 256 + top then -1 else (alp ν top j).2.2 56 w) = (alp ν top j).2.2 56 from funext fun w => by
    by_cases z : w = 256 + top
    · rw [if_pos z, z, p4 56 _ (by omega), o7]
    · rw [if_neg z]]
  exact hG
/-- the class closes an array -/
theorem cl_cls {t x e : Nat} {top kd : Int} {j : Nat} (hT : isT t) (hX : x = 42 ∨ x = 44) {μ : Mem} (hC : CI t x μ) (hA : AS t e top j μ) (he : e ≤ 9) (hc : cch x μ = 93) (hk : 8 ≤ kd ∧ kd ≤ 12) (h12 : kd = 12 → j = 1) (h11 : kd = 11 → (j : Int) % 2 = 0) (h10 : kd ≠ 10) (hm : kd = 11 → ∀ n m : Nat, n < m → 2 * m < j → ¬ al 10 (vT μ t) (pt (vT μ t) top (2 * n)) (vT μ t) (pt (vT μ t) top (2 * m))) : CI t x (cls (stI μ 20 5 (cpl x μ + 1)) t top kd j) ∧ Kp t top μ (cls (stI μ 20 5 (cpl x μ + 1)) t top kd j) ∧ GV t (e + 1) top (cls (stI μ 20 5 (cpl x μ + 1)) t top kd j) ∧ (cls (stI μ 20 5 (cpl x μ + 1)) t top kd j).1 20 5 = cpl x μ + 1 ∧ (cls (stI μ 20 5 (cpl x μ + 1)) t top kd j).1 t 7 = μ.1 t 7 := by
  have hlt := cch_lt hc (by decide)
  have hcp := cpl_in hC
  have hT' := hT
  unfold isT at hT
  have hu := hC.2.2.2.2.2.1
  have hCp : CI t x (stI μ 20 5 (cpl x μ + 1)) := CI_of hC (stI_ne (by omega)) (stI_ne (by omega)) (stI_ne (by omega)) rfl rfl rfl rfl rfl (by rw [stI_at]; omega) (by rw [stI_ne (by omega)]; exact hC.2.2.2.2.2.2.2.2.2.2)
  have hAp : AS t e top j (stI μ 20 5 (cpl x μ + 1)) := AS_mv hA (stI_ne (by omega)) (stI_ne (by omega)) rfl
  obtain ⟨g1, g2, g3, _⟩ := GV_close hT' hX hCp hAp he hk h12 h11 (fun i i0 i1 => hCp.2.2.2.2.2.2.2.1 _ (by have := hAp.2.2.2.2.2.2.1; omega) (by have := hAp.2.2.2.2.2.2.1; omega)) (fun z => absurd z h10) hm
  refine ⟨g1, Kp_trans (Kp_pl hT' (by omega)) g2 (Int.le_refl _), g3, ?_, ?_⟩
  · exact (show (cls (stI μ 20 5 (cpl x μ + 1)) t top kd j).1 20 5 = (stI μ 20 5 (cpl x μ + 1)).1 20 5 from rfl).trans (stI_at _ _ _ _)
  · exact (show (cls (stI μ 20 5 (cpl x μ + 1)) t top kd j).1 t 7 = (stI μ 20 5 (cpl x μ + 1)).1 t 7 from rfl).trans (stI_ne (by omega))
/-- an array, a tag's array: closed in both -/
theorem sim_close1 {sc : Nat × (Nat → Int32)} {t x e : Nat} {d top kd m w f : Int} {j : Nat} (hT : isT t) (hX : x = 42 ∨ x = 44) {μ ν : Mem} (hC : CI t x μ) (hA : AS t e top j μ) (hd : 0 ≤ d ∧ d ≤ 7) (hn : μ.1 t 7 ≤ 126) (hm : m = 0 ∨ m = 1 ∨ m = 7 ∧ j = 1) (hc : cch x μ = 93) (hwf : w = 0 ∨ w = 1 ∧ f = 1) (hO : OA t x (d + 1) top kd m j μ ν) (hGV : GV t (e + 1) top (cls (stI μ 20 5 (cpl x μ + 1)) t top kd j)) (hmd : 0 < d → 0 ≤ ν.2.2 59 d ∧ ν.2.2 59 d ≤ 7) : Stq sc w f ν 0 0 (Pst t x d top (cls (stI μ 20 5 (cpl x μ + 1)) t top kd j) ν) := by
  obtain ⟨l1, l2, l3, l4⟩ := hO.2.1
  have a1 := hA.1
  have a5 := hA.2.2.2.2.1
  refine L_cl hT hX hC hO.1 (by omega) l2 l3 (by omega) (by omega) hwf (by omega) hc (fun fr lo ρ hf hl => ?_)
  refine m_close1 (μ := skM ν) (fr := fr) (lo := lo) (v := 256 + top) (m := m) (d := d + 1) ⟨l1, by omega, by omega⟩ l2 ⟨(show (skM ν).1 46 19 = ν.1 46 19 from stI_ne (by omega)).trans hO.1.2.2.1.2.2.2.1, by omega, by omega⟩ (by omega) (by omega) (by omega) ?_
  rw [show (skM ν).2.2 60 (d + 1) = (j : Int) from l3]
  exact cl_tail hT hX hC hA hd hn hc hO hGV hmd (by omega) (by omega)
/-- a map, closed in both -/
theorem sim_close2 {sc : Nat × (Nat → Int32)} {t x e : Nat} {d top : Int} {j : Nat} (hT : isT t) (hX : x = 42 ∨ x = 44) {μ ν : Mem} (hC : CI t x μ) (hA : AS t e top j μ) (hd : 0 ≤ d ∧ d ≤ 7) (hn : μ.1 t 7 ≤ 126) (hj : (j : Int) % 2 = 0) (hc : cch x μ = 93) (hO : OA t x (d + 1) top 11 2 j μ ν) (hGV : GV t (e + 1) top (cls (stI μ 20 5 (cpl x μ + 1)) t top 11 j)) (hmd : 0 < d → 0 ≤ ν.2.2 59 d ∧ ν.2.2 59 d ≤ 7) (hno : ∀ n m : Nat, n < m → 2 * m < j → ¬ al 10 (vT μ t) (pt (vT μ t) top (2 * n)) (vT μ t) (pt (vT μ t) top (2 * m))) {f : Int} : Stq sc 0 f ν 0 0 (Pst t x d top (cls (stI μ 20 5 (cpl x μ + 1)) t top 11 j) ν) := by
  obtain ⟨l1, l2, l3, l4⟩ := hO.2.1
  have a1 := hA.1
  have a5 := hA.2.2.2.2.1
  refine L_cl hT hX hC hO.1 (by omega) l2 l3 (by omega) (by omega) (Or.inl rfl) (by omega) hc (fun fr lo ρ hf hl => ?_)
  obtain ⟨p1, p2, p3, p4, p5, p6⟩ := alp_f (ν := ν) (top := top) (j := j)
  have h16 : (alp ν top j).1 46 16 = -1 := (p1 46 16 (by omega)).trans hO.1.2.2.1.1
  refine m_close2 (μ := skM ν) (fr := fr) (lo := lo) (v := 256 + top) (m := 2) (d := d + 1) ⟨l1, by omega, by omega⟩ l2 ⟨(show (skM ν).1 46 19 = ν.1 46 19 from stI_ne (by omega)).trans hO.1.2.2.1.2.2.2.1, by omega, by omega⟩ (by omega) (by omega) rfl (μ3 := alp ν top j) ?_ (cl_tail hT hX hC hA hd hn hc hO hGV hmd (by omega) (by omega))
  rw [show (skM ν).2.2 60 (d + 1) = (j : Int) from l3]
  exact dbl_ok (α := alp ν top j) (s := 2) (j := j) (Or.inr rfl) hO.1 hA.2.1 (by omega) hn (by omega) hO.2.2.2 (fun m hm => ⟨(hA.2.2.2.1 m hm).1, (hA.2.2.2.1 m hm).2.1⟩) (fun a i h1 h2 h3 => p4 a i (by omega)) p5 h16 (by omega) (by omega) hno
/-- a map with a key that comes twice -/
theorem sim_close2X {sc : Nat × (Nat → Int32)} {t x e : Nat} {d top : Int} {j k : Nat} (hT : isT t) (hX : x = 42 ∨ x = 44) {μ ν : Mem} (hC : CI t x μ) (hA : AS t e top j μ) (hd : 0 ≤ d ∧ d ≤ 7) (hn : μ.1 t 7 ≤ 126) (hj : (j : Int) % 2 = 0) (hc : cch x μ = 93) (hO : OA t x (d + 1) top 11 2 j μ ν) (hmd : 0 < d → 0 ≤ ν.2.2 59 d ∧ ν.2.2 59 d ≤ 7) (hk : 2 * k < j) (htw : ∃ i, i < k ∧ al 10 (vT μ t) (pt (vT μ t) top (2 * i)) (vT μ t) (pt (vT μ t) top (2 * k))) (hfi : ∀ i k' : Nat, i < k' → k' < k → ¬ al 10 (vT μ t) (pt (vT μ t) top (2 * i)) (vT μ t) (pt (vT μ t) top (2 * k'))) {f : Int} : StX sc 0 f ν (μ.2.2 25 (pt (vT μ t) top (2 * k))) := by
  obtain ⟨l1, l2, l3, l4⟩ := hO.2.1
  have a1 := hA.1
  have a5 := hA.2.2.2.2.1
  have hsz := hC.2.1
  have hlt := cch_lt hc (by decide)
  have hcp := cpl_in hC
  have h00 := hC.2.2.2.2.1
  refine StX_Stq (L_cl hT hX hC hO.1 (by omega) l2 l3 (by omega) (by omega) (Or.inl rfl) (by omega) hc (fun fr lo ρ hf hl => ?_))
  obtain ⟨p1, p2, p3, p4, p5, p6⟩ := alp_f (ν := ν) (top := top) (j := j)
  have h16 : (alp ν top j).1 46 16 = -1 := (p1 46 16 (by omega)).trans hO.1.2.2.1.1
  have hst := (hA.2.1.2 _ (by have := (hA.2.2.2.1 (2 * k) hk).1; omega) (hA.2.2.2.1 (2 * k) hk).2.1).2.2
  have h19 : ν.1 46 19 = d + 1 := hO.1.2.2.1.2.2.2.1
  refine m_close2 (μ := skM ν) (fr := fr) (lo := lo) (v := 256 + top) (m := 2) (d := d + 1) ⟨l1, by omega, by omega⟩ l2 ⟨(show (skM ν).1 46 19 = ν.1 46 19 from stI_ne (by omega)).trans h19, by omega, by omega⟩ (by omega) (by omega) rfl (μ3 := stI (alp ν top j) 46 16 (μ.2.2 25 (pt (vT μ t) top (2 * k)))) ?_ ((m_clTailX (fr := fr) (lo := lo) (d := d + 1) (by omega) (by rw [stI_at]; omega) ⟨by rw [stI_ne (by omega), p1 46 19 (by omega)]; exact h19, by omega, by omega⟩ (fun z => ?_) (by omega) (by omega)).mono ?_)
  · rw [show (skM ν).2.2 60 (d + 1) = (j : Int) from l3]
    exact dbl_bad (α := alp ν top j) (s := 2) (j := j) (Or.inr rfl) hO.1 hA.2.1 (by omega) hn (by omega) hO.2.2.2 (fun m hm => ⟨(hA.2.2.2.1 m hm).1, (hA.2.2.2.1 m hm).2.1⟩) (fun a i h1 h2 h3 => p4 a i (by omega)) p5 h16 (by omega) (by omega) hk htw hfi
  · show 0 ≤ (alp ν top j).2.2 59 (d + 1 - 1) ∧ (alp ν top j).2.2 59 (d + 1 - 1) ≤ 7
    rw [p4 59 _ (by omega), show d + 1 - 1 = d by omega]
    exact hmd (by omega)
  · rintro o τ ⟨ν', rfl, ⟨q1, q2, q3, q4⟩, rfl⟩
    refine ⟨ν', rfl, ⟨⟨mfw_trans (mfw_trans ?_ (mfw_I (q := 16) (by decide))) q1, by rw [q2, stI_at], ?_⟩, fun y => by rw [q4, show (stI (alp ν top j) 46 16 (μ.2.2 25 (pt (vT μ t) top (2 * k)))).2.2 57 = ν.2.2 57 from funext fun i => p4 57 i (by omega)]; exact hO.1.2.2.2.2.2.1.2.2.2.2 y⟩, rfl⟩
    · exact ⟨fun a q h1 => p1 a q (by omega), fun q h1 _ _ _ _ _ _ _ => p1 46 q (by omega), p3, fun a ha => funext fun i => p4 a i (by omega), fun a i h1 h2 h3 => p4 a i (by omega), fun i hi => p4 57 i (by omega)⟩
    · rw [q3, stI_ne (by omega), p2, (Rel_sk hT hX hC hO.1).2]; omega
