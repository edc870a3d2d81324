/-! THE PURE PART, 79: maps and tags while both read them -/
def GL (μ : Mem) : Prop := ∀ a n, isL a n → ∀ k, 0 ≤ μ.2.2 (a + 1) k ∧ μ.2.2 (a + 1) k < 65536
theorem GL_of {t x : Nat} (hT : isT t) {μ μ' : Mem} (h : GL μ) (hc : cfr t μ μ') (hC : CI t x μ') : GL μ' := by
  intro a n ha k
  by_cases z : a = t + 7
  · subst z; exact hC.2.2.2.2.2.2.1 k
  · have ha' := ha
    unfold isL at ha
    unfold isT at hT
    rw [hc.2.2 (a + 1) (by omega) (by omega) (by omega) (by omega)]
    exact h a n ha' k
/-- what an element owes -/
def ElC (sc : Nat × (Nat → Int32)) (t x : Nat) (D : Int) (e f0 l0 : Nat) : Prop := ∀ (fr lo : Nat) (μ : Mem) (ρ : Nat × Nat × Nat) (key : Int), f0 ≤ fr → l0 ≤ lo → CI t x μ → GL μ → (key = 0 ∨ key = 1) → 2 * μ.1 t 7 ≤ μ.1 20 5 + D → (1 ≤ ρ.2.1 ∧ 6 ≤ ρ.2.2) → w_S sc fr lo 29 [.ref 20, .int (ji key), .int (ji D)] (hp μ, ρ) (EP sc t x D key e μ ρ)
theorem pk_cch {t x : Nat} {μ : Mem} (hC : CI t x μ) : ((if 0 ≤ cpl x μ ∧ cpl x μ < μ.1 x 1 then μ.2.2 (x + 1) (cpl x μ) else -1) = cch x μ ∧ 32 ≤ cch x μ ∧ cch x μ ≤ 126 ∧ cpl x μ < μ.1 x 1) ∨ ((if 0 ≤ cpl x μ ∧ cpl x μ < μ.1 x 1 then μ.2.2 (x + 1) (cpl x μ) else -1) = -1 ∧ cch x μ = 0 ∧ ¬ cpl x μ < μ.1 x 1) := by
  have hcp := cpl_in hC
  have h0 := hC.2.2.2.2.1.1
  unfold cch
  by_cases z : cpl x μ < μ.1 x 1
  · rw [if_pos z, if_pos ⟨by omega, z⟩]
    have := hC.2.2.2.1 (cpl x μ) (by omega) z
    exact Or.inl ⟨rfl, this.1, this.2, z⟩
  · rw [if_neg z, if_neg (fun y => z y.2)]
    exact Or.inr ⟨rfl, rfl, z⟩
/-- passComma -/
theorem t_pass {sc : Nat × (Nat → Int32)} {fr lo : Nat} {μ : Mem} {ρ : Nat × Nat × Nat} {t x : Nat} (hX : x = 42 ∨ x = 44) (hC : CI t x μ) (hf : 10 ≤ fr) (hl : 300 ≤ lo) (hr : 1 ≤ ρ.2.1 ∧ 6 ≤ ρ.2.2) : w_S sc fr lo 37 [.ref 20] (hp μ, ρ) (fun o τ => (∃ r : Int, o = .inl (some (.int (ji r))) ∧ (r = 0 ∧ cch x μ = 93 ∨ r = 1 ∧ cch x μ = 44) ∧ τ = (hp (stI μ 20 5 (cpl x μ + 1)), ρ)) ∨ (o = .inr (1, ρ.1) ∧ cch x μ ≠ 44 ∧ cch x μ ≠ 93 ∧ τ = (hp (stI (stI μ 20 5 (cpl x μ)) 20 6 (cpl x μ)), ρ.1 + 1, ρ.2.1 - 1, ρ.2.2 - 6))) := by
  have hpk := pk_cch hC
  have hpl := hC.2.2.2.2.1
  have hsz := hC.2.1
  by_cases h1 : cch x μ = 93
  · refine (t_passE hX hC.1.1 hC.2.1 hC.2.2.1 (by omega) (show (if 0 ≤ cpl x μ ∧ cpl x μ < μ.1 x 1 then μ.2.2 (x + 1) (cpl x μ) else -1) = 93 by omega) hf hl).mono ?_
    rintro o τ ⟨rfl, rfl⟩
    exact Or.inl ⟨0, rfl, Or.inl ⟨rfl, h1⟩, rfl⟩
  · by_cases h2 : cch x μ = 44
    · refine (t_passC hX hC.1.1 hC.2.1 hC.2.2.1 (by omega) (show (if 0 ≤ cpl x μ ∧ cpl x μ < μ.1 x 1 then μ.2.2 (x + 1) (cpl x μ) else -1) = 44 by omega) hf hl).mono ?_
      rintro o τ ⟨rfl, rfl⟩
      exact Or.inl ⟨1, rfl, Or.inr ⟨rfl, h2⟩, rfl⟩
    · refine (t_passX hX hC.1.1 hC.2.1 hC.2.2.1 (by omega) (show (if 0 ≤ cpl x μ ∧ cpl x μ < μ.1 x 1 then μ.2.2 (x + 1) (cpl x μ) else -1) ≠ 44 by omega) (show (if 0 ≤ cpl x μ ∧ cpl x μ < μ.1 x 1 then μ.2.2 (x + 1) (cpl x μ) else -1) ≠ 93 by omega) hf hl hr).mono ?_
      rintro o τ ⟨rfl, rfl⟩
      exact Or.inr ⟨rfl, h2, h1, rfl⟩
/-- skipSpaces, then expect -/
theorem t_skp {sc : Nat × (Nat → Int32)} {fr lo : Nat} {μ : Mem} {ρ : Nat × Nat × Nat} {t x : Nat} (hX : x = 42 ∨ x = 44) (hC : CI t x μ) (hf : 8 ≤ fr) (hl : 200 ≤ lo) : w_E sc fr lo 30 [.ref 20] (hp μ, ρ) (.inl none) (hp (stI μ 20 5 (cpl x μ)), ρ) :=
  t_skip hX hC.1.1 hC.2.1 hC.2.2.1 (by have := hC.2.2.2.2.1; have := hC.2.1; omega) hf hl
theorem t_expS {sc : Nat × (Nat → Int32)} {fr lo : Nat} {μ : Mem} {ρ : Nat × Nat × Nat} {t x : Nat} (hT : isT t) (hX : x = 42 ∨ x = 44) (hC : CI t x μ) {c : Int} (hc : 32 ≤ c ∧ c ≤ 126) (hf : 8 ≤ fr) (hl : 200 ≤ lo) (hr : 1 ≤ ρ.2.1 ∧ 6 ≤ ρ.2.2) : w_S sc fr lo 38 [.ref 20, .int (ji c)] (hp (stI μ 20 5 (cpl x μ)), ρ) (fun o τ => (o = .inl none ∧ cch x μ = c ∧ τ = (hp (stI μ 20 5 (cpl x μ + 1)), ρ)) ∨ (o = .inr (1, ρ.1) ∧ cch x μ ≠ c ∧ τ = (hp (stI (stI μ 20 5 (cpl x μ)) 20 6 (cpl x μ)), ρ.1 + 1, ρ.2.1 - 1, ρ.2.2 - 6))) := by
  have hpk := pk_cch hC
  have hCs := CI_sk hT hX hC
  have hpl := hCs.2.2.2.2.1
  have hsz := hCs.2.1
  have e5 : (stI μ 20 5 (cpl x μ)).1 20 5 = cpl x μ := stI_at _ _ _ _
  have ex : (stI μ 20 5 (cpl x μ)).1 x 1 = μ.1 x 1 := stI_ne (by omega)
  have e : (if 0 ≤ (stI μ 20 5 (cpl x μ)).1 20 5 ∧ (stI μ 20 5 (cpl x μ)).1 20 5 < (stI μ 20 5 (cpl x μ)).1 x 1 then (stI μ 20 5 (cpl x μ)).2.2 (x + 1) ((stI μ 20 5 (cpl x μ)).1 20 5) else -1) = (if 0 ≤ cpl x μ ∧ cpl x μ < μ.1 x 1 then μ.2.2 (x + 1) (cpl x μ) else -1) := by
    rw [e5, ex]; rfl
  by_cases h1 : cch x μ = c
  · have T := t_expect (sc := sc) (fr := fr) (lo := lo) (ρ := ρ) (c := c) hX hCs.1.1 hCs.2.1 hCs.2.2.1 (by omega) (by omega) (by rw [e]; omega) hf hl
    rw [e5, stI_stI] at T
    refine T.mono ?_
    rintro o τ ⟨rfl, rfl⟩
    exact Or.inl ⟨rfl, h1, rfl⟩
  · have T := t_expectx (sc := sc) (fr := fr) (lo := lo) (ρ := ρ) (c := c) hX hCs.1.1 hCs.2.1 hCs.2.2.1 (by omega) (by omega) (by rw [e]; omega) hf hl hr
    rw [e5] at T
    refine T.mono ?_
    rintro o τ ⟨rfl, rfl⟩
    exact Or.inr ⟨rfl, h1, rfl⟩
/-- an array's row is closed: the rows -/
theorem cls_rows {t x e : Nat} {top kd : Int} {j : Nat} (hT : isT t) (hX : x = 42 ∨ x = 44) {μ : Mem} (hC : CI t x μ) (hA : AS t e top j μ) (hk : 0 ≤ kd ∧ kd ≤ 12) : CI t x (cls μ t top kd j) ∧ Kp t top μ (cls μ t top kd j) ∧ rok (cls μ t top kd j) t top (μ.1 t 7) ∧ eqv (vT μ t) (vT (cls μ t top kd j) t) (fun k => top + 1 ≤ k ∧ k < μ.1 t 7) ∧ ∀ m : Nat, m ≤ j → pt (vT (cls μ t top kd j) t) top m = pt (vT μ t) top m := by
  obtain ⟨f1, f5, f6, fI, fR, fA⟩ := cls_f (μ := μ) (t := t) (k := top) (kd := kd) (p := j)
  obtain ⟨a1, a2, a3, a4, a5, a6, a7, a8⟩ := hA
  have hT' := hT
  unfold isT at hT
  have aw : (cls μ t top kd j).2.2 (t + 7 + 1) = μ.2.2 (t + 7 + 1) := funext fun i => fA _ i (by omega)
  have ha : ∀ a k, t + 1 ≤ a ∧ a ≤ t + 6 → top + 1 ≤ k → k < μ.1 t 7 → (cls μ t top kd j).2.2 a k = μ.2.2 a k := fun a k h1 h2 h3 => fA a k (by omega)
  have hww : ∀ k, k < μ.1 (t + 7) 1 → (cls μ t top kd j).2.2 (t + 7 + 1) k = μ.2.2 (t + 7 + 1) k := fun k _ => by rw [aw]
  have hq := keep_eqv a2.1 ha hww
  have hp : ∀ m : Nat, m ≤ j → pt (vT (cls μ t top kd j) t) top m = pt (vT μ t) top m := pt_same (n := 0) (fun m hm => by
    have := a4 m hm
    exact fA (t + 6) _ (by omega))
  have eu : (cls μ t top kd j).1 (t + 7) 1 = μ.1 (t + 7) 1 := by rw [fI]
  have en : (cls μ t top kd j).1 t 7 = μ.1 t 7 := by rw [fI]
  have hr := fun (k : Int) => rok_keep (k := k) (μ' := cls μ t top kd j) a2.1 (RWS_reg a2) ha hww (by rw [eu]; exact Int.le_refl _) (Int.le_refl (μ.1 t 7))
  have hpl := hC.2.2.2.2.1
  have hu := hC.2.2.2.2.2.1
  refine ⟨CI_of hC (by rw [fI]) eu (by rw [fI]) fR (funext fun i => fA _ i (by omega)) aw (funext fun i => fA _ i (by omega)) (funext fun i => fA _ i (by omega)) (by rw [fI]; omega) (by rw [en]; omega), ⟨⟨fun a q _ _ _ _ _ => by rw [fI], fR, fun a h1 h2 h3 h4 => funext fun i => fA a i (by omega)⟩, fun a k h1 h2 => fA a k (by omega), hww, by rw [eu]; exact Int.le_refl _, by rw [fI]; exact Int.le_refl _, by rw [fI]⟩, ⟨⟨by omega, by omega, by rw [eu]; omega, by rw [eu]; have := hC.2.1; omega⟩, fun k k1 k2 => ?_⟩, hq, hp⟩
  by_cases z : k = top
  · subst z
    refine ⟨by rw [f1]; omega, by rw [fA _ _ (by omega), a6]; decide, by rw [f5]; omega, ⟨by rw [f6]; omega, by rw [f6]; exact Int.le_refl _, fun m m1 m2 => ?_⟩, by rw [fA (t + 3) _ (by omega), fA (t + 4) _ (by omega), eu]; exact a7, fun n hn => ?_⟩
    · rw [f6] at m2 ⊢
      by_cases zz : m = k
      · subst zz
        rw [f6]; exact Int.le_refl _
      · exact (hr m (by omega) m2).2.2.2.1.2.1
    · rw [f5] at hn
      rw [hp n (by omega), f6]
      have b := a4 n (by omega)
      exact ⟨b.1, b.2.1⟩
  · exact hr k (by omega) k2
/-- a map is closed: what the class looks at, what follows -/
theorem AL_closeM {sc : Nat × (Nat → Int32)} {t x e : Nat} {d key top : Int} {j : Nat} (hT : isT t) (hX : x = 42 ∨ x = 44) {μ0 μ : Mem} (h : AL sc t x d key e top 11 2 j μ0 μ) (h0 : μ0.1 t 7 = top) (hd : 0 ≤ d ∧ d ≤ 7) (he : e ≤ 9) (hj : (j : Int) % 2 = 0) (hc : cch x μ = 93) : (rok (cls (stI μ 20 5 (cpl x μ + 1)) t top 11 j) t top (μ.1 t 7) ∧ (∀ k, top < k → k < μ.1 t 7 → okv 10 (vT (cls (stI μ 20 5 (cpl x μ + 1)) t top 11 j) t) k) ∧ CI t x (cls (stI μ 20 5 (cpl x μ + 1)) t top 11 j) ∧ Kp t top μ0 (cls (stI μ 20 5 (cpl x μ + 1)) t top 11 j) ∧ (cls (stI μ 20 5 (cpl x μ + 1)) t top 11 j).2.2 (t + 1) top = 11 ∧ (cls (stI μ 20 5 (cpl x μ + 1)) t top 11 j).2.2 (t + 5) top = j)
    ∧ ((∀ i k : Nat, i < k → ((2 * k : Nat) : Int) < (cls (stI μ 20 5 (cpl x μ + 1)) t top 11 j).2.2 (t + 5) top → ¬ al 10 (vT (cls (stI μ 20 5 (cpl x μ + 1)) t top 11 j) t) (pt (vT (cls (stI μ 20 5 (cpl x μ + 1)) t top 11 j) t) top (2 * i)) (vT (cls (stI μ 20 5 (cpl x μ + 1)) t top 11 j) t) (pt (vT (cls (stI μ 20 5 (cpl x μ + 1)) t top 11 j) t) top (2 * k))) → EG sc t x d key (e + 1) μ0 (cls (stI μ 20 5 (cpl x μ + 1)) t top 11 j))
    ∧ ∀ k : Nat, ((2 * k : Nat) : Int) < (cls (stI μ 20 5 (cpl x μ + 1)) t top 11 j).2.2 (t + 5) top → (∃ i, i < k ∧ al 10 (vT (cls (stI μ 20 5 (cpl x μ + 1)) t top 11 j) t) (pt (vT (cls (stI μ 20 5 (cpl x μ + 1)) t top 11 j) t) top (2 * i)) (vT (cls (stI μ 20 5 (cpl x μ + 1)) t top 11 j) t) (pt (vT (cls (stI μ 20 5 (cpl x μ + 1)) t top 11 j) t) top (2 * k))) → (∀ i k' : Nat, i < k' → k' < k → ¬ al 10 (vT (cls (stI μ 20 5 (cpl x μ + 1)) t top 11 j) t) (pt (vT (cls (stI μ 20 5 (cpl x μ + 1)) t top 11 j) t) top (2 * i)) (vT (cls (stI μ 20 5 (cpl x μ + 1)) t top 11 j) t) (pt (vT (cls (stI μ 20 5 (cpl x μ + 1)) t top 11 j) t) top (2 * k'))) → EB sc t x d key μ0 (stI (cls (stI μ 20 5 (cpl x μ + 1)) t top 11 j) 20 6 ((cls (stI μ 20 5 (cpl x μ + 1)) t top 11 j).2.2 25 (pt (vT (cls (stI μ 20 5 (cpl x μ + 1)) t top 11 j) t) top (2 * k)))) ((cls (stI μ 20 5 (cpl x μ + 1)) t top 11 j).2.2 25 (pt (vT (cls (stI μ 20 5 (cpl x μ + 1)) t top 11 j) t) top (2 * k))) := by
  obtain ⟨h1, h2, h3, h4, h5⟩ := h
  have hcp := cpl_in h1
  have hsz := h1.2.1
  have hlt := cch_lt hc (by decide)
  have hCp := CI_mv hT hX h1 (p := cpl x μ + 1) (by omega) (by omega)
  have hT' := hT
  unfold isT at hT
  have e7 : (stI μ 20 5 (cpl x μ + 1)).1 t 7 = μ.1 t 7 := stI_ne (by omega)
  have hAp : AS t e top j (stI μ 20 5 (cpl x μ + 1)) := AS_mv h3 e7 (stI_ne (by omega)) rfl
  obtain ⟨f1, f5, f6, fI, fR, fA⟩ := cls_f (μ := stI μ 20 5 (cpl x μ + 1)) (t := t) (k := top) (kd := 11) (p := j)
  obtain ⟨c1, c2, c3, c4, c5⟩ := cls_rows hT' hX hCp hAp (kd := 11) (by decide)
  rw [e7] at c3 c4
  obtain ⟨μc, hμc⟩ : ∃ μc, μc = cls (stI μ 20 5 (cpl x μ + 1)) t top 11 j := ⟨_, rfl⟩
  rw [← hμc] at f1 f5 c1 c2 c3 c4 c5 ⊢
  have ev : vT (stI μ 20 5 (cpl x μ + 1)) t = vT μ t := rfl
  rw [ev] at c4 c5
  have hreg := RWS_reg h3.2.1
  have a4 := h3.2.2.2.1
  have hK : Kp t top μ0 μc := Kp_trans (Kp_trans h2 (Kp_pl hT' (by omega)) (Int.le_refl _)) c2 (Int.le_refl _)
  have tw : ∀ i k : Nat, 2 * i < j → 2 * k < j → (al 10 (vT μ t) (pt (vT μ t) top (2 * i)) (vT μ t) (pt (vT μ t) top (2 * k)) ↔ al 10 (vT μc t) (pt (vT μc t) top (2 * i)) (vT μc t) (pt (vT μc t) top (2 * k))) := fun i k hi hk => by
    rw [c5 (2 * i) (by omega), c5 (2 * k) (by omega)]
    have q1 := a4 (2 * i) hi
    have q2 := a4 (2 * k) hk
    exact al_eqv c4 hreg 10 ⟨by omega, q1.2.1⟩ ⟨by omega, q2.2.1⟩
  refine ⟨⟨c3, fun k k1 k2 => okv_eqv c4 hreg 10 ⟨by omega, k2⟩ (h3.2.1.2 k (by omega) k2).1, c1, hK, f1, f5⟩, fun hno => ?_, fun k hk htw hfi => ?_⟩
  · rw [f5] at hno
    have hno' : ∀ n m : Nat, n < m → 2 * m < j → ¬ al 10 (vT μ t) (pt (vT μ t) top (2 * n)) (vT μ t) (pt (vT μ t) top (2 * m)) := fun n m nm hm z => hno n m nm (by omega) ((tw n m (by omega) hm).mp z)
    obtain ⟨k1, k2, k3, k4, k5⟩ := cl_cls hT' hX h1 h3 he hc (kd := 11) (by omega) (fun z => by omega) (fun _ => hj) (by omega) (fun _ => hno')
    rw [← hμc] at k1 k2 k3 k4 k5
    unfold EG
    rw [h0]
    refine ⟨k1, hK, k3, by rw [k4, k5]; omega, SimE_of (fun ν f hP => ?_)⟩
    rw [h0]
    refine Stq_trans (h5 ν f hP) (fun ν' hu => Stq_mono (sim_close2 hT' hX h1 h3 hd (by omega) hj hc hu.2 (by rw [← hμc]; exact k3) (UPf_md hP hu.1) hno') (fun ν'' hp => ?_))
    rw [← hμc] at hp
    exact Pst_up hu.1 hp
  · rw [f5] at hk
    have hk2 : 2 * k < j := by omega
    have q := a4 (2 * k) hk2
    have e25 : μc.2.2 25 (pt (vT μc t) top (2 * k)) = μ.2.2 25 (pt (vT μ t) top (2 * k)) := by
      rw [c5 (2 * k) (by omega), hμc]
      exact fA 25 _ (by omega)
    rw [e25]
    have hst := (h3.2.1.2 _ (by omega) q.2.1).2.2
    refine ⟨Cbad_of hT' hK.1 c1 (Or.inl rfl) hst, SimX_of (fun ν f hP => StX_of (h5 ν f hP) (fun ν' hu => ⟨hu.1.1, sim_close2X hT' hX h1 h3 hd (by omega) hj hc hu.2 (UPf_md hP hu.1) hk2 ?_ (fun i k' hi hk' z => hfi i k' hi hk' ((tw i k' (by omega) (by omega)).mp z))⟩))⟩
    obtain ⟨i, hi, ha⟩ := htw
    exact ⟨i, hi, (tw i k (by omega) hk2).mpr ha⟩
/-- the array's row is dropped; its content is wanted -/
def AD (sc : Nat × (Nat → Int32)) (t x : Nat) (d key top m s : Int) (μ0 μ : Mem) : Prop := CI t x μ ∧ Kp t top μ0 μ ∧ (μ.1 t 7 = top ∧ 2 * top ≤ μ.1 20 5 + d) ∧ ∀ ν f, Pre t x d key μ0 ν f → Stq sc 1 f ν 0 0 (fun ν' => UPf d top ν ν' ∧ OD t x (d + 1) top m s μ ν')
/-- the content is there -/
def AC (sc : Nat × (Nat → Int32)) (t x : Nat) (d key : Int) (e : Nat) (top m s : Int) (μ0 μ : Mem) : Prop := CI t x μ ∧ Kp t top μ0 μ ∧ GV t e top μ ∧ 2 * μ.1 t 7 ≤ μ.1 20 5 + d + 2 ∧ ∀ ν f, Pre t x d key μ0 ν f → Stq sc 1 f ν 0 0 (fun ν' => UPf d top ν ν' ∧ OC t x (d + 1) top m s μ ν')
theorem A0_drop {sc : Nat × (Nat → Int32)} {t x e : Nat} {d key top : Int} (hT : isT t) (hX : x = 42 ∨ x = 44) {μ0 μ μ1 : Mem} (h : A0 sc t x d key e top μ0 μ) (hd : 0 ≤ d ∧ d ≤ 7) (h0 : 0 ≤ top ∧ top ≤ 124) (hc : cch x μ = 34) (hW : WDc t x μ μ1) (hS : SimW sc t x (d + 1) 0 μ μ1) (hG : isG t μ1) (hs : 2 < μ1.1 20 9) {k : Nat} {m : Int} (hk : k = 1 ∧ m = 3 ∨ k = 2 ∧ m = 4 ∨ k = 3 ∧ m = 5 ∨ k = 4 ∧ m = 6) (hY : tgk (fun i => μ1.2.2 (t + 7 + 1) (μ1.1 20 8 + i)) (μ1.1 20 9) k) (hN : ∀ i, 1 ≤ i → i < k → ¬ tgk (fun i => μ1.2.2 (t + 7 + 1) (μ1.1 20 8 + i)) (μ1.1 20 9) i) : AD sc t x d key top m (μ1.2.2 25 top) μ0 (stI μ1 t 7 top) := by
  obtain ⟨h1, h2, h3, ⟨h4, h5, h6⟩, hk0, h7⟩ := h
  have w10 := hW.2.2.2.2.2.2.2.2.2.1
  have hC1 := hW.1
  have hu := hC1.2.2.2.2.2.1
  have hpl := hC1.2.2.2.2.1
  have hT' := hT
  unfold isT at hT
  refine ⟨CI_of hC1 (stI_ne (by omega)) (stI_ne (by omega)) (stI_ne (by omega)) rfl rfl rfl rfl rfl (by rw [stI_ne (by omega)]; omega) (by rw [stI_at]; omega), Kp_trans (Kp_trans h2 (hW.kp top) (Int.le_refl _)) (m := top) ⟨cfr_I (by omega), fun _ _ _ _ => rfl, fun _ _ => rfl, by rw [stI_ne (by omega)]; exact Int.le_refl _, by rw [stI_ne (by omega)]; exact Int.le_refl _, stI_ne (by omega)⟩ (Int.le_refl _), ⟨stI_at _ _ _ _, by rw [stI_ne (by omega)]; omega⟩, fun ν f hP => Stq_trans (h7 ν f hP) (fun ν' hu => Stq_mono (first_drop hT' hX h1 h5 hd hc hu.2 (by omega) (Or.inr rfl) ⟨h6, by omega⟩ hW hS hG hs hk hY hN) (fun ν2 h2 => ⟨UPf_trans hu.1 h2.1, h2.2⟩))⟩
theorem AD_sepX {sc : Nat × (Nat → Int32)} {t x : Nat} {d key top m s : Int} (hT : isT t) (hX : x = 42 ∨ x = 44) {μ0 μ : Mem} (h : AD sc t x d key top m s μ0 μ) (hd : 0 ≤ d ∧ d ≤ 7) (hm : 3 ≤ m ∧ m ≤ 6) (hc : cch x μ ≠ 44) : EB sc t x d key μ0 (stI (stI μ 20 5 (cpl x μ)) 20 6 (cpl x μ)) (cpl x μ) := by
  obtain ⟨h1, h2, h3, h5⟩ := h
  have hcp := cpl_in h1
  have hsz := h1.2.1
  have hpl := h1.2.2.2.2.1
  refine ⟨Cbad_of hT (cfr_trans h2.1 (cfr_I (Or.inl rfl))) (CI_sk hT hX h1) (Or.inl rfl) (by omega), SimX_of (fun ν f hP => StX_of (h5 ν f hP) (fun ν' hu => ⟨hu.1.1, sim_sepX hT hX h1 hu.2.1 (by omega) hu.2.2.2.1 hu.2.2.2.2.1 (by omega) (by omega) (by omega)⟩))⟩
theorem AD_pre {sc : Nat × (Nat → Int32)} {t x : Nat} {d top m s : Int} (hT : isT t) (hX : x = 42 ∨ x = 44) {μ ν : Mem} (h1 : CI t x μ) (hd : 0 ≤ d ∧ d ≤ 7) (hm : 3 ≤ m ∧ m ≤ 6) (hc : cch x μ = 44) (o : OD t x (d + 1) top m s μ ν) : Stq sc 0 0 ν 1 0 (fun ν2 => skp ν ν2 ∧ Pre t x (d + 1) 0 (stI μ 20 5 (cpl x μ + 1)) ν2 0 ∧ OD t x (d + 1) top m s (stI μ 20 5 (cpl x μ + 1)) ν2) := by
  refine Stq_mono (sim_comma hT hX h1 o.1 (by omega) o.2.2.1 o.2.2.2.1 (by omega) (by omega) (by omega) hc) (fun ν2 h2 => ?_)
  have o2 : OD t x (d + 1) top m s (stI μ 20 5 (cpl x μ + 1)) ν2 := ⟨h2.2, OL_skp o.2 h2.1⟩
  obtain ⟨k1, k2, k3, k4⟩ := o2.2
  refine ⟨h2.1, ⟨h2.2, ⟨fun _ => ?_, ?_⟩, fun _ z => ?_, Or.inl rfl⟩, o2⟩
  · rw [k2, k3]; omega
  · rw [k2, k3]; omega
  · rw [k2] at z; omega
theorem AD_elem {sc : Nat × (Nat → Int32)} {t x e : Nat} {d key top m s : Int} (hT : isT t) (hX : x = 42 ∨ x = 44) {μ0 μ μ' : Mem} (h : AD sc t x d key top m s μ0 μ) (h0 : 0 ≤ top) (hd : 0 ≤ d ∧ d ≤ 7) (hm : 3 ≤ m ∧ m ≤ 6) (hc : cch x μ = 44) (hE : EG sc t x (d + 1) 0 e (stI μ 20 5 (cpl x μ + 1)) μ') : AC sc t x d key e top m s μ0 μ' := by
  obtain ⟨h1, h2, ⟨h3, h4⟩, h5⟩ := h
  obtain ⟨g1, g2, g3, g4, g5⟩ := hE
  have hcp := cpl_in h1
  have e7 : (stI μ 20 5 (cpl x μ + 1)).1 t 7 = top := (stI_ne (by unfold isT at hT; omega)).trans h3
  rw [e7] at g2 g3
  refine ⟨g1, Kp_trans (Kp_trans h2 (Kp_pl hT (by omega)) (Int.le_refl _)) g2 (Int.le_refl _), g3, by omega, fun ν f hP => Stq_trans (h5 ν f hP) (fun ν' hu => Stq_trans (AD_pre hT hX h1 hd hm hc hu.2) (fun ν2 h2 => Stq_mono (SimE_to g5 ν2 0 h2.2.1) (fun ν3 hp => ?_)))⟩
  rw [e7] at hp
  exact ⟨UPf_trans hu.1 (UPf_trans (skp_UPf h2.1) (Pst_in hp (Int.le_refl _))), OC_of h2.2.2 ⟨e7, h0⟩ (by omega) (by omega) hp⟩
theorem AD_elemX {sc : Nat × (Nat → Int32)} {t x : Nat} {d key top m s w : Int} (hT : isT t) (hX : x = 42 ∨ x = 44) {μ0 μ μ' : Mem} (h : AD sc t x d key top m s μ0 μ) (hd : 0 ≤ d ∧ d ≤ 7) (hm : 3 ≤ m ∧ m ≤ 6) (hc : cch x μ = 44) (hE : EB sc t x (d + 1) 0 (stI μ 20 5 (cpl x μ + 1)) μ' w) : EB sc t x d key μ0 μ' w := by
  obtain ⟨h1, h2, ⟨h3, h4⟩, h5⟩ := h
  obtain ⟨g1, g2⟩ := hE
  exact ⟨⟨cfr_trans (cfr_trans h2.1 (cfr_I (Or.inl rfl))) g1.1, g1.2⟩, SimX_of (fun ν f hP => StX_of (h5 ν f hP) (fun ν' hu => ⟨hu.1.1, StX_of (AD_pre hT hX h1 hd hm hc hu.2) (fun ν2 h2 => ⟨skp_mfw h2.1, SimX_to g2 ν2 0 h2.2.1⟩)⟩))⟩
theorem AC_sepX {sc : Nat × (Nat → Int32)} {t x e : Nat} {d key top m s : Int} (hT : isT t) (hX : x = 42 ∨ x = 44) {μ0 μ : Mem} (h : AC sc t x d key e top m s μ0 μ) (hd : 0 ≤ d ∧ d ≤ 7) (hm : 3 ≤ m ∧ m ≤ 6) (hc : cch x μ ≠ 93) : EB sc t x d key μ0 (stI (stI μ 20 5 (cpl x μ)) 20 6 (cpl x μ)) (cpl x μ) := by
  obtain ⟨h1, h2, h3, h4, h5⟩ := h
  have hcp := cpl_in h1
  have hsz := h1.2.1
  have hpl := h1.2.2.2.2.1
  refine ⟨Cbad_of hT (cfr_trans h2.1 (cfr_I (Or.inl rfl))) (CI_sk hT hX h1) (Or.inl rfl) (by omega), SimX_of (fun ν f hP => StX_of (h5 ν f hP) (fun ν' hu => ⟨hu.1.1, sim_sepX hT hX h1 hu.2.1 (by omega) hu.2.2.1.2.1 hu.2.2.1.2.2.1 (by omega) (by omega) (by omega)⟩))⟩
theorem GV_le {t e f : Nat} {n : Int} {μ : Mem} (h : GV t e n μ) (hf : e ≤ f) : GV t f n μ := ⟨h.1, h.2.1, h.2.2.1, okv_le hf h.2.2.2.1, h.2.2.2.2⟩
theorem GV_mv {t e : Nat} {n : Int} {μ μ' : Mem} (h : GV t e n μ) (h1 : μ'.1 t 7 = μ.1 t 7) (h2 : μ'.1 (t + 7) 1 = μ.1 (t + 7) 1) (h3 : μ'.2.2 = μ.2.2) : GV t e n μ' := by
  have ev : vT μ' t = vT μ t := by unfold vT; rw [h3]
  obtain ⟨g1, g2, g3, g4, g5⟩ := h
  unfold GV rki
  rw [h1, ev, h3]
  exact ⟨g1, rok_eq (fun a _ _ => by rw [h3]) h2 g2, g3, g4, g5⟩
/-- the content is what the tag makes of it -/
theorem AC_fin {sc : Nat × (Nat → Int32)} {t x e : Nat} {d key top kd m s : Int} (hT : isT t) (hX : x = 42 ∨ x = 44) {μ0 μ : Mem} (h : AC sc t x d key (e + 1) top m s μ0 μ) (h0 : μ0.1 t 7 = top) (hd : 0 ≤ d ∧ d ≤ 7) (he : e ≤ 9) (hs : 0 ≤ s ∧ s ≤ 240) (hc : cch x μ = 93) (hm : m = 3 ∧ kd = μ.2.2 (t + 1) top ∨ μ.2.2 (t + 1) top = 8 ∧ (m = 4 ∧ kd = 10 ∧ (∀ n m : Nat, n < m → (m : Int) < μ.2.2 (t + 5) top → ¬ al 10 (vT μ t) (pt (vT μ t) top n) (vT μ t) (pt (vT μ t) top m)) ∨ m = 5 ∧ kd = 9 ∨ m = 6 ∧ kd = 11 ∧ μ.2.2 (t + 5) top % 2 = 0 ∧ ∀ n m : Nat, n < m → (2 * m : Int) < μ.2.2 (t + 5) top → ¬ al 10 (vT μ t) (pt (vT μ t) top (2 * n)) (vT μ t) (pt (vT μ t) top (2 * m)))) : EG sc t x d key (e + 2) μ0 (ctM t x top kd s μ) := by
  obtain ⟨h1, h2, h3, h4, h5⟩ := h
  have hcp := cpl_in h1
  have hsz := h1.2.1
  have hpl := h1.2.2.2.2.1
  have hlt := cch_lt hc (by decide)
  have hCp := CI_mv hT hX h1 (p := cpl x μ + 1) (by omega) (by omega)
  have hT' := hT
  unfold isT at hT
  have e7 : (stI μ 20 5 (cpl x μ + 1)).1 t 7 = μ.1 t 7 := stI_ne (by omega)
  have hGp : GV t (e + 1) top (stI μ 20 5 (cpl x μ + 1)) := GV_mv h3 e7 (stI_ne (by omega)) rfl
  have hk : CI t x (stA (stI μ 20 5 (cpl x μ + 1)) (t + 1) top kd) ∧ Kp t top (stI μ 20 5 (cpl x μ + 1)) (stA (stI μ 20 5 (cpl x μ + 1)) (t + 1) top kd) ∧ GV t (e + 1) top (stA (stI μ 20 5 (cpl x μ + 1)) (t + 1) top kd) := by
    rcases hm with ⟨h3', hk⟩ | ⟨h8, hm⟩
    · have e1 : stA (stI μ 20 5 (cpl x μ + 1)) (t + 1) top kd = stI μ 20 5 (cpl x μ + 1) := by
        have := stA_self (stI μ 20 5 (cpl x μ + 1)) (t + 1) top
        rw [show (stI μ 20 5 (cpl x μ + 1)).2.2 (t + 1) top = kd from hk.symm] at this
        exact this
      rw [e1]
      exact ⟨hCp, ⟨cfr_refl _ _, fun _ _ _ _ => rfl, fun _ _ => rfl, Int.le_refl _, Int.le_refl _, rfl⟩, hGp⟩
    · refine GV_kind hT' hX hCp hGp (by rw [e7]; omega) he (by omega) (fun z => ?_) (fun z => ?_) (fun z => ?_)
      · rcases hm with ⟨_, y, _⟩ | ⟨_, y⟩ | ⟨_, _, y, _⟩
        · omega
        · omega
        · exact y
      · rcases hm with ⟨_, _, y⟩ | ⟨_, y⟩ | ⟨_, y, _⟩
        · exact y
        · omega
        · omega
      · rcases hm with ⟨_, y, _⟩ | ⟨_, y⟩ | ⟨_, _, _, y⟩
        · omega
        · omega
        · exact y
  obtain ⟨k1, k2, k3⟩ := hk
  obtain ⟨c1, c2, c3⟩ := GV_25 hT' hX k1 k3 hs
  unfold EG
  rw [h0]
  refine ⟨c1, Kp_trans (Kp_trans (Kp_trans h2 (Kp_pl hT' (by omega)) (Int.le_refl _)) k2 (Int.le_refl _)) c2 (Int.le_refl _), GV_le c3 (by omega), ?_, SimE_of (fun ν f hP => ?_)⟩
  · show 2 * (stI μ 20 5 (cpl x μ + 1)).1 t 7 ≤ (stI μ 20 5 (cpl x μ + 1)).1 20 5 + d + 1
    rw [e7, stI_at]; omega
  · rw [h0]
    exact Stq_trans (h5 ν f hP) (fun ν' hu => Stq_mono (sim_cont hT' hX h1 h3 hd (by omega) hc hu.2 c3 (UPf_md hP hu.1) hm) (fun ν'' hp => Pst_up hu.1 hp))
theorem AC_X1 {sc : Nat × (Nat → Int32)} {t x e : Nat} {d key top m s : Int} (hT : isT t) (hX : x = 42 ∨ x = 44) {μ0 μ : Mem} (h : AC sc t x d key (e + 1) top m s μ0 μ) (hd : 0 ≤ d ∧ d ≤ 7) (hc : cch x μ = 93) (hm : (m = 4 ∨ m = 5 ∨ m = 6) ∧ μ.2.2 (t + 1) top ≠ 8 ∨ m = 6 ∧ μ.2.2 (t + 5) top % 2 = 1) : EB sc t x d key μ0 (stI (stI μ 20 5 (cpl x μ + 1)) 20 6 (μ.2.2 25 top)) (μ.2.2 25 top) := by
  obtain ⟨h1, h2, h3, h4, h5⟩ := h
  have hcp := cpl_in h1
  have hsz := h1.2.1
  have hpl := h1.2.2.2.2.1
  have hlt := cch_lt hc (by decide)
  have hCp := CI_mv hT hX h1 (p := cpl x μ + 1) (by omega) (by omega)
  exact ⟨Cbad_of hT (cfr_trans h2.1 (cfr_I (Or.inl rfl))) hCp (Or.inl rfl) (h3.2.2.2.2 top (Int.le_refl _) h3.1).2.2, SimX_of (fun ν f hP => StX_of (h5 ν f hP) (fun ν' hu => ⟨hu.1.1, sim_contX1 hT hX h1 h3 hd (by omega) hc hu.2 (UPf_md hP hu.1) hm⟩))⟩
theorem pt_beh {A B : View} {i : Int} (h : A.2.2.2.1 = B.2.2.2.1) : ∀ m : Nat, pt A i m = pt B i m
  | 0 => rfl
  | m + 1 => by
    show A.2.2.2.1 (pt A i m) = B.2.2.2.1 (pt B i m)
    rw [pt_beh h m, h]
/-- the rows behind the one whose kind is changed -/
theorem kind_rows {t x e : Nat} {top kd : Int} (hT : isT t) (hX : x = 42 ∨ x = 44) {μ : Mem} (hC : CI t x μ) (h : GV t (e + 1) top μ) (hn : μ.1 t 7 ≤ 200) (hk : 0 ≤ kd ∧ kd ≤ 12) : CI t x (stA μ (t + 1) top kd) ∧ rok (stA μ (t + 1) top kd) t top (μ.1 t 7) ∧ (∀ k, top < k → k < μ.1 t 7 → okv 10 (vT (stA μ (t + 1) top kd) t) k) ∧ (∀ m : Nat, pt (vT (stA μ (t + 1) top kd) t) top m = pt (vT μ t) top m) ∧ ∀ i k, top < i → i < μ.1 t 7 → top < k → k < μ.1 t 7 → (al 10 (vT μ t) i (vT μ t) k ↔ al 10 (vT (stA μ (t + 1) top kd) t) i (vT (stA μ (t + 1) top kd) t) k) := by
  obtain ⟨⟨a1, a2, a4, a5, a6, a7, a8⟩, hj⟩ := GV_AS0 h hn
  have hT' := hT
  unfold isT at hT
  have y : ∀ a, a ≠ t + 1 → (stA μ (t + 1) top kd).2.2 a = μ.2.2 a := fun a ha => stA_o2 ha
  have hpt : ∀ i (m : Nat), pt (vT (stA μ (t + 1) top kd) t) i m = pt (vT μ t) i m := fun i m => pt_beh (show (stA μ (t + 1) top kd).2.2 (t + 6) = μ.2.2 (t + 6) from y _ (by omega)) m
  have hq : eqv (vT μ t) (vT (stA μ (t + 1) top kd) t) (fun k => top + 1 ≤ k ∧ k < μ.1 t 7) := keep_eqv a2.1 (fun a k h1 h2 h3 => stA_ne (by omega)) (fun k _ => by rw [y _ (by omega)])
  have hu := hC.2.2.2.2.2.1
  have hpl := hC.2.2.2.2.1
  refine ⟨CI_of hC rfl rfl rfl rfl (y _ (by omega)) (y _ (by omega)) (y _ (by omega)) (y _ (by omega)) (by show μ.1 (t + 7) 1 ≤ μ.1 20 5 ∧ μ.1 20 5 ≤ μ.1 x 1; omega) hC.2.2.2.2.2.2.2.2.2.2, ⟨h.2.1.1, fun k k1 k2 => ?_⟩, fun k k1 k2 => okv_eqv hq (RWS_reg a2) 10 ⟨by omega, k2⟩ (a2.2 k (by omega) k2).1, hpt top, fun i k i1 i2 k1 k2 => al_eqv hq (RWS_reg a2) 10 ⟨by omega, i2⟩ ⟨by omega, k2⟩⟩
  obtain ⟨r1, r2, r3, r4, r5, r6⟩ := h.2.1.2 k k1 k2
  rw [y (t + 2) (by omega), y (t + 3) (by omega), y (t + 4) (by omega), y (t + 5) (by omega), y (t + 6) (by omega)]
  refine ⟨?_, r2, r3, r4, r5, fun n hn => by rw [hpt]; exact r6 n hn⟩
  by_cases z : k = top
  · rw [z, stA_at]; exact hk
  · rw [stA_ne (by omega)]; exact r1
/-- a part comes twice -/
theorem AC_X2 {sc : Nat × (Nat → Int32)} {t x e k sN : Nat} {d key top kd m s : Int} (hT : isT t) (hX : x = 42 ∨ x = 44) {μ0 μ : Mem} (h : AC sc t x d key (e + 1) top m s μ0 μ) (hd : 0 ≤ d ∧ d ≤ 7) (hc : cch x μ = 93) (h8 : μ.2.2 (t + 1) top = 8) (hkd : 9 ≤ kd ∧ kd ≤ 11) (hm : m = 4 ∧ sN = 1 ∨ m = 6 ∧ sN = 2 ∧ μ.2.2 (t + 5) top % 2 = 0) (hk : ((sN * k : Nat) : Int) < μ.2.2 (t + 5) top) (htw : ∃ i, i < k ∧ al 10 (vT (stA (stI μ 20 5 (cpl x μ + 1)) (t + 1) top kd) t) (pt (vT (stA (stI μ 20 5 (cpl x μ + 1)) (t + 1) top kd) t) top (sN * i)) (vT (stA (stI μ 20 5 (cpl x μ + 1)) (t + 1) top kd) t) (pt (vT (stA (stI μ 20 5 (cpl x μ + 1)) (t + 1) top kd) t) top (sN * k))) (hfi : ∀ i k' : Nat, i < k' → k' < k → ¬ al 10 (vT (stA (stI μ 20 5 (cpl x μ + 1)) (t + 1) top kd) t) (pt (vT (stA (stI μ 20 5 (cpl x μ + 1)) (t + 1) top kd) t) top (sN * i)) (vT (stA (stI μ 20 5 (cpl x μ + 1)) (t + 1) top kd) t) (pt (vT (stA (stI μ 20 5 (cpl x μ + 1)) (t + 1) top kd) t) top (sN * k'))) : EB sc t x d key μ0 (stI (stA (stI μ 20 5 (cpl x μ + 1)) (t + 1) top kd) 20 6 ((stA (stI μ 20 5 (cpl x μ + 1)) (t + 1) top kd).2.2 25 (pt (vT (stA (stI μ 20 5 (cpl x μ + 1)) (t + 1) top kd) t) top (sN * k)))) ((stA (stI μ 20 5 (cpl x μ + 1)) (t + 1) top kd).2.2 25 (pt (vT (stA (stI μ 20 5 (cpl x μ + 1)) (t + 1) top kd) t) top (sN * k))) := by
  obtain ⟨h1, h2, h3, h4, h5⟩ := h
  have hcp := cpl_in h1
  have hsz := h1.2.1
  have hpl := h1.2.2.2.2.1
  have hlt := cch_lt hc (by decide)
  have hCp := CI_mv hT hX h1 (p := cpl x μ + 1) (by omega) (by omega)
  have hT' := hT
  unfold isT at hT
  have e7 : (stI μ 20 5 (cpl x μ + 1)).1 t 7 = μ.1 t 7 := stI_ne (by omega)
  have hGp : GV t (e + 1) top (stI μ 20 5 (cpl x μ + 1)) := GV_mv h3 e7 (stI_ne (by omega)) rfl
  obtain ⟨c1, c2, c3, c4, c5⟩ := kind_rows hT' hX hCp hGp (kd := kd) (by rw [e7]; omega) (by omega)
  rw [e7] at c3 c5
  have c4' : ∀ m : Nat, pt (vT (stA (stI μ 20 5 (cpl x μ + 1)) (t + 1) top kd) t) top m = pt (vT μ t) top m := c4
  have c5' : ∀ i k, top < i → i < μ.1 t 7 → top < k → k < μ.1 t 7 → (al 10 (vT μ t) i (vT μ t) k ↔ al 10 (vT (stA (stI μ 20 5 (cpl x μ + 1)) (t + 1) top kd) t) i (vT (stA (stI μ 20 5 (cpl x μ + 1)) (t + 1) top kd) t) k) := c5
  have e25 : (stA (stI μ 20 5 (cpl x μ + 1)) (t + 1) top kd).2.2 25 = μ.2.2 25 := stA_o2 (by omega)
  have rt := h3.2.1.2 top (Int.le_refl _) h3.1
  have hpr : ∀ n : Nat, (n : Int) < μ.2.2 (t + 5) top → top < pt (vT μ t) top n ∧ pt (vT μ t) top n < μ.1 t 7 := fun n hn => by
    have q := rt.2.2.2.2.2 n hn
    have q2 := rt.2.2.2.1.2.1
    omega
  have hsN : sN = 1 ∨ sN = 2 := by omega
  have hlk : ∀ i : Nat, i ≤ k → ((sN * i : Nat) : Int) < μ.2.2 (t + 5) top := fun i hi => by
    have := Nat.mul_le_mul_left sN hi
    omega
  rw [e25, c4']
  rw [c4'] at htw
  have q := hpr _ hk
  have hst := (h3.2.2.2.2 _ (by omega) q.2).2.2
  refine ⟨Cbad_of hT' (cfr_trans (cfr_trans h2.1 (cfr_I (Or.inl rfl))) (cfr_A (by omega))) c1 (Or.inl rfl) hst, SimX_of (fun ν f hP => StX_of (h5 ν f hP) (fun ν' hu => ⟨hu.1.1, sim_contX2 hT' hX h1 h3 hd (by omega) hc hu.2 (UPf_md hP hu.1) h8 hm hk ?_ (fun i k' hi hk' z => ?_)⟩))⟩
  · obtain ⟨i, hi, ha⟩ := htw
    rw [c4'] at ha
    have q1 := hpr _ (hlk i (by omega))
    exact ⟨i, hi, (c5' _ _ q1.1 q1.2 q.1 q.2).mpr ha⟩
  · have q1 := hpr _ (hlk i (by omega))
    have q2 := hpr _ (hlk k' (by omega))
    refine hfi i k' hi hk' ?_
    rw [c4', c4']
    exact (c5' _ _ q1.1 q1.2 q2.1 q2.2).mp z
