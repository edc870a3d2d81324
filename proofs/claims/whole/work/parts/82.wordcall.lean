/-! THE PURE PART, 64: a string is read by both: the calls -/
/-- the class has read a string -/
def WDc (t x : Nat) (μ μ1 : Mem) : Prop := CI t x μ1 ∧ cfr t μ μ1 ∧ (∀ a, t + 1 ≤ a ∧ a ≤ t + 6 ∨ a = 25 → μ1.2.2 a = μ.2.2 a) ∧ μ1.1 t 7 = μ.1 t 7 ∧ (∀ k, k < μ.1 (t + 7) 1 → μ1.2.2 (t + 7 + 1) k = μ.2.2 (t + 7 + 1) k) ∧ μ.1 (t + 7) 1 ≤ μ1.1 (t + 7) 1 ∧ μ1.1 20 7 = μ.1 20 5 ∧ (0 ≤ μ1.1 20 8 ∧ 0 ≤ μ1.1 20 9 ∧ μ1.1 20 8 + μ1.1 20 9 ≤ μ1.1 (t + 7) 1) ∧ μ1.1 (t + 7) 1 + 2 ≤ μ1.1 20 5 ∧ μ.1 20 5 + 2 ≤ μ1.1 20 5 ∧ (2 ≤ μ1.1 20 9 → μ.1 20 5 + 4 ≤ μ1.1 20 5) ∧ μ1.1 20 6 = μ.1 20 6
/-- and the reference too -/
def RWd (t x : Nat) (d : Int) (μ1 ν ν1 : Mem) : Prop := Rel t x d μ1 ν1 ∧ ν1.1 46 24 = 480 + μ1.1 20 8 ∧ ν1.1 46 25 = μ1.1 20 9 ∧ ν1.1 46 15 = μ1.1 20 5 ∧ mfr ν ν1 ∧ (∀ a, 49 ≤ a → a ≤ 56 → ν1.2.2 a = ν.2.2 a) ∧ ∀ a, 58 ≤ a → a ≤ 61 → ν1.2.2 a = ν.2.2 a
/-- does a key stand next -/
def kcd (d key : Int) (ν : Mem) : Prop := (0 < d → (0 ≤ ν.2.2 59 d ∧ ν.2.2 59 d ≤ 7) ∧ 0 ≤ ν.2.2 60 d ∧ ν.2.2 60 d ≤ 240) ∧ (key = 1 ∧ 0 < d ∧ ν.2.2 59 d = 2 ∧ ν.2.2 60 d % 2 = 0 ∨ key = 0 ∧ ¬ (0 < d ∧ ν.2.2 59 d = 2 ∧ ν.2.2 60 d % 2 = 0))
def SimW (sc : Nat × (Nat → Int32)) (t x : Nat) (d key : Int) (μ μ1 : Mem) : Prop := ∀ (fr lo : Nat) (ρ : Nat × Nat × Nat) (Q : z_O → z_T → Prop) (ν : Mem), 14 ≤ fr → 600 ≤ lo → Rel t x d μ ν → ν.1 46 15 = μ.1 20 5 → kcd d key ν → (∀ (ν1 : Mem) (c : Int), RWd t x d μ1 ν ν1 → w_P sc fr lo 124 7 4 false ((some FieldType.boolean)) prog_9_method_31_code 117 [some (.ref 46), some (.int (ji (μ.1 20 5))), some (.int (ji key)), some (.int (ji c))] [] (hp ν1, ρ) Q) → w_S sc fr lo 124 [.ref 46] (hp ν, ρ) Q
def SimWX (sc : Nat × (Nat → Int32)) (t x : Nat) (d key : Int) (μ : Mem) (w : Int) : Prop := ∀ (fr lo : Nat) (ρ : Nat × Nat × Nat) (Q : z_O → z_T → Prop) (ν : Mem), 14 ≤ fr → 600 ≤ lo → Rel t x d μ ν → ν.1 46 15 = μ.1 20 5 → kcd d key ν → (∀ ν', lfX ν ν' w → Q (.inl (some (.int (ji 1)))) (hp ν', ρ)) → w_S sc fr lo 124 [.ref 46] (hp ν, ρ) Q
theorem wM_6 {t : Nat} {μ : Mem} {l : List Int} {q : Int} (hT : isT t) : (wM μ t l q).1 20 6 = μ.1 20 6 := by
  unfold isT at hT
  unfold wM
  rw [stI_ne (by omega), stI_ne (by omega), stI_ne (by omega), apL_ne (by omega), stI_ne (by omega), stI_ne (by omega), stI_ne (by omega)]
theorem wM_cfr {t : Nat} {μ : Mem} {l : List Int} {q : Int} (hT : isT t) : cfr t μ (wM μ t l q) := by
  obtain ⟨w8, w9, w5, w7, wu, wI, wR, wA⟩ := wM_8 (μ := μ) (t := t) (l := l) (q := q) hT
  exact ⟨fun a q h1 h2 h3 h4 h5 => wI a q h1 h5, wR, fun a h1 h2 h3 h4 => wA a (by omega)⟩
theorem rM_mfr {ν : Mem} {l : List Int} {q : Int} (h : 0 ≤ ν.1 46 18) : mfr ν (rM ν l q) := by
  obtain ⟨f15, f18, f24, f25, fI, fR, fA, f57⟩ := rM_f (μ := ν) (l := l) (q := q)
  exact ⟨fun a p h => fI a p (by omega), fun p p1 p2 p3 p4 p5 p6 p7 => fI 46 p (by omega), fR, fun a h => fA a (by omega), fun a i h1 h2 _ => by rw [fA a (by omega)], fun i hi => by rw [f57, if_neg (by omega)]⟩
theorem cod_len {w : Int → Int} {s : Int} (h : 0 ≤ cod w s) : 2 ≤ s := by
  unfold cod at h
  split at h
  · rename_i z
    omega
  · omega
theorem wd0 {sc : Nat × (Nat → Int32)} {t x : Nat} (hT : isT t) (hX : x = 42 ∨ x = 44) {μ : Mem} (hCI : CI t x μ) (hpn : μ.1 20 5 < μ.1 x 1) {key : Int} {q : Int} {l : List Int} (hrw : rw' (μ.2.2 (x + 1)) (μ.1 x 1) (μ.1 20 5 + 1) = .inr (q, l)) (hC : (cod (fun i => (wM μ t l q).2.2 (t + 7 + 1) ((wM μ t l q).1 20 8 + i)) ((wM μ t l q).1 20 9)) = -1) (hK : ¬ (tks (fun i => (wM μ t l q).2.2 (t + 7 + 1) ((wM μ t l q).1 20 8 + i)) ((wM μ t l q).1 20 9) key)) : WDc t x μ (wM μ t l q) ∧ ∀ d, 0 ≤ d ∧ d ≤ 8 → SimW sc t x d key μ (wM μ t l q) := by
  have hCI0 := hCI
  obtain ⟨hq, hl⟩ := rw_pr hCI hrw
  obtain ⟨w8, w9, w5, w7, wu, wI, wR, wA⟩ := wM_8 (μ := μ) (t := t) (l := l) (q := q) hT
  have hCW := CI_word hT hX hCI hrw
  have hT' := hT
  unfold isT at hT
  obtain ⟨c1, c2, c3, c4, c5, c6, c7, c8, c9, c10, c11⟩ := hCI
  have en : (wM μ t l q).1 21 2 = μ.1 21 2 := wI 21 2 (by omega) (by omega)
  refine ⟨⟨hCW, wM_cfr hT', fun a ha => wA a (by omega), wI t 7 (by omega) (by omega), fun k hk => (wM_w hT' k).trans (if_neg (by omega)), by show μ.1 (t + 7) 1 ≤ (wM μ t l q).1 (t + 7) 1; rw [wu]; omega, w7, by rw [w8, w9, wu]; omega, by rw [wu, w5]; omega, by rw [w5]; omega, by rw [w9, w5]; omega, wM_6 hT'⟩, fun d hd => ?_⟩
  intro fr lo ρ Q ν hf hl2 hR hp hk K
  obtain ⟨f15, f18, f24, f25, fI, fR, fA, f57⟩ := rM_f (μ := ν) (l := l) (q := q)
  have hRW := Rel_word hT' hX hCI0 hR hp hrw
  obtain ⟨a1, a2, a3, a4, a5, a6, a7⟩ := hR
  have hrw2 : rw' (ν.2.2 47) (ν.1 46 3) (ν.1 46 15 + 1) = .inr (q, l) := by
    rw [a1.1, hp, rw_cong a1.2.1 _ (by omega)]
    exact hrw
  have ec : (cod (fun i => (rM ν l q).2.2 57 ((rM ν l q).1 46 24 + i)) ((rM ν l q).1 46 25)) = (cod (fun i => (wM μ t l q).2.2 (t + 7 + 1) ((wM μ t l q).1 20 8 + i)) ((wM μ t l q).1 20 9)) := by
    rw [f25, w9]
    exact cod_cong (fun i i0 i1 => wd_eq hT' i i0 i1)
  have ek : ∀ key, tks (fun i => (rM ν l q).2.2 57 ((rM ν l q).1 46 24 + i)) ((rM ν l q).1 46 25) key ↔ tks (fun i => (wM μ t l q).2.2 (t + 7 + 1) ((wM μ t l q).1 20 8 + i)) ((wM μ t l q).1 20 9) key := fun key => by
    rw [f25, w9]
    exact tks_cong (fun i i0 i1 => wd_eq hT' i i0 i1)
  have h32 : ∀ k, 0 ≤ k → k < ν.1 46 3 → 32 ≤ ν.2.2 47 k := fun k k0 k1 => by
    rw [a1.1] at k1
    rw [a1.2.1 k k0 k1]
    exact (c4 k k0 k1).1
  have e26 : (rM ν l q).1 46 26 = μ.1 21 2 := (fI 46 26 (by decide)).trans a3.2.2.2.2
  have mf : mfr ν (rM ν l q) := rM_mfr (by rw [a3.2.2.1]; exact c6.1)
  refine m_str0 a3.1 (by rw [a1.1]; exact c2) a1.2.2 h32 (by rw [hp, a1.1]; omega) (by rw [hp, a3.2.2.1]; exact c6) (by omega) (by omega) (d := d) ⟨a3.2.2.2.1, hd⟩ hk.1 (by rw [a3.2.2.2.2]; exact c9) hrw2 hl hk.2 (by rw [ec]; exact hC) (by rw [ek]; exact hK) ?_
  rw [hp]
  exact K _ _ ⟨hRW, by rw [f24, w8, a3.2.2.1], by rw [f25, w9], by rw [f15, w5], mf, fun a h1 h2 => fA a (by omega), fun a h1 h2 => fA a (by omega)⟩
theorem wdC {sc : Nat × (Nat → Int32)} {t x : Nat} (hT : isT t) (hX : x = 42 ∨ x = 44) {μ : Mem} (hCI : CI t x μ) (hpn : μ.1 20 5 < μ.1 x 1) {key : Int} {q : Int} {l : List Int} (hrw : rw' (μ.2.2 (x + 1)) (μ.1 x 1) (μ.1 20 5 + 1) = .inr (q, l)) (hC : 0 ≤ (cod (fun i => (wM μ t l q).2.2 (t + 7 + 1) ((wM μ t l q).1 20 8 + i)) ((wM μ t l q).1 20 9)) ∧ (cod (fun i => (wM μ t l q).2.2 (t + 7 + 1) ((wM μ t l q).1 20 8 + i)) ((wM μ t l q).1 20 9)) < μ.1 21 2) : WDc t x μ (stI (stI (wM μ t l q) 20 8 (μ.2.2 22 (cod (fun i => (wM μ t l q).2.2 (t + 7 + 1) ((wM μ t l q).1 20 8 + i)) ((wM μ t l q).1 20 9)))) 20 9 (μ.2.2 23 (cod (fun i => (wM μ t l q).2.2 (t + 7 + 1) ((wM μ t l q).1 20 8 + i)) ((wM μ t l q).1 20 9)))) ∧ ∀ d, 0 ≤ d ∧ d ≤ 8 → SimW sc t x d key μ (stI (stI (wM μ t l q) 20 8 (μ.2.2 22 (cod (fun i => (wM μ t l q).2.2 (t + 7 + 1) ((wM μ t l q).1 20 8 + i)) ((wM μ t l q).1 20 9)))) 20 9 (μ.2.2 23 (cod (fun i => (wM μ t l q).2.2 (t + 7 + 1) ((wM μ t l q).1 20 8 + i)) ((wM μ t l q).1 20 9)))) := by
  have hCI0 := hCI
  obtain ⟨hq, hl⟩ := rw_pr hCI hrw
  obtain ⟨w8, w9, w5, w7, wu, wI, wR, wA⟩ := wM_8 (μ := μ) (t := t) (l := l) (q := q) hT
  have hCW := CI_word hT hX hCI hrw
  have hT' := hT
  unfold isT at hT
  obtain ⟨c1, c2, c3, c4, c5, c6, c7, c8, c9, c10, c11⟩ := hCI
  have en : (wM μ t l q).1 21 2 = μ.1 21 2 := wI 21 2 (by omega) (by omega)
  have m1 : ∀ a p, ¬ (a = 20 ∧ (p = 8 ∨ p = 9)) → (stI (stI (wM μ t l q) 20 8 (μ.2.2 22 (cod (fun i => (wM μ t l q).2.2 (t + 7 + 1) ((wM μ t l q).1 20 8 + i)) ((wM μ t l q).1 20 9)))) 20 9 (μ.2.2 23 (cod (fun i => (wM μ t l q).2.2 (t + 7 + 1) ((wM μ t l q).1 20 8 + i)) ((wM μ t l q).1 20 9)))).1 a p = (wM μ t l q).1 a p := fun a p hz => by rw [stI_ne (by omega), stI_ne (by omega)]
  have m8 : (stI (stI (wM μ t l q) 20 8 (μ.2.2 22 (cod (fun i => (wM μ t l q).2.2 (t + 7 + 1) ((wM μ t l q).1 20 8 + i)) ((wM μ t l q).1 20 9)))) 20 9 (μ.2.2 23 (cod (fun i => (wM μ t l q).2.2 (t + 7 + 1) ((wM μ t l q).1 20 8 + i)) ((wM μ t l q).1 20 9)))).1 20 8 = μ.2.2 22 (cod (fun i => (wM μ t l q).2.2 (t + 7 + 1) ((wM μ t l q).1 20 8 + i)) ((wM μ t l q).1 20 9)) := (stI_ne (by decide)).trans (stI_at _ _ _ _)
  have m9 : (stI (stI (wM μ t l q) 20 8 (μ.2.2 22 (cod (fun i => (wM μ t l q).2.2 (t + 7 + 1) ((wM μ t l q).1 20 8 + i)) ((wM μ t l q).1 20 9)))) 20 9 (μ.2.2 23 (cod (fun i => (wM μ t l q).2.2 (t + 7 + 1) ((wM μ t l q).1 20 8 + i)) ((wM μ t l q).1 20 9)))).1 20 9 = μ.2.2 23 (cod (fun i => (wM μ t l q).2.2 (t + 7 + 1) ((wM μ t l q).1 20 8 + i)) ((wM μ t l q).1 20 9)) := stI_at _ _ _ _
  have hc2 : 2 ≤ (wM μ t l q).1 20 9 := cod_len hC.1
  rw [w9] at hc2
  have hc10 := c10 _ hC.1 hC.2
  refine ⟨⟨CI_of hCW (m1 x 1 (by omega)) (m1 (t + 7) 1 (by omega)) (m1 21 2 (by omega)) rfl rfl rfl rfl rfl (by rw [m1 20 5 (by omega)]; exact ⟨hCW.2.2.2.2.2.1.2, hCW.2.2.2.2.1.2⟩) (by rw [m1 t 7 (by omega), wI t 7 (by omega) (by omega)]; exact c11), cfr_trans (wM_cfr hT') (cfr_trans (cfr_I (Or.inl rfl)) (cfr_I (Or.inl rfl))), fun a ha => wA a (by omega), by rw [m1 t 7 (by omega)]; exact wI t 7 (by omega) (by omega), fun k hk => (wM_w (q := q) hT' k).trans (if_neg (by omega)), by rw [m1 (t + 7) 1 (by omega), wu]; omega, by rw [m1 20 7 (by omega)]; exact w7, by rw [m8, m9, m1 (t + 7) 1 (by omega), wu]; omega, by rw [m1 (t + 7) 1 (by omega), m1 20 5 (by omega), wu, w5]; omega, by rw [m1 20 5 (by omega), w5]; omega, by rw [m1 20 5 (by omega), w5]; intro _; omega, (m1 20 6 (by omega)).trans (wM_6 hT')⟩, fun d hd => ?_⟩
  intro fr lo ρ Q ν hf hl2 hR hp hk K
  obtain ⟨f15, f18, f24, f25, fI, fR, fA, f57⟩ := rM_f (μ := ν) (l := l) (q := q)
  have hRW := Rel_word hT' hX hCI0 hR hp hrw
  obtain ⟨a1, a2, a3, a4, a5, a6, a7⟩ := hR
  have hrw2 : rw' (ν.2.2 47) (ν.1 46 3) (ν.1 46 15 + 1) = .inr (q, l) := by
    rw [a1.1, hp, rw_cong a1.2.1 _ (by omega)]
    exact hrw
  have ec : (cod (fun i => (rM ν l q).2.2 57 ((rM ν l q).1 46 24 + i)) ((rM ν l q).1 46 25)) = (cod (fun i => (wM μ t l q).2.2 (t + 7 + 1) ((wM μ t l q).1 20 8 + i)) ((wM μ t l q).1 20 9)) := by
    rw [f25, w9]
    exact cod_cong (fun i i0 i1 => wd_eq hT' i i0 i1)
  have ek : ∀ key, tks (fun i => (rM ν l q).2.2 57 ((rM ν l q).1 46 24 + i)) ((rM ν l q).1 46 25) key ↔ tks (fun i => (wM μ t l q).2.2 (t + 7 + 1) ((wM μ t l q).1 20 8 + i)) ((wM μ t l q).1 20 9) key := fun key => by
    rw [f25, w9]
    exact tks_cong (fun i i0 i1 => wd_eq hT' i i0 i1)
  have h32 : ∀ k, 0 ≤ k → k < ν.1 46 3 → 32 ≤ ν.2.2 47 k := fun k k0 k1 => by
    rw [a1.1] at k1
    rw [a1.2.1 k k0 k1]
    exact (c4 k k0 k1).1
  have e26 : (rM ν l q).1 46 26 = μ.1 21 2 := (fI 46 26 (by decide)).trans a3.2.2.2.2
  have mf : mfr ν (rM ν l q) := rM_mfr (by rw [a3.2.2.1]; exact c6.1)
  refine m_strC a3.1 (by rw [a1.1]; exact c2) a1.2.2 h32 (by rw [hp, a1.1]; omega) (by rw [hp, a3.2.2.1]; exact c6) (by omega) (by omega) (d := d) ⟨a3.2.2.2.1, hd⟩ hk.1 (by rw [a3.2.2.2.2]; exact c9) hrw2 hl hk.2 (by rw [ec, a3.2.2.2.2]; exact hC) ?_
  rw [hp, ec]
  have e4 := a4 _ hC.1 hC.2
  refine K _ _ ⟨Rel_mv hT' hX hRW (fun a q h1 h2 => m1 a q (by omega)) rfl (fun q h1 h2 h3 => by rw [stI_ne (by omega), stI_ne (by omega)]) rfl ?_ ?_, ?_, ?_, ?_, mfr_trans mf (mfr_trans (mfr_I (by decide)) (mfr_I (by decide))), fun a h1 h2 => fA a (by omega), fun a h1 h2 => fA a (by omega)⟩
  · rw [m1 20 5 (by omega)]
    exact hRW.2.1.1
  · exact hRW.2.1.2
  · rw [m8]
    exact e4.1
  · rw [m9]
    exact e4.2
  · rw [m1 20 5 (by omega)]
    exact f15.trans w5.symm
theorem wdN {sc : Nat × (Nat → Int32)} {t x : Nat} (hT : isT t) (hX : x = 42 ∨ x = 44) {μ : Mem} (hCI : CI t x μ) (hpn : μ.1 20 5 < μ.1 x 1) {key : Int} {q : Int} {l : List Int} (hrw : rw' (μ.2.2 (x + 1)) (μ.1 x 1) (μ.1 20 5 + 1) = .inr (q, l)) (hC : (cod (fun i => (wM μ t l q).2.2 (t + 7 + 1) ((wM μ t l q).1 20 8 + i)) ((wM μ t l q).1 20 9)) = -1) (hK : (tks (fun i => (wM μ t l q).2.2 (t + 7 + 1) ((wM μ t l q).1 20 8 + i)) ((wM μ t l q).1 20 9) key)) (h24 : μ.1 21 2 < 24) : WDc t x μ (stI (stA (stA (wM μ t l q) 22 (μ.1 21 2) (μ.1 (t + 7) 1)) 23 (μ.1 21 2) l.length) 21 2 (μ.1 21 2 + 1)) ∧ ∀ d, 0 ≤ d ∧ d ≤ 8 → SimW sc t x d key μ (stI (stA (stA (wM μ t l q) 22 (μ.1 21 2) (μ.1 (t + 7) 1)) 23 (μ.1 21 2) l.length) 21 2 (μ.1 21 2 + 1)) := by
  have hCI0 := hCI
  obtain ⟨hq, hl⟩ := rw_pr hCI hrw
  obtain ⟨w8, w9, w5, w7, wu, wI, wR, wA⟩ := wM_8 (μ := μ) (t := t) (l := l) (q := q) hT
  have hCW := CI_word hT hX hCI hrw
  have hT' := hT
  unfold isT at hT
  obtain ⟨c1, c2, c3, c4, c5, c6, c7, c8, c9, c10, c11⟩ := hCI
  have en : (wM μ t l q).1 21 2 = μ.1 21 2 := wI 21 2 (by omega) (by omega)
  have m1 : ∀ a p, ¬ (a = 21 ∧ p = 2) → (stI (stA (stA (wM μ t l q) 22 (μ.1 21 2) (μ.1 (t + 7) 1)) 23 (μ.1 21 2) l.length) 21 2 (μ.1 21 2 + 1)).1 a p = (wM μ t l q).1 a p := fun a p hz => stI_ne (by omega)
  have m3 : ∀ a i, ¬ ((a = 22 ∨ a = 23) ∧ i = (μ.1 21 2)) → (stI (stA (stA (wM μ t l q) 22 (μ.1 21 2) (μ.1 (t + 7) 1)) 23 (μ.1 21 2) l.length) 21 2 (μ.1 21 2 + 1)).2.2 a i = (wM μ t l q).2.2 a i := fun a i hz => by
    show (stA (stA _ 22 _ _) 23 _ _).2.2 a i = _
    rw [stA_ne (by omega), stA_ne (by omega)]
    try rfl
  have m4 : (stI (stA (stA (wM μ t l q) 22 (μ.1 21 2) (μ.1 (t + 7) 1)) 23 (μ.1 21 2) l.length) 21 2 (μ.1 21 2 + 1)).2.2 22 (μ.1 21 2) = μ.1 (t + 7) 1 ∧ (stI (stA (stA (wM μ t l q) 22 (μ.1 21 2) (μ.1 (t + 7) 1)) 23 (μ.1 21 2) l.length) 21 2 (μ.1 21 2 + 1)).2.2 23 (μ.1 21 2) = l.length := ⟨by
    show (stA (stA _ 22 _ _) 23 _ _).2.2 22 _ = _
    rw [stA_o2 (by decide), stA_at], stA_at _ _ _ _⟩
  refine ⟨⟨CI_note hT' hX hCW (c := (μ.1 21 2)) (f := μ.1 (t + 7) 1) (z := l.length) (by rw [en]; omega) (by rw [wu]; omega) m1 rfl (stI_at _ _ _ _) m3 m4, cfr_trans (wM_cfr hT') (cfr_trans (cfr_A (by omega)) (cfr_trans (cfr_A (by omega)) (cfr_I (by omega)))), fun a ha => ?_, by rw [m1 t 7 (by omega)]; exact wI t 7 (by omega) (by omega), fun k hk => ?_, by rw [m1 (t + 7) 1 (by omega), wu]; omega, by rw [m1 20 7 (by omega)]; exact w7, by rw [m1 20 8 (by omega), m1 20 9 (by omega), m1 (t + 7) 1 (by omega), w8, w9, wu]; omega, by rw [m1 (t + 7) 1 (by omega), m1 20 5 (by omega), wu, w5]; omega, by rw [m1 20 5 (by omega), w5]; omega, by rw [m1 20 5 (by omega), m1 20 9 (by omega), w9, w5]; omega, (m1 20 6 (by omega)).trans (wM_6 hT')⟩, fun d hd => ?_⟩
  · rw [← wA a (by omega)]
    exact funext fun i => m3 a i (by omega)
  · rw [m3 (t + 7 + 1) k (by omega), wM_w hT', if_neg (by omega)]
  intro fr lo ρ Q ν hf hl2 hR hp hk K
  obtain ⟨f15, f18, f24, f25, fI, fR, fA, f57⟩ := rM_f (μ := ν) (l := l) (q := q)
  have hRW := Rel_word hT' hX hCI0 hR hp hrw
  obtain ⟨a1, a2, a3, a4, a5, a6, a7⟩ := hR
  have hrw2 : rw' (ν.2.2 47) (ν.1 46 3) (ν.1 46 15 + 1) = .inr (q, l) := by
    rw [a1.1, hp, rw_cong a1.2.1 _ (by omega)]
    exact hrw
  have ec : (cod (fun i => (rM ν l q).2.2 57 ((rM ν l q).1 46 24 + i)) ((rM ν l q).1 46 25)) = (cod (fun i => (wM μ t l q).2.2 (t + 7 + 1) ((wM μ t l q).1 20 8 + i)) ((wM μ t l q).1 20 9)) := by
    rw [f25, w9]
    exact cod_cong (fun i i0 i1 => wd_eq hT' i i0 i1)
  have ek : ∀ key, tks (fun i => (rM ν l q).2.2 57 ((rM ν l q).1 46 24 + i)) ((rM ν l q).1 46 25) key ↔ tks (fun i => (wM μ t l q).2.2 (t + 7 + 1) ((wM μ t l q).1 20 8 + i)) ((wM μ t l q).1 20 9) key := fun key => by
    rw [f25, w9]
    exact tks_cong (fun i i0 i1 => wd_eq hT' i i0 i1)
  have h32 : ∀ k, 0 ≤ k → k < ν.1 46 3 → 32 ≤ ν.2.2 47 k := fun k k0 k1 => by
    rw [a1.1] at k1
    rw [a1.2.1 k k0 k1]
    exact (c4 k k0 k1).1
  have e26 : (rM ν l q).1 46 26 = μ.1 21 2 := (fI 46 26 (by decide)).trans a3.2.2.2.2
  have mf : mfr ν (rM ν l q) := rM_mfr (by rw [a3.2.2.1]; exact c6.1)
  refine m_strN a3.1 (by rw [a1.1]; exact c2) a1.2.2 h32 (by rw [hp, a1.1]; omega) (by rw [hp, a3.2.2.1]; exact c6) (by omega) (by omega) (d := d) ⟨a3.2.2.2.1, hd⟩ hk.1 (by rw [a3.2.2.2.2]; exact c9) hrw2 hl hk.2 (by rw [ec]; exact hC) (by rw [ek]; exact hK) (by rw [a3.2.2.2.2]; exact h24) ?_
  rw [hp]
  have n3 : ∀ a i, ¬ ((a = 62 ∨ a = 63) ∧ i = (μ.1 21 2)) → (stI (stA (stA (stI (rM ν l q) 46 26 ((rM ν l q).1 46 26)) 62 ((rM ν l q).1 46 26) ((rM ν l q).1 46 24)) 63 ((rM ν l q).1 46 26) ((rM ν l q).1 46 25)) 46 26 ((rM ν l q).1 46 26 + 1)).2.2 a i = (rM ν l q).2.2 a i := fun a i hz => by
    show (stA (stA _ 62 _ _) 63 _ _).2.2 a i = _
    rw [stA_ne (by rw [e26]; omega), stA_ne (by rw [e26]; omega)]
    rfl
  refine K _ _ ⟨Rel_note hT' hX hRW (c := (μ.1 21 2)) (f := μ.1 (t + 7) 1) (z := l.length) (by rw [en]; omega) (by rw [en]; omega) m1 (stI_at _ _ _ _) m3 m4 (fun p hz => by rw [stI_ne (by omega)]; exact stI_ne (by omega)) ?_ n3 ⟨?_, ?_⟩, ?_, ?_, ?_, mfr_trans mf (mfr_trans (mfr_I (by decide)) (mfr_trans (mfr_A (Or.inr (Or.inr (by decide)))) (mfr_trans (mfr_A (Or.inr (Or.inr (by decide)))) (mfr_I (by decide))))), fun a h1 h2 => ?_, fun a h1 h2 => ?_⟩
  · rw [stI_at]; rw [e26]
  · show (stA (stA _ 62 _ _) 63 _ _).2.2 62 _ = _
    rw [e26, stA_o2 (by decide), stA_at, f24, a3.2.2.1]
  · show (stA (stA _ 62 _ _) 63 _ _).2.2 63 _ = _
    rw [e26, stA_at, f25]
  · show (rM ν l q).1 46 24 = 480 + _
    rw [m1 20 8 (by omega), f24, w8, a3.2.2.1]
  · show (rM ν l q).1 46 25 = _
    rw [m1 20 9 (by omega), f25, w9]
  · show (rM ν l q).1 46 15 = _
    rw [m1 20 5 (by omega), f15, w5]
  · rw [← fA a (by omega)]
    exact funext fun i => n3 a i (by omega)
  · rw [← fA a (by omega)]
    exact funext fun i => n3 a i (by omega)
theorem wdN24 {sc : Nat × (Nat → Int32)} {t x : Nat} (hT : isT t) (hX : x = 42 ∨ x = 44) {μ : Mem} (hCI : CI t x μ) (hpn : μ.1 20 5 < μ.1 x 1) {key : Int} {q : Int} {l : List Int} (hrw : rw' (μ.2.2 (x + 1)) (μ.1 x 1) (μ.1 20 5 + 1) = .inr (q, l)) (hC : (cod (fun i => (wM μ t l q).2.2 (t + 7 + 1) ((wM μ t l q).1 20 8 + i)) ((wM μ t l q).1 20 9)) = -1) (hK : (tks (fun i => (wM μ t l q).2.2 (t + 7 + 1) ((wM μ t l q).1 20 8 + i)) ((wM μ t l q).1 20 9) key)) (h24 : μ.1 21 2 = 24) : WDc t x μ (stI (stA (stA (stI (wM μ t l q) 21 2 0) 22 0 (μ.1 (t + 7) 1)) 23 0 l.length) 21 2 (0 + 1)) ∧ ∀ d, 0 ≤ d ∧ d ≤ 8 → SimW sc t x d key μ (stI (stA (stA (stI (wM μ t l q) 21 2 0) 22 0 (μ.1 (t + 7) 1)) 23 0 l.length) 21 2 (0 + 1)) := by
  have hCI0 := hCI
  obtain ⟨hq, hl⟩ := rw_pr hCI hrw
  obtain ⟨w8, w9, w5, w7, wu, wI, wR, wA⟩ := wM_8 (μ := μ) (t := t) (l := l) (q := q) hT
  have hCW := CI_word hT hX hCI hrw
  have hT' := hT
  unfold isT at hT
  obtain ⟨c1, c2, c3, c4, c5, c6, c7, c8, c9, c10, c11⟩ := hCI
  have en : (wM μ t l q).1 21 2 = μ.1 21 2 := wI 21 2 (by omega) (by omega)
  have m1 : ∀ a p, ¬ (a = 21 ∧ p = 2) → (stI (stA (stA (stI (wM μ t l q) 21 2 0) 22 0 (μ.1 (t + 7) 1)) 23 0 l.length) 21 2 (0 + 1)).1 a p = (wM μ t l q).1 a p := fun a p hz => by rw [stI_ne (by omega)]; exact stI_ne (by omega)
  have m3 : ∀ a i, ¬ ((a = 22 ∨ a = 23) ∧ i = 0) → (stI (stA (stA (stI (wM μ t l q) 21 2 0) 22 0 (μ.1 (t + 7) 1)) 23 0 l.length) 21 2 (0 + 1)).2.2 a i = (wM μ t l q).2.2 a i := fun a i hz => by
    show (stA (stA _ 22 _ _) 23 _ _).2.2 a i = _
    rw [stA_ne (by omega), stA_ne (by omega)]
    try rfl
  have m4 : (stI (stA (stA (stI (wM μ t l q) 21 2 0) 22 0 (μ.1 (t + 7) 1)) 23 0 l.length) 21 2 (0 + 1)).2.2 22 0 = μ.1 (t + 7) 1 ∧ (stI (stA (stA (stI (wM μ t l q) 21 2 0) 22 0 (μ.1 (t + 7) 1)) 23 0 l.length) 21 2 (0 + 1)).2.2 23 0 = l.length := ⟨by
    show (stA (stA _ 22 _ _) 23 _ _).2.2 22 _ = _
    rw [stA_o2 (by decide), stA_at], stA_at _ _ _ _⟩
  refine ⟨⟨CI_note hT' hX hCW (c := 0) (f := μ.1 (t + 7) 1) (z := l.length) (by rw [en]; omega) (by rw [wu]; omega) m1 rfl (stI_at _ _ _ _) m3 m4, cfr_trans (wM_cfr hT') (cfr_trans (cfr_I (by omega)) (cfr_trans (cfr_A (by omega)) (cfr_trans (cfr_A (by omega)) (cfr_I (by omega))))), fun a ha => ?_, by rw [m1 t 7 (by omega)]; exact wI t 7 (by omega) (by omega), fun k hk => ?_, by rw [m1 (t + 7) 1 (by omega), wu]; omega, by rw [m1 20 7 (by omega)]; exact w7, by rw [m1 20 8 (by omega), m1 20 9 (by omega), m1 (t + 7) 1 (by omega), w8, w9, wu]; omega, by rw [m1 (t + 7) 1 (by omega), m1 20 5 (by omega), wu, w5]; omega, by rw [m1 20 5 (by omega), w5]; omega, by rw [m1 20 5 (by omega), m1 20 9 (by omega), w9, w5]; omega, (m1 20 6 (by omega)).trans (wM_6 hT')⟩, fun d hd => ?_⟩
  · rw [← wA a (by omega)]
    exact funext fun i => m3 a i (by omega)
  · rw [m3 (t + 7 + 1) k (by omega), wM_w hT', if_neg (by omega)]
  intro fr lo ρ Q ν hf hl2 hR hp hk K
  obtain ⟨f15, f18, f24, f25, fI, fR, fA, f57⟩ := rM_f (μ := ν) (l := l) (q := q)
  have hRW := Rel_word hT' hX hCI0 hR hp hrw
  obtain ⟨a1, a2, a3, a4, a5, a6, a7⟩ := hR
  have hrw2 : rw' (ν.2.2 47) (ν.1 46 3) (ν.1 46 15 + 1) = .inr (q, l) := by
    rw [a1.1, hp, rw_cong a1.2.1 _ (by omega)]
    exact hrw
  have ec : (cod (fun i => (rM ν l q).2.2 57 ((rM ν l q).1 46 24 + i)) ((rM ν l q).1 46 25)) = (cod (fun i => (wM μ t l q).2.2 (t + 7 + 1) ((wM μ t l q).1 20 8 + i)) ((wM μ t l q).1 20 9)) := by
    rw [f25, w9]
    exact cod_cong (fun i i0 i1 => wd_eq hT' i i0 i1)
  have ek : ∀ key, tks (fun i => (rM ν l q).2.2 57 ((rM ν l q).1 46 24 + i)) ((rM ν l q).1 46 25) key ↔ tks (fun i => (wM μ t l q).2.2 (t + 7 + 1) ((wM μ t l q).1 20 8 + i)) ((wM μ t l q).1 20 9) key := fun key => by
    rw [f25, w9]
    exact tks_cong (fun i i0 i1 => wd_eq hT' i i0 i1)
  have h32 : ∀ k, 0 ≤ k → k < ν.1 46 3 → 32 ≤ ν.2.2 47 k := fun k k0 k1 => by
    rw [a1.1] at k1
    rw [a1.2.1 k k0 k1]
    exact (c4 k k0 k1).1
  have e26 : (rM ν l q).1 46 26 = μ.1 21 2 := (fI 46 26 (by decide)).trans a3.2.2.2.2
  have mf : mfr ν (rM ν l q) := rM_mfr (by rw [a3.2.2.1]; exact c6.1)
  refine m_strN24 a3.1 (by rw [a1.1]; exact c2) a1.2.2 h32 (by rw [hp, a1.1]; omega) (by rw [hp, a3.2.2.1]; exact c6) (by omega) (by omega) (d := d) ⟨a3.2.2.2.1, hd⟩ hk.1 (by rw [a3.2.2.2.2]; exact c9) hrw2 hl hk.2 (by rw [ec]; exact hC) (by rw [ek]; exact hK) (by rw [a3.2.2.2.2]; exact h24) ?_
  rw [hp]
  have n3 : ∀ a i, ¬ ((a = 62 ∨ a = 63) ∧ i = 0) → (stI (stA (stA (stI (rM ν l q) 46 26 0) 62 0 ((rM ν l q).1 46 24)) 63 0 ((rM ν l q).1 46 25)) 46 26 (0 + 1)).2.2 a i = (rM ν l q).2.2 a i := fun a i hz => by
    show (stA (stA _ 62 _ _) 63 _ _).2.2 a i = _
    rw [stA_ne (by omega), stA_ne (by omega)]
    rfl
  refine K _ _ ⟨Rel_note hT' hX hRW (c := 0) (f := μ.1 (t + 7) 1) (z := l.length) (by rw [en]; omega) (by rw [en]; omega) m1 (stI_at _ _ _ _) m3 m4 (fun p hz => by rw [stI_ne (by omega)]; exact stI_ne (by omega)) ?_ n3 ⟨?_, ?_⟩, ?_, ?_, ?_, mfr_trans mf (mfr_trans (mfr_I (by decide)) (mfr_trans (mfr_A (Or.inr (Or.inr (by decide)))) (mfr_trans (mfr_A (Or.inr (Or.inr (by decide)))) (mfr_I (by decide))))), fun a h1 h2 => ?_, fun a h1 h2 => ?_⟩
  · rw [stI_at]
  · show (stA (stA _ 62 _ _) 63 _ _).2.2 62 _ = _
    rw [stA_o2 (by decide), stA_at, f24, a3.2.2.1]
  · show (stA (stA _ 62 _ _) 63 _ _).2.2 63 _ = _
    rw [stA_at, f25]
  · show (rM ν l q).1 46 24 = 480 + _
    rw [m1 20 8 (by omega), f24, w8, a3.2.2.1]
  · show (rM ν l q).1 46 25 = _
    rw [m1 20 9 (by omega), f25, w9]
  · show (rM ν l q).1 46 15 = _
    rw [m1 20 5 (by omega), f15, w5]
  · rw [← fA a (by omega)]
    exact funext fun i => n3 a i (by omega)
  · rw [← fA a (by omega)]
    exact funext fun i => n3 a i (by omega)
/-- the class reads a string -/
theorem t_wordU {sc : Nat × (Nat → Int32)} {fr lo : Nat} {μ : Mem} {ρ : Nat × Nat × Nat} {t x : Nat} (hT : isT t) (hX : x = 42 ∨ x = 44) (hCI : CI t x μ) (hpn : μ.1 20 5 < μ.1 x 1) {key : Int} (hkey : key = 0 ∨ key = 1) (hf : 18 ≤ fr) (hl : 800 ≤ lo) (hr : 1 ≤ ρ.2.1 ∧ 6 ≤ ρ.2.2) : w_S sc fr lo 40 [.ref 20, .int (ji key)] (hp μ, ρ) (fun o τ => (o = .inl none ∧ ∃ μ1, τ = (hp μ1, ρ) ∧ WDc t x μ μ1 ∧ ∀ d, 0 ≤ d ∧ d ≤ 8 → SimW sc t x d key μ μ1) ∨ (o = .inr (1, ρ.1) ∧ ∃ μ' w, τ = (hp μ', ρ.1 + 1, ρ.2.1 - 1, ρ.2.2 - 6) ∧ Cbad t μ μ' w ∧ ∀ d, 0 ≤ d ∧ d ≤ 8 → SimWX sc t x d key μ w)) := by
  have hCI0 := hCI
  obtain ⟨c1, c2, c3, c4, c5, c6, c7, c8, c9, c10, c11⟩ := hCI
  have hpn' : 0 ≤ μ.1 20 5 ∧ μ.1 20 5 < μ.1 x 1 := ⟨c5.1, hpn⟩
  cases hrw : rw' (μ.2.2 (x + 1)) (μ.1 x 1) (μ.1 20 5 + 1) with
  | inl w =>
    have hb := rw_bad _ _ _ rfl (by omega) hrw
    refine (t_wordx1 hX c1.1 c2 c3 hT c1.2 hpn' c6 c7 c9 hkey hf hl hr hrw).mono ?_
    rintro o τ ⟨rfl, μ', hx, rfl⟩
    refine Or.inr ⟨rfl, μ', w, rfl, ?_, fun d hd => ?_⟩
    · obtain ⟨p, l, hlen, hch, rfl⟩ := hx
      unfold isT at hT
      have eu : (wM0 μ t).1 (t + 7) 1 = μ.1 (t + 7) 1 := by unfold wM0; rw [stI_ne (by omega), stI_ne (by omega), stI_ne (by omega)]
      have e0 : cfr t μ (wM0 μ t) := cfr_trans (cfr_I (Or.inl rfl)) (cfr_trans (cfr_I (Or.inl rfl)) (cfr_I (Or.inl rfl)))
      refine ⟨cfr_trans e0 (cfr_trans ⟨fun a q h1 h2 h3 h4 h5 => apL_ne (by omega), rfl, fun a h1 h2 h3 h4 => ?_⟩ (cfr_trans (cfr_I (Or.inl rfl)) (cfr_I (Or.inl rfl)))), stI_at _ _ _ _, by omega, ?_, fun k => ?_⟩
      · funext i
        show (if a = t + 7 + 1 ∧ _ then _ else (wM0 μ t).2.2 a i) = _
        rw [if_neg (by omega)]
      · rw [stI_ne (by omega), stI_ne (by omega), apL_at]
        omega
      · show 0 ≤ (if t + 7 + 1 = t + 7 + 1 ∧ (wM0 μ t).1 (t + 7) 1 ≤ k ∧ k < (wM0 μ t).1 (t + 7) 1 + (l.length : Int) then l.getD (k - (wM0 μ t).1 (t + 7) 1).toNat 0 else μ.2.2 (t + 7 + 1) k) ∧ (if t + 7 + 1 = t + 7 + 1 ∧ (wM0 μ t).1 (t + 7) 1 ≤ k ∧ k < (wM0 μ t).1 (t + 7) 1 + (l.length : Int) then l.getD (k - (wM0 μ t).1 (t + 7) 1).toNat 0 else μ.2.2 (t + 7 + 1) k) < 65536
        split
        · rename_i z
          exact hch _ (getD_mem (by omega))
        · exact c7 k
    · intro fr lo ρ Q ν hf hl2 hR hp hk K
      obtain ⟨a1, a2, a3, a4, a5, a6, a7⟩ := hR
      have hrw2 : rw' (ν.2.2 47) (ν.1 46 3) (ν.1 46 15 + 1) = .inl w := by
        rw [a1.1, hp, rw_cong a1.2.1 _ (by omega)]
        exact hrw
      have h32 : ∀ k, 0 ≤ k → k < ν.1 46 3 → 32 ≤ ν.2.2 47 k := fun k k0 k1 => by
        rw [a1.1] at k1
        rw [a1.2.1 k k0 k1]
        exact (c4 k k0 k1).1
      refine (m_strX a3.1 (by rw [a1.1]; exact c2) a1.2.2 h32 (by rw [hp, a1.1]; omega) (by rw [hp, a3.2.2.1]; exact c6) hf hl2 (w := w) (by omega) hrw2).mono ?_
      rintro o τ ⟨μ', rfl, hm, rfl⟩
      exact K μ' ⟨hm.1, fun k => hm.2 k (a6.2.2.2.2 k)⟩
  | inr p =>
    obtain ⟨q, l⟩ := p
    have hci := cod_in (fun i => (wM μ t l q).2.2 (t + 7 + 1) ((wM μ t l q).1 20 8 + i)) ((wM μ t l q).1 20 9)
    by_cases hC0 : (cod (fun i => (wM μ t l q).2.2 (t + 7 + 1) ((wM μ t l q).1 20 8 + i)) ((wM μ t l q).1 20 9)) = -1
    · by_cases hK : tks (fun i => (wM μ t l q).2.2 (t + 7 + 1) ((wM μ t l q).1 20 8 + i)) ((wM μ t l q).1 20 9) key
      · by_cases h24 : μ.1 21 2 < 24
        · refine (t_wordN hX c1.1 c2 c3 hT c1.2 hpn' c6 c7 c9 hkey hf hl hr hrw hC0 hK h24).mono ?_
          rintro o τ ⟨rfl, rfl⟩
          exact Or.inl ⟨rfl, _, rfl, wdN hT hX hCI0 hpn hrw hC0 hK h24⟩
        · refine (t_wordN24 hX c1.1 c2 c3 hT c1.2 hpn' c6 c7 c9 hkey hf hl hr hrw hC0 hK (by omega)).mono ?_
          rintro o τ ⟨rfl, rfl⟩
          exact Or.inl ⟨rfl, _, rfl, wdN24 hT hX hCI0 hpn hrw hC0 hK (by omega)⟩
      · refine (t_word0 hX c1.1 c2 c3 hT c1.2 hpn' c6 c7 c9 hkey hf hl hr hrw hC0 hK).mono ?_
        rintro o τ ⟨rfl, rfl⟩
        exact Or.inl ⟨rfl, _, rfl, wd0 hT hX hCI0 hpn hrw hC0 hK⟩
    · by_cases hC1 : (cod (fun i => (wM μ t l q).2.2 (t + 7 + 1) ((wM μ t l q).1 20 8 + i)) ((wM μ t l q).1 20 9)) < μ.1 21 2
      · refine (t_wordC hX c1.1 c2 c3 hT c1.2 hpn' c6 c7 c9 hkey hf hl hr hrw ⟨by omega, hC1⟩).mono ?_
        rintro o τ ⟨rfl, rfl⟩
        exact Or.inl ⟨rfl, _, rfl, wdC hT hX hCI0 hpn hrw ⟨by omega, hC1⟩⟩
      · refine (t_wordCx hX c1.1 c2 c3 hT c1.2 hpn' c6 c7 c9 hkey hf hl hr hrw ⟨by omega, by omega⟩).mono ?_
        rintro o τ ⟨rfl, rfl⟩
        have hCW := CI_word hT hX hCI0 hrw
        obtain ⟨hq, hl32⟩ := rw_pr hCI0 hrw
        obtain ⟨w8, w9, w5, w7, wu, wI, wR, wA⟩ := wM_8 (μ := μ) (t := t) (l := l) (q := q) hT
        have hT' := hT
        unfold isT at hT
        refine Or.inr ⟨rfl, _, μ.1 20 5, rfl, ⟨cfr_trans (wM_cfr hT') (cfr_I (Or.inl rfl)), stI_at _ _ _ _, by omega, ?_, hCW.2.2.2.2.2.2.1⟩, fun d hd => ?_⟩
        · rw [stI_ne (by omega), wu]; omega
        · intro fr lo ρ Q ν hf hl2 hR hp hk K
          obtain ⟨f15, f18, f24, f25, fI, fR, fA, f57⟩ := rM_f (μ := ν) (l := l) (q := q)
          obtain ⟨a1, a2, a3, a4, a5, a6, a7⟩ := hR
          have hrw2 : rw' (ν.2.2 47) (ν.1 46 3) (ν.1 46 15 + 1) = .inr (q, l) := by
            rw [a1.1, hp, rw_cong a1.2.1 _ (by omega)]
            exact hrw
          have ec : (cod (fun i => (rM ν l q).2.2 57 ((rM ν l q).1 46 24 + i)) ((rM ν l q).1 46 25)) = (cod (fun i => (wM μ t l q).2.2 (t + 7 + 1) ((wM μ t l q).1 20 8 + i)) ((wM μ t l q).1 20 9)) := by
            rw [f25, w9]
            exact cod_cong (fun i i0 i1 => wd_eq hT' i i0 i1)
          have h32 : ∀ k, 0 ≤ k → k < ν.1 46 3 → 32 ≤ ν.2.2 47 k := fun k k0 k1 => by
            rw [a1.1] at k1
            rw [a1.2.1 k k0 k1]
            exact (c4 k k0 k1).1
          refine (m_strCX a3.1 (by rw [a1.1]; exact c2) a1.2.2 h32 (by rw [hp, a1.1]; omega) (by rw [hp, a3.2.2.1]; exact c6) hf hl2 (d := d) ⟨a3.2.2.2.1, hd⟩ hk.1 (by rw [a3.2.2.2.2]; exact c9) hrw2 hl32 (by rw [ec, a3.2.2.2.2]; omega)).mono ?_
          rintro o τ ⟨rfl, rfl⟩
          rw [hp]
          refine K _ ⟨⟨mfr_trans (rM_mfr (by rw [a3.2.2.1]; exact c6.1)) (mfr_I (by decide)), stI_at _ _ _ _, ?_⟩, fun k => ?_⟩
          · rw [stI_ne (by decide), f15]
            omega
          · show 0 ≤ (rM ν l q).2.2 57 k ∧ (rM ν l q).2.2 57 k < 65536
            rw [f57]
            split
            · rename_i z
              have := hl32 _ (getD_mem (l := l) (i := (k - (480 + ν.1 46 18)).toNat) (by omega))
              omega
            · exact a6.2.2.2.2 k
