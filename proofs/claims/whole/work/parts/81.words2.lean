/-! THE PURE PART, 63: a string is read by both -/
theorem getD_mem {l : List Int} {i : Nat} (h : i < l.length) : l.getD i 0 ∈ l := by
  rw [List.getD_eq_getElem?_getD, List.getElem?_eq_getElem h]
  exact List.getElem_mem h
theorem wM_w {μ : Mem} {t : Nat} {l : List Int} {q : Int} (hT : isT t) (i : Int) : (wM μ t l q).2.2 (t + 7 + 1) i = if μ.1 (t + 7) 1 ≤ i ∧ i < μ.1 (t + 7) 1 + l.length then l.getD (i - μ.1 (t + 7) 1).toNat 0 else μ.2.2 (t + 7 + 1) i := by
  unfold isT at hT
  have e : (stI (stI (stI μ 20 7 (μ.1 20 5)) 20 8 (μ.1 (t + 7) 1)) 20 5 (μ.1 20 5 + 1)).1 (t + 7) 1 = μ.1 (t + 7) 1 := by
    rw [stI_ne (by omega), stI_ne (by omega), stI_ne (by omega)]
  show (if t + 7 + 1 = t + 7 + 1 ∧ (stI (stI (stI μ 20 7 (μ.1 20 5)) 20 8 (μ.1 (t + 7) 1)) 20 5 (μ.1 20 5 + 1)).1 (t + 7) 1 ≤ i ∧ i < (stI (stI (stI μ 20 7 (μ.1 20 5)) 20 8 (μ.1 (t + 7) 1)) 20 5 (μ.1 20 5 + 1)).1 (t + 7) 1 + (l.length : Int) then l.getD (i - (stI (stI (stI μ 20 7 (μ.1 20 5)) 20 8 (μ.1 (t + 7) 1)) 20 5 (μ.1 20 5 + 1)).1 (t + 7) 1).toNat 0 else μ.2.2 (t + 7 + 1) i) = _
  rw [e]
  by_cases z : μ.1 (t + 7) 1 ≤ i ∧ i < μ.1 (t + 7) 1 + (l.length : Int)
  · rw [if_pos ⟨rfl, z⟩, if_pos z]
  · rw [if_neg (fun w => z w.2), if_neg z]
theorem rw_pr {t x : Nat} {μ : Mem} (hC : CI t x μ) {q : Int} {l : List Int} (hrw : rw' (μ.2.2 (x + 1)) (μ.1 x 1) (μ.1 20 5 + 1) = .inr (q, l)) : (μ.1 20 5 + 1 + l.length ≤ q ∧ q < μ.1 x 1) ∧ ∀ c ∈ l, 32 ≤ c ∧ c ≤ 126 := by
  have h := rw_len _ _ _ _ rfl hrw
  refine ⟨⟨h.1, h.2.1⟩, fun c hc => ?_⟩
  obtain ⟨k, k1, k2, rfl⟩ := h.2.2.2 c hc
  exact hC.2.2.2.1 k (by have := hC.2.2.2.2.1; omega) k2
theorem Rel_word {t x : Nat} {d : Int} (hT : isT t) (hX : x = 42 ∨ x = 44) {μ ν : Mem} (hC : CI t x μ) (h : Rel t x d μ ν) (hp : ν.1 46 15 = μ.1 20 5) {q : Int} {l : List Int} (hrw : rw' (μ.2.2 (x + 1)) (μ.1 x 1) (μ.1 20 5 + 1) = .inr (q, l)) : Rel t x d (wM μ t l q) (rM ν l q) := by
  obtain ⟨hq, hl⟩ := rw_pr hC hrw
  obtain ⟨w8, w9, w5, w7, wu, wI, wR, wA⟩ := wM_8 (μ := μ) (t := t) (l := l) (q := q) hT
  obtain ⟨f15, f18, f24, f25, fI, fR, fA, f57⟩ := rM_f (μ := ν) (l := l) (q := q)
  obtain ⟨a1, a2, a3, a4, a5, a6, a7⟩ := h
  have hT' := hT
  unfold isT at hT
  have ex : (wM μ t l q).1 x 1 = μ.1 x 1 := wI x 1 (by omega) (by omega)
  have et : (wM μ t l q).1 t 7 = μ.1 t 7 := wI t 7 (by omega) (by omega)
  have en : (wM μ t l q).1 21 2 = μ.1 21 2 := wI 21 2 (by omega) (by omega)
  have xx : (wM μ t l q).2.2 (x + 1) = μ.2.2 (x + 1) := wA (x + 1) (by omega)
  have f : ∀ p, p ≠ 15 → p ≠ 18 → p ≠ 24 → p ≠ 25 → (rM ν l q).1 46 p = ν.1 46 p := fun p p1 p2 p3 p4 => fI 46 p (by omega)
  have hu := hC.2.2.2.2.2.1
  refine ⟨by rw [f 3 (by omega) (by omega) (by omega) (by omega), ex, fA 47 (by omega), xx]; exact a1, ⟨?_, by rw [f15, ex]; have := hC.2.2.2.2.1; omega⟩, ⟨by rw [f 16 (by omega) (by omega) (by omega) (by omega)]; exact a3.1, by rw [f 17 (by omega) (by omega) (by omega) (by omega), et]; exact a3.2.1, by rw [f18, wu, a3.2.2.1], by rw [f 19 (by omega) (by omega) (by omega) (by omega)]; exact a3.2.2.2.1, by rw [f 26 (by omega) (by omega) (by omega) (by omega), en]; exact a3.2.2.2.2⟩, ?_, fun k k0 k1 => ?_, ?_, fun k k0 k1 k2 => ?_⟩
  · unfold cpl
    rw [f 3 (by omega) (by omega) (by omega) (by omega), f15, fA 47 (by omega), xx, ex, w5, a1.1]
    exact sk_cong a1.2.1 _ (by have := hC.2.2.2.2.1; omega)
  · rw [en, fA 62 (by omega), fA 63 (by omega), wA 22 (by omega), wA 23 (by omega)]
    exact a4
  · rw [wu] at k1
    rw [f57, wM_w hT', a3.2.2.1]
    by_cases z : μ.1 (t + 7) 1 ≤ k
    · rw [if_pos (by omega), if_pos (by omega), show (480 + k - (480 + μ.1 (t + 7) 1)) = k - μ.1 (t + 7) 1 by omega]
    · rw [if_neg (by omega), if_neg (by omega)]
      exact a5 k k0 (by omega)
  · refine MI_keep a6 (by rw [f 17 (by omega) (by omega) (by omega) (by omega)]; exact a6.1) (fun k => ?_) (fun v v1 v2 v3 => ⟨by rw [f 17 (by omega) (by omega) (by omega) (by omega)]; exact v2, fun a b1 b2 => by rw [fA a (by omega)], fun y y0 y1 => ?_⟩) (fun v v1 v2 => ?_)
    · rw [f57]
      split
      · rename_i z
        have := hl _ (getD_mem (l := l) (i := (k - (480 + ν.1 46 18)).toNat) (by omega))
        omega
      · exact a6.2.2.2.2 k
    · rw [f57, if_neg]
      have r := a7 (v - 256) (by omega) (by omega) (by rw [show 256 + (v - 256) = v by omega]; exact v3)
      obtain ⟨_, _, r3, _, _, _, r7⟩ := r
      rw [show 256 + (v - 256) = v by omega] at r3 r7
      rw [r3] at y1
      rcases r7 with z | z
      · omega
      · rw [z.1, a3.2.2.1]; omega
    · rw [f 17 (by omega) (by omega) (by omega) (by omega)] at v2
      rw [fA 56 (by omega)]
      exact ⟨fun _ => ⟨v2, rfl⟩, a6.2.2.2.1 v v1 v2⟩
  · rw [et] at k1
    rw [fA 56 (by omega)] at k2
    exact RR_of (a7 k k0 k1 k2) (fun a ha => by rw [wA a (by omega)]) (fun a b1 b2 => by rw [fA a (by omega)]) (by rw [wu]; omega)
theorem CI_word {t x : Nat} (hT : isT t) (hX : x = 42 ∨ x = 44) {μ : Mem} (hC : CI t x μ) {q : Int} {l : List Int} (hrw : rw' (μ.2.2 (x + 1)) (μ.1 x 1) (μ.1 20 5 + 1) = .inr (q, l)) : CI t x (wM μ t l q) := by
  obtain ⟨hq, hl⟩ := rw_pr hC hrw
  obtain ⟨w8, w9, w5, w7, wu, wI, wR, wA⟩ := wM_8 (μ := μ) (t := t) (l := l) (q := q) hT
  have hT' := hT
  unfold isT at hT
  obtain ⟨c1, c2, c3, c4, c5, c6, c7, c8, c9, c10, c11⟩ := hC
  have ex : (wM μ t l q).1 x 1 = μ.1 x 1 := wI x 1 (by omega) (by omega)
  have et : (wM μ t l q).1 t 7 = μ.1 t 7 := wI t 7 (by omega) (by omega)
  have en : (wM μ t l q).1 21 2 = μ.1 21 2 := wI 21 2 (by omega) (by omega)
  have xx : (wM μ t l q).2.2 (x + 1) = μ.2.2 (x + 1) := wA (x + 1) (by omega)
  refine ⟨by rw [wR]; exact c1, by rw [ex]; exact c2, by rw [xx]; exact c3, by rw [ex, xx]; exact c4, by rw [w5, ex]; omega, by rw [wu, w5]; omega, fun k => ?_, fun k k0 k1 => ?_, by rw [en]; exact c9, fun k k0 k1 => ?_, by rw [et]; exact c11⟩
  · rw [wM_w hT']
    split
    · have := hl _ (getD_mem (l := l) (i := (k - μ.1 (t + 7) 1).toNat) (by omega))
      omega
    · exact c7 k
  · rw [wu] at k1
    rw [wM_w hT']
    by_cases z : μ.1 (t + 7) 1 ≤ k
    · rw [if_pos (by omega)]
      exact hl _ (getD_mem (l := l) (i := (k - μ.1 (t + 7) 1).toNat) (by omega))
    · rw [if_neg (by omega)]
      exact c8 k k0 (by omega)
  · rw [en] at k1
    rw [wA 22 (by omega), wA 23 (by omega), wu]
    have := c10 k k0 k1
    omega
/-- the word that both have read last is the same -/
theorem wd_eq {t : Nat} (hT : isT t) {μ ν : Mem} {l : List Int} {q : Int} (i : Int) (i0 : 0 ≤ i) (i1 : i < l.length) : (rM ν l q).2.2 57 ((rM ν l q).1 46 24 + i) = (wM μ t l q).2.2 (t + 7 + 1) ((wM μ t l q).1 20 8 + i) := by
  obtain ⟨w8, w9, w5, w7, wu, wI, wR, wA⟩ := wM_8 (μ := μ) (t := t) (l := l) (q := q) hT
  obtain ⟨f15, f18, f24, f25, fI, fR, fA, f57⟩ := rM_f (μ := ν) (l := l) (q := q)
  rw [f57, wM_w hT, f24, w8, if_pos (by omega), if_pos (by omega), show (480 + ν.1 46 18 + i - (480 + ν.1 46 18)) = i by omega, show μ.1 (t + 7) 1 + i - μ.1 (t + 7) 1 = i by omega]
/-- a note in both -/
theorem Rel_note {t x : Nat} {d : Int} (hT : isT t) (hX : x = 42 ∨ x = 44) {μ μ' ν ν' : Mem} (h : Rel t x d μ ν) {c f z : Int} (hc : 0 ≤ c ∧ c ≤ μ.1 21 2) (hcc : c = μ.1 21 2 ∨ c = 0)
    (m1 : ∀ a q, ¬ (a = 21 ∧ q = 2) → μ'.1 a q = μ.1 a q) (m2 : μ'.1 21 2 = c + 1) (m3 : ∀ a i, ¬ ((a = 22 ∨ a = 23) ∧ i = c) → μ'.2.2 a i = μ.2.2 a i) (m4 : μ'.2.2 22 c = f ∧ μ'.2.2 23 c = z)
    (n1 : ∀ q, q ≠ 26 → ν'.1 46 q = ν.1 46 q) (n2 : ν'.1 46 26 = c + 1) (n3 : ∀ a i, ¬ ((a = 62 ∨ a = 63) ∧ i = c) → ν'.2.2 a i = ν.2.2 a i) (n4 : ν'.2.2 62 c = 480 + f ∧ ν'.2.2 63 c = z) : Rel t x d μ' ν' := by
  unfold isT at hT
  obtain ⟨a1, a2, a3, a4, a5, a6, a7⟩ := h
  have ex : μ'.1 x 1 = μ.1 x 1 := m1 x 1 (by omega)
  have et : μ'.1 t 7 = μ.1 t 7 := m1 t 7 (by omega)
  have eu : μ'.1 (t + 7) 1 = μ.1 (t + 7) 1 := m1 (t + 7) 1 (by omega)
  have ep : μ'.1 20 5 = μ.1 20 5 := m1 20 5 (by omega)
  have xx : μ'.2.2 (x + 1) = μ.2.2 (x + 1) := funext fun i => m3 (x + 1) i (by omega)
  have xw : μ'.2.2 (t + 7 + 1) = μ.2.2 (t + 7 + 1) := funext fun i => m3 (t + 7 + 1) i (by omega)
  have y : ∀ a, a < 62 → ν'.2.2 a = ν.2.2 a := fun a ha => funext fun i => n3 a i (by omega)
  refine ⟨by rw [n1 3 (by omega), ex, y 47 (by omega), xx]; exact a1, ?_, ⟨by rw [n1 16 (by omega)]; exact a3.1, by rw [n1 17 (by omega), et]; exact a3.2.1, by rw [n1 18 (by omega), eu]; exact a3.2.2.1, by rw [n1 19 (by omega)]; exact a3.2.2.2.1, by rw [n2, m2]⟩, fun k k0 k1 => ?_, by rw [eu, y 57 (by omega), xw]; exact a5, MI_same a6 (n1 17 (by omega)) (fun a _ _ => y a (by omega)), fun k k0 k1 k2 => ?_⟩
  · unfold cpl
    rw [n1 3 (by omega), n1 15 (by omega), y 47 (by omega), xx, ex, ep]
    exact a2
  · rw [m2] at k1
    by_cases e : k = c
    · subst e
      rw [m4.1, m4.2]
      exact n4
    · rw [n3 62 k (by omega), n3 63 k (by omega), m3 22 k (by omega), m3 23 k (by omega)]
      exact a4 k k0 (by omega)
  · rw [et] at k1
    rw [y 56 (by omega)] at k2
    exact RR_of (a7 k k0 k1 k2) (fun a ha => m3 a k (by omega)) (fun a b1 b2 => by rw [y a (by omega)]) (by rw [eu]; exact Int.le_refl _)
theorem CI_note {t x : Nat} (hT : isT t) (hX : x = 42 ∨ x = 44) {μ μ' : Mem} (hC : CI t x μ) {c f z : Int} (hc : 0 ≤ c ∧ c ≤ μ.1 21 2 ∧ c < 24) (hw : 0 ≤ f ∧ 0 ≤ z ∧ f + z ≤ μ.1 (t + 7) 1)
    (m1 : ∀ a q, ¬ (a = 21 ∧ q = 2) → μ'.1 a q = μ.1 a q) (mr : μ'.2.1 = μ.2.1) (m2 : μ'.1 21 2 = c + 1) (m3 : ∀ a i, ¬ ((a = 22 ∨ a = 23) ∧ i = c) → μ'.2.2 a i = μ.2.2 a i) (m4 : μ'.2.2 22 c = f ∧ μ'.2.2 23 c = z) : CI t x μ' := by
  unfold isT at hT
  obtain ⟨c1, c2, c3, c4, c5, c6, c7, c8, c9, c10, c11⟩ := hC
  have ex : μ'.1 x 1 = μ.1 x 1 := m1 x 1 (by omega)
  have et : μ'.1 t 7 = μ.1 t 7 := m1 t 7 (by omega)
  have eu : μ'.1 (t + 7) 1 = μ.1 (t + 7) 1 := m1 (t + 7) 1 (by omega)
  have ep : μ'.1 20 5 = μ.1 20 5 := m1 20 5 (by omega)
  have xx : μ'.2.2 (x + 1) = μ.2.2 (x + 1) := funext fun i => m3 (x + 1) i (by omega)
  have xw : μ'.2.2 (t + 7 + 1) = μ.2.2 (t + 7 + 1) := funext fun i => m3 (t + 7 + 1) i (by omega)
  refine ⟨by rw [mr]; exact c1, by rw [ex]; exact c2, by rw [xx]; exact c3, by rw [ex, xx]; exact c4, by rw [ep, ex]; exact c5, by rw [eu, ep]; exact c6, by rw [xw]; exact c7, by rw [eu, xw]; exact c8, by rw [m2]; omega, fun k k0 k1 => ?_, by rw [et]; exact c11⟩
  rw [m2] at k1
  rw [eu]
  by_cases e : k = c
  · subst e
    rw [m4.1, m4.2]
    exact hw
  · rw [m3 22 k (by omega), m3 23 k (by omega)]
    exact c10 k k0 (by omega)
