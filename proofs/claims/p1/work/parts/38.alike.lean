/-! THE PURE PART, 22: which values are same. Rows as functions: kinds, numbers, how many parts, where each ends, words' sizes, words' letters -/
abbrev View : Type := (Int → Int) × (Int → Int) × (Int → Int) × (Int → Int) × (Int → Int) × (Int → Int → Int)
/-- the n-th part of i -/
def pt (A : View) (i : Int) : Nat → Int
  | 0 => i + 1
  | n + 1 => A.2.2.2.1 (pt A i n)
def bas (A : View) (i : Int) (B : View) (j : Int) : Prop := A.1 i = B.1 j ∧ A.2.1 i = B.2.1 j ∧ A.2.2.1 i = B.2.2.1 j ∧ A.2.2.2.2.1 i = B.2.2.2.2.1 j ∧ ∀ x : Int, 0 ≤ x → x < A.2.2.2.2.1 i → A.2.2.2.2.2 i x = B.2.2.2.2.2 j x
/-- same, the parts by a relation R -/
def alR (R : Int → Int → Prop) (A : View) (i : Int) (B : View) (j : Int) : Prop :=
  bas A i B j ∧ (A.1 i = 10 → ∀ n : Nat, (n : Int) < A.2.2.1 i → ∃ m : Nat, (m : Int) < B.2.2.1 j ∧ R (pt A i n) (pt B j m))
  ∧ (A.1 i = 11 → ∀ n : Nat, (2 * n : Int) < A.2.2.1 i → ∃ m : Nat, (2 * m : Int) < B.2.2.1 j ∧ R (pt A i (2 * n)) (pt B j (2 * m)) ∧ R (pt A i (2 * n + 1)) (pt B j (2 * m + 1)))
  ∧ (A.1 i ≠ 10 → A.1 i ≠ 11 → ∀ n : Nat, (n : Int) < A.2.2.1 i → R (pt A i n) (pt B j n))
/-- same, looked at d deep -/
def al : Nat → View → Int → View → Int → Prop
  | 0, _, _, _, _ => False
  | d + 1, A, i, B, j => alR (fun x y => al d A x B y) A i B j
theorem alR_imp {R R' : Int → Int → Prop} {A B : View} {i j : Int} (hP : A.1 i = 11 → A.2.2.1 i % 2 = 0) (h : ∀ n m : Nat, (n : Int) < A.2.2.1 i → (m : Int) < B.2.2.1 j → R (pt A i n) (pt B j m) → R' (pt A i n) (pt B j m)) (k : alR R A i B j) : alR R' A i B j := by
  obtain ⟨hb, h1, h2, h3⟩ := k
  have hPe : A.2.2.1 i = B.2.2.1 j := hb.2.2.1
  refine ⟨hb, fun e n hn => ?_, fun e n hn => ?_, fun e1 e2 n hn => ?_⟩
  · obtain ⟨m, hm, hR⟩ := h1 e n hn
    exact ⟨m, hm, h n m hn hm hR⟩
  · obtain ⟨m, hm, hR, hR2⟩ := h2 e n hn
    have := hP e
    exact ⟨m, hm, h _ _ (by omega) (by omega) hR, h _ _ (by omega) (by omega) hR2⟩
  · exact h n n hn (by rw [← hPe]; exact hn) (h3 e1 e2 n hn)
/-- a value at most d deep; no part of a set, no key of a map comes twice -/
def okv : Nat → View → Int → Prop
  | 0, _, _ => False
  | d + 1, A, i => 0 ≤ A.2.2.1 i ∧ (A.1 i = 11 → A.2.2.1 i % 2 = 0) ∧ (∀ n : Nat, (n : Int) < A.2.2.1 i → okv d A (pt A i n))
    ∧ (A.1 i = 10 → ∀ n m : Nat, n < m → (m : Int) < A.2.2.1 i → ¬ al d A (pt A i n) A (pt A i m))
    ∧ (A.1 i = 11 → ∀ n m : Nat, n < m → (2 * m : Int) < A.2.2.1 i → ¬ al d A (pt A i (2 * n)) A (pt A i (2 * m)))
theorem al_ok {A B : View} : ∀ (e d : Nat) (i j : Int), okv e A i → al d A i B j → al e A i B j
  | 0, _, _, _, h, _ => h.elim
  | _ + 1, 0, _, _, _, h => h.elim
  | e + 1, d + 1, i, j, h, k => alR_imp h.2.1 (fun n _ hn _ hR => al_ok e d _ _ (h.2.2.1 n hn) hR) k
theorem al_refl {A : View} : ∀ (d : Nat) (i : Int), okv d A i → al d A i A i
  | 0, _, h => h.elim
  | d + 1, i, h => by
    refine ⟨⟨rfl, rfl, rfl, rfl, fun _ _ _ => rfl⟩, fun e n hn => ⟨n, hn, al_refl d _ (h.2.2.1 n hn)⟩, fun e n hn => ?_, fun _ _ n hn => al_refl d _ (h.2.2.1 n hn)⟩
    have := h.2.1 e
    exact ⟨n, hn, al_refl d _ (h.2.2.1 _ (by omega)), al_refl d _ (h.2.2.1 _ (by omega))⟩
theorem bas_symm {A B : View} {i j : Int} (h : bas A i B j) : bas B j A i :=
  ⟨h.1.symm, h.2.1.symm, h.2.2.1.symm, h.2.2.2.1.symm, fun x h0 hx => (h.2.2.2.2 x h0 (by rw [h.2.2.2.1]; exact hx)).symm⟩
theorem bas_trans {A B C : View} {i j k : Int} (h : bas A i B j) (g : bas B j C k) : bas A i C k :=
  ⟨h.1.trans g.1, h.2.1.trans g.2.1, h.2.2.1.trans g.2.2.1, h.2.2.2.1.trans g.2.2.2.1, fun x h0 hx => (h.2.2.2.2 x h0 hx).trans (g.2.2.2.2 x h0 (by rw [← h.2.2.2.1]; exact hx))⟩
theorem al_trans {A B C : View} : ∀ (d : Nat) (i j k : Int), al d A i B j → al d B j C k → al d A i C k
  | 0, _, _, _, h, _ => h.elim
  | d + 1, i, j, k, h, g => by
    obtain ⟨hb, h1, h2, h3⟩ := h
    obtain ⟨gb, g1, g2, g3⟩ := g
    refine ⟨bas_trans hb gb, fun e n hn => ?_, fun e n hn => ?_, fun e1 e2 n hn => ?_⟩
    · obtain ⟨m, hm, hR⟩ := h1 e n hn
      obtain ⟨q, hq, hS⟩ := g1 (by rw [← hb.1]; exact e) m hm
      exact ⟨q, hq, al_trans d _ _ _ hR hS⟩
    · obtain ⟨m, hm, hR, hR2⟩ := h2 e n hn
      obtain ⟨q, hq, hS, hS2⟩ := g2 (by rw [← hb.1]; exact e) m hm
      exact ⟨q, hq, al_trans d _ _ _ hR hS, al_trans d _ _ _ hR2 hS2⟩
    · exact al_trans d _ _ _ (h3 e1 e2 n hn) (g3 (by rw [← hb.1]; exact e1) (by rw [← hb.1]; exact e2) n (by rw [← hb.2.2.1]; exact hn))
/-- one to one from n places to n places: onto -/
theorem pigeon : ∀ (n : Nat) (f : Nat → Nat), (∀ i, i < n → f i < n) → (∀ i j, i < n → j < n → f i = f j → i = j) → ∀ k, k < n → ∃ i, i < n ∧ f i = k
  | 0, _, _, _, k, hk => absurd hk (Nat.not_lt_zero k)
  | n + 1, f, h1, h2, k, hk => by
    by_cases hkn : f n = k
    · exact ⟨n, Nat.lt_succ_self n, hkn⟩
    · have key := pigeon n (fun i => if f i = n then f n else f i) (fun i hi => by
        show (if f i = n then f n else f i) < n
        split
        · rename_i he
          have h3 := h1 n (Nat.lt_succ_self n)
          have h4 : f n ≠ n := fun z => by
            have := h2 i n (by omega) (Nat.lt_succ_self n) (by rw [he, z])
            omega
          omega
        · have := h1 i (by omega)
          omega) (fun i j hi hj he => by
        have he : (if f i = n then f n else f i) = (if f j = n then f n else f j) := he
        split at he <;> split at he
        · exact h2 i j (by omega) (by omega) (by omega)
        · have := h2 n j (by omega) (by omega) he
          omega
        · have := h2 i n (by omega) (by omega) he
          omega
        · exact h2 i j (by omega) (by omega) he)
      by_cases hk2 : k = n
      · by_cases hfn : f n = n
        · omega
        · have h5 : f n < n := by have := h1 n (Nat.lt_succ_self n); omega
          obtain ⟨i, hi, he⟩ := key (f n) h5
          have he : (if f i = n then f n else f i) = f n := he
          split at he
          · rename_i hz
            exact ⟨i, by omega, by omega⟩
          · have := h2 i n (by omega) (by omega) he
            omega
      · obtain ⟨i, hi, he⟩ := key k (by omega)
        have he : (if f i = n then f n else f i) = k := he
        split at he
        · exact absurd he hkn
        · exact ⟨i, by omega, he⟩
/-- a relation that gives each of n places one of n, no two the same: each is given -/
theorem pigeonR {n : Nat} {R : Nat → Nat → Prop} (h : ∀ i, i < n → ∃ j, j < n ∧ R i j) (h2 : ∀ i j k, i < n → j < n → k < n → R i k → R j k → i = j) : ∀ k, k < n → ∃ i, i < n ∧ R i k := by
  intro k hk
  obtain ⟨f, hf⟩ : ∃ f : Nat → Nat, ∀ i, i < n → f i < n ∧ R i (f i) :=
    ⟨fun i => if hi : i < n then (h i hi).choose else 0, fun i hi => by
      show (dite _ _ _) < n ∧ R i (dite _ _ _)
      rw [dif_pos hi]
      exact (h i hi).choose_spec⟩
  obtain ⟨i, hi, he⟩ := pigeon n f (fun i hi => (hf i hi).1) (fun i j hi hj he => h2 i j (f i) hi hj (hf i hi).1 (hf i hi).2 (by rw [he]; exact (hf j hj).2)) k hk
  exact ⟨i, hi, by rw [← he]; exact (hf i hi).2⟩
theorem al_symm {A B : View} : ∀ (d : Nat) (i j : Int), okv d A i → okv d B j → al d A i B j → al d B j A i
  | 0, _, _, h, _, _ => h.elim
  | d + 1, i, j, hA, hB, h => by
    obtain ⟨hb, h1, h2, h3⟩ := h
    have hP : A.2.2.1 i = B.2.2.1 j := hb.2.2.1
    refine ⟨bas_symm hb, fun e n hn => ?_, fun e n hn => ?_, fun e1 e2 n hn => ?_⟩
    · have e' : A.1 i = 10 := by rw [hb.1]; exact e
      have hp := pigeonR (n := (A.2.2.1 i).toNat) (R := fun x y => al d A (pt A i x) B (pt B j y)) (fun x hx => by
        obtain ⟨m, hm, hR⟩ := h1 e' x (by omega)
        exact ⟨m, by omega, hR⟩) (fun x y k hx hy hk hR hS => by
        have hS' := al_symm d _ _ (hA.2.2.1 y (by omega)) (hB.2.2.1 k (by omega)) hS
        have hT := al_trans d _ _ _ hR hS'
        rcases Nat.lt_trichotomy x y with z | z | z
        · exact absurd hT (hA.2.2.2.1 e' x y z (by omega))
        · exact z
        · exact absurd (al_symm d _ _ (hA.2.2.1 x (by omega)) (hA.2.2.1 y (by omega)) hT) (hA.2.2.2.1 e' y x z (by omega))) n (by omega)
      obtain ⟨x, hx, hR⟩ := hp
      exact ⟨x, by omega, al_symm d _ _ (hA.2.2.1 x (by omega)) (hB.2.2.1 n (by omega)) hR⟩
    · have e' : A.1 i = 11 := by rw [hb.1]; exact e
      have ev := hA.2.1 e'
      have hp := pigeonR (n := (A.2.2.1 i / 2).toNat) (R := fun x y => al d A (pt A i (2 * x)) B (pt B j (2 * y)) ∧ al d A (pt A i (2 * x + 1)) B (pt B j (2 * y + 1))) (fun x hx => by
        obtain ⟨m, hm, hR⟩ := h2 e' x (by omega)
        exact ⟨m, by omega, hR⟩) (fun x y k hx hy hk hR hS => by
        have hS' := al_symm d _ _ (hA.2.2.1 (2 * y) (by omega)) (hB.2.2.1 (2 * k) (by omega)) hS.1
        have hT := al_trans d _ _ _ hR.1 hS'
        rcases Nat.lt_trichotomy x y with z | z | z
        · exact absurd hT (hA.2.2.2.2 e' x y z (by omega))
        · exact z
        · exact absurd (al_symm d _ _ (hA.2.2.1 (2 * x) (by omega)) (hA.2.2.1 (2 * y) (by omega)) hT) (hA.2.2.2.2 e' y x z (by omega))) n (by omega)
      obtain ⟨x, hx, hR⟩ := hp
      exact ⟨x, by omega, al_symm d _ _ (hA.2.2.1 (2 * x) (by omega)) (hB.2.2.1 (2 * n) (by omega)) hR.1, al_symm d _ _ (hA.2.2.1 (2 * x + 1) (by omega)) (hB.2.2.1 (2 * n + 1) (by omega)) hR.2⟩
    · exact al_symm d _ _ (hA.2.2.1 n (by omega)) (hB.2.2.1 n (by omega)) (h3 (by rw [hb.1]; exact e1) (by rw [hb.1]; exact e2) n (by omega))
