/-! THE PURE PART, 34: what holds between two calls of the law -/
/-- every row of letters holds chars, and is at most full -/
def Gi (μ : Mem) : Prop := ∀ a n, isL a n → (0 ≤ μ.1 a 1 ∧ μ.1 a 1 ≤ n) ∧ ∀ k, 0 ≤ μ.2.2 (a + 1) k ∧ μ.2.2 (a + 1) k < 65536
/-- the text x of the class, the text of the reference -/
def Ti (μ : Mem) (x : Nat) : Prop := μ.2.1 0 3 = .ref x ∧ μ.2.1 35 3 = .ref (86 - x) ∧ μ.1 46 3 = μ.1 x 1 ∧ ∀ k, 0 ≤ k → k < μ.1 x 1 → μ.2.2 47 k = μ.2.2 (x + 1) k ∧ 32 ≤ μ.2.2 (x + 1) k ∧ μ.2.2 (x + 1) k ≤ 126
/-- what a value's row is by its kind -/
def rki (μ : Mem) (t : Nat) (k : Int) : Prop := (μ.2.2 (t + 1) k < 8 → μ.2.2 (t + 5) k = 0 ∧ (μ.2.2 (t + 1) k = 4 ∨ μ.2.2 (t + 1) k = 5 ∨ μ.2.2 (t + 1) k = 6 ∨ μ.2.2 (t + 4) k = 0)) ∧ (μ.2.2 (t + 1) k = 12 → μ.2.2 (t + 5) k = 1) ∧ (μ.2.2 (t + 1) k = 7 → 32 ≤ μ.2.2 (t + 2) k ∧ μ.2.2 (t + 2) k ≤ 126) ∧ ∀ i, 0 ≤ i → i < μ.2.2 (t + 4) k → 32 ≤ μ.2.2 (t + 7 + 1) (μ.2.2 (t + 3) k + i) ∧ μ.2.2 (t + 7 + 1) (μ.2.2 (t + 3) k + i) ≤ 126
/-- the reference's rows from b on are the rows of tree t; words from w on -/
def rwR (μ : Mem) (t : Nat) (b w k : Int) : Prop := μ.2.2 49 (b + k) = μ.2.2 (t + 1) k ∧ μ.2.2 50 (b + k) = μ.2.2 (t + 2) k ∧ μ.2.2 52 (b + k) = μ.2.2 (t + 4) k ∧ μ.2.2 53 (b + k) = μ.2.2 (t + 5) k ∧ μ.2.2 54 (b + k) = μ.2.2 (t + 6) k - k ∧ (∀ i, 0 ≤ i → i < μ.2.2 (t + 4) k → μ.2.2 57 (μ.2.2 51 (b + k) + i) = μ.2.2 (t + 7 + 1) (μ.2.2 (t + 3) k + i)) ∧ (μ.2.2 (t + 4) k = 0 ∨ w ≤ μ.2.2 51 (b + k) ∧ μ.2.2 51 (b + k) + μ.2.2 (t + 4) k ≤ w + 240)
/-- tree t is what the reference has in area r -/
def Si (μ : Mem) (t : Nat) (r : Int) : Prop := (0 ≤ μ.1 t 7 ∧ μ.1 t 7 ≤ 124) ∧ μ.2.2 48 r = μ.1 t 7 ∧ rok μ t 0 (μ.1 t 7) ∧ (0 < μ.1 t 7 → μ.2.2 (t + 6) 0 = μ.1 t 7) ∧ ∀ k, 0 ≤ k → k < μ.1 t 7 → okv 10 (vT μ t) k ∧ rki μ t k ∧ rwR μ t (128 * r) (240 * r) k
/-- the reference's letters are letters -/
def Ci (μ : Mem) : Prop := ∀ k, (0 ≤ μ.2.2 47 k ∧ μ.2.2 47 k < 65536) ∧ (0 ≤ μ.2.2 57 k ∧ μ.2.2 57 k < 65536)
def IvL (μ : Mem) : Prop := Gi μ ∧ (∃ x, (x = 42 ∨ x = 44) ∧ Ti μ x) ∧ (μ.1 20 6 = μ.1 46 1 ∧ -1 ≤ μ.1 46 1 ∧ μ.1 46 1 ≤ 240 ∧ Ci μ) ∧ ∃ t0 t1 t2 : Nat, isT t0 ∧ isT t1 ∧ isT t2 ∧ t0 ≠ t1 ∧ t0 ≠ t2 ∧ t1 ≠ t2 ∧ μ.2.1 1 0 = .ref t0 ∧ μ.2.1 1 1 = .ref t1 ∧ μ.2.1 20 4 = .ref t2 ∧ (μ.1 46 4 = 0 ∧ Si μ t0 0 ∧ Si μ t1 1 ∨ μ.1 46 4 = 1 ∧ Si μ t0 1 ∧ Si μ t1 0)
theorem vT_eq {μ ν : Mem} {t : Nat} (h : ∀ a, t + 1 ≤ a → a ≤ t + 8 → ν.2.2 a = μ.2.2 a) : vT ν t = vT μ t := by
  unfold vT
  rw [h (t + 1) (by omega) (by omega), h (t + 2) (by omega) (by omega), h (t + 3) (by omega) (by omega), h (t + 4) (by omega) (by omega), h (t + 5) (by omega) (by omega), h (t + 6) (by omega) (by omega), h (t + 7 + 1) (by omega) (by omega)]
theorem rok_eq {μ ν : Mem} {t : Nat} {lo hi : Int} (h : ∀ a, t + 1 ≤ a → a ≤ t + 8 → ν.2.2 a = μ.2.2 a) (h1 : ν.1 (t + 7) 1 = μ.1 (t + 7) 1) (k : rok μ t lo hi) : rok ν t lo hi := by
  unfold rok
  rw [vT_eq h, h (t + 1) (by omega) (by omega), h (t + 2) (by omega) (by omega), h (t + 3) (by omega) (by omega), h (t + 4) (by omega) (by omega), h (t + 5) (by omega) (by omega), h (t + 6) (by omega) (by omega), h1]
  exact k
theorem Si_fine {μ ν : Mem} {t : Nat} {r : Int} (h : ∀ a, t + 1 ≤ a → a ≤ t + 8 → ν.2.2 a = μ.2.2 a) (g : ∀ a, 49 ≤ a → a ≤ 54 → ∀ k, 128 * r ≤ k → k < 128 * r + 128 → ν.2.2 a k = μ.2.2 a k) (g48 : ν.2.2 48 r = μ.2.2 48 r) (g57 : ∀ k, 240 * r ≤ k → k < 240 * r + 240 → ν.2.2 57 k = μ.2.2 57 k) (h1 : ν.1 (t + 7) 1 = μ.1 (t + 7) 1) (h2 : ν.1 t 7 = μ.1 t 7) (k : Si μ t r) : Si ν t r := by
  obtain ⟨k1, k2, k3, k4, k5⟩ := k
  refine ⟨by rw [h2]; exact k1, by rw [g48, h2]; exact k2, by rw [h2]; exact rok_eq h h1 k3, ?_, ?_⟩
  · rw [h2, h (t + 6) (by omega) (by omega)]; exact k4
  · rw [h2, vT_eq h]
    intro k q1 q2
    obtain ⟨z1, z2, z3⟩ := k5 k q1 q2
    refine ⟨z1, ?_, ?_⟩
    · unfold rki
      rw [h (t + 1) (by omega) (by omega), h (t + 2) (by omega) (by omega), h (t + 3) (by omega) (by omega), h (t + 4) (by omega) (by omega), h (t + 5) (by omega) (by omega), h (t + 7 + 1) (by omega) (by omega)]
      exact z2
    · unfold rwR
      rw [h (t + 1) (by omega) (by omega), h (t + 2) (by omega) (by omega), h (t + 3) (by omega) (by omega), h (t + 4) (by omega) (by omega), h (t + 5) (by omega) (by omega), h (t + 6) (by omega) (by omega), h (t + 7 + 1) (by omega) (by omega), g 49 (by omega) (by omega) _ (by omega) (by omega), g 50 (by omega) (by omega) _ (by omega) (by omega), g 51 (by omega) (by omega) _ (by omega) (by omega), g 52 (by omega) (by omega) _ (by omega) (by omega), g 53 (by omega) (by omega) _ (by omega) (by omega), g 54 (by omega) (by omega) _ (by omega) (by omega)]
      obtain ⟨r1, r2, r3, r4, r5, r6, r7⟩ := z3
      refine ⟨r1, r2, r3, r4, r5, fun i i0 i1 => ?_, r7⟩
      rw [g57 _ (by omega) (by omega)]
      exact r6 i i0 i1
theorem Si_eq {μ ν : Mem} {t : Nat} {r : Int} (h : ∀ a, t + 1 ≤ a → a ≤ t + 8 → ν.2.2 a = μ.2.2 a) (g : ∀ a, 48 ≤ a → a ≤ 57 → ν.2.2 a = μ.2.2 a) (h1 : ν.1 (t + 7) 1 = μ.1 (t + 7) 1) (h2 : ν.1 t 7 = μ.1 t 7) (k : Si μ t r) : Si ν t r :=
  Si_fine h (fun a q1 q2 k _ _ => by rw [g a (by omega) (by omega)]) (by rw [g 48 (by omega) (by omega)]) (fun k _ _ => by rw [g 57 (by omega) (by omega)]) h1 h2 k
/-- fields of the reference that do not matter, and the law's own row -/
theorem IvL_eq {μ ν : Mem} (h1 : ∀ a q, a ≠ 46 → ν.1 a q = μ.1 a q) (h2 : ν.2.1 = μ.2.1) (h3 : ∀ a, a ≠ 73 → ν.2.2 a = μ.2.2 a) (h4 : ν.1 46 1 = μ.1 46 1 ∧ ν.1 46 3 = μ.1 46 3 ∧ ν.1 46 4 = μ.1 46 4) (k : IvL μ) : IvL ν := by
  obtain ⟨k1, ⟨x, hx, k2⟩, k3, t0, t1, t2, a0, a1, a2, b0, b1, b2, c0, c1, c2, k4⟩ := k
  have e : ∀ t r, isT t → Si μ t r → Si ν t r := fun t r ht k => by
    have ht : t = 2 ∨ t = 11 ∨ t = 26 := ht
    exact Si_eq (fun a _ _ => h3 a (by omega)) (fun a _ _ => h3 a (by omega)) (h1 _ _ (by omega)) (h1 _ _ (by omega)) k
  refine ⟨fun a n ha => ?_, ⟨x, hx, ?_⟩, ?_, t0, t1, t2, a0, a1, a2, b0, b1, b2, by rw [h2]; exact c0, by rw [h2]; exact c1, by rw [h2]; exact c2, ?_⟩
  · have hb : a < 46 := by rcases ha with ⟨z, _⟩ | ⟨z, _⟩ <;> omega
    rw [h1 a 1 (by omega), h3 (a + 1) (by omega)]
    exact k1 a n ha
  · unfold Ti
    rw [h2, h4.2.1, h1 x 1 (by omega), h3 47 (by omega), h3 (x + 1) (by omega)]
    exact k2
  · rw [h1 20 6 (by omega), h4.1]
    refine ⟨k3.1, k3.2.1, k3.2.2.1, ?_⟩
    unfold Ci
    rw [h3 47 (by omega), h3 57 (by omega)]
    exact k3.2.2.2
  · rw [h4.2.2]
    rcases k4 with ⟨z, z1, z2⟩ | ⟨z, z1, z2⟩
    · exact Or.inl ⟨z, e _ _ a0 z1, e _ _ a1 z2⟩
    · exact Or.inr ⟨z, e _ _ a0 z1, e _ _ a1 z2⟩
theorem IvL_code {μ : Mem} (k : IvL μ) (c : Int) : IvL (stI μ 46 0 c) := IvL_eq (μ := μ) (fun a q h => by
  show (if a = 46 ∧ q = 0 then c else μ.1 a q) = μ.1 a q
  exact if_neg (fun z => h z.1)) rfl (fun a _ => rfl) ⟨rfl, rfl, rfl⟩ k
theorem IvL_out {μ : Mem} (k : IvL μ) (i v : Int) : IvL (stA μ 73 i v) := IvL_eq (μ := μ) (fun a q _ => rfl) rfl (fun a h => by
  funext m
  show (if a = 73 ∧ m = i then v else μ.2.2 a m) = μ.2.2 a m
  exact if_neg (fun z => h z.1)) ⟨rfl, rfl, rfl⟩ k
/-- swap -/
theorem IvL_swap {μ : Mem} {t0 t1 : Nat} (k : IvL μ) (h0 : μ.2.1 1 0 = .ref t0) (h1 : μ.2.1 1 1 = .ref t1) : IvL (stI (stI (stR (stR μ 1 0 (.ref t1)) 1 1 (.ref t0)) 46 0 0) 46 4 (if μ.1 46 4 = 0 then 1 else 0)) := by
  obtain ⟨k1, ⟨x, hx, k2⟩, k3, u0, u1, u2, a0, a1, a2, b0, b1, b2, c0, c1, c2, k4⟩ := k
  rw [h0] at c0
  rw [h1] at c1
  cases c0
  cases c1
  have e : ∀ t r, isT t → Si μ t r → Si (stI (stI (stR (stR μ 1 0 (.ref t1)) 1 1 (.ref t0)) 46 0 0) 46 4 (if μ.1 46 4 = 0 then 1 else 0)) t r := fun t r ht z => by
    have ht : t = 2 ∨ t = 11 ∨ t = 26 := ht
    refine Si_eq (μ := μ) (fun a _ _ => rfl) (fun a _ _ => rfl) ?_ ?_ z
    · show (if t + 7 = 46 ∧ 1 = 4 then _ else if t + 7 = 46 ∧ 1 = 0 then _ else μ.1 (t + 7) 1) = _
      rw [if_neg (by omega), if_neg (by omega)]
    · show (if t = 46 ∧ 7 = 4 then _ else if t = 46 ∧ 7 = 0 then _ else μ.1 t 7) = _
      rw [if_neg (by omega), if_neg (by omega)]
  refine ⟨fun a n ha => ?_, ⟨x, hx, ?_⟩, k3, t1, t0, u2, a1, a0, a2, fun z => b0 z.symm, b2, b1, rfl, rfl, c2, ?_⟩
  · have hb : a < 46 := by rcases ha with ⟨z, _⟩ | ⟨z, _⟩ <;> omega
    have e1 : (stI (stI (stR (stR μ 1 0 (.ref t1)) 1 1 (.ref t0)) 46 0 0) 46 4 (if μ.1 46 4 = 0 then 1 else 0)).1 a 1 = μ.1 a 1 := by
      show (if a = 46 ∧ 1 = 4 then _ else if a = 46 ∧ 1 = 0 then _ else μ.1 a 1) = _
      rw [if_neg (by omega), if_neg (by omega)]
    rw [e1]
    exact k1 a n ha
  · obtain ⟨q1, q2, q3, q4⟩ := k2
    have e1 : (stI (stI (stR (stR μ 1 0 (.ref t1)) 1 1 (.ref t0)) 46 0 0) 46 4 (if μ.1 46 4 = 0 then 1 else 0)).1 x 1 = μ.1 x 1 := by
      show (if x = 46 ∧ 1 = 4 then _ else if x = 46 ∧ 1 = 0 then _ else μ.1 x 1) = _
      rw [if_neg (by omega), if_neg (by omega)]
    exact ⟨q1, q2, by rw [e1]; exact q3, by rw [e1]; exact q4⟩
  · have e1 : (stI (stI (stR (stR μ 1 0 (.ref t1)) 1 1 (.ref t0)) 46 0 0) 46 4 (if μ.1 46 4 = 0 then 1 else 0)).1 46 4 = (if μ.1 46 4 = 0 then 1 else 0) := rfl
    rw [e1]
    rcases k4 with ⟨z, z1, z2⟩ | ⟨z, z1, z2⟩
    · exact Or.inr ⟨if_pos z, e _ _ a1 z2, e _ _ a0 z1⟩
    · exact Or.inl ⟨if_neg (by omega), e _ _ a1 z2, e _ _ a0 z1⟩
/-- the text changes, in both -/
theorem IvL_text {μ ν : Mem} {x : Nat} (hx : x = 42 ∨ x = 44) (k : IvL μ) (ht : μ.2.1 0 3 = .ref x) (h1 : ∀ a q, a ≠ 46 → a ≠ x → ν.1 a q = μ.1 a q) (h2 : ν.2.1 = μ.2.1) (h3 : ∀ a, a ≠ 47 → a ≠ x + 1 → ν.2.2 a = μ.2.2 a) (h4 : ν.1 46 1 = μ.1 46 1 ∧ ν.1 46 4 = μ.1 46 4) (h5 : 0 ≤ ν.1 x 1 ∧ ν.1 x 1 ≤ 240 ∧ ν.1 46 3 = ν.1 x 1) (h6 : ∀ k, 0 ≤ ν.2.2 (x + 1) k ∧ ν.2.2 (x + 1) k < 65536) (h47 : ∀ k, 0 ≤ ν.2.2 47 k ∧ ν.2.2 47 k < 65536) (h7 : ∀ k, 0 ≤ k → k < ν.1 x 1 → ν.2.2 47 k = ν.2.2 (x + 1) k ∧ 32 ≤ ν.2.2 (x + 1) k ∧ ν.2.2 (x + 1) k ≤ 126) : IvL ν := by
  obtain ⟨k1, ⟨y, hy, q1, q2, q3, q4⟩, k3, t0, t1, t2, a0, a1, a2, b0, b1, b2, c0, c1, c2, k4⟩ := k
  rw [ht] at q1
  cases q1
  have e : ∀ t r, isT t → Si μ t r → Si ν t r := fun t r ht k => by
    have ht : t = 2 ∨ t = 11 ∨ t = 26 := ht
    exact Si_eq (fun a _ _ => h3 a (by omega) (by omega)) (fun a _ _ => h3 a (by omega) (by omega)) (h1 _ _ (by omega) (by omega)) (h1 _ _ (by omega) (by omega)) k
  refine ⟨fun a n ha => ?_, ⟨x, hx, by rw [h2]; exact ht, by rw [h2]; exact q2, h5.2.2, h7⟩, ?_, t0, t1, t2, a0, a1, a2, b0, b1, b2, by rw [h2]; exact c0, by rw [h2]; exact c1, by rw [h2]; exact c2, ?_⟩
  · by_cases hax : a = x
    · subst hax
      have hn : n = 240 := by rcases ha with ⟨_, z⟩ | ⟨z, _⟩ <;> omega
      subst hn
      exact ⟨⟨h5.1, h5.2.1⟩, h6⟩
    · have hb : a < 46 ∧ (a = 9 ∨ a = 18 ∨ a = 33 ∨ a = 42 ∨ a = 44 ∨ a = 39) := by rcases ha with ⟨z, _⟩ | ⟨z, _⟩ <;> omega
      rw [h1 a 1 (by omega) hax, h3 (a + 1) (by omega) (by omega)]
      exact k1 a n ha
  · rw [h1 20 6 (by omega) (by omega), h4.1]
    exact ⟨k3.1, k3.2.1, k3.2.2.1, fun k => ⟨h47 k, by rw [h3 57 (by omega) (by omega)]; exact (k3.2.2.2 k).2⟩⟩
  · rw [h4.2]
    rcases k4 with ⟨z, z1, z2⟩ | ⟨z, z1, z2⟩
    · exact Or.inl ⟨z, e _ _ a0 z1, e _ _ a1 z2⟩
    · exact Or.inr ⟨z, e _ _ a0 z1, e _ _ a1 z2⟩
