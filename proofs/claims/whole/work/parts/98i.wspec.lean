/-! THE PURE PART, 88: what is written -/
def esc : List Int → List Int
  | [] => []
  | c :: w => (if c = 34 ∨ c = 92 then [92, c] else [c]) ++ esc w
theorem esc_app (u v : List Int) : esc (u ++ v) = esc u ++ esc v := by
  induction u with
  | nil => rfl
  | cons c u ih =>
    show (if c = 34 ∨ c = 92 then [92, c] else [c]) ++ esc (u ++ v) = (if c = 34 ∨ c = 92 then [92, c] else [c]) ++ esc u ++ esc v
    rw [ih, List.append_assoc]
theorem esc_len (w : List Int) : w.length ≤ (esc w).length := by
  induction w with
  | nil => exact Nat.le_refl _
  | cons c w ih =>
    show w.length + 1 ≤ ((if c = 34 ∨ c = 92 then [92, c] else [c]) ++ esc w).length
    rw [List.length_append]
    split
    · show _ ≤ 2 + _; omega
    · show _ ≤ 1 + _; omega
/-- where a word is noted first -/
def fnd : List (List Int) → List Int → Nat
  | [], _ => 0
  | x :: N, w => if x = w then 0 else fnd N w + 1
theorem fnd_sp : ∀ (N : List (List Int)) (w : List Int), fnd N w ≤ N.length ∧ (∀ n, n < fnd N w → N.getD n [] ≠ w) ∧ (fnd N w < N.length → N.getD (fnd N w) [] = w)
  | [], w => ⟨Nat.le_refl _, fun n hn => absurd hn (Nat.not_lt_zero n), fun h => absurd h (Nat.not_lt_zero _)⟩
  | x :: N, w => by
    obtain ⟨h1, h2, h3⟩ := fnd_sp N w
    unfold fnd
    by_cases z : x = w
    · rw [if_pos z]
      exact ⟨Nat.zero_le _, fun n hn => absurd hn (Nat.not_lt_zero n), fun _ => z⟩
    · rw [if_neg z]
      refine ⟨Nat.succ_le_succ h1, fun n hn => ?_, fun h => h3 (Nat.lt_of_succ_lt_succ h)⟩
      cases n with
      | zero => exact z
      | succ n => exact h2 n (by omega)
theorem fnd_at {N : List (List Int)} {w : List Int} {n : Nat} (h1 : n < N.length) (h2 : N.getD n [] = w) (h3 : ∀ m, m < n → N.getD m [] ≠ w) : fnd N w = n := by
  obtain ⟨a1, a2, a3⟩ := fnd_sp N w
  rcases Nat.lt_trichotomy (fnd N w) n with z | z | z
  · exact absurd (a3 (by omega)) (h3 _ z)
  · exact z
  · exact absurd h2 (a2 n z)
theorem fnd_no {N : List (List Int)} {w : List Int} (h : ∀ m, m < N.length → N.getD m [] ≠ w) : fnd N w = N.length := by
  obtain ⟨a1, a2, a3⟩ := fnd_sp N w
  by_cases z : fnd N w < N.length
  · exact absurd (a3 z) (h _ z)
  · omega
noncomputable def tkl (w : List Int) (key : Int) : Int := b01 (tks (fun i => w.getD i.toNat 0) w.length key)
def cdt (n : Nat) : List Int := if 6 ≤ n then [94, 48 + ((n / 6 : Nat) : Int), 48 + ((n % 6 : Nat) : Int)] else [94, 48 + ((n % 6 : Nat) : Int)]
/-- how a word is written, and what is noted behind it -/
noncomputable def txt (N : List (List Int)) (w : List Int) (key : Int) : List Int := if tkl w key = 1 ∧ fnd N w < N.length then 34 :: (cdt (fnd N w) ++ [34]) else 34 :: (esc w ++ [34])
noncomputable def nts (N : List (List Int)) (w : List Int) (key : Int) : List (List Int) := if tkl w key = 1 ∧ ¬ fnd N w < N.length then (if N.length = 24 then [] else N) ++ [w] else N
/-- the digits of a number -/
def digs : Nat → Nat → List Int
  | 0, n => [48 + ((n % 10 : Nat) : Int)]
  | f + 1, n => if n < 10 then [48 + (n : Int)] else digs f (n / 10) ++ [48 + ((n % 10 : Nat) : Int)]
def dec (v : Int) : List Int := if v < 0 then 45 :: digs 20 v.natAbs else digs 20 v.natAbs
/-- a word of a row -/
def wrd (A : View) (k : Int) : List Int := (List.range (A.2.2.2.2.1 k).toNat).map (fun i : Nat => A.2.2.2.2.2 k (i : Int))
def litL (k : Nat) : List Int := (List.range (slen k).toNat).map (fun i : Nat => sch k (i : Int))
/-- the word that means a simple value -/
def rwo (A : View) (k : Int) : List Int :=
  if A.1 k = 0 then [126, 95] else if A.1 k = 1 then (if A.2.1 k = 1 then [126, 63, 116] else [126, 63, 102]) else if A.1 k = 2 then [126, 105] ++ dec (A.2.1 k) else if A.1 k = 3 then [126, 109] ++ dec (A.2.1 k)
  else if A.1 k = 5 then [126, 58] ++ wrd A k else if A.1 k = 6 then [126, 36] ++ wrd A k else if A.1 k = 7 then [126, 99, A.2.1 k]
  else (if 0 < A.2.2.2.2.1 k ∧ (A.2.2.2.2.2 k 0 = 126 ∨ A.2.2.2.2.2 k 0 = 94 ∨ A.2.2.2.2.2 k 0 = 96) then [126] else []) ++ wrd A k
/-- a simple value -/
noncomputable def smp (A : View) (k key : Int) (N : List (List Int)) : List Int × List (List Int) :=
  if A.1 k = 0 ∧ key = 0 then ([110, 117, 108, 108], N) else if A.1 k = 1 ∧ key = 0 then (if A.2.1 k = 1 then [116, 114, 117, 101] else [102, 97, 108, 115, 101], N)
  else if A.1 k = 2 ∧ key = 0 ∧ -9007199254740992 ≤ A.2.1 k ∧ A.2.1 k ≤ 9007199254740992 then (dec (A.2.1 k), N)
  else (txt N (rwo A k) key, nts N (rwo A k) key)
/-- the parts of a value, one behind the other -/
def wpt (G : Int → Int → List (List Int) → Option (List Int × List (List Int))) (A : View) (k : Int) (kf : Nat → Int) (c0 : Nat) : Nat → List (List Int) → Option (List Int × List (List Int))
  | 0, N => some ([], N)
  | n + 1, N => match wpt G A k kf c0 n N with
    | none => none
    | some (l, N1) => match G (pt A k n) (kf n) N1 with
      | none => none
      | some (l2, N2) => some (l ++ ((if n + c0 = 0 then [] else [44]) ++ l2), N2)
def spk (A : View) (k : Int) : Prop := ∀ n : Nat, ((2 * n : Nat) : Int) < A.2.2.1 k → A.1 (pt A k (2 * n)) < 8
def tgw (c : Int) : List Int := if c = 9 then [126, 35, 108, 105, 115, 116] else if c = 10 then [126, 35, 115, 101, 116] else [126, 35, 99, 109, 97, 112]
/-- a value; none: too deep -/
noncomputable def wv (A : View) : Nat → Int → Int → Int → List (List Int) → Option (List Int × List (List Int))
  | 0, _, _, _, _ => none
  | f + 1, d, k, key, N =>
    if A.1 k < 8 then some (smp A k key N)
    else if 8 ≤ d then none
    else if A.1 k = 8 then match wpt (fun i c M => wv A f (d + 1) i c M) A k (fun _ => 0) 0 (A.2.2.1 k).toNat N with
      | none => none
      | some (l, N1) => some (91 :: (l ++ [93]), N1)
    else if A.1 k = 12 then match wv A f (d + 1) (k + 1) 0 (nts N (126 :: 35 :: wrd A k) 0) with
      | none => none
      | some (l, N1) => some (91 :: (txt N (126 :: 35 :: wrd A k) 0 ++ 44 :: (l ++ [93])), N1)
    else @ite _ (A.1 k = 11 ∧ spk A k) (Classical.propDecidable _) (match wpt (fun i c M => wv A f (d + 1) i c M) A k (fun i => if i % 2 = 0 then 1 else 0) 1 (A.2.2.1 k).toNat N with
      | none => none
      | some (l, N1) => some (91 :: 34 :: 94 :: 32 :: 34 :: (l ++ [93]), N1))
    (if 8 ≤ d + 1 then none
    else match wpt (fun i c M => wv A f (d + 2) i c M) A k (fun _ => 0) 0 (A.2.2.1 k).toNat (nts N (tgw (A.1 k)) 0) with
      | none => none
      | some (l, N1) => some (91 :: (txt N (tgw (A.1 k)) 0 ++ 44 :: 91 :: (l ++ [93, 93])), N1))
/-- the writer while it writes: tree t, draft y; noted are N, drafted is w -/
def NC (N : List (List Int)) (b : Int) (μ : Mem) : Prop := (μ.1 36 2 = N.length ∧ N.length ≤ 24) ∧ ∀ n : Nat, n < N.length → μ.2.2 38 n = (N.getD n []).length ∧ 0 ≤ μ.2.2 37 n ∧ μ.2.2 37 n + (N.getD n []).length ≤ b ∧ ∀ i : Nat, i < (N.getD n []).length → μ.2.2 40 (μ.2.2 37 n + i) = (N.getD n []).getD i 0
def WC (t y : Nat) (N : List (List Int)) (w : List Int) (μ : Mem) : Prop := (μ.2.1 35 3 = .ref y ∧ μ.2.1 35 4 = .ref t) ∧ (0 ≤ μ.1 y 1 ∧ μ.1 y 1 ≤ 240) ∧ (0 ≤ μ.1 39 1 - w.length ∧ (μ.1 39 1 - w.length = 0 ∨ μ.1 39 1 - w.length + 3 ≤ μ.1 y 1) ∧ μ.1 39 1 ≤ 480) ∧ GL μ ∧ NC N (μ.1 39 1 - w.length) μ ∧ ∀ i : Nat, i < w.length → μ.2.2 40 (μ.1 39 1 - w.length + i) = w.getD i 0
def wfr (y : Nat) (μ μ' : Mem) : Prop := (∀ a q, a ≠ 36 → a ≠ 39 → a ≠ y → μ'.1 a q = μ.1 a q) ∧ μ'.2.1 = μ.2.1 ∧ ∀ a, a ≠ 37 → a ≠ 38 → a ≠ 40 → a ≠ 41 → a ≠ y + 1 → μ'.2.2 a = μ.2.2 a
theorem wfr_refl (y : Nat) (μ : Mem) : wfr y μ μ := ⟨fun _ _ _ _ _ => rfl, rfl, fun _ _ _ _ _ _ => rfl⟩
theorem wfr_trans {y : Nat} {α β γ : Mem} (h : wfr y α β) (g : wfr y β γ) : wfr y α γ :=
  ⟨fun a q h1 h2 h3 => (g.1 a q h1 h2 h3).trans (h.1 a q h1 h2 h3), g.2.1.trans h.2.1, fun a h1 h2 h3 h4 h5 => (g.2.2 a h1 h2 h3 h4 h5).trans (h.2.2 a h1 h2 h3 h4 h5)⟩
/-- the draft has grown by l -/
def DR (y : Nat) (l : List Int) (μ μ' : Mem) : Prop := μ'.1 y 1 = μ.1 y 1 + l.length ∧ (∀ i, i < μ.1 y 1 → μ'.2.2 (y + 1) i = μ.2.2 (y + 1) i) ∧ ∀ i : Nat, i < l.length → μ'.2.2 (y + 1) (μ.1 y 1 + i) = l.getD i 0
theorem DR_trans {y : Nat} {l m : List Int} {α β γ : Mem} (h : DR y l α β) (g : DR y m β γ) : DR y (l ++ m) α γ := by
  obtain ⟨h1, h2, h3⟩ := h
  obtain ⟨g1, g2, g3⟩ := g
  refine ⟨by rw [g1, h1, List.length_append]; omega, fun i hi => (g2 i (by omega)).trans (h2 i hi), fun i hi => ?_⟩
  rw [List.length_append] at hi
  by_cases z : i < l.length
  · rw [g2 _ (by omega), h3 i z]
    simp [List.getD_eq_getElem?_getD, List.getElem?_append_left z]
  · have e := g3 (i - l.length) (by omega)
    rw [show β.1 y 1 + ((i - l.length : Nat) : Int) = α.1 y 1 + (i : Int) by omega] at e
    rw [e]
    simp [List.getD_eq_getElem?_getD, List.getElem?_append_right (by omega : l.length ≤ i)]
theorem DR_nil {y : Nat} {μ μ' : Mem} (h1 : μ'.1 y 1 = μ.1 y 1) (h2 : μ'.2.2 (y + 1) = μ.2.2 (y + 1)) : DR y [] μ μ' := ⟨by rw [h1]; simp, fun i _ => by rw [h2], fun i hi => absurd hi (Nat.not_lt_zero i)⟩
def WOK (t y : Nat) (l : List Int) (N : List (List Int)) (w : List Int) (μ μ' : Mem) : Prop := wfr y μ μ' ∧ WC t y N w μ' ∧ DR y l μ μ'
def WBD (y : Nat) (μ μ' : Mem) : Prop := wfr y μ μ' ∧ (0 ≤ μ'.1 y 1 ∧ μ'.1 y 1 ≤ 240) ∧ (0 ≤ μ'.1 39 1 ∧ μ'.1 39 1 ≤ 480) ∧ GL μ'
theorem WOK_refl {t y : Nat} {N : List (List Int)} {w : List Int} {μ : Mem} (h : WC t y N w μ) : WOK t y [] N w μ μ := ⟨wfr_refl y μ, h, DR_nil rfl rfl⟩
theorem WOK_trans {t y : Nat} {l m : List Int} {N M : List (List Int)} {v w : List Int} {α β γ : Mem} (h : WOK t y l N v α β) (g : WOK t y m M w β γ) : WOK t y (l ++ m) M w α γ := ⟨wfr_trans h.1 g.1, g.2.1, DR_trans h.2.2 g.2.2⟩
theorem WBD_of {t y : Nat} {l : List Int} {N : List (List Int)} {w : List Int} {α β γ : Mem} (h : WOK t y l N w α β) (g : WBD y β γ) : WBD y α γ := ⟨wfr_trans h.1 g.1, g.2⟩
/-- how a call of the writer ends -/
def PW (t y : Nat) (μ : Mem) (ρ : Nat × Nat × Nat) (l : List Int) (N : List (List Int)) (w : List Int) (o : z_O) (τ : z_T) : Prop :=
  (μ.1 y 1 + l.length ≤ 240 ∧ o = .inl none ∧ ∃ μ', τ = (hp μ', ρ) ∧ WOK t y l N w μ μ') ∨ (240 < μ.1 y 1 + l.length ∧ o = .inr (3, ρ.1) ∧ ∃ μ', τ = (hp μ', ρ.1 + 1, ρ.2.1 - 1, ρ.2.2 - 6) ∧ WBD y μ μ')
theorem WC_bd {t y : Nat} {N : List (List Int)} {w : List Int} {μ : Mem} (h : WC t y N w μ) : WBD y μ μ := ⟨wfr_refl y μ, h.2.1, by have := h.2.1; have := h.2.2.1; omega, h.2.2.2.1⟩
/-- a word is drafted -/
def DW (w : List Int) (μ μ' : Mem) : Prop := (∀ a q, ¬ (a = 39 ∧ q = 1) → μ'.1 a q = μ.1 a q) ∧ μ'.2.1 = μ.2.1 ∧ μ'.1 39 1 = μ.1 39 1 + w.length ∧ (∀ a, a ≠ 40 → a ≠ 41 → μ'.2.2 a = μ.2.2 a) ∧ (∀ i, i < μ.1 39 1 → μ'.2.2 40 i = μ.2.2 40 i) ∧ (∀ i : Nat, i < w.length → μ'.2.2 40 (μ.1 39 1 + i) = w.getD i 0) ∧ ∀ k, (0 ≤ μ.2.2 40 k ∧ μ.2.2 40 k < 65536) → 0 ≤ μ'.2.2 40 k ∧ μ'.2.2 40 k < 65536
theorem DW_nil (μ : Mem) : DW [] μ μ := ⟨fun _ _ _ => rfl, rfl, by simp, fun _ _ _ => rfl, fun _ _ => rfl, fun i hi => absurd hi (Nat.not_lt_zero i), fun _ h => h⟩
theorem DW_trans {u v : List Int} {α β γ : Mem} (h : DW u α β) (g : DW v β γ) : DW (u ++ v) α γ := by
  obtain ⟨h1, h2, h3, h4, h5, h6, h7⟩ := h
  obtain ⟨g1, g2, g3, g4, g5, g6, g7⟩ := g
  refine ⟨fun a q z => (g1 a q z).trans (h1 a q z), g2.trans h2, by rw [g3, h3, List.length_append]; omega, fun a z1 z2 => (g4 a z1 z2).trans (h4 a z1 z2), fun i hi => (g5 i (by omega)).trans (h5 i hi), fun i hi => ?_, fun k hk => g7 k (h7 k hk)⟩
  rw [List.length_append] at hi
  by_cases z : i < u.length
  · rw [g5 _ (by omega), h6 i z]
    simp [List.getD_eq_getElem?_getD, List.getElem?_append_left z]
  · have e := g6 (i - u.length) (by omega)
    rw [show β.1 39 1 + ((i - u.length : Nat) : Int) = α.1 39 1 + (i : Int) by omega] at e
    rw [e]
    simp [List.getD_eq_getElem?_getD, List.getElem?_append_right (by omega : u.length ≤ i)]
/-- what a raw add does -/
theorem DW_1 {μ : Mem} {c : Int} (hc : 0 ≤ c ∧ c < 65536) : DW [c] μ (stI (stA μ 40 (μ.1 39 1) c) 39 1 (μ.1 39 1 + 1)) := by
  refine ⟨fun a q z => stI_ne z, rfl, stI_at _ _ _ _, fun a z1 z2 => stA_o2 z1, fun i hi => stA_ne (by omega), fun i hi => ?_, fun k hk => ?_⟩
  · have hi : i < 1 := hi
    obtain rfl : i = 0 := by omega
    show (stA μ 40 (μ.1 39 1) c).2.2 40 (μ.1 39 1 + ((0 : Nat) : Int)) = c
    rw [show μ.1 39 1 + ((0 : Nat) : Int) = μ.1 39 1 by omega, stA_at]
  · show 0 ≤ (stA μ 40 (μ.1 39 1) c).2.2 40 k ∧ (stA μ 40 (μ.1 39 1) c).2.2 40 k < 65536
    by_cases z : k = μ.1 39 1
    · rw [z, stA_at]; exact hc
    · rw [stA_ne (by omega)]; exact hk
theorem DW_GL {w : List Int} {μ μ' : Mem} (h : DW w μ μ') (hG : GL μ) : GL μ' := by
  intro a n ha k
  have ha' := ha
  unfold isL at ha
  by_cases z : a = 39
  · subst z
    exact h.2.2.2.2.2.2 k (hG 39 n ha' k)
  · rw [h.2.2.2.1 (a + 1) (by omega) (by omega)]
    exact hG a n ha' k
theorem getD_take {l : List Int} {i n : Nat} (h : i < n) : (l.take n).getD i 0 = l.getD i 0 := by
  simp [List.getD_eq_getElem?_getD, List.getElem?_take, h]
/-- a word is drafted: the state -/
theorem DW_WOK {t y : Nat} (hT : isT t) (hY : y = 42 ∨ y = 44) {N : List (List Int)} {u w : List Int} {μ μ' : Mem} (h : WC t y N u μ) (g : DW w μ μ') (hn : μ.1 39 1 + w.length ≤ 480) : WOK t y [] N (u ++ w) μ μ' := by
  obtain ⟨h1, h2, h3, h4, h5, h6⟩ := h
  have hG := DW_GL g h4
  obtain ⟨g1, g2, g3, g4, g5, g6, g7⟩ := g
  unfold isT at hT
  have ey : μ'.1 y 1 = μ.1 y 1 := g1 y 1 (by omega)
  have eb : μ'.1 39 1 - ((u ++ w).length : Int) = μ.1 39 1 - u.length := by rw [g3, List.length_append]; omega
  refine ⟨⟨fun a q z1 z2 z3 => g1 a q (by omega), g2, fun a z1 z2 z3 z4 z5 => g4 a z3 z4⟩, ⟨by rw [g2]; exact h1, by rw [ey]; exact h2, by rw [eb, ey, g3]; omega, hG, ?_, fun i hi => ?_⟩, DR_nil ey (g4 (y + 1) (by omega) (by omega))⟩
  · rw [eb]
    unfold NC at h5 ⊢
    rw [g1 36 2 (by omega), g4 37 (by omega) (by omega), g4 38 (by omega) (by omega)]
    refine ⟨h5.1, fun n hn => ?_⟩
    obtain ⟨n1, n2, n3, n4⟩ := h5.2 n hn
    exact ⟨n1, n2, n3, fun i hi => by rw [g5 _ (by omega)]; exact n4 i hi⟩
  · rw [eb]
    rw [List.length_append] at hi
    by_cases z : i < u.length
    · rw [g5 _ (by omega), h6 i z]
      simp [List.getD_eq_getElem?_getD, List.getElem?_append_left z]
    · have e := g6 (i - u.length) (by omega)
      rw [show μ.1 39 1 + ((i - u.length : Nat) : Int) = μ.1 39 1 - u.length + (i : Int) by omega] at e
      rw [e]
      simp [List.getD_eq_getElem?_getD, List.getElem?_append_right (by omega : u.length ≤ i)]
theorem take_getD {l : List Int} {i : Nat} (h : i < l.length) : l.take (i + 1) = l.take i ++ [l.getD i 0] := by
  rw [List.take_add_one]
  simp [List.getD_eq_getElem?_getD, h]
theorem list_eq {l m : List Int} (h : l.length = m.length) (k : ∀ i : Nat, i < l.length → l.getD i 0 = m.getD i 0) : l = m := by
  refine List.ext_getElem h (fun i h1 h2 => ?_)
  have e := k i h1
  simpa [List.getD_eq_getElem?_getD, h1, h2] using e
