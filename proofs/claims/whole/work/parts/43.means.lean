/-! THE PURE PART, 27: what a raw word means, as functions of its letters -/
def wl (w : Int → Int) (s i : Int) : Int := if i < s then w i else -1
/-- the code that a word is, or -1 -/
def cod (w : Int → Int) (s : Int) : Int := if wl w s 0 = 94 ∧ 48 ≤ wl w s 1 ∧ wl w s 1 ≤ 53 ∧ (s = 2 ∨ s = 3 ∧ 48 ≤ wl w s 2 ∧ wl w s 2 ≤ 53) then (if s = 2 then wl w s 1 - 48 else 6 * (wl w s 1 - 48) + (wl w s 2 - 48)) else -1
theorem cod_in (w : Int → Int) (s : Int) : -1 ≤ cod w s ∧ cod w s ≤ 35 := by
  unfold cod
  split
  · split <;> omega
  · omega
/-- is the word noted -/
def tks (w : Int → Int) (s key : Int) : Prop := 3 < s ∧ (key = 1 ∨ wl w s 0 = 126 ∧ (wl w s 1 = 58 ∨ wl w s 1 = 36 ∨ wl w s 1 = 35))
/-- a number at from: is there one, where it stops, does it fit, its value -/
def scn (R : Int → Int) (from' to : Int) : Bool × Int × Bool × Int :=
  if from' < to ∧ R from' = 45 then
    (if from' + 1 < to ∧ 49 ≤ R (from' + 1) ∧ R (from' + 1) ≤ 57 then
      (true, dru R to (from' + 1), (dvl R (dru R to (from' + 1) - (from' + 1)).toNat (from' + 1) (true, 0)).1, (dvl R (dru R to (from' + 1) - (from' + 1)).toNat (from' + 1) (true, 0)).2)
    else (false, from' + 1, true, 0))
  else
    (if from' < to ∧ 49 ≤ R from' ∧ R from' ≤ 57 then
      (true, dru R to from', (dvl R (dru R to from' - from').toNat from' (true, 0)).1 && decide ((dvl R (dru R to from' - from').toNat from' (true, 0)).2 ≠ -9223372036854775808), -(dvl R (dru R to from' - from').toNat from' (true, 0)).2)
    else if from' < to ∧ R from' = 48 then (true, from' + 1, true, 0)
    else (false, from', true, 0))
/-- the number that letters are, all of them -/
def nmb (R : Int → Int) (from' to : Int) : Option Int := if (scn R from' to).1 = true ∧ (scn R from' to).2.2.1 = true ∧ (scn R from' to).2.1 = to then some (scn R from' to).2.2.2 else none
/-- what a word means: kind, number, how many letters to pass, how many to take -/
def mn (w : Int → Int) (s : Int) : Option (Int × Int × Int × Int) :=
  if wl w s 0 = 94 ∨ wl w s 0 = 96 then none
  else if wl w s 0 ≠ 126 then some (4, 0, 0, s)
  else if wl w s 1 = 126 ∨ wl w s 1 = 94 ∨ wl w s 1 = 96 then some (4, 0, 1, s - 1)
  else if wl w s 1 = 95 then (if s = 2 then some (0, 0, 0, 0) else none)
  else if wl w s 1 = 63 then (if s = 3 ∧ (wl w s 2 = 116 ∨ wl w s 2 = 102) then some (1, if wl w s 2 = 116 then 1 else 0, 0, 0) else none)
  else if wl w s 1 = 105 then (nmb w 2 s).map fun v => (2, v, 0, 0)
  else if wl w s 1 = 109 then (nmb w 2 s).map fun v => (3, v, 0, 0)
  else if wl w s 1 = 58 then (if 2 < s then some (5, 0, 2, s - 2) else none)
  else if wl w s 1 = 36 then (if 2 < s then some (6, 0, 2, s - 2) else none)
  else if wl w s 1 = 99 then (if s = 3 then some (7, wl w s 2, 0, 0) else none)
  else if 97 ≤ wl w s 1 ∧ wl w s 1 ≤ 122 ∨ 65 ≤ wl w s 1 ∧ wl w s 1 ≤ 90 then some (12, 0, 1, 1)
  else none
theorem dvl_in {R : Int → Int} : ∀ (k : Nat) (p : Int) (c : Bool × Int), (∀ i, p ≤ i → i < p + k → 48 ≤ R i ∧ R i ≤ 57) → -9223372036854775808 ≤ c.2 ∧ c.2 ≤ 0 → -9223372036854775808 ≤ (dvl R k p c).2 ∧ (dvl R k p c).2 ≤ 0
  | 0, _, _, _, h => h
  | k + 1, p, c, hR, h => by
    have h0 := hR p (by omega) (by omega)
    refine dvl_in k (p + 1) _ (fun i h1 h2 => hR i (by omega) (by omega)) ?_
    unfold tkd
    split
    · show -9223372036854775808 ≤ c.2 * 10 - (R p - 48) ∧ c.2 * 10 - (R p - 48) ≤ 0
      omega
    · exact h
theorem dru_d {R : Int → Int} {to : Int} : ∀ (m : Nat) (p : Int), (to - p).toNat = m → ∀ i, p ≤ i → i < dru R to p → 48 ≤ R i ∧ R i ≤ 57 := by
  intro m
  induction m using Nat.strongRecOn with
  | ind m ih =>
    intro p hm i h1 h2
    rw [dru_eq] at h2
    split at h2
    · rename_i h
      by_cases hi : i = p
      · rw [hi]; exact h.2
      · exact ih (to - (p + 1)).toNat (by omega) (p + 1) rfl i (by omega) h2
    · omega
theorem dvl_dru_in {R : Int → Int} {to p : Int} : -9223372036854775808 ≤ (dvl R (dru R to p - p).toNat p (true, 0)).2 ∧ (dvl R (dru R to p - p).toNat p (true, 0)).2 ≤ 0 :=
  dvl_in _ _ _ (fun i h1 h2 => dru_d (to := to) _ p rfl i h1 (by have := (dru_ge R to _ p rfl).1; omega)) ⟨by show (_ : Int) ≤ 0; decide, Int.le_refl 0⟩
theorem scn_in {R : Int → Int} {a b : Int} (h : (scn R a b).2.2.1 = true) : -9223372036854775808 ≤ (scn R a b).2.2.2 ∧ (scn R a b).2.2.2 < 9223372036854775808 := by
  unfold scn at h ⊢
  split
  · rename_i h0
    rw [if_pos h0] at h
    split
    · exact ⟨dvl_dru_in.1, by have := (dvl_dru_in (R := R) (to := b) (p := a + 1)).2; show (dvl _ _ _ _).2 < _; omega⟩
    · exact ⟨show (-9223372036854775808 : Int) ≤ 0 by decide, show (0 : Int) < 9223372036854775808 by decide⟩
  · rename_i h0
    rw [if_neg h0] at h
    split
    · rename_i h1
      rw [if_pos h1] at h
      have h2 := (Bool.and_eq_true _ _ ▸ h : _ ∧ _)
      have h3 := of_decide_eq_true h2.2
      have h4 := dvl_dru_in (R := R) (to := b) (p := a)
      show -9223372036854775808 ≤ -(dvl R (dru R b a - a).toNat a (true, 0)).2 ∧ -(dvl R (dru R b a - a).toNat a (true, 0)).2 < 9223372036854775808
      omega
    · split
      · exact ⟨show (-9223372036854775808 : Int) ≤ 0 by decide, show (0 : Int) < 9223372036854775808 by decide⟩
      · exact ⟨show (-9223372036854775808 : Int) ≤ 0 by decide, show (0 : Int) < 9223372036854775808 by decide⟩
theorem scn_stop {R : Int → Int} {a b : Int} (h : a ≤ b) : a ≤ (scn R a b).2.1 ∧ (scn R a b).2.1 ≤ b ∧ ((scn R a b).1 = true → a < (scn R a b).2.1) := by
  unfold scn
  split
  · split
    · have := dru_ge R b _ (a + 1) rfl
      exact ⟨by show a ≤ dru R b (a + 1); omega, this.2 (by omega), fun _ => by show a < dru R b (a + 1); omega⟩
    · exact ⟨by show a ≤ a + 1; omega, by show a + 1 ≤ b; omega, fun z => Bool.noConfusion z⟩
  · split
    · rename_i h1
      have := dru_ge R b _ a rfl
      have h2 := dru_ge R b _ (a + 1) rfl
      refine ⟨this.1, this.2 h, fun _ => ?_⟩
      show a < dru R b a
      rw [dru_eq, if_pos ⟨h1.1, by omega, h1.2.2⟩]
      omega
    · split
      · exact ⟨by show a ≤ a + 1; omega, by show a + 1 ≤ b; omega, fun _ => by show a < a + 1; omega⟩
      · exact ⟨Int.le_refl a, h, fun z => Bool.noConfusion z⟩
