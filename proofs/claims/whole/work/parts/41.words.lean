/-! THE PURE PART, 25: strings and numbers of a text, as functions of its letters -/
/-- the raw word from p on: where it goes wrong, or where its quote is and its letters -/
def rws (T : Int → Int) (n : Int) : Nat → Int → Int ⊕ (Int × List Int)
  | 0, p => .inl p
  | f + 1, p => if p < n then (if T p = 34 then .inr (p, []) else
      if T p = 92 then (if p + 1 < n ∧ (T (p + 1) = 34 ∨ T (p + 1) = 92 ∨ T (p + 1) = 47) then (match rws T n f (p + 2) with | .inl w => .inl w | .inr (q, l) => .inr (q, T (p + 1) :: l)) else .inl (p + 1))
      else (match rws T n f (p + 1) with | .inl w => .inl w | .inr (q, l) => .inr (q, T p :: l))) else .inl p
def rw' (T : Int → Int) (n p : Int) : Int ⊕ (Int × List Int) := rws T n ((n - p).toNat + 1) p
theorem rws_more (T : Int → Int) (n : Int) : ∀ (f g : Nat) (p : Int), (n - p).toNat < f → (n - p).toNat < g → rws T n f p = rws T n g p
  | 0, _, _, h, _ => absurd h (Nat.not_lt_zero _)
  | _ + 1, 0, _, _, h => absurd h (Nat.not_lt_zero _)
  | f + 1, g + 1, p, h, k => by
    simp only [rws]
    by_cases hp : p < n
    · rw [rws_more T n f g (p + 1) (by omega) (by omega), rws_more T n f g (p + 2) (by omega) (by omega)]
    · rw [if_neg hp, if_neg hp]
theorem rw_end {T : Int → Int} {n p : Int} (h : ¬ p < n) : rw' T n p = .inl p := by
  unfold rw'
  simp only [rws]
  rw [if_neg h]
theorem rw_q {T : Int → Int} {n p : Int} (h : p < n) (hT : T p = 34) : rw' T n p = .inr (p, []) := by
  unfold rw'
  simp only [rws]
  rw [if_pos h, if_pos hT]
theorem rw_e {T : Int → Int} {n p : Int} (h : p < n) (hT : T p = 92) (h2 : p + 1 < n ∧ (T (p + 1) = 34 ∨ T (p + 1) = 92 ∨ T (p + 1) = 47)) : rw' T n p = match rw' T n (p + 2) with | .inl w => .inl w | .inr (q, l) => .inr (q, T (p + 1) :: l) := by
  unfold rw'
  simp only [rws]
  rw [if_pos h, if_neg (by omega), if_pos hT, if_pos h2]
  rw [rws_more T n _ ((n - (p + 2)).toNat + 1) (p + 2) (by omega) (by omega)]
  rfl
theorem rw_x {T : Int → Int} {n p : Int} (h : p < n) (hT : T p = 92) (h2 : ¬ (p + 1 < n ∧ (T (p + 1) = 34 ∨ T (p + 1) = 92 ∨ T (p + 1) = 47))) : rw' T n p = .inl (p + 1) := by
  unfold rw'
  simp only [rws]
  rw [if_pos h, if_neg (by omega), if_pos hT, if_neg h2]
theorem rw_c {T : Int → Int} {n p : Int} (h : p < n) (hT : T p ≠ 34) (hT2 : T p ≠ 92) : rw' T n p = match rw' T n (p + 1) with | .inl w => .inl w | .inr (q, l) => .inr (q, T p :: l) := by
  unfold rw'
  simp only [rws]
  rw [if_pos h, if_neg hT, if_neg hT2]
  rw [rws_more T n _ ((n - (p + 1)).toNat + 1) (p + 1) (by omega) (by omega)]
  rfl
/-- the quote's place; how many letters -/
theorem rw_len {T : Int → Int} {n : Int} : ∀ (m : Nat) (p q : Int) (l : List Int), (n - p).toNat = m → rw' T n p = .inr (q, l) → p + l.length ≤ q ∧ q < n ∧ T q = 34 ∧ ∀ c ∈ l, ∃ k, p ≤ k ∧ k < n ∧ c = T k := by
  intro m
  induction m using Nat.strongRecOn with
  | ind m ih =>
    intro p q l hm h
    by_cases hp : p < n
    · by_cases h34 : T p = 34
      · rw [rw_q hp h34] at h
        cases h
        exact ⟨by simp, hp, h34, fun c hc => by cases hc⟩
      · by_cases h92 : T p = 92
        · by_cases h2 : p + 1 < n ∧ (T (p + 1) = 34 ∨ T (p + 1) = 92 ∨ T (p + 1) = 47)
          · rw [rw_e hp h92 h2] at h
            cases hr : rw' T n (p + 2) with
            | inl w => rw [hr] at h; cases h
            | inr z =>
              obtain ⟨q', l'⟩ := z
              rw [hr] at h
              cases h
              have := ih (n - (p + 2)).toNat (by omega) (p + 2) q l' rfl hr
              refine ⟨by simp only [List.length_cons]; omega, this.2.1, this.2.2.1, fun c hc => ?_⟩
              rcases List.mem_cons.mp hc with rfl | hc
              · exact ⟨p + 1, by omega, h2.1, rfl⟩
              · obtain ⟨k, h3, h4, h5⟩ := this.2.2.2 c hc
                exact ⟨k, by omega, h4, h5⟩
          · rw [rw_x hp h92 h2] at h
            cases h
        · rw [rw_c hp h34 h92] at h
          cases hr : rw' T n (p + 1) with
          | inl w => rw [hr] at h; cases h
          | inr z =>
            obtain ⟨q', l'⟩ := z
            rw [hr] at h
            cases h
            have := ih (n - (p + 1)).toNat (by omega) (p + 1) q l' rfl hr
            refine ⟨by simp only [List.length_cons]; omega, this.2.1, this.2.2.1, fun c hc => ?_⟩
            rcases List.mem_cons.mp hc with rfl | hc
            · exact ⟨p, by omega, hp, rfl⟩
            · obtain ⟨k, h3, h4, h5⟩ := this.2.2.2 c hc
              exact ⟨k, by omega, h4, h5⟩
    · rw [rw_end hp] at h
      cases h
theorem rw_bad {T : Int → Int} {n : Int} : ∀ (m : Nat) (p w : Int), (n - p).toNat = m → p ≤ n → rw' T n p = .inl w → p ≤ w ∧ w ≤ n := by
  intro m
  induction m using Nat.strongRecOn with
  | ind m ih =>
    intro p w hm hpn h
    by_cases hp : p < n
    · by_cases h34 : T p = 34
      · rw [rw_q hp h34] at h
        cases h
      · by_cases h92 : T p = 92
        · by_cases h2 : p + 1 < n ∧ (T (p + 1) = 34 ∨ T (p + 1) = 92 ∨ T (p + 1) = 47)
          · rw [rw_e hp h92 h2] at h
            cases hr : rw' T n (p + 2) with
            | inr z => rw [hr] at h; cases h
            | inl w' =>
              rw [hr] at h
              cases h
              have := ih (n - (p + 2)).toNat (by omega) (p + 2) w rfl (by omega) hr
              omega
          · rw [rw_x hp h92 h2] at h
            cases h
            omega
        · rw [rw_c hp h34 h92] at h
          cases hr : rw' T n (p + 1) with
          | inr z => rw [hr] at h; cases h
          | inl w' =>
            rw [hr] at h
            cases h
            have := ih (n - (p + 1)).toNat (by omega) (p + 1) w rfl (by omega) hr
            omega
    · rw [rw_end hp] at h
      cases h
      omega
/-- a digit; the place behind the digits from p on -/
def dgt (c : Int) : Prop := 48 ≤ c ∧ c ≤ 57
def drn (R : Int → Int) (to : Int) : Nat → Int → Int
  | 0, p => p
  | f + 1, p => if p < to ∧ 48 ≤ R p ∧ R p ≤ 57 then drn R to f (p + 1) else p
def dru (R : Int → Int) (to p : Int) : Int := drn R to (to - p).toNat p
theorem dru_eq (R : Int → Int) (to p : Int) : dru R to p = if p < to ∧ 48 ≤ R p ∧ R p ≤ 57 then dru R to (p + 1) else p := by
  unfold dru
  by_cases h : p < to ∧ 48 ≤ R p ∧ R p ≤ 57
  · rw [if_pos h, show (to - p).toNat = (to - (p + 1)).toNat + 1 by omega]
    show (if p < to ∧ 48 ≤ R p ∧ R p ≤ 57 then drn R to (to - (p + 1)).toNat (p + 1) else p) = _
    rw [if_pos h]
  · rw [if_neg h]
    cases hf : (to - p).toNat with
    | zero => rfl
    | succ f =>
      show (if p < to ∧ 48 ≤ R p ∧ R p ≤ 57 then drn R to f (p + 1) else p) = _
      rw [if_neg h]
theorem dru_ge (R : Int → Int) (to : Int) : ∀ (m : Nat) (p : Int), (to - p).toNat = m → p ≤ dru R to p ∧ (p ≤ to → dru R to p ≤ to) := by
  intro m
  induction m using Nat.strongRecOn with
  | ind m ih =>
    intro p hm
    rw [dru_eq]
    split
    · rename_i h
      have := ih (to - (p + 1)).toNat (by omega) (p + 1) rfl
      exact ⟨by omega, fun _ => this.2 (by omega)⟩
    · exact ⟨Int.le_refl p, fun h => h⟩
/-- what a digit does: does it still fit, the sum below 0 -/
def tkd (s : Bool × Int) (d : Int) : Bool × Int :=
  if s.1 = true ∧ (-922337203685477580 < s.2 ∨ s.2 = -922337203685477580 ∧ d ≤ 8) then (true, s.2 * 10 - d) else (false, s.2)
def dvl (R : Int → Int) : Nat → Int → Bool × Int → Bool × Int
  | 0, _, s => s
  | k + 1, p, s => dvl R k (p + 1) (tkd s (R p - 48))
/-- the reference's step: fits it, the sum, how many digits -/
def mkd (m : Bool) (s : Bool × Int × Int) (d : Int) : Bool × Int × Int :=
  if s.1 = true ∧ s.2.2 < 19 ∧ (-922337203685477580 < s.2.1 ∨ s.2.1 = -922337203685477580 ∧ d ≤ (if m = true then 8 else 7)) then (true, 10 * s.2.1 - d, s.2.2 + 1) else (false, s.2.1, s.2.2 + 1)
def mvl (m : Bool) (R : Int → Int) : Nat → Int → Bool × Int × Int → Bool × Int × Int
  | 0, _, s => s
  | k + 1, p, s => mvl m R k (p + 1) (mkd m s (R p - 48))
def pw : Nat → Int
  | 0 => 1
  | k + 1 => 10 * pw k
def nrl (m : Bool) (c : Bool × Int) (s : Bool × Int × Int) (k : Nat) : Prop :=
  s.2.2 = k + 1 ∧ (s.1 = true ↔ c.1 = true ∧ (m = true ∨ c.2 ≠ -9223372036854775808)) ∧ (s.1 = true → s.2.1 = c.2) ∧ (-9223372036854775808 ≤ c.2 ∧ c.2 ≤ 0) ∧ (-9223372036854775808 ≤ s.2.1 ∧ s.2.1 ≤ 0) ∧ (c.1 = true → c.2 ≤ - pw k) ∧ (c.1 = true → k ≤ 18)
theorem nrl_1 {m : Bool} {d : Int} (hd : 1 ≤ d ∧ d ≤ 9) : nrl m (tkd (true, 0) d) (mkd m (true, 0, 0) d) 0 := by
  have h1 : tkd (true, 0) d = (true, 0 * 10 - d) := if_pos ⟨rfl, Or.inl (by decide)⟩
  have h2 : mkd m (true, 0, 0) d = (true, 10 * 0 - d, 0 + 1) := if_pos ⟨rfl, by decide, Or.inl (by decide)⟩
  rw [h1, h2]
  refine ⟨rfl, ⟨fun _ => ⟨rfl, Or.inr ?_⟩, fun _ => rfl⟩, fun _ => ?_, ?_, ?_, fun _ => ?_, fun _ => by omega⟩
  · show (0 : Int) * 10 - d ≠ _
    omega
  · show (10 : Int) * 0 - d = 0 * 10 - d
    omega
  · show -9223372036854775808 ≤ (0 : Int) * 10 - d ∧ (0 : Int) * 10 - d ≤ 0
    omega
  · show -9223372036854775808 ≤ (10 : Int) * 0 - d ∧ (10 : Int) * 0 - d ≤ 0
    omega
  · show (0 : Int) * 10 - d ≤ -1
    omega
theorem nrl_s {m : Bool} {c : Bool × Int} {s : Bool × Int × Int} {k : Nat} {d : Int} (hd : 0 ≤ d ∧ d ≤ 9) (h : nrl m c s k) : nrl m (tkd c d) (mkd m s d) (k + 1) := by
  obtain ⟨h1, h2, h3, h4, h5, h6, h7⟩ := h
  have hp18 : pw 18 = 1000000000000000000 := by decide
  by_cases hc : c.1 = true ∧ (-922337203685477580 < c.2 ∨ c.2 = -922337203685477580 ∧ d ≤ 8)
  · have e1 : tkd c d = (true, c.2 * 10 - d) := if_pos hc
    have hk : k ≠ 18 := fun z => by
      have := h6 hc.1
      rw [z, hp18] at this
      omega
    have hk2 := h7 hc.1
    have hpw : c.2 * 10 - d ≤ - pw (k + 1) := by
      have := h6 hc.1
      show _ ≤ -(10 * pw k)
      omega
    have hcl : c.2 ≠ -9223372036854775808 := by omega
    have hs1 : s.1 = true := h2.mpr ⟨hc.1, Or.inr hcl⟩
    have hsv := h3 hs1
    by_cases hf : -922337203685477580 < s.2.1 ∨ s.2.1 = -922337203685477580 ∧ d ≤ (if m = true then 8 else 7)
    · have e2 : mkd m s d = (true, 10 * s.2.1 - d, s.2.2 + 1) := if_pos ⟨hs1, by omega, hf⟩
      rw [e1, e2]
      refine ⟨?_, ⟨fun _ => ⟨rfl, ?_⟩, fun _ => rfl⟩, fun _ => ?_, ?_, ?_, fun _ => hpw, fun _ => by omega⟩
      · show s.2.2 + 1 = ((k + 1 : Nat) : Int) + 1
        omega
      · by_cases hm : m = true
        · exact Or.inl hm
        · refine Or.inr ?_
          show c.2 * 10 - d ≠ _
          rw [if_neg hm] at hf
          omega
      · show 10 * s.2.1 - d = c.2 * 10 - d
        omega
      · show _ ≤ c.2 * 10 - d ∧ c.2 * 10 - d ≤ 0
        omega
      · show _ ≤ 10 * s.2.1 - d ∧ 10 * s.2.1 - d ≤ 0
        omega
    · have e2 : mkd m s d = (false, s.2.1, s.2.2 + 1) := if_neg (fun z => hf z.2.2)
      rw [e1, e2]
      refine ⟨?_, ⟨fun z => Bool.noConfusion z, fun z => ?_⟩, fun z => Bool.noConfusion z, ?_, h5, fun _ => hpw, fun _ => by omega⟩
      · show s.2.2 + 1 = ((k + 1 : Nat) : Int) + 1
        omega
      · exfalso
        have z2 : m = true ∨ c.2 * 10 - d ≠ -9223372036854775808 := z.2
        by_cases hm : m = true
        · rw [if_pos hm] at hf
          omega
        · rw [if_neg hm] at hf
          rcases z2 with z2 | z2
          · exact hm z2
          · omega
      · show _ ≤ c.2 * 10 - d ∧ c.2 * 10 - d ≤ 0
        omega
  · have e1 : tkd c d = (false, c.2) := if_neg hc
    have hs : ¬ (s.1 = true ∧ s.2.2 < 19 ∧ (-922337203685477580 < s.2.1 ∨ s.2.1 = -922337203685477580 ∧ d ≤ (if m = true then 8 else 7))) := fun z => by
      have z1 := h2.mp z.1
      have z2 := h3 z.1
      refine hc ⟨z1.1, ?_⟩
      by_cases hm : m = true
      · rw [if_pos hm] at z
        omega
      · rw [if_neg hm] at z
        omega
    have e2 : mkd m s d = (false, s.2.1, s.2.2 + 1) := if_neg hs
    rw [e1, e2]
    refine ⟨?_, ⟨fun z => Bool.noConfusion z, fun z => Bool.noConfusion z.1⟩, fun z => Bool.noConfusion z, h4, h5, fun z => Bool.noConfusion z, fun z => Bool.noConfusion z⟩
    show s.2.2 + 1 = ((k + 1 : Nat) : Int) + 1
    omega
theorem nrl_n {m : Bool} {R : Int → Int} : ∀ (j : Nat) (p : Int) (c : Bool × Int) (s : Bool × Int × Int) (k : Nat), (∀ i, p ≤ i → i < p + j → 48 ≤ R i ∧ R i ≤ 57) → nrl m c s k → nrl m (dvl R j p c) (mvl m R j p s) (k + j)
  | 0, _, _, _, _, _, h => h
  | j + 1, p, c, s, k, hR, h => by
    have h0 := hR p (by omega) (by omega)
    have := nrl_n j (p + 1) _ _ (k + 1) (fun i h1 h2 => hR i (by omega) (by omega)) (nrl_s (d := R p - 48) (by omega) h)
    rw [show k + (j + 1) = k + 1 + j by omega]
    exact this
