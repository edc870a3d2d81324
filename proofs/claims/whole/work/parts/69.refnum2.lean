/-! THE PURE PART, 51: contracts: the reference's number in a word -/
theorem mvl_add {m : Bool} {R : Int → Int} : ∀ (a b : Nat) (p : Int) (s : Bool × Int × Int), mvl m R (a + b) p s = mvl m R b (p + a) (mvl m R a p s)
  | 0, b, p, s => by
    show mvl m R (0 + b) p s = mvl m R b (p + ((0 : Nat) : Int)) s
    rw [Nat.zero_add]
    show _ = mvl m R b (p + 0) s
    rw [Int.add_zero]
  | a + 1, b, p, s => by
    rw [show a + 1 + b = a + b + 1 by omega]
    show mvl m R (a + b) (p + 1) (mkd m s (R p - 48)) = mvl m R b (p + ((a + 1 : Nat) : Int)) (mvl m R a (p + 1) (mkd m s (R p - 48)))
    rw [mvl_add a b (p + 1), show p + ((a + 1 : Nat) : Int) = p + 1 + (a : Int) by omega]
theorem stA_self (μ : Mem) (a : Nat) (i : Int) : stA μ a i (μ.2.2 a i) = μ := by
  refine Prod.ext rfl (Prod.ext rfl ?_)
  funext b m
  show (if b = a ∧ m = i then μ.2.2 a i else μ.2.2 b m) = μ.2.2 b m
  split
  · rename_i h
    rw [h.1, h.2]
  · rfl
theorem dru_all {R : Int → Int} {to : Int} : ∀ (j : Nat) (p : Int), (to - p).toNat = j → p ≤ to → (∀ i, p ≤ i → i < to → 48 ≤ R i ∧ R i ≤ 57) → dru R to p = to
  | 0, p, hj, hp, _ => by
    rw [dru_eq, if_neg (by omega)]
    omega
  | j + 1, p, hj, hp, h => by
    rw [dru_eq, if_pos ⟨by omega, h p (by omega) (by omega)⟩]
    exact dru_all j (p + 1) (by omega) (by omega) (fun i h1 h2 => h i (by omega) h2)
theorem dru_at {R : Int → Int} {to k : Int} : ∀ (j : Nat) (p : Int), (k - p).toNat = j → p ≤ k → k < to → (∀ i, p ≤ i → i < k → 48 ≤ R i ∧ R i ≤ 57) → ¬ (48 ≤ R k ∧ R k ≤ 57) → dru R to p = k
  | 0, p, hj, hp, hk, _, hn => by
    have e : p = k := by omega
    rw [e, dru_eq, if_neg (fun z => hn z.2)]
  | j + 1, p, hj, hp, hk, h, hn => by
    rw [dru_eq, if_pos ⟨by omega, h p (by omega) (by omega)⟩]
    exact dru_at j (p + 1) (by omega) (by omega) hk (fun i h1 h2 => h i (by omega) h2) hn
theorem dru_past {R : Int → Int} {to k : Int} : ∀ (j : Nat) (p : Int), (k - p).toNat = j → p ≤ k → k ≤ to → (∀ i, p ≤ i → i < k → 48 ≤ R i ∧ R i ≤ 57) → k ≤ dru R to p
  | 0, p, hj, hp, hk, _ => by
    have := (dru_ge R to _ p rfl).1
    omega
  | j + 1, p, hj, hp, hk, h => by
    rw [dru_eq, if_pos ⟨by omega, h p (by omega) (by omega)⟩]
    exact dru_past j (p + 1) (by omega) (by omega) hk (fun i h1 h2 => h i (by omega) h2)
/-- where the digits of a word's number begin, by its sign -/
def nk0 (m : Bool) : Int := if m = true then 3 else 2
/-- the number, where its digits are known to begin with 1 to 9 -/
theorem nmb_iff {w : Int → Int} {s : Int} {m : Bool} (hm : m = true ↔ 2 < s ∧ w 2 = 45) (hk : nk0 m < s) (hd : 49 ≤ w (nk0 m) ∧ w (nk0 m) ≤ 57) (x : Int) : nmb w 2 s = some x ↔ dru w s (nk0 m) = s ∧ (mvl m w (s - nk0 m).toNat (nk0 m) (true, 0, 0)).1 = true ∧ x = (if m = true then (mvl m w (s - nk0 m).toNat (nk0 m) (true, 0, 0)).2.1 else -(mvl m w (s - nk0 m).toNat (nk0 m) (true, 0, 0)).2.1) := by
  have nr := (num_rel (m := m) (R := w) hk hd).1
  cases hmm : m with
  | true =>
    rw [hmm] at hk hd nr
    have hk : 3 < s := hk
    have hd : 49 ≤ w 3 ∧ w 3 ≤ 57 := hd
    have e : scn w 2 s = (true, dru w s 3, (dvl w (dru w s 3 - 3).toNat 3 (true, 0)).1, (dvl w (dru w s 3 - 3).toNat 3 (true, 0)).2) := by
      unfold scn
      rw [if_pos (hm.mp hmm), if_pos ⟨hk, hd⟩]
      rfl
    unfold nmb
    rw [e]
    show (if true = true ∧ (dvl w (dru w s 3 - 3).toNat 3 (true, 0)).1 = true ∧ dru w s 3 = s then some (dvl w (dru w s 3 - 3).toNat 3 (true, 0)).2 else none) = some x ↔ dru w s 3 = s ∧ (mvl true w (s - 3).toNat 3 (true, 0, 0)).1 = true ∧ x = (mvl true w (s - 3).toNat 3 (true, 0, 0)).2.1
    have nr : nrl true (dvl w (dru w s 3 - 3).toNat 3 (true, 0)) (mvl true w (dru w s 3 - 3).toNat 3 (true, 0, 0)) ((dru w s 3 - 3).toNat - 1) := nr
    constructor
    · intro z
      split at z
      · rename_i h
        obtain ⟨_, h1, h2⟩ := h
        rw [h2] at nr h1 z
        have h3 := nr.2.1.mpr ⟨h1, Or.inl rfl⟩
        refine ⟨h2, h3, ?_⟩
        rw [nr.2.2.1 h3]
        cases z
        rfl
      · cases z
    · rintro ⟨h2, h3, h4⟩
      rw [h2] at nr ⊢
      rw [if_pos ⟨rfl, (nr.2.1.mp h3).1, rfl⟩, h4, nr.2.2.1 h3]
  | false =>
    rw [hmm] at hk hd nr
    have hk : 2 < s := hk
    have hd : 49 ≤ w 2 ∧ w 2 ≤ 57 := hd
    have e : scn w 2 s = (true, dru w s 2, (dvl w (dru w s 2 - 2).toNat 2 (true, 0)).1 && decide ((dvl w (dru w s 2 - 2).toNat 2 (true, 0)).2 ≠ -9223372036854775808), -(dvl w (dru w s 2 - 2).toNat 2 (true, 0)).2) := by
      unfold scn
      rw [if_neg (fun z => by have := hm.mpr z; rw [hmm] at this; cases this), if_pos ⟨hk, hd⟩]
    unfold nmb
    rw [e]
    show (if true = true ∧ ((dvl w (dru w s 2 - 2).toNat 2 (true, 0)).1 && decide ((dvl w (dru w s 2 - 2).toNat 2 (true, 0)).2 ≠ -9223372036854775808)) = true ∧ dru w s 2 = s then some (-(dvl w (dru w s 2 - 2).toNat 2 (true, 0)).2) else none) = some x ↔ dru w s 2 = s ∧ (mvl false w (s - 2).toNat 2 (true, 0, 0)).1 = true ∧ x = -(mvl false w (s - 2).toNat 2 (true, 0, 0)).2.1
    have nr : nrl false (dvl w (dru w s 2 - 2).toNat 2 (true, 0)) (mvl false w (dru w s 2 - 2).toNat 2 (true, 0, 0)) ((dru w s 2 - 2).toNat - 1) := nr
    constructor
    · intro z
      split at z
      · rename_i h
        obtain ⟨_, h1, h2⟩ := h
        rw [h2] at nr h1 z
        have h5 := (Bool.and_eq_true _ _ ▸ h1 : _ ∧ _)
        have h3 := nr.2.1.mpr ⟨h5.1, Or.inr (of_decide_eq_true h5.2)⟩
        refine ⟨h2, h3, ?_⟩
        rw [nr.2.2.1 h3]
        cases z
        rfl
      · cases z
    · rintro ⟨h2, h3, h4⟩
      rw [h2] at nr ⊢
      have h6 := nr.2.1.mp h3
      rw [if_pos ⟨rfl, by rw [h6.1, decide_eq_true (h6.2.resolve_left (by decide))]; rfl, rfl⟩, h4, nr.2.2.1 h3]
theorem opt_none {α : Type} {o : Option α} (h : ∀ x, o ≠ some x) : o = none := by
  cases o with
  | none => rfl
  | some x => exact absurd rfl (h x)
theorem m_isNumber_l {sc : Nat × (Nat → Int32)} {fr lo : Nat} {μ : Mem} {ρ : Nat × Nat × Nat} (hr : 0 ≤ μ.1 46 24 ∧ 0 ≤ μ.1 46 25 ∧ μ.1 46 24 + μ.1 46 25 ≤ 720 ∧ μ.1 46 25 ≤ 240) (hw : ∀ i, 0 ≤ i → i < μ.1 46 25 → 32 ≤ μ.2.2 57 (μ.1 46 24 + i) ∧ μ.2.2 57 (μ.1 46 24 + i) ≤ 126) {v : Int} (hv : 256 ≤ v ∧ v < 384) {mi : Bool} (hm : mi = true ↔ 2 < (μ.1 46 25) ∧ μ.2.2 57 (μ.1 46 24 + 2) = 45) (hk0 : nk0 mi < (μ.1 46 25)) (h48 : μ.2.2 57 (μ.1 46 24 + nk0 mi) ≠ 48) (h19 : (μ.1 46 25) - nk0 mi ≤ 19) (hf : 6 ≤ fr) (hl : 200 ≤ lo) : ∀ (m : Nat) (k : Int) (c : Bool × Int × Int), ((μ.1 46 25) - k).toNat = m → (nk0 mi ≤ k ∧ k ≤ (μ.1 46 25)) → (∀ i, nk0 mi ≤ i → i < k → 48 ≤ μ.2.2 57 (μ.1 46 24 + i) ∧ μ.2.2 57 (μ.1 46 24 + i) ≤ 57) → c = (mvl mi (fun i => μ.2.2 57 (μ.1 46 24 + i)) (k - nk0 mi).toNat (nk0 mi) (true, 0, 0)) → c.1 = true → (-9223372036854775808 ≤ c.2.1 ∧ c.2.1 ≤ 0) → c.2.2 = k - nk0 mi → w_P sc fr lo 140 7 8 false ((some FieldType.boolean)) prog_9_method_21_code 114 [some (.ref 46), some (.int (ji v)), some (.int (ji k)), some (.int (ji (bi mi))), none, some (.long (jl c.2.1)), none, none] [] (hp (μ), ρ) (fun o t' => (∃ x, (nmb (fun i => μ.2.2 57 (μ.1 46 24 + i)) 2 (μ.1 46 25)) = some x ∧ o = .inl (some (.int (ji 1))) ∧ t' = (hp (stA μ 50 v x), ρ)) ∨ ((nmb (fun i => μ.2.2 57 (μ.1 46 24 + i)) 2 (μ.1 46 25)) = none ∧ o = .inl (some (.int (ji 0))) ∧ t' = (hp μ, ρ))) := by
  intro m
  induction m using Nat.strongRecOn with
  | ind m ih =>
    intro k c hmm hk hdg hc hc1 hcr hcn
    have hn23 : nk0 mi = 2 ∨ nk0 mi = 3 := by cases mi <;> decide
    refine w_ld d_140_114 rfl rfl rfl ?_
    refine w_ld d_140_115 rfl rfl rfl ?_
    refine w_gI d_140_116 (by rfl) (by first | rfl | assumption) (by rfl) (by (try simp only [Nat.reduceAdd]) <;> rfl) ?_
    refine w_icmp_ge (g := 180) d_140_119 (by decide) (by omega) (fun h119 => ?_) (fun h119 => ?_)
    · refine w_ld d_140_180 rfl rfl rfl ?_
      refine w_getF d_140_181 (by rfl) (by first | rfl | assumption) (by rfl) (by rfl) ?_
      refine w_ld d_140_184 rfl rfl rfl ?_
      refine w_ld d_140_185 rfl rfl rfl ?_
      refine w_if_eq (g := 194) d_140_186 (by decide) (by have := bi_01 mi; omega) (fun h186 => ?_) (fun h186 => ?_)
      · refine w_ld d_140_194 rfl rfl rfl ?_
        refine w_lneg d_140_196 ?_
        refine w_last d_140_197 (by first | rfl | assumption) (by omega) ?_
        refine w_con d_140_198 ?_
        refine w_zret d_140_199 rfl (by decide) ?_
        have hd0 := hdg (nk0 mi) (by omega) (by omega)
        have hks : k = (μ.1 46 25) := by omega
        have eall := dru_all (R := (fun i => μ.2.2 57 (μ.1 46 24 + i))) (to := (μ.1 46 25)) _ (nk0 mi) rfl (by omega) (fun i i0 i1 => hdg i i0 (by omega))
        rw [hks] at hc
        have hx := (nmb_iff hm hk0 (by omega) (if mi = true then c.2.1 else -c.2.1)).mpr ⟨eall, by rw [← hc]; exact hc1, by rw [← hc]⟩
        exact Or.inl ⟨_, hx, rfl, by rw [if_neg (fun z => by have := bi_t.mpr z; omega)]⟩
      · refine w_ld d_140_189 rfl rfl rfl ?_
        refine w_goto (g := 197) d_140_191 (by decide) ?_
        refine w_last d_140_197 (by first | rfl | assumption) (by omega) ?_
        refine w_con d_140_198 ?_
        refine w_zret d_140_199 rfl (by decide) ?_
        have hd0 := hdg (nk0 mi) (by omega) (by omega)
        have hks : k = (μ.1 46 25) := by omega
        have eall := dru_all (R := (fun i => μ.2.2 57 (μ.1 46 24 + i))) (to := (μ.1 46 25)) _ (nk0 mi) rfl (by omega) (fun i i0 i1 => hdg i i0 (by omega))
        rw [hks] at hc
        have hx := (nmb_iff hm hk0 (by omega) (if mi = true then c.2.1 else -c.2.1)).mpr ⟨eall, by rw [← hc]; exact hc1, by rw [← hc]⟩
        exact Or.inl ⟨_, hx, rfl, by rw [if_pos (bi_t.mp (by have := bi_01 mi; omega))]⟩
    · refine w_ld d_140_122 rfl rfl rfl ?_
      refine w_getF d_140_123 (by rfl) (by first | rfl | assumption) (by rfl) (by rfl) ?_
      refine w_ld d_140_126 rfl rfl rfl ?_
      refine w_gI d_140_127 (by rfl) (by first | rfl | assumption) (by rfl) (by (try simp only [Nat.reduceAdd]) <;> rfl) ?_
      refine w_ld d_140_130 rfl rfl rfl ?_
      refine w_iadd d_140_131 ?_
      refine w_aI d_140_132 (by first | rfl | assumption) (by omega) (by (try simp only [Nat.reduceAdd]) <;> rfl) ?_
      refine w_st1 (L' := [_, _, _, _, _, _, _, _]) d_140_133 rfl (by decide) rfl (by decide) rfl ?_
      have hwk := hw k (by omega) (by omega)
      refine w_ld d_140_135 rfl rfl rfl ?_
      refine w_cS1 (as := [_]) (rest := _) rfl d_140_137 (by rfl) (by rfl) (by rfl) (by rfl) (Nat.le_of_ble_eq_true rfl) (by omega) (by omega) (m_digit (by omega)) ?_
      refine w_if_eq (g := 157) d_140_140 (by decide) (by split <;> omega) (fun h140 => ?_) (fun h140 => ?_)
      · refine w_con d_140_157 ?_
        refine w_zret d_140_158 rfl (by decide) ?_
        refine Or.inr ⟨opt_none (fun x hx => ?_), rfl, rfl⟩
        have hnd : ¬ (48 ≤ μ.2.2 57 (μ.1 46 24 + k) ∧ μ.2.2 57 (μ.1 46 24 + k) ≤ 57) := fun z => by rw [if_pos z] at h140; cases h140
        by_cases hkk : k = nk0 mi
        · have hs1 : (scn (fun i => μ.2.2 57 (μ.1 46 24 + i)) 2 (μ.1 46 25)).1 = false := by
            unfold scn
            cases hmm : mi with
            | true =>
              rw [hmm] at hkk
              have hkk : k = 3 := hkk
              rw [hkk] at hnd
              rw [if_pos (hm.mp hmm), if_neg (fun z => hnd ⟨by have z1 : 49 ≤ μ.2.2 57 (μ.1 46 24 + 3) := z.2.1; omega, z.2.2⟩)]
            | false =>
              rw [hmm] at hkk
              have hkk : k = 2 := hkk
              rw [hkk] at hnd
              rw [if_neg (fun z => by have := hm.mpr z; rw [hmm] at this; cases this), if_neg (fun z => hnd ⟨by have z1 : 49 ≤ μ.2.2 57 (μ.1 46 24 + 2) := z.2.1; omega, z.2.2⟩), if_neg (fun z => hnd (by have z1 : μ.2.2 57 (μ.1 46 24 + 2) = 48 := z.2; omega))]
          unfold nmb at hx
          rw [if_neg (fun z => by rw [hs1] at z; cases z.1)] at hx
          cases hx
        · have hd0 := hdg (nk0 mi) (by omega) (by omega)
          have := ((nmb_iff hm hk0 (by have : μ.2.2 57 (μ.1 46 24 + nk0 mi) ≠ 48 := h48; omega) x).mp hx).1
          have e := dru_at (R := (fun i => μ.2.2 57 (μ.1 46 24 + i))) (to := (μ.1 46 25)) _ (nk0 mi) rfl (by omega) (by omega) (fun i i0 i1 => hdg i i0 i1) hnd
          omega
      · have hdk : 48 ≤ μ.2.2 57 (μ.1 46 24 + k) ∧ μ.2.2 57 (μ.1 46 24 + k) ≤ 57 := Decidable.byContradiction (fun z => h140 (if_neg z))
        refine w_ld d_140_143 rfl rfl rfl ?_
        refine w_ld d_140_145 rfl rfl rfl ?_
        refine w_bip d_140_147 (by decide) ?_
        refine w_isub d_140_149 ?_
        refine w_ld d_140_150 rfl rfl rfl ?_
        refine w_cS1 (as := [_, _, _]) (rest := _) rfl d_140_151 (by rfl) (by rfl) (by rfl) (by rfl) (Nat.le_of_ble_eq_true rfl) (by omega) (by omega) (m_fits (by omega) (by omega)) ?_
        refine w_if_ne (g := 159) d_140_154 (by decide) (by split <;> omega) (fun h154 => ?_) (fun h154 => ?_)
        · refine w_ldl (x := 10) d_140_159 (by rfl) ?_
          refine w_ld d_140_162 rfl rfl rfl ?_
          refine w_lmul d_140_164 ?_
          refine w_ld d_140_165 rfl rfl rfl ?_
          refine w_bip d_140_167 (by decide) ?_
          refine w_isub d_140_169 ?_
          refine w_i2l d_140_170 (by omega) ?_
          refine w_lsub d_140_171 ?_
          refine w_st2 (L' := [_, _, _, _, _, _, _, _]) d_140_172 rfl rfl (by decide) rfl ?_
          refine w_inc (L' := [_, _, _, _, _, _, _, _]) d_140_174 rfl (by decide) rfl ?_
          refine w_goto (g := 114) d_140_177 (by decide) ?_
          have hfit := Decidable.byContradiction (fun z => h154 (if_neg z))
          have hmk : mkd mi c (μ.2.2 57 (μ.1 46 24 + k) - 48) = (true, 10 * c.2.1 - (μ.2.2 57 (μ.1 46 24 + k) - 48), c.2.2 + 1) := by
            unfold mkd
            rw [if_pos ⟨hc1, by omega, hfit⟩]
          refine w_P.le (ih _ (by omega) (k + 1) (mkd mi c (μ.2.2 57 (μ.1 46 24 + k) - 48)) rfl (by omega) (fun i i0 i1 => ?_) ?_ (by rw [hmk]) (mkd_in (by omega) hcr) (by rw [hmk]; show c.2.2 + 1 = _; omega)) (by rw [hmk]; exact ⟨rfl, rfl, rfl, rfl, rfl, trivial⟩)
          · by_cases hik : i = k
            · rw [hik]; exact hdk
            · exact hdg i i0 (by omega)
          · rw [show (k + 1 - nk0 mi).toNat = (k - nk0 mi).toNat + 1 by omega, mvl_add, ← hc]
            show _ = mkd mi c (μ.2.2 57 (μ.1 46 24 + (nk0 mi + ((k - nk0 mi).toNat : Int))) - 48)
            rw [show nk0 mi + ((k - nk0 mi).toNat : Int) = k by omega]
        · refine w_con d_140_157 ?_
          refine w_zret d_140_158 rfl (by decide) ?_
          refine Or.inr ⟨opt_none (fun x hx => ?_), rfl, rfl⟩
          have hkd : 48 ≤ μ.2.2 57 (μ.1 46 24 + k) ∧ μ.2.2 57 (μ.1 46 24 + k) ≤ 57 := hdk
          have hd0 : 48 ≤ μ.2.2 57 (μ.1 46 24 + nk0 mi) ∧ μ.2.2 57 (μ.1 46 24 + nk0 mi) ≤ 57 := by
            by_cases hkk : k = nk0 mi
            · rw [← hkk]; exact hkd
            · exact hdg (nk0 mi) (by omega) (by omega)
          obtain ⟨x1, x2, x3⟩ := (nmb_iff hm hk0 (by omega) x).mp hx
          have hfalse : (mvl mi (fun i => μ.2.2 57 (μ.1 46 24 + i)) ((μ.1 46 25) - nk0 mi).toNat (nk0 mi) (true, 0, 0)).1 = false := by
            rw [show ((μ.1 46 25) - nk0 mi).toNat = (k - nk0 mi).toNat + (1 + ((μ.1 46 25) - k - 1).toNat) by omega, mvl_add, ← hc, mvl_add]
            refine mvl_false _ _ _ ?_
            show (mkd mi c (μ.2.2 57 (μ.1 46 24 + (nk0 mi + ((k - nk0 mi).toNat : Int))) - 48)).1 = false
            rw [show nk0 mi + ((k - nk0 mi).toNat : Int) = k by omega]
            unfold mkd
            rw [if_neg (fun z => by rw [if_pos z.2.2] at h154; cases h154)]
          rw [x2] at hfalse
          cases hfalse
theorem m_isNumber {sc : Nat × (Nat → Int32)} {fr lo : Nat} {μ : Mem} {ρ : Nat × Nat × Nat} (hr : 0 ≤ μ.1 46 24 ∧ 0 ≤ μ.1 46 25 ∧ μ.1 46 24 + μ.1 46 25 ≤ 720 ∧ μ.1 46 25 ≤ 240) (hw : ∀ i, 0 ≤ i → i < μ.1 46 25 → 32 ≤ μ.2.2 57 (μ.1 46 24 + i) ∧ μ.2.2 57 (μ.1 46 24 + i) ≤ 126) {v : Int} (hv : 256 ≤ v ∧ v < 384) (hs2 : 2 ≤ μ.1 46 25) (h50 : μ.2.2 50 v = 0) (hf : 6 ≤ fr) (hl : 200 ≤ lo) : w_S sc fr lo 140 [.ref 46, .int (ji v)] (hp μ, ρ) (fun o t' => (∃ x, (nmb (fun i => μ.2.2 57 (μ.1 46 24 + i)) 2 (μ.1 46 25)) = some x ∧ o = .inl (some (.int (ji 1))) ∧ t' = (hp (stA μ 50 v x), ρ)) ∨ ((nmb (fun i => μ.2.2 57 (μ.1 46 24 + i)) 2 (μ.1 46 25)) = none ∧ o = .inl (some (.int (ji 0))) ∧ t' = (hp μ, ρ))) := by
  refine w_S.of (L0 := [some (.ref 46), some (.int (ji v)), none, none, none, none, none, none]) rfl rfl (Nat.le_of_ble_eq_true rfl) (by rfl) ?_
  refine w_con d_140_0 ?_
  refine w_st1 (L' := [_, _, _, _, _, _, _, _]) d_140_1 rfl (by decide) rfl (by decide) rfl ?_
  refine w_ld d_140_2 rfl rfl rfl ?_
  refine w_gI d_140_3 (by rfl) (by first | rfl | assumption) (by rfl) (by (try simp only [Nat.reduceAdd]) <;> rfl) ?_
  refine w_con d_140_6 ?_
  refine w_icmp_le (g := 30) d_140_7 (by decide) (by omega) (fun h7 => ?_) (fun h7 => ?_)
  · refine w_con d_140_30 ?_
    refine w_st1 (L' := [_, _, _, _, _, _, _, _]) d_140_31 rfl (by decide) rfl (by decide) rfl ?_
    refine w_ld d_140_32 rfl rfl rfl ?_
    refine w_if_eq (g := 40) d_140_33 (by decide) (by decide) (fun h33 => ?_) (fun h33 => ?_)
    · refine w_con d_140_40 ?_
      refine w_st1 (L' := [_, _, _, _, _, _, _, _]) d_140_41 rfl (by decide) rfl (by decide) rfl ?_
      refine w_ld d_140_42 rfl rfl rfl ?_
      refine w_ld d_140_43 rfl rfl rfl ?_
      refine w_gI d_140_44 (by rfl) (by first | rfl | assumption) (by rfl) (by (try simp only [Nat.reduceAdd]) <;> rfl) ?_
      refine w_icmp_lt (g := 52) d_140_47 (by decide) (by omega) (fun h47 => ?_) (fun h47 => ?_)
      · exact absurd h47 (by omega)
      · refine w_con d_140_50 ?_
        refine w_zret d_140_51 rfl (by decide) ?_
        have hs1 : (scn (fun i => μ.2.2 57 (μ.1 46 24 + i)) 2 (μ.1 46 25)).1 = false := by
          unfold scn
          rw [if_neg (show ¬ (2 < μ.1 46 25 ∧ μ.2.2 57 (μ.1 46 24 + 2) = 45) from fun z => by omega), if_neg (show ¬ (2 < μ.1 46 25 ∧ 49 ≤ μ.2.2 57 (μ.1 46 24 + 2) ∧ μ.2.2 57 (μ.1 46 24 + 2) ≤ 57) from fun z => by omega), if_neg (show ¬ (2 < μ.1 46 25 ∧ μ.2.2 57 (μ.1 46 24 + 2) = 48) from fun z => by omega)]
        exact Or.inr ⟨(by unfold nmb; exact if_neg (fun z => by rw [hs1] at z; cases z.1)), rfl, rfl⟩
    · exact absurd rfl h33
  · refine w_ld d_140_10 rfl rfl rfl ?_
    refine w_getF d_140_11 (by rfl) (by first | rfl | assumption) (by rfl) (by rfl) ?_
    refine w_ld d_140_14 rfl rfl rfl ?_
    refine w_gI d_140_15 (by rfl) (by first | rfl | assumption) (by rfl) (by (try simp only [Nat.reduceAdd]) <;> rfl) ?_
    refine w_con d_140_18 ?_
    refine w_iadd d_140_19 ?_
    refine w_aI d_140_20 (by first | rfl | assumption) (by omega) (by (try simp only [Nat.reduceAdd]) <;> rfl) ?_
    refine w_bip d_140_21 (by decide) ?_
    refine w_icmp_ne (g := 30) d_140_23 (by decide) (by have := hw 2 (by omega) (by omega); omega) (fun h23 => ?_) (fun h23 => ?_)
    · refine w_con d_140_30 ?_
      refine w_st1 (L' := [_, _, _, _, _, _, _, _]) d_140_31 rfl (by decide) rfl (by decide) rfl ?_
      refine w_ld d_140_32 rfl rfl rfl ?_
      refine w_if_eq (g := 40) d_140_33 (by decide) (by decide) (fun h33 => ?_) (fun h33 => ?_)
      · refine w_con d_140_40 ?_
        refine w_st1 (L' := [_, _, _, _, _, _, _, _]) d_140_41 rfl (by decide) rfl (by decide) rfl ?_
        refine w_ld d_140_42 rfl rfl rfl ?_
        refine w_ld d_140_43 rfl rfl rfl ?_
        refine w_gI d_140_44 (by rfl) (by first | rfl | assumption) (by rfl) (by (try simp only [Nat.reduceAdd]) <;> rfl) ?_
        refine w_icmp_lt (g := 52) d_140_47 (by decide) (by omega) (fun h47 => ?_) (fun h47 => ?_)
        · refine w_ld d_140_52 rfl rfl rfl ?_
          refine w_getF d_140_53 (by rfl) (by first | rfl | assumption) (by rfl) (by rfl) ?_
          refine w_ld d_140_56 rfl rfl rfl ?_
          refine w_gI d_140_57 (by rfl) (by first | rfl | assumption) (by rfl) (by (try simp only [Nat.reduceAdd]) <;> rfl) ?_
          refine w_ld d_140_60 rfl rfl rfl ?_
          refine w_iadd d_140_61 ?_
          refine w_aI d_140_62 (by first | rfl | assumption) (by omega) (by (try simp only [Nat.reduceAdd]) <;> rfl) ?_
          refine w_bip d_140_63 (by decide) ?_
          refine w_icmp_ne (g := 72) d_140_65 (by decide) (by have := hw 2 (by omega) (by omega); omega) (fun h65 => ?_) (fun h65 => ?_)
          · refine w_con d_140_72 ?_
            refine w_st1 (L' := [_, _, _, _, _, _, _, _]) d_140_73 rfl (by decide) rfl (by decide) rfl ?_
            refine w_ld d_140_75 rfl rfl rfl ?_
            refine w_if_eq (g := 98) d_140_77 (by decide) (by decide) (fun h77 => ?_) (fun h77 => ?_)
            · refine w_ld d_140_98 rfl rfl rfl ?_
              refine w_gI d_140_99 (by rfl) (by first | rfl | assumption) (by rfl) (by (try simp only [Nat.reduceAdd]) <;> rfl) ?_
              refine w_ld d_140_102 rfl rfl rfl ?_
              refine w_isub d_140_103 ?_
              refine w_bip d_140_104 (by decide) ?_
              refine w_icmp_le (g := 111) d_140_106 (by decide) (by omega) (fun h106 => ?_) (fun h106 => ?_)
              · refine w_lcon0 d_140_111 ?_
                refine w_st2 (L' := [_, _, _, _, _, _, _, _]) d_140_112 rfl rfl (by decide) rfl ?_
                exact w_P.le (m_isNumber_l hr hw hv (mi := false) ⟨(fun z => by cases z), (fun z => absurd z.2 ((fun _ => h23) z))⟩ (by show 2 < _; omega) h65 (by show _ - 2 ≤ 19; omega) hf hl _ 2 (true, 0, 0) rfl (by show 2 ≤ (2 : Int) ∧ _; omega) (fun i i0 i1 => absurd (show (2 : Int) ≤ i from i0) (by omega)) (by rw [show ((2 : Int) - nk0 false).toNat = 0 from rfl]; rfl) rfl ⟨by show (_ : Int) ≤ 0; decide, Int.le_refl 0⟩ rfl) ⟨rfl, rfl, rfl, rfl, rfl, trivial⟩
              · refine w_con d_140_109 ?_
                refine w_zret d_140_110 rfl (by decide) ?_
                refine Or.inr ⟨opt_none (fun x hx => ?_), rfl, rfl⟩
                have hk0 : nk0 false < (μ.1 46 25) := by show 2 < _; omega
                by_cases hd0 : 49 ≤ μ.2.2 57 (μ.1 46 24 + 2) ∧ μ.2.2 57 (μ.1 46 24 + 2) ≤ 57
                · obtain ⟨x1, x2, x3⟩ := (nmb_iff (m := false) ⟨(fun z => by cases z), (fun z => absurd z.2 ((fun _ => h23) z))⟩ hk0 hd0 x).mp hx
                  have nr := (num_rel (m := false) (R := (fun i => μ.2.2 57 (μ.1 46 24 + i))) (to := (μ.1 46 25)) (p := 2) (by omega) hd0).1
                  have x1 : dru (fun i => μ.2.2 57 (μ.1 46 24 + i)) (μ.1 46 25) 2 = (μ.1 46 25) := x1
                  rw [x1] at nr
                  have x2 : (mvl false (fun i => μ.2.2 57 (μ.1 46 24 + i)) ((μ.1 46 25) - 2).toNat 2 (true, 0, 0)).1 = true := x2
                  have := nr.2.2.2.2.2.2 (nr.2.1.mp x2).1
                  omega
                · have hs1 : (scn (fun i => μ.2.2 57 (μ.1 46 24 + i)) 2 (μ.1 46 25)).1 = false := by
                    unfold scn
                    rw [if_neg (show ¬ (2 < μ.1 46 25 ∧ μ.2.2 57 (μ.1 46 24 + 2) = 45) from fun z => (fun _ => h23) z z.2), if_neg (fun z => hd0 z.2), if_neg (fun z => h65 (show μ.2.2 57 (μ.1 46 24 + 2) = 48 from z.2))]
                  unfold nmb at hx
                  rw [if_neg (fun z => by rw [hs1] at z; cases z.1)] at hx
                  cases hx
            · exact absurd rfl h77
          · refine w_con d_140_68 ?_
            refine w_goto (g := 73) d_140_69 (by decide) ?_
            refine w_st1 (L' := [_, _, _, _, _, _, _, _]) d_140_73 rfl (by decide) rfl (by decide) rfl ?_
            refine w_ld d_140_75 rfl rfl rfl ?_
            refine w_if_eq (g := 98) d_140_77 (by decide) (by decide) (fun h77 => ?_) (fun h77 => ?_)
            · exact absurd h77 (by decide)
            · refine w_ld d_140_80 rfl rfl rfl ?_
              refine w_if_ne (g := 96) d_140_81 (by decide) (by decide) (fun h81 => ?_) (fun h81 => ?_)
              · exact absurd rfl h81
              · refine w_ld d_140_84 rfl rfl rfl ?_
                refine w_gI d_140_85 (by rfl) (by first | rfl | assumption) (by rfl) (by (try simp only [Nat.reduceAdd]) <;> rfl) ?_
                refine w_con d_140_88 ?_
                refine w_icmp_ne (g := 96) d_140_89 (by decide) (by omega) (fun h89 => ?_) (fun h89 => ?_)
                · refine w_con d_140_96 ?_
                  refine w_zret d_140_97 rfl (by decide) ?_
                  refine Or.inr ⟨?_, rfl, rfl⟩
                  have e : scn (fun i => μ.2.2 57 (μ.1 46 24 + i)) 2 (μ.1 46 25) = (true, 2 + 1, true, 0) := by
                    unfold scn
                    rw [if_neg (show ¬ (2 < μ.1 46 25 ∧ μ.2.2 57 (μ.1 46 24 + 2) = 45) from fun z => (fun _ => h23) z z.2), if_neg (show ¬ (2 < μ.1 46 25 ∧ 49 ≤ μ.2.2 57 (μ.1 46 24 + 2) ∧ μ.2.2 57 (μ.1 46 24 + 2) ≤ 57) by omega), if_pos (show 2 < μ.1 46 25 ∧ μ.2.2 57 (μ.1 46 24 + 2) = 48 from ⟨by omega, h65⟩)]
                  unfold nmb
                  rw [e, if_neg (fun z => h89 z.2.2.symm)]
                · refine w_con d_140_92 ?_
                  refine w_goto (g := 97) d_140_93 (by decide) ?_
                  refine w_zret d_140_97 rfl (by decide) ?_
                  refine Or.inl ⟨0, ?_, rfl, ?_⟩
                  · have e : scn (fun i => μ.2.2 57 (μ.1 46 24 + i)) 2 (μ.1 46 25) = (true, 2 + 1, true, 0) := by
                      unfold scn
                      rw [if_neg (show ¬ (2 < μ.1 46 25 ∧ μ.2.2 57 (μ.1 46 24 + 2) = 45) from fun z => (fun _ => h23) z z.2), if_neg (show ¬ (2 < μ.1 46 25 ∧ 49 ≤ μ.2.2 57 (μ.1 46 24 + 2) ∧ μ.2.2 57 (μ.1 46 24 + 2) ≤ 57) by omega), if_pos (show 2 < μ.1 46 25 ∧ μ.2.2 57 (μ.1 46 24 + 2) = 48 from ⟨by omega, h65⟩)]
                    unfold nmb
                    rw [e, if_pos ⟨rfl, rfl, h89.symm⟩]
                  · rw [← h50, stA_self]
        · exact absurd h47 (by omega)
      · exact absurd rfl h33
    · refine w_con d_140_26 ?_
      refine w_goto (g := 31) d_140_27 (by decide) ?_
      refine w_st1 (L' := [_, _, _, _, _, _, _, _]) d_140_31 rfl (by decide) rfl (by decide) rfl ?_
      refine w_ld d_140_32 rfl rfl rfl ?_
      refine w_if_eq (g := 40) d_140_33 (by decide) (by decide) (fun h33 => ?_) (fun h33 => ?_)
      · exact absurd h33 (by decide)
      · refine w_con d_140_36 ?_
        refine w_goto (g := 41) d_140_37 (by decide) ?_
        refine w_st1 (L' := [_, _, _, _, _, _, _, _]) d_140_41 rfl (by decide) rfl (by decide) rfl ?_
        refine w_ld d_140_42 rfl rfl rfl ?_
        refine w_ld d_140_43 rfl rfl rfl ?_
        refine w_gI d_140_44 (by rfl) (by first | rfl | assumption) (by rfl) (by (try simp only [Nat.reduceAdd]) <;> rfl) ?_
        refine w_icmp_lt (g := 52) d_140_47 (by decide) (by omega) (fun h47 => ?_) (fun h47 => ?_)
        · refine w_ld d_140_52 rfl rfl rfl ?_
          refine w_getF d_140_53 (by rfl) (by first | rfl | assumption) (by rfl) (by rfl) ?_
          refine w_ld d_140_56 rfl rfl rfl ?_
          refine w_gI d_140_57 (by rfl) (by first | rfl | assumption) (by rfl) (by (try simp only [Nat.reduceAdd]) <;> rfl) ?_
          refine w_ld d_140_60 rfl rfl rfl ?_
          refine w_iadd d_140_61 ?_
          refine w_aI d_140_62 (by first | rfl | assumption) (by omega) (by (try simp only [Nat.reduceAdd]) <;> rfl) ?_
          refine w_bip d_140_63 (by decide) ?_
          refine w_icmp_ne (g := 72) d_140_65 (by decide) (by have := hw 3 (by omega) (by omega); omega) (fun h65 => ?_) (fun h65 => ?_)
          · refine w_con d_140_72 ?_
            refine w_st1 (L' := [_, _, _, _, _, _, _, _]) d_140_73 rfl (by decide) rfl (by decide) rfl ?_
            refine w_ld d_140_75 rfl rfl rfl ?_
            refine w_if_eq (g := 98) d_140_77 (by decide) (by decide) (fun h77 => ?_) (fun h77 => ?_)
            · refine w_ld d_140_98 rfl rfl rfl ?_
              refine w_gI d_140_99 (by rfl) (by first | rfl | assumption) (by rfl) (by (try simp only [Nat.reduceAdd]) <;> rfl) ?_
              refine w_ld d_140_102 rfl rfl rfl ?_
              refine w_isub d_140_103 ?_
              refine w_bip d_140_104 (by decide) ?_
              refine w_icmp_le (g := 111) d_140_106 (by decide) (by omega) (fun h106 => ?_) (fun h106 => ?_)
              · refine w_lcon0 d_140_111 ?_
                refine w_st2 (L' := [_, _, _, _, _, _, _, _]) d_140_112 rfl rfl (by decide) rfl ?_
                exact w_P.le (m_isNumber_l hr hw hv (mi := true) ⟨fun _ => ⟨by omega, h23⟩, fun _ => rfl⟩ (by show 3 < _; omega) h65 (by show _ - 3 ≤ 19; omega) hf hl _ 3 (true, 0, 0) rfl (by show 3 ≤ (3 : Int) ∧ _; omega) (fun i i0 i1 => absurd (show (3 : Int) ≤ i from i0) (by omega)) (by rw [show ((3 : Int) - nk0 true).toNat = 0 from rfl]; rfl) rfl ⟨by show (_ : Int) ≤ 0; decide, Int.le_refl 0⟩ rfl) ⟨rfl, rfl, rfl, rfl, rfl, trivial⟩
              · refine w_con d_140_109 ?_
                refine w_zret d_140_110 rfl (by decide) ?_
                refine Or.inr ⟨opt_none (fun x hx => ?_), rfl, rfl⟩
                have hk0 : nk0 true < (μ.1 46 25) := by show 3 < _; omega
                by_cases hd0 : 49 ≤ μ.2.2 57 (μ.1 46 24 + 3) ∧ μ.2.2 57 (μ.1 46 24 + 3) ≤ 57
                · obtain ⟨x1, x2, x3⟩ := (nmb_iff (m := true) ⟨fun _ => ⟨by omega, h23⟩, fun _ => rfl⟩ hk0 hd0 x).mp hx
                  have nr := (num_rel (m := true) (R := (fun i => μ.2.2 57 (μ.1 46 24 + i))) (to := (μ.1 46 25)) (p := 3) (by omega) hd0).1
                  have x1 : dru (fun i => μ.2.2 57 (μ.1 46 24 + i)) (μ.1 46 25) 3 = (μ.1 46 25) := x1
                  rw [x1] at nr
                  have x2 : (mvl true (fun i => μ.2.2 57 (μ.1 46 24 + i)) ((μ.1 46 25) - 3).toNat 3 (true, 0, 0)).1 = true := x2
                  have := nr.2.2.2.2.2.2 (nr.2.1.mp x2).1
                  omega
                · have hs1 : (scn (fun i => μ.2.2 57 (μ.1 46 24 + i)) 2 (μ.1 46 25)).1 = false := by
                    unfold scn
                    rw [if_pos (show 2 < μ.1 46 25 ∧ μ.2.2 57 (μ.1 46 24 + 2) = 45 from ⟨by omega, h23⟩), if_neg (fun z => hd0 z.2)]
                  unfold nmb at hx
                  rw [if_neg (fun z => by rw [hs1] at z; cases z.1)] at hx
                  cases hx
            · exact absurd rfl h77
          · refine w_con d_140_68 ?_
            refine w_goto (g := 73) d_140_69 (by decide) ?_
            refine w_st1 (L' := [_, _, _, _, _, _, _, _]) d_140_73 rfl (by decide) rfl (by decide) rfl ?_
            refine w_ld d_140_75 rfl rfl rfl ?_
            refine w_if_eq (g := 98) d_140_77 (by decide) (by decide) (fun h77 => ?_) (fun h77 => ?_)
            · exact absurd h77 (by decide)
            · refine w_ld d_140_80 rfl rfl rfl ?_
              refine w_if_ne (g := 96) d_140_81 (by decide) (by decide) (fun h81 => ?_) (fun h81 => ?_)
              · refine w_con d_140_96 ?_
                refine w_zret d_140_97 rfl (by decide) ?_
                have hs1 : (scn (fun i => μ.2.2 57 (μ.1 46 24 + i)) 2 (μ.1 46 25)).1 = false := by
                  unfold scn
                  rw [if_pos (show 2 < μ.1 46 25 ∧ μ.2.2 57 (μ.1 46 24 + 2) = 45 from ⟨by omega, h23⟩), if_neg (show ¬ (2 + 1 < μ.1 46 25 ∧ 49 ≤ μ.2.2 57 (μ.1 46 24 + (2 + 1)) ∧ μ.2.2 57 (μ.1 46 24 + (2 + 1)) ≤ 57) from fun z => by have h65 : μ.2.2 57 (μ.1 46 24 + (2 + 1)) = 48 := h65; omega)]
                exact Or.inr ⟨(by unfold nmb; exact if_neg (fun z => by rw [hs1] at z; cases z.1)), rfl, rfl⟩
              · exact absurd h81 (by decide)
        · refine w_con d_140_50 ?_
          refine w_zret d_140_51 rfl (by decide) ?_
          have hs1 : (scn (fun i => μ.2.2 57 (μ.1 46 24 + i)) 2 (μ.1 46 25)).1 = false := by
            unfold scn
            rw [if_pos (show 2 < μ.1 46 25 ∧ μ.2.2 57 (μ.1 46 24 + 2) = 45 from ⟨by omega, h23⟩), if_neg (show ¬ (2 + 1 < μ.1 46 25 ∧ 49 ≤ μ.2.2 57 (μ.1 46 24 + (2 + 1)) ∧ μ.2.2 57 (μ.1 46 24 + (2 + 1)) ≤ 57) from fun z => by omega)]
          exact Or.inr ⟨(by unfold nmb; exact if_neg (fun z => by rw [hs1] at z; cases z.1)), rfl, rfl⟩
