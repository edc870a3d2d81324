/-! THE PURE PART, 26: contracts: which values of two trees are same -/
theorem b01_in (P : Prop) : -2147483648 ≤ b01 P ∧ b01 P < 2147483648 := by
  rcases b01_01 P with h | h <;> rw [h] <;> decide
theorem b01_ne {P : Prop} (h : ¬ b01 P = 0) : P := Classical.byContradiction fun z => h (b01_f z)
theorem b01_eq {P : Prop} (h : b01 P = 0) : ¬ P := fun z => by rw [b01_t z] at h; cases h
section RM
variable {sc : Nat × (Nat → Int32)} {fr lo y own nL : Nat} {cons : Bool} {ret : Option FieldType} {cc : ByteArray} {pc : Nat} {L L' : List (Option Value)} {st : List Value} {τ τ' : z_T} {μ : Mem} {ρ ρ' : Nat × Nat × Nat} {Q : z_O → z_T → Prop}
/-- a call that answers some int; one that leaves some memory -/
theorem w_cVr {y' ci na maxL i a : Nat} {tys : List Nat} {as rest : List Value} {P : Int → Prop} (hh : zt_hs y = false) (hd : decode cc pc = .ok (.invokevirtual i, 3)) (hi : zt_v own i = some y') (hm : zt_meth y' = some (1, ci, na, maxL)) (hs : sh a = some (.inl (ci, tys))) (hst : (Value.ref a :: as).reverse ++ rest = st) (hna : (Value.ref a :: as).length = na) (hrest : (rest.map fun v => v.category).sum ≤ 8) (hfr : 1 ≤ fr) (hlo : 19 + maxL ≤ lo)
    (h : w_S sc (fr - 1) (lo - (19 + maxL)) y' (.ref a :: as) (hp μ, ρ) (fun o t => ∃ r : Int, o = .inl (some (.int (ji r))) ∧ P r ∧ t = τ')) (k : ∀ r, P r → w_P sc fr lo y own nL cons ret cc (pc + 3) L (.int (ji r) :: rest) τ' Q) : w_P sc fr lo y own nL cons ret cc pc L st (hp μ, ρ) Q :=
  w_cal hh hd rfl rfl hi hm hst hna hrest hfr hlo (fun _ => z_recv_o hs) (fun z => by cases z) (fun z => by cases z) (h.mono (by
    rintro o t ⟨r, rfl, h1, rfl⟩
    exact k r h1))
theorem w_cVm {y' ci na maxL i a : Nat} {tys : List Nat} {as rest : List Value} {P : Mem → Prop} (hh : zt_hs y = false) (hd : decode cc pc = .ok (.invokevirtual i, 3)) (hi : zt_v own i = some y') (hm : zt_meth y' = some (1, ci, na, maxL)) (hs : sh a = some (.inl (ci, tys))) (hst : (Value.ref a :: as).reverse ++ rest = st) (hna : (Value.ref a :: as).length = na) (hrest : (rest.map fun v => v.category).sum ≤ 8) (hfr : 1 ≤ fr) (hlo : 19 + maxL ≤ lo)
    (h : w_S sc (fr - 1) (lo - (19 + maxL)) y' (.ref a :: as) (hp μ, ρ) (fun o t => ∃ μ' : Mem, o = .inl none ∧ P μ' ∧ t = (hp μ', ρ'))) (k : ∀ μ', P μ' → w_P sc fr lo y own nL cons ret cc (pc + 3) L rest (hp μ', ρ') Q) : w_P sc fr lo y own nL cons ret cc pc L st (hp μ, ρ) Q :=
  w_cal hh hd rfl rfl hi hm hst hna hrest hfr hlo (fun _ => z_recv_o hs) (fun z => by cases z) (fun z => by cases z) (h.mono (by
    rintro o t ⟨r, rfl, h1, rfl⟩
    exact k r h1))
end RM
/-- a tree's rows -/
def vT (μ : Mem) (t : Nat) : View := (μ.2.2 (t + 1), μ.2.2 (t + 2), μ.2.2 (t + 5), μ.2.2 (t + 6), μ.2.2 (t + 4), fun k x => μ.2.2 (t + 7 + 1) (μ.2.2 (t + 3) k + x))
/-- the rows lo to hi of a tree are whole -/
def rok (μ : Mem) (t : Nat) (lo hi : Int) : Prop := (0 ≤ lo ∧ hi ≤ 240 ∧ 0 ≤ μ.1 (t + 7) 1 ∧ μ.1 (t + 7) 1 ≤ 240) ∧ ∀ k, lo ≤ k → k < hi → (0 ≤ μ.2.2 (t + 1) k ∧ μ.2.2 (t + 1) k ≤ 12) ∧ (-9223372036854775808 ≤ μ.2.2 (t + 2) k ∧ μ.2.2 (t + 2) k < 9223372036854775808) ∧ (0 ≤ μ.2.2 (t + 5) k ∧ μ.2.2 (t + 5) k ≤ 240) ∧ (k < μ.2.2 (t + 6) k ∧ μ.2.2 (t + 6) k ≤ hi ∧ ∀ m, k ≤ m → m < μ.2.2 (t + 6) k → μ.2.2 (t + 6) m ≤ μ.2.2 (t + 6) k) ∧ (0 ≤ μ.2.2 (t + 3) k ∧ 0 ≤ μ.2.2 (t + 4) k ∧ μ.2.2 (t + 3) k + μ.2.2 (t + 4) k ≤ μ.1 (t + 7) 1) ∧ ∀ n : Nat, (n : Int) < μ.2.2 (t + 5) k → k < pt (vT μ t) k n ∧ pt (vT μ t) k n < μ.2.2 (t + 6) k
theorem rok.prt {μ : Mem} {t : Nat} {lo hi : Int} (h : rok μ t lo hi) {k : Int} (hk : lo ≤ k ∧ k < hi) {n : Nat} (hn : (n : Int) < μ.2.2 (t + 5) k) : (lo ≤ pt (vT μ t) k n ∧ pt (vT μ t) k n < hi) ∧ 0 ≤ pt (vT μ t) k n ∧ pt (vT μ t) k n < 240 := by
  have h1 := h.1
  have h2 := (h.2 k hk.1 hk.2).2.2.2.2.2 n hn
  have h3 := (h.2 k hk.1 hk.2).2.2.2.1
  omega
theorem rok.prt2 {μ : Mem} {t : Nat} {lo hi : Int} (h : rok μ t lo hi) {k : Int} (hk : lo ≤ k ∧ k < hi) {n : Nat} (hn : (n : Int) ≤ μ.2.2 (t + 5) k) : 0 ≤ pt (vT μ t) k n ∧ pt (vT μ t) k n ≤ 240 := by
  have h1 := h.1
  cases n with
  | zero => show 0 ≤ k + 1 ∧ k + 1 ≤ 240; omega
  | succ n =>
    have h2 := h.prt hk (n := n) (by omega)
    have h3 := (h.2 _ h2.1.1 h2.1.2).2.2.2.1
    show 0 ≤ μ.2.2 (t + 6) (pt (vT μ t) k n) ∧ μ.2.2 (t + 6) (pt (vT μ t) k n) ≤ 240
    omega
/-- of the parts (or keys and values) of i, the n-th is found in j -/
def anyc (d : Nat) (A B : View) (i j : Int) (s : Nat) (p : Int) (n : Nat) : Prop := ∃ m : Nat, ((s * m : Nat) : Int) < B.2.2.1 j ∧ al d A (pt A i (s * n)) B (pt B j (s * m)) ∧ (p = 1 → al d A (pt A i (s * n + 1)) B (pt B j (s * m + 1)))
theorem st_next {s : Nat} {p P : Int} {q : Nat} (hs : p = 0 ∧ s = 1 ∨ p = 1 ∧ s = 2) (hev : p = 1 → P % 2 = 0) (h : ((s * q : Nat) : Int) < P) : ((s * (q + 1) : Nat) : Int) ≤ P := by
  rcases hs with ⟨z, rfl⟩ | ⟨z, rfl⟩
  · omega
  · have := hev z
    omega
theorem st_lt {s : Nat} {p P : Int} {q m : Nat} (hs : p = 0 ∧ s = 1 ∨ p = 1 ∧ s = 2) (h : ((s * m : Nat) : Int) < P) (h2 : P ≤ ((s * q : Nat) : Int)) : m < q := by
  rcases hs with ⟨z, rfl⟩ | ⟨z, rfl⟩ <;> omega
theorem st_m {s : Nat} {p P : Int} {q : Nat} (hs : p = 0 ∧ s = 1 ∨ p = 1 ∧ s = 2) (h : ((s * q : Nat) : Int) < P) : (P - ((q + 1 : Nat) : Int)).toNat < (P - (q : Int)).toNat := by
  rcases hs with ⟨z, rfl⟩ | ⟨z, rfl⟩ <;> omega
theorem st_add {s : Nat} {q : Nat} : ((s * q : Nat) : Int) + (s : Int) = ((s * (q + 1) : Nat) : Int) := by
  rw [Nat.mul_add, Nat.mul_one]
  omega
theorem stI_ne {μ : Mem} {a k b m : Nat} {v : Int} (h : ¬ (b = a ∧ m = k)) : (stI μ a k v).1 b m = μ.1 b m := if_neg h
theorem stA_o2 {μ : Mem} {a b : Nat} {i v : Int} (h : b ≠ a) : (stA μ a i v).2.2 b = μ.2.2 b := by
  funext m
  exact if_neg (fun z => h z.1)
theorem t_behindp {sc : Nat × (Nat → Int32)} {fr lo : Nat} {μ : Mem} {ρ : Nat × Nat × Nat} {t : Nat} (hT : isT t) {l1 u1 : Int} (h1 : rok μ t l1 u1) {i : Int} (hi : l1 ≤ i ∧ i < u1) {s : Nat} {p : Int} (hs : p = 0 ∧ s = 1 ∨ p = 1 ∧ s = 2) (hev : p = 1 → μ.2.2 (t + 5) i % 2 = 0) {n : Nat} (hn : ((s * n : Nat) : Int) < μ.2.2 (t + 5) i) : w_E sc fr lo 20 [.ref t, .int (ji (pt (vT μ t) i (s * n))), .int (ji p)] (hp μ, ρ) (.inl (some (.int (ji (pt (vT μ t) i (s * (n + 1))))))) (hp μ, ρ) := by
  have hp1 := h1.prt hi hn
  rcases hs with ⟨rfl, rfl⟩ | ⟨rfl, rfl⟩
  · have e := t_behind (sc := sc) (fr := fr) (lo := lo) (μ := μ) (ρ := ρ) hT (k := pt (vT μ t) i (1 * n)) (p := 0) hp1.2 (Or.inl rfl) (fun z => by cases z)
    rw [if_pos rfl] at e
    rw [show 1 * (n + 1) = 1 * n + 1 by omega]
    exact e
  · have := hev rfl
    have hp2 := h1.prt hi (n := 2 * n + 1) (by omega)
    have e := t_behind (sc := sc) (fr := fr) (lo := lo) (μ := μ) (ρ := ρ) hT (k := pt (vT μ t) i (2 * n)) (p := 1) hp1.2 (Or.inr rfl) (fun _ => hp2.2)
    rw [if_neg (by decide)] at e
    rw [show 2 * (n + 1) = 2 * n + 1 + 1 by omega]
    exact e
theorem t_ino_l {sc : Nat × (Nat → Int32)} {fr lo : Nat} {μ : Mem} {ρ : Nat × Nat × Nat} {t u : Nat} (hT : isT t) (hU : isT u) {l1 u1 l2 u2 : Int} (h1 : rok μ t l1 u1) (h2 : rok μ u l2 u2) {d : Nat} {e : Int} (he : 0 ≤ e ∧ e ≤ 10) {i j : Int} (hi : l1 ≤ i ∧ i < u1) (hj : l2 ≤ j ∧ j < u2) (hPP : μ.2.2 (t + 5) i = μ.2.2 (u + 5) j) (oi : okv (d + 1) (vT μ t) i) (oj : okv (d + 1) (vT μ u) j) (ihA : ∀ (x y : Int), l1 ≤ x ∧ x < u1 → l2 ≤ y ∧ y < u2 → okv d (vT μ t) x → okv d (vT μ u) y → w_E sc (fr - 1) (lo - (19 + 5)) 16 [.ref t, .int (ji x), .ref u, .int (ji y), .int (ji e)] (hp μ, ρ) (.inl (some (.int (ji (b01 (al d (vT μ t) x (vT μ u) y)))))) (hp μ, ρ)) (hf : 1 ≤ fr) (hl : 60 ≤ lo) : ∀ (m : Nat) (q : Nat), (μ.2.2 (t + 5) i - q).toNat = m → (q : Int) ≤ μ.2.2 (t + 5) i → (∀ n : Nat, n < q → al d (vT μ t) (pt (vT μ t) i n) (vT μ u) (pt (vT μ u) j n)) → w_P sc fr lo 21 2 8 false ((some FieldType.boolean)) prog_6_method_12_code 13 [some (.ref t), some (.int (ji i)), some (.ref u), some (.int (ji j)), some (.int (ji e)), some (.int (ji (pt (vT μ t) i q))), some (.int (ji (pt (vT μ u) j q))), some (.int (ji (q : Int)))] [] (hp (μ), ρ) (fun o t' => o = .inl (some (.int (ji (b01 (∀ n : Nat, (n : Int) < μ.2.2 (t + 5) i → al d (vT μ t) (pt (vT μ t) i n) (vT μ u) (pt (vT μ u) j n)))))) ∧ t' = (hp μ, ρ)) := by
  intro m
  induction m using Nat.strongRecOn with
  | ind m ih =>
    intro q hm hq hqs
    obtain ⟨hT0, hT1, hT2, hT3, hT4, hT5, hT6, hT7, hT8⟩ := hT.sh
    obtain ⟨hU0, hU1, hU2, hU3, hU4, hU5, hU6, hU7, hU8⟩ := hU.sh
    have g1 := h1.1
    have g2 := h2.1
    have g3 := h1.2 i hi.1 hi.2
    have g4 := h2.2 j hj.1 hj.2
    refine w_ld d_21_13 rfl rfl rfl ?_
    refine w_ld d_21_15 rfl rfl rfl ?_
    refine w_getF d_21_16 (by rfl) (by first | rfl | assumption) (by rfl) (by rfl) ?_
    refine w_ld d_21_19 rfl rfl rfl ?_
    refine w_aI d_21_20 (by first | rfl | assumption) (by omega) (by (try simp [stI, stA, stR]) <;> rfl) ?_
    refine w_icmp_ge (g := 64) d_21_21 (by decide) (by omega) (fun h21 => ?_) (fun h21 => ?_)
    · refine w_con d_21_64 ?_
      refine w_zret d_21_65 rfl (by omega) ?_
      rw [b01_t (fun n hn => hqs n (by omega))]
      exact ⟨rfl, rfl⟩
    · have p1 := h1.prt hi h21
      have p2 := h2.prt hj (n := q) (by omega)
      refine w_ld d_21_24 rfl rfl rfl ?_
      refine w_ld d_21_25 rfl rfl rfl ?_
      refine w_ld d_21_27 rfl rfl rfl ?_
      refine w_ld d_21_28 rfl rfl rfl ?_
      refine w_ld d_21_30 rfl rfl rfl ?_
      refine w_cS1 (as := [_, _, _, _, _]) (rest := _) rfl d_21_32 (by rfl) (by rfl) (by rfl) (by rfl) (Nat.le_of_ble_eq_true rfl) (by omega) (by omega) (ihA _ _ p1.1 p2.1 (oi.2.2.1 q h21) (oj.2.2.1 q (by show (q : Int) < μ.2.2 (u + 5) j; omega))) ?_
      refine w_if_ne (g := 40) d_21_35 (by decide) (b01_in _) (fun h35 => ?_) (fun h35 => ?_)
      · refine w_ld d_21_40 rfl rfl rfl ?_
        refine w_getF d_21_41 (by rfl) (by first | rfl | assumption) (by rfl) (by rfl) ?_
        refine w_ld d_21_44 rfl rfl rfl ?_
        refine w_aI d_21_46 (by first | rfl | assumption) (by omega) (by (try simp [stI, stA, stR]) <;> rfl) ?_
        refine w_st1 (L' := [_, _, _, _, _, _, _, _]) d_21_47 rfl (by decide) rfl (by decide) rfl ?_
        refine w_ld d_21_49 rfl rfl rfl ?_
        refine w_getF d_21_50 (by rfl) (by first | rfl | assumption) (by rfl) (by rfl) ?_
        refine w_ld d_21_53 rfl rfl rfl ?_
        refine w_aI d_21_55 (by first | rfl | assumption) (by omega) (by (try simp [stI, stA, stR]) <;> rfl) ?_
        refine w_st1 (L' := [_, _, _, _, _, _, _, _]) d_21_56 rfl (by decide) rfl (by decide) rfl ?_
        refine w_inc (L' := [_, _, _, _, _, _, _, _]) d_21_58 rfl (by decide) rfl ?_
        refine w_goto (g := 13) d_21_61 (by decide) ?_
        exact ih _ (by omega) (q + 1) rfl (by omega) (fun n hn => by
          by_cases hq : n = q
          · rw [hq]; exact b01_ne h35
          · exact hqs n (by omega))
      · refine w_con d_21_38 ?_
        refine w_zret d_21_39 rfl (by omega) ?_
        rw [b01_f (fun z => b01_eq h35 (z q h21))]
        exact ⟨rfl, rfl⟩
theorem t_ino {sc : Nat × (Nat → Int32)} {fr lo : Nat} {μ : Mem} {ρ : Nat × Nat × Nat} {t u : Nat} (hT : isT t) (hU : isT u) {l1 u1 l2 u2 : Int} (h1 : rok μ t l1 u1) (h2 : rok μ u l2 u2) {d : Nat} {e : Int} (he : 0 ≤ e ∧ e ≤ 10) {i j : Int} (hi : l1 ≤ i ∧ i < u1) (hj : l2 ≤ j ∧ j < u2) (hPP : μ.2.2 (t + 5) i = μ.2.2 (u + 5) j) (oi : okv (d + 1) (vT μ t) i) (oj : okv (d + 1) (vT μ u) j) (ihA : ∀ (x y : Int), l1 ≤ x ∧ x < u1 → l2 ≤ y ∧ y < u2 → okv d (vT μ t) x → okv d (vT μ u) y → w_E sc (fr - 1) (lo - (19 + 5)) 16 [.ref t, .int (ji x), .ref u, .int (ji y), .int (ji e)] (hp μ, ρ) (.inl (some (.int (ji (b01 (al d (vT μ t) x (vT μ u) y)))))) (hp μ, ρ)) (hf : 1 ≤ fr) (hl : 60 ≤ lo) : w_E sc fr lo 21 [.ref t, .int (ji i), .ref u, .int (ji j), .int (ji e)] (hp μ, ρ) (.inl (some (.int (ji (b01 (∀ n : Nat, (n : Int) < μ.2.2 (t + 5) i → al d (vT μ t) (pt (vT μ t) i n) (vT μ u) (pt (vT μ u) j n))))))) (hp μ, ρ) := by
  obtain ⟨hT0, hT1, hT2, hT3, hT4, hT5, hT6, hT7, hT8⟩ := hT.sh
  obtain ⟨hU0, hU1, hU2, hU3, hU4, hU5, hU6, hU7, hU8⟩ := hU.sh
  have g1 := h1.1
  have g2 := h2.1
  have g3 := h1.2 i hi.1 hi.2
  have g4 := h2.2 j hj.1 hj.2
  refine w_S.of (L0 := [some (.ref t), some (.int (ji i)), some (.ref u), some (.int (ji j)), some (.int (ji e)), none, none, none]) rfl rfl (Nat.le_of_ble_eq_true rfl) (by rfl) ?_
  refine w_ld d_21_0 rfl rfl rfl ?_
  refine w_con d_21_1 ?_
  refine w_iadd d_21_2 ?_
  refine w_st1 (L' := [_, _, _, _, _, _, _, _]) d_21_3 rfl (by decide) rfl (by decide) rfl ?_
  refine w_ld d_21_5 rfl rfl rfl ?_
  refine w_con d_21_6 ?_
  refine w_iadd d_21_7 ?_
  refine w_st1 (L' := [_, _, _, _, _, _, _, _]) d_21_8 rfl (by decide) rfl (by decide) rfl ?_
  refine w_con d_21_10 ?_
  refine w_st1 (L' := [_, _, _, _, _, _, _, _]) d_21_11 rfl (by decide) rfl (by decide) rfl ?_
  exact t_ino_l hT hU h1 h2 he hi hj hPP oi oj ihA hf hl _ 0 rfl (by show (0 : Int) ≤ _; omega) (fun n hn => absurd hn (Nat.not_lt_zero n))
theorem t_any_m {sc : Nat × (Nat → Int32)} {fr lo : Nat} {μ : Mem} {ρ : Nat × Nat × Nat} {t u : Nat} (hT : isT t) (hU : isT u) {l1 u1 l2 u2 : Int} (h1 : rok μ t l1 u1) (h2 : rok μ u l2 u2) {d : Nat} {e : Int} (he : 0 ≤ e ∧ e ≤ 10) {i j : Int} (hi : l1 ≤ i ∧ i < u1) (hj : l2 ≤ j ∧ j < u2) (hPP : μ.2.2 (t + 5) i = μ.2.2 (u + 5) j) (oi : okv (d + 1) (vT μ t) i) (oj : okv (d + 1) (vT μ u) j) (ihA : ∀ (x y : Int), l1 ≤ x ∧ x < u1 → l2 ≤ y ∧ y < u2 → okv d (vT μ t) x → okv d (vT μ u) y → w_E sc (fr - 1) (lo - (19 + 5)) 16 [.ref t, .int (ji x), .ref u, .int (ji y), .int (ji e)] (hp μ, ρ) (.inl (some (.int (ji (b01 (al d (vT μ t) x (vT μ u) y)))))) (hp μ, ρ)) (hf : 1 ≤ fr) (hl : 60 ≤ lo) {s : Nat} {p : Int} (hs : p = 0 ∧ s = 1 ∨ p = 1 ∧ s = 2) (hev : p = 1 → μ.2.2 (t + 5) i % 2 = 0) (huq : ∀ m m2 : Nat, ((s * m : Nat) : Int) < μ.2.2 (u + 5) j → ((s * m2 : Nat) : Int) < μ.2.2 (u + 5) j → ∀ x, al d (vT μ t) x (vT μ u) (pt (vT μ u) j (s * m)) → okv d (vT μ t) x → al d (vT μ t) x (vT μ u) (pt (vT μ u) j (s * m2)) → m = m2) {Q : z_O → z_T → Prop} {n : Nat} (hn : ((s * n : Nat) : Int) < μ.2.2 (t + 5) i) (kT : anyc d (vT μ t) (vT μ u) i j s p n → w_P sc fr lo 19 2 11 false ((some FieldType.boolean)) prog_6_method_13_code 20 [some (.ref t), some (.int (ji i)), some (.ref u), some (.int (ji j)), some (.int (ji p)), some (.int (ji e)), some (.int (ji (s : Int))), some (.int (ji (pt (vT μ t) i (s * (n + 1))))), some (.int (ji ((s * (n + 1) : Nat) : Int))), none, none] [] (hp μ, ρ) Q) (kF : ¬ anyc d (vT μ t) (vT μ u) i j s p n → Q (.inl (some (.int (ji 0)))) (hp μ, ρ)) : ∀ (m : Nat) (q : Nat), (μ.2.2 (u + 5) j - q).toNat = m → ((s * q : Nat) : Int) ≤ μ.2.2 (u + 5) j → (∀ m : Nat, m < q → ¬ al d (vT μ t) (pt (vT μ t) i (s * n)) (vT μ u) (pt (vT μ u) j (s * m))) → w_P sc fr lo 19 2 11 false ((some FieldType.boolean)) prog_6_method_13_code 39 [some (.ref t), some (.int (ji i)), some (.ref u), some (.int (ji j)), some (.int (ji p)), some (.int (ji e)), some (.int (ji (s : Int))), some (.int (ji (pt (vT μ t) i (s * n)))), some (.int (ji ((s * n : Nat) : Int))), some (.int (ji (pt (vT μ u) j (s * q)))), some (.int (ji ((s * q : Nat) : Int)))] [] (hp (μ), ρ) Q := by
  intro m
  induction m using Nat.strongRecOn with
  | ind m ih =>
    intro q hm hq hqs
    obtain ⟨hT0, hT1, hT2, hT3, hT4, hT5, hT6, hT7, hT8⟩ := hT.sh
    obtain ⟨hU0, hU1, hU2, hU3, hU4, hU5, hU6, hU7, hU8⟩ := hU.sh
    have g1 := h1.1
    have g2 := h2.1
    have g3 := h1.2 i hi.1 hi.2
    have g4 := h2.2 j hj.1 hj.2
    refine w_ld d_19_39 rfl rfl rfl ?_
    refine w_ld d_19_41 rfl rfl rfl ?_
    refine w_getF d_19_42 (by rfl) (by first | rfl | assumption) (by rfl) (by rfl) ?_
    refine w_ld d_19_45 rfl rfl rfl ?_
    refine w_aI d_19_46 (by first | rfl | assumption) (by omega) (by (try simp [stI, stA, stR]) <;> rfl) ?_
    refine w_icmp_ge (g := 84) d_19_47 (by decide) (by omega) (fun h47 => ?_) (fun h47 => ?_)
    · refine w_ld d_19_84 rfl rfl rfl ?_
      refine w_ld d_19_86 rfl rfl rfl ?_
      refine w_getF d_19_87 (by rfl) (by first | rfl | assumption) (by rfl) (by rfl) ?_
      refine w_ld d_19_90 rfl rfl rfl ?_
      refine w_aI d_19_91 (by first | rfl | assumption) (by omega) (by (try simp [stI, stA, stR]) <;> rfl) ?_
      refine w_icmp_lt (g := 97) d_19_92 (by decide) (by omega) (fun h92 => ?_) (fun h92 => ?_)
      · exact absurd h92 (by omega)
      · exact w_con d_19_95 (w_zret d_19_96 rfl (by omega) (kF (fun z => by
          obtain ⟨m, z1, z2, z3⟩ := z
          exact hqs m (st_lt hs z1 h47) z2)))
    · have p1 := h1.prt hi hn
      have p2 := h2.prt hj h47
      have evj : p = 1 → μ.2.2 (u + 5) j % 2 = 0 := fun z => by rw [← hPP]; exact hev z
      refine w_ld d_19_50 rfl rfl rfl ?_
      refine w_ld d_19_51 rfl rfl rfl ?_
      refine w_ld d_19_53 rfl rfl rfl ?_
      refine w_ld d_19_54 rfl rfl rfl ?_
      refine w_ld d_19_56 rfl rfl rfl ?_
      refine w_cS1 (as := [_, _, _, _, _]) (rest := _) rfl d_19_58 (by rfl) (by rfl) (by rfl) (by rfl) (Nat.le_of_ble_eq_true rfl) (by omega) (by omega) (ihA _ _ p1.1 p2.1 (oi.2.2.1 _ hn) (oj.2.2.1 _ h47)) ?_
      refine w_if_ne (g := 84) d_19_61 (by decide) (b01_in _) (fun h61 => ?_) (fun h61 => ?_)
      · refine w_ld d_19_84 rfl rfl rfl ?_
        refine w_ld d_19_86 rfl rfl rfl ?_
        refine w_getF d_19_87 (by rfl) (by first | rfl | assumption) (by rfl) (by rfl) ?_
        refine w_ld d_19_90 rfl rfl rfl ?_
        refine w_aI d_19_91 (by first | rfl | assumption) (by omega) (by (try simp [stI, stA, stR]) <;> rfl) ?_
        refine w_icmp_lt (g := 97) d_19_92 (by decide) (by omega) (fun h92 => ?_) (fun h92 => ?_)
        · refine w_ld d_19_97 rfl rfl rfl ?_
          refine w_if_eq (g := 128) d_19_99 (by decide) (by omega) (fun h99 => ?_) (fun h99 => ?_)
          · refine w_ld d_19_128 rfl rfl rfl ?_
            refine w_ld d_19_129 rfl rfl rfl ?_
            refine w_ld d_19_131 rfl rfl rfl ?_
            refine w_cV1 (as := [_, _]) (rest := _) rfl d_19_133 (by rfl) (by rfl) (by first | rfl | assumption) (by rfl) (by rfl) (Nat.le_of_ble_eq_true rfl) (by omega) (by omega) (t_behindp hT h1 hi hs hev hn) ?_
            refine w_st1 (L' := [_, _, _, _, _, _, _, _, _, _, _]) d_19_136 rfl (by decide) rfl (by decide) rfl ?_
            refine w_ld d_19_138 rfl rfl rfl ?_
            refine w_ld d_19_140 rfl rfl rfl ?_
            refine w_iadd d_19_142 ?_
            refine w_st1 (L' := [_, _, _, _, _, _, _, _, _, _, _]) d_19_143 rfl (by decide) rfl (by decide) rfl ?_
            refine w_goto (g := 20) d_19_145 (by decide) ?_
            rw [st_add]
            refine w_P.le (kT ⟨q, h47, b01_ne h61, fun z => ?_⟩) ?_
            · first | exact absurd (z.symm.trans h99) (by decide) | exact b01_ne h123
            · exact ⟨rfl, rfl, rfl, rfl, rfl, rfl, rfl, rfl, rfl, trivial⟩
          · have hp2 : p = 1 ∧ s = 2 := hs.resolve_left (fun z => h99 z.1)
            obtain ⟨rfl, rfl⟩ := hp2
            have e1 := hev rfl
            have e2 := evj rfl
            have p3 := h1.prt hi (n := 2 * n + 1) (by omega)
            have p4 := h2.prt hj (n := 2 * q + 1) (by omega)
            refine w_ld d_19_102 rfl rfl rfl ?_
            refine w_ld d_19_103 rfl rfl rfl ?_
            refine w_getF d_19_104 (by rfl) (by first | rfl | assumption) (by rfl) (by rfl) ?_
            refine w_ld d_19_107 rfl rfl rfl ?_
            refine w_aI d_19_109 (by first | rfl | assumption) (by omega) (by (try simp [stI, stA, stR]) <;> rfl) ?_
            refine w_ld d_19_110 rfl rfl rfl ?_
            refine w_ld d_19_111 rfl rfl rfl ?_
            refine w_getF d_19_112 (by rfl) (by first | rfl | assumption) (by rfl) (by rfl) ?_
            refine w_ld d_19_115 rfl rfl rfl ?_
            refine w_aI d_19_117 (by first | rfl | assumption) (by omega) (by (try simp [stI, stA, stR]) <;> rfl) ?_
            refine w_ld d_19_118 rfl rfl rfl ?_
            refine w_cS1 (as := [_, _, _, _, _]) (rest := _) rfl d_19_120 (by rfl) (by rfl) (by rfl) (by rfl) (Nat.le_of_ble_eq_true rfl) (by omega) (by omega) (ihA (pt (vT μ t) i (2 * n + 1)) (pt (vT μ u) j (2 * q + 1)) p3.1 p4.1 (oi.2.2.1 _ (by show ((2 * n + 1 : Nat) : Int) < μ.2.2 (t + 5) i; omega)) (oj.2.2.1 _ (by show ((2 * q + 1 : Nat) : Int) < μ.2.2 (u + 5) j; omega))) ?_
            refine w_if_ne (g := 128) d_19_123 (by decide) (b01_in _) (fun h123 => ?_) (fun h123 => ?_)
            · refine w_ld d_19_128 rfl rfl rfl ?_
              refine w_ld d_19_129 rfl rfl rfl ?_
              refine w_ld d_19_131 rfl rfl rfl ?_
              refine w_cV1 (as := [_, _]) (rest := _) rfl d_19_133 (by rfl) (by rfl) (by first | rfl | assumption) (by rfl) (by rfl) (Nat.le_of_ble_eq_true rfl) (by omega) (by omega) (t_behindp hT h1 hi hs hev hn) ?_
              refine w_st1 (L' := [_, _, _, _, _, _, _, _, _, _, _]) d_19_136 rfl (by decide) rfl (by decide) rfl ?_
              refine w_ld d_19_138 rfl rfl rfl ?_
              refine w_ld d_19_140 rfl rfl rfl ?_
              refine w_iadd d_19_142 ?_
              refine w_st1 (L' := [_, _, _, _, _, _, _, _, _, _, _]) d_19_143 rfl (by decide) rfl (by decide) rfl ?_
              refine w_goto (g := 20) d_19_145 (by decide) ?_
              rw [st_add]
              refine w_P.le (kT ⟨q, h47, b01_ne h61, fun z => ?_⟩) ?_
              · first | exact absurd (z.symm.trans h99) (by decide) | exact b01_ne h123
              · exact ⟨rfl, rfl, rfl, rfl, rfl, rfl, rfl, rfl, rfl, trivial⟩
            · refine w_con d_19_126 ?_
              refine w_zret d_19_127 rfl (by omega) ?_
              refine kF (fun z => ?_)
              obtain ⟨m, z1, z2, z3⟩ := z
              have hmq := huq m q z1 h47 _ z2 (oi.2.2.1 _ hn) (b01_ne h61)
              subst hmq
              exact b01_eq h123 (z3 rfl)
        · exact absurd h92 (by omega)
      · refine w_ld d_19_64 rfl rfl rfl ?_
        refine w_ld d_19_65 rfl rfl rfl ?_
        refine w_ld d_19_67 rfl rfl rfl ?_
        refine w_cV1 (as := [_, _]) (rest := _) rfl d_19_69 (by rfl) (by rfl) (by first | rfl | assumption) (by rfl) (by rfl) (Nat.le_of_ble_eq_true rfl) (by omega) (by omega) (t_behindp hU h2 hj hs evj h47) ?_
        refine w_st1 (L' := [_, _, _, _, _, _, _, _, _, _, _]) d_19_72 rfl (by decide) rfl (by decide) rfl ?_
        refine w_ld d_19_74 rfl rfl rfl ?_
        refine w_ld d_19_76 rfl rfl rfl ?_
        refine w_iadd d_19_78 ?_
        refine w_st1 (L' := [_, _, _, _, _, _, _, _, _, _, _]) d_19_79 rfl (by decide) rfl (by decide) rfl ?_
        refine w_goto (g := 39) d_19_81 (by decide) ?_
        rw [st_add]
        exact ih _ (by have := st_m hs h47; omega) (q + 1) rfl (st_next hs evj h47) (fun m hm2 => by
          by_cases hq : m = q
          · rw [hq]; exact b01_eq h61
          · exact hqs m (by omega))
theorem t_any_l {sc : Nat × (Nat → Int32)} {fr lo : Nat} {μ : Mem} {ρ : Nat × Nat × Nat} {t u : Nat} (hT : isT t) (hU : isT u) {l1 u1 l2 u2 : Int} (h1 : rok μ t l1 u1) (h2 : rok μ u l2 u2) {d : Nat} {e : Int} (he : 0 ≤ e ∧ e ≤ 10) {i j : Int} (hi : l1 ≤ i ∧ i < u1) (hj : l2 ≤ j ∧ j < u2) (hPP : μ.2.2 (t + 5) i = μ.2.2 (u + 5) j) (oi : okv (d + 1) (vT μ t) i) (oj : okv (d + 1) (vT μ u) j) (ihA : ∀ (x y : Int), l1 ≤ x ∧ x < u1 → l2 ≤ y ∧ y < u2 → okv d (vT μ t) x → okv d (vT μ u) y → w_E sc (fr - 1) (lo - (19 + 5)) 16 [.ref t, .int (ji x), .ref u, .int (ji y), .int (ji e)] (hp μ, ρ) (.inl (some (.int (ji (b01 (al d (vT μ t) x (vT μ u) y)))))) (hp μ, ρ)) (hf : 1 ≤ fr) (hl : 60 ≤ lo) {s : Nat} {p : Int} (hs : p = 0 ∧ s = 1 ∨ p = 1 ∧ s = 2) (hev : p = 1 → μ.2.2 (t + 5) i % 2 = 0) (huq : ∀ m m2 : Nat, ((s * m : Nat) : Int) < μ.2.2 (u + 5) j → ((s * m2 : Nat) : Int) < μ.2.2 (u + 5) j → ∀ x, al d (vT μ t) x (vT μ u) (pt (vT μ u) j (s * m)) → okv d (vT μ t) x → al d (vT μ t) x (vT μ u) (pt (vT μ u) j (s * m2)) → m = m2) : ∀ (m : Nat) (n : Nat), (μ.2.2 (t + 5) i - n).toNat = m → ((s * n : Nat) : Int) ≤ μ.2.2 (t + 5) i → (∀ q : Nat, q < n → anyc d (vT μ t) (vT μ u) i j s p q) → w_P sc fr lo 19 2 11 false ((some FieldType.boolean)) prog_6_method_13_code 20 [some (.ref t), some (.int (ji i)), some (.ref u), some (.int (ji j)), some (.int (ji p)), some (.int (ji e)), some (.int (ji (s : Int))), some (.int (ji (pt (vT μ t) i (s * n)))), some (.int (ji ((s * n : Nat) : Int))), none, none] [] (hp (μ), ρ) (fun o t' => o = .inl (some (.int (ji (b01 (∀ n : Nat, ((s * n : Nat) : Int) < μ.2.2 (t + 5) i → anyc d (vT μ t) (vT μ u) i j s p n))))) ∧ t' = (hp μ, ρ)) := by
  intro m
  induction m using Nat.strongRecOn with
  | ind m ih =>
    intro n hm hn hqs
    obtain ⟨hT0, hT1, hT2, hT3, hT4, hT5, hT6, hT7, hT8⟩ := hT.sh
    obtain ⟨hU0, hU1, hU2, hU3, hU4, hU5, hU6, hU7, hU8⟩ := hU.sh
    have g1 := h1.1
    have g2 := h2.1
    have g3 := h1.2 i hi.1 hi.2
    have g4 := h2.2 j hj.1 hj.2
    refine w_ld d_19_20 rfl rfl rfl ?_
    refine w_ld d_19_22 rfl rfl rfl ?_
    refine w_getF d_19_23 (by rfl) (by first | rfl | assumption) (by rfl) (by rfl) ?_
    refine w_ld d_19_26 rfl rfl rfl ?_
    refine w_aI d_19_27 (by first | rfl | assumption) (by omega) (by (try simp [stI, stA, stR]) <;> rfl) ?_
    refine w_icmp_ge (g := 148) d_19_28 (by decide) (by omega) (fun h28 => ?_) (fun h28 => ?_)
    · refine w_con d_19_148 ?_
      refine w_zret d_19_149 rfl (by omega) ?_
      rw [b01_t (fun q hq2 => hqs q (st_lt hs hq2 h28))]
      exact ⟨rfl, rfl⟩
    · refine w_ld d_19_31 rfl rfl rfl ?_
      refine w_con d_19_32 ?_
      refine w_iadd d_19_33 ?_
      refine w_st1 (L' := [_, _, _, _, _, _, _, _, _, _, _]) d_19_34 rfl (by decide) rfl (by decide) rfl ?_
      refine w_con d_19_36 ?_
      refine w_st1 (L' := [_, _, _, _, _, _, _, _, _, _, _]) d_19_37 rfl (by decide) rfl (by decide) rfl ?_
      refine t_any_m hT hU h1 h2 he hi hj hPP oi oj ihA hf hl hs hev huq h28 (fun z => ?_) (fun z => ?_) _ 0 rfl (by rw [Nat.mul_zero]; omega) (fun m hm2 => absurd hm2 (Nat.not_lt_zero m))
      · exact ih _ (by have := st_m hs h28; omega) (n + 1) rfl (st_next hs hev h28) (fun q hq2 => by
          by_cases hq : q = n
          · rw [hq]; exact z
          · exact hqs q (by omega))
      · exact ⟨by rw [b01_f (fun w => z (w n h28))], rfl⟩
theorem t_any0 {sc : Nat × (Nat → Int32)} {fr lo : Nat} {μ : Mem} {ρ : Nat × Nat × Nat} {t u : Nat} (hT : isT t) (hU : isT u) {l1 u1 l2 u2 : Int} (h1 : rok μ t l1 u1) (h2 : rok μ u l2 u2) {d : Nat} {e : Int} (he : 0 ≤ e ∧ e ≤ 10) {i j : Int} (hi : l1 ≤ i ∧ i < u1) (hj : l2 ≤ j ∧ j < u2) (hPP : μ.2.2 (t + 5) i = μ.2.2 (u + 5) j) (oi : okv (d + 1) (vT μ t) i) (oj : okv (d + 1) (vT μ u) j) (ihA : ∀ (x y : Int), l1 ≤ x ∧ x < u1 → l2 ≤ y ∧ y < u2 → okv d (vT μ t) x → okv d (vT μ u) y → w_E sc (fr - 1) (lo - (19 + 5)) 16 [.ref t, .int (ji x), .ref u, .int (ji y), .int (ji e)] (hp μ, ρ) (.inl (some (.int (ji (b01 (al d (vT μ t) x (vT μ u) y)))))) (hp μ, ρ)) (hf : 1 ≤ fr) (hl : 60 ≤ lo) (hev : (0 : Int) = 1 → μ.2.2 (t + 5) i % 2 = 0) (huq : ∀ m m2 : Nat, ((1 * m : Nat) : Int) < μ.2.2 (u + 5) j → ((1 * m2 : Nat) : Int) < μ.2.2 (u + 5) j → ∀ x, al d (vT μ t) x (vT μ u) (pt (vT μ u) j (1 * m)) → okv d (vT μ t) x → al d (vT μ t) x (vT μ u) (pt (vT μ u) j (1 * m2)) → m = m2) : w_E sc fr lo 19 [.ref t, .int (ji i), .ref u, .int (ji j), .int (ji 0), .int (ji e)] (hp μ, ρ) (.inl (some (.int (ji (b01 (∀ n : Nat, ((1 * n : Nat) : Int) < μ.2.2 (t + 5) i → anyc d (vT μ t) (vT μ u) i j 1 0 n)))))) (hp μ, ρ) := by
  obtain ⟨hT0, hT1, hT2, hT3, hT4, hT5, hT6, hT7, hT8⟩ := hT.sh
  obtain ⟨hU0, hU1, hU2, hU3, hU4, hU5, hU6, hU7, hU8⟩ := hU.sh
  have g1 := h1.1
  have g2 := h2.1
  have g3 := h1.2 i hi.1 hi.2
  have g4 := h2.2 j hj.1 hj.2
  refine w_S.of (L0 := [some (.ref t), some (.int (ji i)), some (.ref u), some (.int (ji j)), some (.int (ji 0)), some (.int (ji e)), none, none, none, none, none]) rfl rfl (Nat.le_of_ble_eq_true rfl) (by rfl) ?_
  refine w_ld d_19_0 rfl rfl rfl ?_
  refine w_if_eq (g := 9) d_19_2 (by decide) (by omega) (fun hz2 => ?_) (fun hz2 => ?_)
  · refine w_con d_19_9 ?_
    refine w_st1 (L' := [_, _, _, _, _, _, _, _, _, _, _]) d_19_10 rfl (by decide) rfl (by decide) rfl ?_
    refine w_ld d_19_12 rfl rfl rfl ?_
    refine w_con d_19_13 ?_
    refine w_iadd d_19_14 ?_
    refine w_st1 (L' := [_, _, _, _, _, _, _, _, _, _, _]) d_19_15 rfl (by decide) rfl (by decide) rfl ?_
    refine w_con d_19_17 ?_
    refine w_st1 (L' := [_, _, _, _, _, _, _, _, _, _, _]) d_19_18 rfl (by decide) rfl (by decide) rfl ?_
    exact t_any_l hT hU h1 h2 he hi hj hPP oi oj ihA hf hl (s := 1) (p := 0) (by decide) hev huq _ 0 rfl (by rw [Nat.mul_zero]; omega) (fun n hn => absurd hn (Nat.not_lt_zero n))
  · exact absurd hz2 (by omega)
theorem t_any1 {sc : Nat × (Nat → Int32)} {fr lo : Nat} {μ : Mem} {ρ : Nat × Nat × Nat} {t u : Nat} (hT : isT t) (hU : isT u) {l1 u1 l2 u2 : Int} (h1 : rok μ t l1 u1) (h2 : rok μ u l2 u2) {d : Nat} {e : Int} (he : 0 ≤ e ∧ e ≤ 10) {i j : Int} (hi : l1 ≤ i ∧ i < u1) (hj : l2 ≤ j ∧ j < u2) (hPP : μ.2.2 (t + 5) i = μ.2.2 (u + 5) j) (oi : okv (d + 1) (vT μ t) i) (oj : okv (d + 1) (vT μ u) j) (ihA : ∀ (x y : Int), l1 ≤ x ∧ x < u1 → l2 ≤ y ∧ y < u2 → okv d (vT μ t) x → okv d (vT μ u) y → w_E sc (fr - 1) (lo - (19 + 5)) 16 [.ref t, .int (ji x), .ref u, .int (ji y), .int (ji e)] (hp μ, ρ) (.inl (some (.int (ji (b01 (al d (vT μ t) x (vT μ u) y)))))) (hp μ, ρ)) (hf : 1 ≤ fr) (hl : 60 ≤ lo) (hev : (1 : Int) = 1 → μ.2.2 (t + 5) i % 2 = 0) (huq : ∀ m m2 : Nat, ((2 * m : Nat) : Int) < μ.2.2 (u + 5) j → ((2 * m2 : Nat) : Int) < μ.2.2 (u + 5) j → ∀ x, al d (vT μ t) x (vT μ u) (pt (vT μ u) j (2 * m)) → okv d (vT μ t) x → al d (vT μ t) x (vT μ u) (pt (vT μ u) j (2 * m2)) → m = m2) : w_E sc fr lo 19 [.ref t, .int (ji i), .ref u, .int (ji j), .int (ji 1), .int (ji e)] (hp μ, ρ) (.inl (some (.int (ji (b01 (∀ n : Nat, ((2 * n : Nat) : Int) < μ.2.2 (t + 5) i → anyc d (vT μ t) (vT μ u) i j 2 1 n)))))) (hp μ, ρ) := by
  obtain ⟨hT0, hT1, hT2, hT3, hT4, hT5, hT6, hT7, hT8⟩ := hT.sh
  obtain ⟨hU0, hU1, hU2, hU3, hU4, hU5, hU6, hU7, hU8⟩ := hU.sh
  have g1 := h1.1
  have g2 := h2.1
  have g3 := h1.2 i hi.1 hi.2
  have g4 := h2.2 j hj.1 hj.2
  refine w_S.of (L0 := [some (.ref t), some (.int (ji i)), some (.ref u), some (.int (ji j)), some (.int (ji 1)), some (.int (ji e)), none, none, none, none, none]) rfl rfl (Nat.le_of_ble_eq_true rfl) (by rfl) ?_
  refine w_ld d_19_0 rfl rfl rfl ?_
  refine w_if_eq (g := 9) d_19_2 (by decide) (by omega) (fun hz2 => ?_) (fun hz2 => ?_)
  · exact absurd hz2 (by omega)
  · refine w_con d_19_5 ?_
    refine w_goto (g := 10) d_19_6 (by decide) ?_
    refine w_st1 (L' := [_, _, _, _, _, _, _, _, _, _, _]) d_19_10 rfl (by decide) rfl (by decide) rfl ?_
    refine w_ld d_19_12 rfl rfl rfl ?_
    refine w_con d_19_13 ?_
    refine w_iadd d_19_14 ?_
    refine w_st1 (L' := [_, _, _, _, _, _, _, _, _, _, _]) d_19_15 rfl (by decide) rfl (by decide) rfl ?_
    refine w_con d_19_17 ?_
    refine w_st1 (L' := [_, _, _, _, _, _, _, _, _, _, _]) d_19_18 rfl (by decide) rfl (by decide) rfl ?_
    exact t_any_l hT hU h1 h2 he hi hj hPP oi oj ihA hf hl (s := 2) (p := 1) (by decide) hev huq _ 0 rfl (by rw [Nat.mul_zero]; omega) (fun n hn => absurd hn (Nat.not_lt_zero n))
theorem isT.toL {t : Nat} (h : isT t) : isL (t + 7) 240 := by
  rcases h with rfl | rfl | rfl <;> simp [isL]
theorem al_uq {A B : View} {d : Nat} {j : Int} (oj : okv (d + 1) B j) (hk : B.1 j = 10) {m m2 : Nat} (h1 : (m : Int) < B.2.2.1 j) (h2 : (m2 : Int) < B.2.2.1 j) {x : Int} (a1 : al d A x B (pt B j m)) (ox : okv d A x) (a2 : al d A x B (pt B j m2)) : m = m2 := by
  have b1 := al_trans d _ _ _ (al_symm d _ _ ox (oj.2.2.1 m h1) a1) a2
  have b2 := al_trans d _ _ _ (al_symm d _ _ ox (oj.2.2.1 m2 h2) a2) a1
  rcases Nat.lt_trichotomy m m2 with z | z | z
  · exact absurd b1 (oj.2.2.2.1 hk m m2 z h2)
  · exact z
  · exact absurd b2 (oj.2.2.2.1 hk m2 m z h1)
theorem al_uq2 {A B : View} {d : Nat} {j : Int} (oj : okv (d + 1) B j) (hk : B.1 j = 11) {m m2 : Nat} (h1 : ((2 * m : Nat) : Int) < B.2.2.1 j) (h2 : ((2 * m2 : Nat) : Int) < B.2.2.1 j) {x : Int} (a1 : al d A x B (pt B j (2 * m))) (ox : okv d A x) (a2 : al d A x B (pt B j (2 * m2))) : m = m2 := by
  have b1 := al_trans d _ _ _ (al_symm d _ _ ox (oj.2.2.1 _ h1) a1) a2
  have b2 := al_trans d _ _ _ (al_symm d _ _ ox (oj.2.2.1 _ h2) a2) a1
  rcases Nat.lt_trichotomy m m2 with z | z | z
  · exact absurd b1 (oj.2.2.2.2 hk m m2 z (by omega))
  · exact z
  · exact absurd b2 (oj.2.2.2.2 hk m2 m z (by omega))
theorem t_alike_s {sc : Nat × (Nat → Int32)} {fr lo : Nat} {μ : Mem} {ρ : Nat × Nat × Nat} {t u : Nat} (hT : isT t) (hU : isT u) {l1 u1 l2 u2 : Int} (h1 : rok μ t l1 u1) (h2 : rok μ u l2 u2) (hch : ∀ a n, isL a n → ∀ k, 0 ≤ μ.2.2 (a + 1) k ∧ μ.2.2 (a + 1) k < 65536) {d : Nat} {e : Int} (he : e + d = 9 ∧ 0 ≤ e) {i j : Int} (hi : l1 ≤ i ∧ i < u1) (hj : l2 ≤ j ∧ j < u2) (oi : okv (d + 1) (vT μ t) i) (oj : okv (d + 1) (vT μ u) j) (ihA : ∀ (fr lo : Nat), 2 * d + 3 ≤ fr → 60 * d + 120 ≤ lo → ∀ (x y : Int), l1 ≤ x ∧ x < u1 → l2 ≤ y ∧ y < u2 → okv d (vT μ t) x → okv d (vT μ u) y → w_E sc fr lo 16 [.ref t, .int (ji x), .ref u, .int (ji y), .int (ji (e + 1))] (hp μ, ρ) (.inl (some (.int (ji (b01 (al d (vT μ t) x (vT μ u) y)))))) (hp μ, ρ)) (hf : 2 * d + 5 ≤ fr) (hl : 60 * d + 180 ≤ lo) : w_E sc fr lo 16 [.ref t, .int (ji i), .ref u, .int (ji j), .int (ji e)] (hp μ, ρ) (.inl (some (.int (ji (b01 (al (d + 1) (vT μ t) i (vT μ u) j)))))) (hp μ, ρ) := by
  obtain ⟨hT0, hT1, hT2, hT3, hT4, hT5, hT6, hT7, hT8⟩ := hT.sh
  obtain ⟨hU0, hU1, hU2, hU3, hU4, hU5, hU6, hU7, hU8⟩ := hU.sh
  have g1 := h1.1
  have g2 := h2.1
  have g3 := h1.2 i hi.1 hi.2
  have g4 := h2.2 j hj.1 hj.2
  refine w_S.of (L0 := [some (.ref t), some (.int (ji i)), some (.ref u), some (.int (ji j)), some (.int (ji e))]) rfl rfl (Nat.le_of_ble_eq_true rfl) (by rfl) ?_
  refine w_ld d_16_0 rfl rfl rfl ?_
  refine w_bip d_16_2 (by decide) ?_
  refine w_icmp_ge (g := 100) d_16_4 (by decide) (by omega) (fun h4 => ?_) (fun h4 => ?_)
  · exact absurd h4 (by omega)
  · refine w_ld d_16_7 rfl rfl rfl ?_
    refine w_getF d_16_8 (by rfl) (by first | rfl | assumption) (by rfl) (by rfl) ?_
    refine w_ld d_16_11 rfl rfl rfl ?_
    refine w_aI d_16_12 (by first | rfl | assumption) (by omega) (by (try simp [stI, stA, stR]) <;> rfl) ?_
    refine w_ld d_16_13 rfl rfl rfl ?_
    refine w_getF d_16_14 (by rfl) (by first | rfl | assumption) (by rfl) (by rfl) ?_
    refine w_ld d_16_17 rfl rfl rfl ?_
    refine w_aI d_16_18 (by first | rfl | assumption) (by omega) (by (try simp [stI, stA, stR]) <;> rfl) ?_
    refine w_icmp_ne (g := 100) d_16_19 (by decide) (by omega) (fun h19 => ?_) (fun h19 => ?_)
    · refine w_con d_16_100 ?_
      refine w_zret d_16_101 rfl (by omega) ?_
      rw [b01_f (fun z => h19 z.1.1)]
      exact ⟨rfl, rfl⟩
    · refine w_ld d_16_22 rfl rfl rfl ?_
      refine w_getF d_16_23 (by rfl) (by first | rfl | assumption) (by rfl) (by rfl) ?_
      refine w_ld d_16_26 rfl rfl rfl ?_
      refine w_aL d_16_27 (by first | rfl | assumption) (by omega) (by (try simp [stI, stA, stR]) <;> rfl) ?_
      refine w_ld d_16_28 rfl rfl rfl ?_
      refine w_getF d_16_29 (by rfl) (by first | rfl | assumption) (by rfl) (by rfl) ?_
      refine w_ld d_16_32 rfl rfl rfl ?_
      refine w_aL d_16_33 (by first | rfl | assumption) (by omega) (by (try simp [stI, stA, stR]) <;> rfl) ?_
      refine w_lcmp d_16_34 (by omega) ?_
      refine w_if_ne (g := 100) d_16_35 (by decide) (by have := lcm_in (μ.2.2 (t + 2) i) (μ.2.2 (u + 2) j); omega) (fun h35 => ?_) (fun h35 => ?_)
      · refine w_con d_16_100 ?_
        refine w_zret d_16_101 rfl (by omega) ?_
        rw [b01_f (fun z => h35 ((lcm_eq _ _).mpr z.1.2.1))]
        exact ⟨rfl, rfl⟩
      · refine w_ld d_16_38 rfl rfl rfl ?_
        refine w_getF d_16_39 (by rfl) (by first | rfl | assumption) (by rfl) (by rfl) ?_
        refine w_ld d_16_42 rfl rfl rfl ?_
        refine w_aI d_16_43 (by first | rfl | assumption) (by omega) (by (try simp [stI, stA, stR]) <;> rfl) ?_
        refine w_ld d_16_44 rfl rfl rfl ?_
        refine w_getF d_16_45 (by rfl) (by first | rfl | assumption) (by rfl) (by rfl) ?_
        refine w_ld d_16_48 rfl rfl rfl ?_
        refine w_aI d_16_49 (by first | rfl | assumption) (by omega) (by (try simp [stI, stA, stR]) <;> rfl) ?_
        refine w_icmp_ne (g := 100) d_16_50 (by decide) (by omega) (fun h50 => ?_) (fun h50 => ?_)
        · refine w_con d_16_100 ?_
          refine w_zret d_16_101 rfl (by omega) ?_
          rw [b01_f (fun z => h50 z.1.2.2.1)]
          exact ⟨rfl, rfl⟩
        · refine w_ld d_16_53 rfl rfl rfl ?_
          refine w_getF d_16_54 (by rfl) (by first | rfl | assumption) (by rfl) (by rfl) ?_
          refine w_ld d_16_57 rfl rfl rfl ?_
          refine w_aI d_16_58 (by first | rfl | assumption) (by omega) (by (try simp [stI, stA, stR]) <;> rfl) ?_
          refine w_ld d_16_59 rfl rfl rfl ?_
          refine w_getF d_16_60 (by rfl) (by first | rfl | assumption) (by rfl) (by rfl) ?_
          refine w_ld d_16_63 rfl rfl rfl ?_
          refine w_aI d_16_64 (by first | rfl | assumption) (by omega) (by (try simp [stI, stA, stR]) <;> rfl) ?_
          refine w_icmp_ne (g := 100) d_16_65 (by decide) (by omega) (fun h65 => ?_) (fun h65 => ?_)
          · refine w_con d_16_100 ?_
            refine w_zret d_16_101 rfl (by omega) ?_
            rw [b01_f (fun z => h65 z.1.2.2.2.1)]
            exact ⟨rfl, rfl⟩
          · refine w_ld d_16_68 rfl rfl rfl ?_
            refine w_getF d_16_69 (by rfl) (by first | rfl | assumption) (by rfl) (by rfl) ?_
            refine w_ld d_16_72 rfl rfl rfl ?_
            refine w_getF d_16_73 (by rfl) (by first | rfl | assumption) (by rfl) (by rfl) ?_
            refine w_ld d_16_76 rfl rfl rfl ?_
            refine w_aI d_16_77 (by first | rfl | assumption) (by omega) (by (try simp [stI, stA, stR]) <;> rfl) ?_
            refine w_ld d_16_78 rfl rfl rfl ?_
            refine w_getF d_16_79 (by rfl) (by first | rfl | assumption) (by rfl) (by rfl) ?_
            refine w_ld d_16_82 rfl rfl rfl ?_
            refine w_getF d_16_83 (by rfl) (by first | rfl | assumption) (by rfl) (by rfl) ?_
            refine w_ld d_16_86 rfl rfl rfl ?_
            refine w_aI d_16_87 (by first | rfl | assumption) (by omega) (by (try simp [stI, stA, stR]) <;> rfl) ?_
            refine w_ld d_16_88 rfl rfl rfl ?_
            refine w_getF d_16_89 (by rfl) (by first | rfl | assumption) (by rfl) (by rfl) ?_
            refine w_ld d_16_92 rfl rfl rfl ?_
            refine w_aI d_16_93 (by first | rfl | assumption) (by omega) (by (try simp [stI, stA, stR]) <;> rfl) ?_
            refine w_cV1 (as := [_, _, _, _]) (rest := _) rfl d_16_94 (by rfl) (by rfl) (by first | rfl | assumption) (by rfl) (by rfl) (Nat.le_of_ble_eq_true rfl) (by omega) (by omega) (t_matches hT.toL hU.toL (by omega) (by omega) hch (by omega) (by omega) (by omega) (by omega) (by omega)) ?_
            refine w_if_ne (g := 102) d_16_97 (by decide) (b01_in _) (fun h97 => ?_) (fun h97 => ?_)
            · have hbas : bas (vT μ t) i (vT μ u) j := ⟨h19, (lcm_eq _ _).mp h35, h50, h65, fun k k0 k1 => (b01_ne h97).2.2 k k0 k1⟩
              refine w_ld d_16_102 rfl rfl rfl ?_
              refine w_getF d_16_103 (by rfl) (by first | rfl | assumption) (by rfl) (by rfl) ?_
              refine w_ld d_16_106 rfl rfl rfl ?_
              refine w_aI d_16_107 (by first | rfl | assumption) (by omega) (by (try simp [stI, stA, stR]) <;> rfl) ?_
              refine w_bip d_16_108 (by decide) ?_
              refine w_icmp_ne (g := 126) d_16_110 (by decide) (by omega) (fun h110 => ?_) (fun h110 => ?_)
              · refine w_ld d_16_126 rfl rfl rfl ?_
                refine w_getF d_16_127 (by rfl) (by first | rfl | assumption) (by rfl) (by rfl) ?_
                refine w_ld d_16_130 rfl rfl rfl ?_
                refine w_aI d_16_131 (by first | rfl | assumption) (by omega) (by (try simp [stI, stA, stR]) <;> rfl) ?_
                refine w_bip d_16_132 (by decide) ?_
                refine w_icmp_ne (g := 150) d_16_134 (by decide) (by omega) (fun h134 => ?_) (fun h134 => ?_)
                · refine w_ld d_16_150 rfl rfl rfl ?_
                  refine w_ld d_16_151 rfl rfl rfl ?_
                  refine w_ld d_16_152 rfl rfl rfl ?_
                  refine w_ld d_16_153 rfl rfl rfl ?_
                  refine w_ld d_16_154 rfl rfl rfl ?_
                  refine w_con d_16_156 ?_
                  refine w_iadd d_16_157 ?_
                  refine w_cS1 (as := [_, _, _, _, _]) (rest := _) rfl d_16_158 (by rfl) (by rfl) (by rfl) (by rfl) (Nat.le_of_ble_eq_true rfl) (by omega) (by omega) (t_ino hT hU h1 h2 (by omega) hi hj h50 oi oj (fun x y hx hy ox oy => ihA _ _ (by omega) (by omega) x y hx hy ox oy) (by omega) (by omega)) ?_
                  refine w_zret d_16_161 rfl (b01_01 _) ?_
                  rw [b01_iff (show _ ↔ al (d + 1) (vT μ t) i (vT μ u) j from ?_)]
                  · exact ⟨rfl, rfl⟩
                  · exact ⟨fun z => ⟨hbas, fun e2 => absurd e2 h110, fun e2 => absurd e2 h134, fun _ _ n hn => z n hn⟩, fun z n hn => z.2.2.2 h110 h134 n hn⟩
                · refine w_ld d_16_137 rfl rfl rfl ?_
                  refine w_ld d_16_138 rfl rfl rfl ?_
                  refine w_ld d_16_139 rfl rfl rfl ?_
                  refine w_ld d_16_140 rfl rfl rfl ?_
                  refine w_con d_16_141 ?_
                  refine w_ld d_16_142 rfl rfl rfl ?_
                  refine w_con d_16_144 ?_
                  refine w_iadd d_16_145 ?_
                  refine w_cS1 (as := [_, _, _, _, _, _]) (rest := _) rfl d_16_146 (by rfl) (by rfl) (by rfl) (by rfl) (Nat.le_of_ble_eq_true rfl) (by omega) (by omega) (t_any1 hT hU h1 h2 (by omega) hi hj h50 oi oj (fun x y hx hy ox oy => ihA _ _ (by omega) (by omega) x y hx hy ox oy) (by omega) (by omega) (fun _ => oi.2.1 (by show μ.2.2 (t + 1) i = 11; omega)) (fun m m2 q1 q2 x a1 ox a2 => al_uq2 oj (by show μ.2.2 (u + 1) j = 11; omega) q1 q2 a1 ox a2)) ?_
                  refine w_zret d_16_149 rfl (b01_01 _) ?_
                  rw [b01_iff (show _ ↔ al (d + 1) (vT μ t) i (vT μ u) j from ?_)]
                  · exact ⟨rfl, rfl⟩
                  · refine ⟨fun z => ⟨hbas, fun e2 => absurd (show μ.2.2 (t + 1) i = 10 from e2) (by omega), fun _ n hn => ?_, fun _ e2 => absurd (show μ.2.2 (t + 1) i = 11 by omega) e2⟩, fun z n hn => ?_⟩
                    · obtain ⟨m, q1, q2, q3⟩ := z n (by have hn : 2 * (n : Int) < μ.2.2 (t + 5) i := hn; omega)
                      exact ⟨m, by omega, q2, q3 rfl⟩
                    · obtain ⟨m, q1, q2, q3⟩ := z.2.2.1 (show μ.2.2 (t + 1) i = 11 by omega) n (by show 2 * (n : Int) < μ.2.2 (t + 5) i; omega)
                      exact ⟨m, by omega, q2, fun _ => q3⟩
              · refine w_ld d_16_113 rfl rfl rfl ?_
                refine w_ld d_16_114 rfl rfl rfl ?_
                refine w_ld d_16_115 rfl rfl rfl ?_
                refine w_ld d_16_116 rfl rfl rfl ?_
                refine w_con d_16_117 ?_
                refine w_ld d_16_118 rfl rfl rfl ?_
                refine w_con d_16_120 ?_
                refine w_iadd d_16_121 ?_
                refine w_cS1 (as := [_, _, _, _, _, _]) (rest := _) rfl d_16_122 (by rfl) (by rfl) (by rfl) (by rfl) (Nat.le_of_ble_eq_true rfl) (by omega) (by omega) (t_any0 hT hU h1 h2 (by omega) hi hj h50 oi oj (fun x y hx hy ox oy => ihA _ _ (by omega) (by omega) x y hx hy ox oy) (by omega) (by omega) (fun z => by cases z) (fun m m2 q1 q2 x a1 ox a2 => al_uq oj (by show μ.2.2 (u + 1) j = 10; omega) (by rw [Nat.one_mul] at q1; exact q1) (by rw [Nat.one_mul] at q2; exact q2) (by rw [Nat.one_mul] at a1; exact a1) ox (by rw [Nat.one_mul] at a2; exact a2))) ?_
                refine w_zret d_16_125 rfl (b01_01 _) ?_
                rw [b01_iff (show _ ↔ al (d + 1) (vT μ t) i (vT μ u) j from ?_)]
                · exact ⟨rfl, rfl⟩
                · refine ⟨fun z => ⟨hbas, fun _ n hn => ?_, fun e2 => absurd (show μ.2.2 (t + 1) i = 11 from e2) (by omega), fun e2 => absurd (show μ.2.2 (t + 1) i = 10 by omega) e2⟩, fun z n hn => ?_⟩
                  · obtain ⟨m, q1, q2, _⟩ := z n (by rw [Nat.one_mul]; exact hn)
                    rw [Nat.one_mul] at q1 q2
                    rw [Nat.one_mul] at q2
                    exact ⟨m, q1, q2⟩
                  · obtain ⟨m, q1, q2⟩ := z.2.1 (show μ.2.2 (t + 1) i = 10 by omega) n (by rw [Nat.one_mul] at hn; exact hn)
                    exact ⟨m, by rw [Nat.one_mul]; exact q1, by rw [Nat.one_mul, Nat.one_mul]; exact q2, fun w => by cases w⟩
            · refine w_con d_16_100 ?_
              refine w_zret d_16_101 rfl (by omega) ?_
              rw [b01_f (fun z => b01_eq h97 ⟨by omega, by omega, fun k k0 k1 => z.1.2.2.2.2 k k0 k1⟩)]
              exact ⟨rfl, rfl⟩
theorem t_alike {sc : Nat × (Nat → Int32)} {μ : Mem} {ρ : Nat × Nat × Nat} {t u : Nat} (hT : isT t) (hU : isT u) {l1 u1 l2 u2 : Int} (h1 : rok μ t l1 u1) (h2 : rok μ u l2 u2) (hch : ∀ a n, isL a n → ∀ k, 0 ≤ μ.2.2 (a + 1) k ∧ μ.2.2 (a + 1) k < 65536) : ∀ (d : Nat) (e : Int), e + d = 10 ∧ 0 ≤ e → ∀ (fr lo : Nat), 2 * d + 3 ≤ fr → 60 * d + 120 ≤ lo → ∀ (x y : Int), l1 ≤ x ∧ x < u1 → l2 ≤ y ∧ y < u2 → okv d (vT μ t) x → okv d (vT μ u) y → w_E sc fr lo 16 [.ref t, .int (ji x), .ref u, .int (ji y), .int (ji e)] (hp μ, ρ) (.inl (some (.int (ji (b01 (al d (vT μ t) x (vT μ u) y)))))) (hp μ, ρ)
  | 0, _, _, _, _, _, _, _, _, _, _, h, _ => h.elim
  | d + 1, e, he, fr, lo, hf, hl, x, y, hx, hy, ox, oy => t_alike_s hT hU h1 h2 hch (e := e) (by omega) hx hy ox oy (t_alike hT hU h1 h2 hch d (e + 1) (by omega)) (by omega) (by omega)
