/-! THE PURE PART, 95: contracts: the class writes values -/
def PV (t y : Nat) (μ : Mem) (ρ : Nat × Nat × Nat) (r : Option (List Int × List (List Int))) (o : z_O) (τ : z_T) : Prop :=
  (∃ l N, r = some (l, N) ∧ μ.1 y 1 + l.length ≤ 240 ∧ o = .inl none ∧ ∃ μ', τ = (hp μ', ρ) ∧ WOK t y l N [] μ μ') ∨ ((∀ l N, r = some (l, N) → 240 < μ.1 y 1 + l.length) ∧ o = .inr (3, ρ.1) ∧ ∃ μ', τ = (hp μ', ρ.1 + 1, ρ.2.1 - 1, ρ.2.2 - 6) ∧ WBD y μ μ')
theorem PV_none {t y : Nat} {μ : Mem} {ρ : Nat × Nat × Nat} {r : Option (List Int × List (List Int))} {v : Option Value} {τ : z_T} (h : PV t y μ ρ r (.inl v) τ) : v = none := by
  rcases h with ⟨_, _, _, _, h, _⟩ | ⟨_, h, _⟩
  · exact Sum.inl.inj h
  · cases h
theorem PW_V {t y : Nat} {μ : Mem} {ρ : Nat × Nat × Nat} {l : List Int} {N : List (List Int)} {o : z_O} {τ : z_T} (h : PW t y μ ρ l N [] o τ) : PV t y μ ρ (some (l, N)) o τ := by
  rcases h with ⟨h1, h2, h3⟩ | ⟨h1, h2⟩
  · exact Or.inl ⟨l, N, rfl, h1, h2, h3⟩
  · exact Or.inr ⟨fun l' N' e => by cases e; exact h1, h2⟩
/-- no more room, in the middle -/
theorem PVx {t y : Nat} {μ μ1 : Mem} {ρ : Nat × Nat × Nat} {l m : List Int} {N M : List (List Int)} {v w : List Int} {r : Option (List Int × List (List Int))} {r0 : Nat × Nat} {τ : z_T} (h : WOK t y l N v μ μ1) (g : PW t y μ1 ρ m M w (.inr r0) τ) (hr : ∀ L N', r = some (L, N') → ∃ q, L = l ++ (m ++ q)) : PV t y μ ρ r (.inr r0) τ := by
  have e := h.2.2.1
  rcases g with ⟨_, g2, _⟩ | ⟨g1, g2, μ', g3, g4⟩
  · cases g2
  · refine Or.inr ⟨fun L N' z => ?_, g2, μ', g3, WBD_of h g4⟩
    obtain ⟨q, rfl⟩ := hr L N' z
    rw [List.length_append, List.length_append]
    omega
theorem PVy {t y : Nat} {μ μ1 : Mem} {ρ : Nat × Nat × Nat} {l : List Int} {N : List (List Int)} {v : List Int} {r s : Option (List Int × List (List Int))} {r0 : Nat × Nat} {τ : z_T} (h : WOK t y l N v μ μ1) (g : PV t y μ1 ρ s (.inr r0) τ) (hr : ∀ L N', r = some (L, N') → ∃ m M q, s = some (m, M) ∧ L = l ++ (m ++ q)) : PV t y μ ρ r (.inr r0) τ := by
  have e := h.2.2.1
  rcases g with ⟨_, _, _, _, g2, _⟩ | ⟨g1, g2, μ', g3, g4⟩
  · cases g2
  · refine Or.inr ⟨fun L N' z => ?_, g2, μ', g3, WBD_of h g4⟩
    obtain ⟨m, M, q, hs, rfl⟩ := hr L N' z
    have := g1 m M hs
    rw [List.length_append, List.length_append]
    omega
/-- the last letters -/
theorem PVe {t y : Nat} {μ μ1 : Mem} {ρ : Nat × Nat × Nat} {l m : List Int} {N M : List (List Int)} {v : List Int} {r : Option (List Int × List (List Int))} {o : z_O} {τ : z_T} (h : WOK t y l N v μ μ1) (g : PW t y μ1 ρ m M [] o τ) (hr : r = some (l ++ m, M)) : PV t y μ ρ r o τ := by
  rw [hr]
  exact PW_V (PW_seq h g)
theorem PV_X {t y : Nat} {μ μ1 : Mem} {ρ : Nat × Nat × Nat} {l : List Int} {N : List (List Int)} {v : List Int} {r : Option (List Int × List (List Int))} (h : WOK t y l N v μ μ1) (hr : r = none) : PV t y μ ρ r (.inr (3, ρ.1)) (hp μ1, ρ.1 + 1, ρ.2.1 - 1, ρ.2.2 - 6) := Or.inr ⟨fun L N' z => by rw [hr] at z; (cases z), rfl, μ1, rfl, WBD_of h (WC_bd h.2.1)⟩
section WP
variable {G : Int → Int → List (List Int) → Option (List Int × List (List Int))} {A : View} {k : Int} {kf : Nat → Int} {c0 : Nat}
theorem wpt_s {n : Nat} {N N1 : List (List Int)} {l : List Int} (h : wpt G A k kf c0 n N = some (l, N1)) : wpt G A k kf c0 (n + 1) N = match G (pt A k n) (kf n) N1 with
      | none => none
      | some (l2, N2) => some (l ++ ((if n + c0 = 0 then [] else [44]) ++ l2), N2) := by
  show (match wpt G A k kf c0 n N with
    | none => none
    | some (l, N1) => match G (pt A k n) (kf n) N1 with
      | none => none
      | some (l2, N2) => some (l ++ ((if n + c0 = 0 then [] else [44]) ++ l2), N2)) = _
  rw [h]
theorem wpt_x {n : Nat} {N : List (List Int)} (h : wpt G A k kf c0 n N = none) : ∀ m, n ≤ m → wpt G A k kf c0 m N = none
  | 0, hm => by
    obtain rfl : n = 0 := by omega
    exact h
  | m + 1, hm => by
    by_cases z : n = m + 1
    · rw [← z]; exact h
    · show (match wpt G A k kf c0 m N with
        | none => none
        | some (l, N1) => match G (pt A k m) (kf m) N1 with
          | none => none
          | some (l2, N2) => some (l ++ ((if m + c0 = 0 then [] else [44]) ++ l2), N2)) = _
      rw [wpt_x h m (by omega)]
/-- what is written of more parts begins with what is written of fewer -/
theorem wpt_p {n : Nat} {N N1 : List (List Int)} {l : List Int} (h : wpt G A k kf c0 n N = some (l, N1)) : ∀ m, n ≤ m → ∀ L N2, wpt G A k kf c0 m N = some (L, N2) → ∃ q, L = l ++ q
  | 0, hm, L, N2, z => by
    obtain rfl : n = 0 := by omega
    rw [h] at z
    cases z
    exact ⟨[], by simp⟩
  | m + 1, hm, L, N2, z => by
    by_cases y : n = m + 1
    · subst y
      rw [h] at z
      cases z
      exact ⟨[], by simp⟩
    · cases hz : wpt G A k kf c0 m N with
      | none => rw [wpt_x hz (m + 1) (by omega)] at z; cases z
      | some p =>
        obtain ⟨l1, M⟩ := p
        obtain ⟨q, rfl⟩ := wpt_p h m (by omega) l1 M hz
        rw [wpt_s hz] at z
        cases hg : G (pt A k m) (kf m) M with
        | none => rw [hg] at z; cases z
        | some p2 =>
          obtain ⟨l2, M2⟩ := p2
          rw [hg] at z
          cases z
          exact ⟨q ++ ((if m + c0 = 0 then [] else [44]) ++ l2), by rw [List.append_assoc]⟩
end WP
/-- an array's parts within brackets -/
noncomputable def arw (A : View) (f : Nat) (d k : Int) (N : List (List Int)) : Option (List Int × List (List Int)) := if 8 ≤ d then none else match wpt (fun i c M => wv A f (d + 1) i c M) A k (fun _ => 0) 0 (A.2.2.1 k).toNat N with
      | none => none
      | some (l, N1) => some (91 :: (l ++ [93]), N1)
/-- the tree that is written -/
def TR0 (t : Nat) (μ : Mem) : Prop := (0 ≤ μ.1 t 7 ∧ μ.1 t 7 ≤ 124) ∧ rok μ t 0 (μ.1 t 7) ∧ ∀ k, 0 ≤ k → k < μ.1 t 7 → rki μ t k
theorem TR0_row {t : Nat} {μ : Mem} (h : TR0 t μ) {k : Int} (hk : 0 ≤ k ∧ k < μ.1 t 7) : TRw t k μ := by
  obtain ⟨h1, h2, h3⟩ := h
  obtain ⟨s1, s2, s3, s4, s5, s6⟩ := h2.2 k hk.1 hk.2
  exact ⟨by omega, by have := h2.1; omega, s2, s1, (h3 k hk.1 hk.2).2.2.1⟩
theorem wfr_t {t y : Nat} (hT : isT t) (hY : y = 42 ∨ y = 44) {μ μ' : Mem} (h : wfr y μ μ') : vT μ' t = vT μ t ∧ μ'.1 t 7 = μ.1 t 7 ∧ μ'.1 (t + 7) 1 = μ.1 (t + 7) 1 ∧ (∀ a, t + 1 ≤ a → a ≤ t + 8 → μ'.2.2 a = μ.2.2 a) ∧ (TR0 t μ → TR0 t μ') := by
  unfold isT at hT
  have e : ∀ a, t + 1 ≤ a → a ≤ t + 8 → μ'.2.2 a = μ.2.2 a := fun a h1 h2 => h.2.2 a (by omega) (by omega) (by omega) (by omega) (by omega)
  have e7 := h.1 t 7 (by omega) (by omega) (by omega)
  have eu := h.1 (t + 7) 1 (by omega) (by omega) (by omega)
  refine ⟨vT_eq e, e7, eu, e, fun g => ?_⟩
  obtain ⟨g1, g2, g3⟩ := g
  refine ⟨by rw [e7]; exact g1, by rw [e7]; exact rok_eq e eu g2, fun k k0 k1 => ?_⟩
  rw [e7] at k1
  have z := g3 k k0 k1
  unfold rki at z ⊢
  rw [e (t + 1) (by omega) (by omega), e (t + 2) (by omega) (by omega), e (t + 3) (by omega) (by omega), e (t + 4) (by omega) (by omega), e (t + 5) (by omega) (by omega), e (t + 7 + 1) (by omega) (by omega)]
  exact z
/-- what value owes, to depth f -/
def VaC (sc : Nat × (Nat → Int32)) (t y f f0 l0 : Nat) : Prop := ∀ (fr lo : Nat) (μ : Mem) (ρ : Nat × Nat × Nat) (N : List (List Int)) (k key d : Int), f0 ≤ fr → l0 ≤ lo → WC t y N [] μ → TR0 t μ → (0 ≤ k ∧ k < μ.1 t 7) → okv f (vT μ t) k → (key = 0 ∨ key = 1) → (0 ≤ d ∧ d ≤ 20) → 1 ≤ μ.1 y 1 ∨ 8 ≤ μ.2.2 (t + 1) k → (1 ≤ ρ.2.1 ∧ 6 ≤ ρ.2.2) → w_S sc fr lo 87 [.ref 35, .int (ji k), .int (ji key), .int (ji d)] (hp μ, ρ) (PV t y μ ρ (wv (vT μ t) f d k key N))
theorem t_hsk_l {sc : Nat × (Nat → Int32)} {fr lo : Nat} {μ : Mem} {ρ : Nat × Nat × Nat} {t : Nat} (hT : isT t) {n k : Int} (hR : rok μ t 0 n) (hk : 0 ≤ k ∧ k < n) (hev : μ.2.2 (t + 5) k % 2 = 0) (hf : 4 ≤ fr) (hl : 100 ≤ lo) : ∀ (m : Nat) (q : Nat), (μ.2.2 (t + 5) k - q).toNat = m → ((2 * q : Nat) : Int) ≤ μ.2.2 (t + 5) k → (∀ m : Nat, m < q → μ.2.2 (t + 1) (pt (vT μ t) k (2 * m)) < 8) → w_P sc fr lo 91 2 4 false ((some FieldType.boolean)) prog_6_method_10_code 6 [some (.ref t), some (.int (ji k)), some (.int (ji (pt (vT μ t) k (2 * q)))), some (.int (ji ((2 * q : Nat) : Int)))] [] (hp (μ), ρ) (fun o t' => o = .inl (some (.int (ji (b01 (spk (vT μ t) k))))) ∧ t' = (hp μ, ρ)) := by
  intro m
  induction m using Nat.strongRecOn with
  | ind m ih =>
    intro q hm hq0 hq
    obtain ⟨hT0, hT1, hT2, hT3, hT4, hT5, hT6, hT7, hT8⟩ := hT.sh
    have hT9 : t = 2 ∨ t = 11 ∨ t = 26 := hT
    have h240 := hR.1
    have hrk := hR.2 k hk.1 hk.2
    refine w_ld d_91_6 rfl rfl rfl ?_
    refine w_ld d_91_7 rfl rfl rfl ?_
    refine w_getF d_91_8 (by rfl) (by first | rfl | assumption) (by rfl) (by rfl) ?_
    refine w_ld d_91_11 rfl rfl rfl ?_
    refine w_aI d_91_12 (by first | rfl | assumption) (by omega) (by (try simp only [Nat.reduceAdd]) <;> rfl) ?_
    refine w_icmp_ge (g := 42) d_91_13 (by decide) (by omega) (fun h13 => ?_) (fun h13 => ?_)
    · refine w_con d_91_42 ?_
      refine w_zret d_91_43 rfl (by decide) ?_
      rw [b01_t (show spk (vT μ t) k from fun m hm2 => hq m (by have hm2 : ((2 * m : Nat) : Int) < μ.2.2 (t + 5) k := hm2; omega))]
      exact ⟨rfl, rfl⟩
    · have pp := hR.prt ⟨hk.1, hk.2⟩ h13
      have kk := (hR.2 _ pp.1.1 pp.1.2).1
      refine w_ld d_91_16 rfl rfl rfl ?_
      refine w_getF d_91_17 (by rfl) (by first | rfl | assumption) (by rfl) (by rfl) ?_
      refine w_ld d_91_20 rfl rfl rfl ?_
      refine w_aI d_91_21 (by first | rfl | assumption) (by omega) (by (try simp only [Nat.reduceAdd]) <;> rfl) ?_
      refine w_bip d_91_22 (by decide) ?_
      refine w_icmp_le (g := 29) d_91_24 (by decide) (by omega) (fun h24 => ?_) (fun h24 => ?_)
      · refine w_ld d_91_29 rfl rfl rfl ?_
        refine w_ld d_91_30 rfl rfl rfl ?_
        refine w_con d_91_31 ?_
        refine w_cV1 (a := t) (as := [_, _]) (rest := _) rfl d_91_32 (by rfl) (by rfl) (by first | rfl | assumption) (by rfl) (by rfl) (Nat.le_of_ble_eq_true rfl) (by omega) (by omega) (t_behindp hT hR ⟨hk.1, hk.2⟩ (s := 2) (p := 1) (Or.inr ⟨rfl, rfl⟩) (fun _ => hev) h13) ?_
        refine w_st1 (L' := [_, _, _, _]) d_91_35 rfl (by decide) rfl (by decide) rfl ?_
        refine w_inc (L' := [_, _, _, _]) d_91_36 rfl (by decide) rfl ?_
        refine w_goto (g := 6) d_91_39 (by decide) ?_
        rw [show ((2 * q : Nat) : Int) + 2 = ((2 * (q + 1) : Nat) : Int) by omega]
        exact ih _ (by omega) (q + 1) rfl (by omega) (fun m hm2 => by
          by_cases z : m = q
          · rw [z]; omega
          · exact hq m (by omega))
      · refine w_con d_91_27 ?_
        refine w_zret d_91_28 rfl (by decide) ?_
        rw [b01_f (show ¬ spk (vT μ t) k from fun z => by have z := z q h13; have z : μ.2.2 (t + 1) (pt (vT μ t) k (2 * q)) < 8 := z; omega)]
        exact ⟨rfl, rfl⟩
theorem t_hsk {sc : Nat × (Nat → Int32)} {fr lo : Nat} {μ : Mem} {ρ : Nat × Nat × Nat} {t : Nat} (hT : isT t) {n k : Int} (hR : rok μ t 0 n) (hk : 0 ≤ k ∧ k < n) (hev : μ.2.2 (t + 5) k % 2 = 0) (hf : 4 ≤ fr) (hl : 100 ≤ lo) : w_E sc fr lo 91 [.ref t, .int (ji k)] (hp μ, ρ) (.inl (some (.int (ji (b01 (spk (vT μ t) k)))))) (hp μ, ρ) := by
  refine w_S.of (L0 := [some (.ref t), some (.int (ji k)), none, none]) rfl rfl (Nat.le_of_ble_eq_true rfl) (by rfl) ?_
  refine w_ld d_91_0 rfl rfl rfl ?_
  refine w_con d_91_1 ?_
  refine w_iadd d_91_2 ?_
  refine w_st1 (L' := [_, _, _, _]) d_91_3 rfl (by decide) rfl (by decide) rfl ?_
  refine w_con d_91_4 ?_
  refine w_st1 (L' := [_, _, _, _]) d_91_5 rfl (by decide) rfl (by decide) rfl ?_
  exact t_hsk_l hT hR hk hev hf hl _ 0 rfl (by have := (hR.2 k hk.1 hk.2).2.2.1; show ((0 : Nat) : Int) ≤ _; omega) (fun m hm2 => absurd hm2 (Nat.not_lt_zero _))
theorem t_arw_l {sc : Nat × (Nat → Int32)} {fr lo : Nat} {ρ : Nat × Nat × Nat} {μ : Mem} {t y : Nat} (hT : isT t) (hY : y = 42 ∨ y = 44) {N : List (List Int)} (hW : WC t y N [] μ) (hTR : TR0 t μ) {f f0 l0 : Nat} (hE : VaC sc t y f f0 l0) {k d : Int} (hk : 0 ≤ k ∧ k < μ.1 t 7) (hko : okv (f + 1) (vT μ t) k) (hf : f0 + 60 ≤ fr) (hl : l0 + 1500 ≤ lo) (hr : 1 ≤ ρ.2.1 ∧ 6 ≤ ρ.2.2) (hd : 0 ≤ d ∧ d < 8) : ∀ (m : Nat) (i : Nat) (μ1 : Mem) (l : List Int) (N1 : List (List Int)), (μ.2.2 (t + 5) k - i).toNat = m → (i : Int) ≤ μ.2.2 (t + 5) k → wpt (fun i c M => wv (vT μ t) f (d + 1) i c M) (vT μ t) k (fun _ => 0) 0 i N = some (l, N1) → WOK t y ([91] ++ l) N1 [] μ μ1 → w_P sc fr lo 88 6 5 false (none) prog_7_method_7_code 12 [some (.ref 35), some (.int (ji k)), some (.int (ji d)), some (.int (ji (pt (vT μ t) k i))), some (.int (ji (i : Int)))] [] (hp (μ1), ρ) (PV t y μ ρ (arw (vT μ t) f d k N)) := by
  intro m
  induction m using Nat.strongRecOn with
  | ind m ih =>
    intro i μ1 l N1 hm hi hwp ho
    obtain ⟨hT0, hT1, hT2, hT3, hT4, hT5, hT6, hT7, hT8⟩ := hT.sh
    have hT9 : t = 2 ∨ t = 11 ∨ t = 26 := hT
    have h240 := hTR.2.1.1
    have hrk := hTR.2.1.2 k hk.1 hk.2
    obtain ⟨ev, e7, eu, eA, eT⟩ := wfr_t hT hY ho.1
    have ht1 : μ1.2.1 35 4 = .ref t := ho.2.1.1.2
    have hc1 : 1 ≤ μ1.1 y 1 := by
      have q := ho.2.2.1
      rw [List.length_append] at q
      have : (([91] : List Int).length : Int) = 1 := rfl
      have := hW.2.1
      omega
    have hres : (arw (vT μ t) f d k N) = match wpt (fun i c M => wv (vT μ t) f (d + 1) i c M) (vT μ t) k (fun _ => 0) 0 (μ.2.2 (t + 5) k).toNat N with
        | none => none
        | some (l, N1) => some ([91] ++ (l ++ [93]), N1) := by
      unfold arw
      rw [if_neg (by omega)]
      rfl
    have hpre : ∀ L N', (arw (vT μ t) f d k N) = some (L, N') → ∃ lx Nx, wpt (fun i c M => wv (vT μ t) f (d + 1) i c M) (vT μ t) k (fun _ => 0) 0 (μ.2.2 (t + 5) k).toNat N = some (lx, Nx) ∧ L = [91] ++ (lx ++ [93]) := fun L N' z => by
      rw [hres] at z
      cases hz : wpt (fun i c M => wv (vT μ t) f (d + 1) i c M) (vT μ t) k (fun _ => 0) 0 (μ.2.2 (t + 5) k).toNat N with
      | none => rw [hz] at z; cases z
      | some p =>
        obtain ⟨lx, Nx⟩ := p
        rw [hz] at z
        cases z
        exact ⟨_, _, rfl, rfl⟩
    refine w_ld d_88_12 rfl rfl rfl ?_
    refine w_ld d_88_14 rfl rfl rfl ?_
    refine w_getR d_88_15 (by rfl) (by first | rfl | assumption) (by rfl) ht1 ?_
    refine w_getF d_88_18 (by rfl) (by first | rfl | assumption) (by rfl) (by rfl) ?_
    refine w_ld d_88_21 rfl rfl rfl ?_
    refine w_aI d_88_22 (by first | rfl | assumption) (by omega) (show _ = μ.2.2 (t + 5) k by rw [eA (t + 5) (by omega) (by omega)]) ?_
    refine w_icmp_ge (g := 62) d_88_23 (by decide) (by omega) (fun h23 => ?_) (fun h23 => ?_)
    · have hall : wpt (fun i c M => wv (vT μ t) f (d + 1) i c M) (vT μ t) k (fun _ => 0) 0 (μ.2.2 (t + 5) k).toNat N = some (l, N1) := by rw [show (μ.2.2 (t + 5) k).toNat = i by omega]; exact hwp
      refine w_ld d_88_62 rfl rfl rfl ?_
      refine w_bip d_88_63 (by decide) ?_
      refine w_cVq (as := [_]) (rest := _) rfl d_88_65 (by rfl) (by rfl) (by first | rfl | assumption) (by rfl) (by rfl) (Nat.le_of_ble_eq_true rfl) (by omega) (by omega) (t_put hT hY ho.2.1 (c := 93) (by decide) (by omega) (by omega) hr) ?_ ?_
      rotate_left
      · intro r τ g
        exact PVe ho g (by rw [hres, hall]; simp)
      rintro v τ g
      obtain rfl := PW_none g
      refine w_ret d_88_68 rfl ?_
      exact PVe ho g (by rw [hres, hall]; simp)
    · refine w_ld d_88_26 rfl rfl rfl ?_
      refine w_if_le (g := 37) d_88_28 (by decide) (by omega) (fun h28 => ?_) (fun h28 => ?_)
      · obtain ⟨ev2, e72, eu2, eA2, eT2⟩ := wfr_t hT hY (ho : WOK t y _ _ _ μ μ1).1
        have pp := hTR.2.1.prt hk h23
        have hko2 := hko.2.2.1 i h23
        have hy2 : 1 ≤ μ1.1 y 1 := by exact hc1
        refine w_ld d_88_37 rfl rfl rfl ?_
        refine w_ld d_88_38 rfl rfl rfl ?_
        refine w_con d_88_39 ?_
        refine w_ld d_88_40 rfl rfl rfl ?_
        refine w_con d_88_41 ?_
        refine w_iadd d_88_42 ?_
        refine w_cVq (as := [_, _, _]) (rest := _) rfl d_88_43 (by rfl) (by rfl) (by first | rfl | assumption) (by rfl) (by rfl) (Nat.le_of_ble_eq_true rfl) (by omega) (by omega) (hE _ _ μ1 ρ N1 _ 0 (d + 1) (by omega) (by omega) ho.2.1 (eT2 hTR) (by rw [e72]; exact pp.1) (by rw [ev2]; exact hko2) (by decide) (by omega) (Or.inl hy2) hr) ?_ ?_
        rotate_left
        · intro r τ g
          rw [ev2] at g
          refine PVy ho g (fun L N' z => ?_)
          obtain ⟨lx, Nx, hz, rfl⟩ := hpre L N' z
          have hs := wpt_s hwp
          cases hg : wv (vT μ t) f (d + 1) (pt (vT μ t) k i) 0 N1 with
          | none =>
            simp only [hg] at hs
            rw [wpt_x hs _ (by omega)] at hz
            cases hz
          | some p =>
            obtain ⟨l2, N2⟩ := p
            simp only [hg] at hs
            obtain ⟨q, rfl⟩ := wpt_p hs _ (by omega) lx Nx hz
            refine ⟨l2, N2, q ++ [93], rfl, ?_⟩
            rw [if_pos (by omega)]
            simp
        rintro vv3 τ3 (⟨l3, N3, hr3, hb3, hv3, μ3, rfl, ho3⟩ | ⟨_, hv3, _⟩)
        rotate_left
        · cases hv3
        obtain rfl := Sum.inl.inj hv3
        rw [ev2] at hr3
        obtain ⟨ev3, e73, eu3, eA3, eT3⟩ := wfr_t hT hY (WOK_trans ho ho3).1
        have ht3 : μ3.2.1 35 4 = .ref t := ho3.2.1.1.2
        refine w_ld d_88_46 rfl rfl rfl ?_
        refine w_getR d_88_47 (by rfl) (by first | rfl | assumption) (by rfl) ht3 ?_
        refine w_getF d_88_50 (by rfl) (by first | rfl | assumption) (by rfl) (by rfl) ?_
        refine w_ld d_88_53 rfl rfl rfl ?_
        refine w_aI d_88_54 (by first | rfl | assumption) (by omega) (show _ = μ.2.2 (t + 6) (pt (vT μ t) k i) by rw [eA3 (t + 6) (by omega) (by omega)]) ?_
        refine w_st1 (L' := [_, _, _, _, _]) d_88_55 rfl (by decide) rfl (by decide) rfl ?_
        refine w_inc (L' := [_, _, _, _, _]) d_88_56 rfl (by decide) rfl ?_
        refine w_goto (g := 12) d_88_59 (by decide) ?_
        have hs := wpt_s hwp
        simp only [hr3] at hs
        exact ih _ (by omega) (i + 1) μ3 _ N3 rfl (by omega) hs (by
          rw [if_pos (by omega)]
          have h9 := WOK_trans ho ho3
          simp only [List.append_assoc, List.nil_append] at h9 ⊢
          exact h9)
      · refine w_ld d_88_31 rfl rfl rfl ?_
        refine w_bip d_88_32 (by decide) ?_
        refine w_cVq (as := [_]) (rest := _) rfl d_88_34 (by rfl) (by rfl) (by first | rfl | assumption) (by rfl) (by rfl) (Nat.le_of_ble_eq_true rfl) (by omega) (by omega) (t_put hT hY ho.2.1 (c := 44) (by decide) (by omega) (by omega) hr) ?_ ?_
        rotate_left
        · intro r τ g
          refine PVx ho g (fun L N' z => ?_)
          obtain ⟨lx, Nx, hz, rfl⟩ := hpre L N' z
          have hs := wpt_s hwp
          cases hg : wv (vT μ t) f (d + 1) (pt (vT μ t) k i) 0 N1 with
          | none =>
            simp only [hg] at hs
            rw [wpt_x hs _ (by omega)] at hz
            cases hz
          | some p =>
            obtain ⟨l2, N2⟩ := p
            simp only [hg] at hs
            obtain ⟨q, rfl⟩ := wpt_p hs _ (by omega) lx Nx hz
            refine ⟨l2 ++ (q ++ [93]), ?_⟩
            rw [if_neg (by omega)]
            simp
        rintro v τ (⟨hb2, hv, μ2, rfl, ho2⟩ | ⟨_, hv, _⟩)
        rotate_left
        · cases hv
        obtain rfl := Sum.inl.inj hv
        obtain ⟨ev2, e72, eu2, eA2, eT2⟩ := wfr_t hT hY ((WOK_trans ho ho2) : WOK t y _ _ _ μ μ2).1
        have pp := hTR.2.1.prt hk h23
        have hko2 := hko.2.2.1 i h23
        have hy2 : 1 ≤ μ2.1 y 1 := by have q := ho2.2.2.1; have : (([44] : List Int).length : Int) = 1 := rfl; omega
        refine w_ld d_88_37 rfl rfl rfl ?_
        refine w_ld d_88_38 rfl rfl rfl ?_
        refine w_con d_88_39 ?_
        refine w_ld d_88_40 rfl rfl rfl ?_
        refine w_con d_88_41 ?_
        refine w_iadd d_88_42 ?_
        refine w_cVq (as := [_, _, _]) (rest := _) rfl d_88_43 (by rfl) (by rfl) (by first | rfl | assumption) (by rfl) (by rfl) (Nat.le_of_ble_eq_true rfl) (by omega) (by omega) (hE _ _ μ2 ρ N1 _ 0 (d + 1) (by omega) (by omega) (WOK_trans ho ho2).2.1 (eT2 hTR) (by rw [e72]; exact pp.1) (by rw [ev2]; exact hko2) (by decide) (by omega) (Or.inl hy2) hr) ?_ ?_
        rotate_left
        · intro r τ g
          rw [ev2] at g
          refine PVy (WOK_trans ho ho2) g (fun L N' z => ?_)
          obtain ⟨lx, Nx, hz, rfl⟩ := hpre L N' z
          have hs := wpt_s hwp
          cases hg : wv (vT μ t) f (d + 1) (pt (vT μ t) k i) 0 N1 with
          | none =>
            simp only [hg] at hs
            rw [wpt_x hs _ (by omega)] at hz
            cases hz
          | some p =>
            obtain ⟨l2, N2⟩ := p
            simp only [hg] at hs
            obtain ⟨q, rfl⟩ := wpt_p hs _ (by omega) lx Nx hz
            refine ⟨l2, N2, q ++ [93], rfl, ?_⟩
            rw [if_neg (by omega)]
            simp
        rintro vv3 τ3 (⟨l3, N3, hr3, hb3, hv3, μ3, rfl, ho3⟩ | ⟨_, hv3, _⟩)
        rotate_left
        · cases hv3
        obtain rfl := Sum.inl.inj hv3
        rw [ev2] at hr3
        obtain ⟨ev3, e73, eu3, eA3, eT3⟩ := wfr_t hT hY (WOK_trans (WOK_trans ho ho2) ho3).1
        have ht3 : μ3.2.1 35 4 = .ref t := ho3.2.1.1.2
        refine w_ld d_88_46 rfl rfl rfl ?_
        refine w_getR d_88_47 (by rfl) (by first | rfl | assumption) (by rfl) ht3 ?_
        refine w_getF d_88_50 (by rfl) (by first | rfl | assumption) (by rfl) (by rfl) ?_
        refine w_ld d_88_53 rfl rfl rfl ?_
        refine w_aI d_88_54 (by first | rfl | assumption) (by omega) (show _ = μ.2.2 (t + 6) (pt (vT μ t) k i) by rw [eA3 (t + 6) (by omega) (by omega)]) ?_
        refine w_st1 (L' := [_, _, _, _, _]) d_88_55 rfl (by decide) rfl (by decide) rfl ?_
        refine w_inc (L' := [_, _, _, _, _]) d_88_56 rfl (by decide) rfl ?_
        refine w_goto (g := 12) d_88_59 (by decide) ?_
        have hs := wpt_s hwp
        simp only [hr3] at hs
        exact ih _ (by omega) (i + 1) μ3 _ N3 rfl (by omega) hs (by
          rw [if_neg (by omega)]
          have h9 := WOK_trans (WOK_trans ho ho2) ho3
          simp only [List.append_assoc, List.nil_append] at h9 ⊢
          exact h9)
theorem t_arwO {sc : Nat × (Nat → Int32)} {fr lo : Nat} {μ : Mem} {ρ : Nat × Nat × Nat} {t y : Nat} (hT : isT t) (hY : y = 42 ∨ y = 44) {N : List (List Int)} (hW : WC t y N [] μ) (hTR : TR0 t μ) {f f0 l0 : Nat} (hE : VaC sc t y f f0 l0) {k d : Int} (hk : 0 ≤ k ∧ k < μ.1 t 7) (hko : okv (f + 1) (vT μ t) k) (hf : f0 + 60 ≤ fr) (hl : l0 + 1500 ≤ lo) (hr : 1 ≤ ρ.2.1 ∧ 6 ≤ ρ.2.2) (hd : 0 ≤ d ∧ d < 8) : w_S sc fr lo 88 [.ref 35, .int (ji k), .int (ji d)] (hp μ, ρ) (PV t y μ ρ (arw (vT μ t) f d k N)) := by
  refine w_S.of (L0 := [some (.ref 35), some (.int (ji k)), some (.int (ji d)), none, none]) rfl rfl (Nat.le_of_ble_eq_true rfl) (by rfl) ?_
  refine w_ld d_88_0 rfl rfl rfl ?_
  refine w_ld d_88_1 rfl rfl rfl ?_
  refine w_cVq (as := [_]) (rest := _) rfl d_88_2 (by rfl) (by rfl) (by first | rfl | assumption) (by rfl) (by rfl) (Nat.le_of_ble_eq_true rfl) (by omega) (by omega) (t_opO hT hY hW (d := d) hd (by omega) (by omega) hr) ?_ ?_
  rotate_left
  · intro r τ g
    refine PVx (WOK_refl hW) g (fun L N' z => ?_)
    unfold arw at z
    rw [if_neg (by omega)] at z
    split at z
    · cases z
    · cases z
      exact ⟨_, rfl⟩
  rintro v τ (⟨hb1, hv, μ1, rfl, ho1⟩ | ⟨_, hv, _⟩)
  rotate_left
  · cases hv
  obtain rfl := Sum.inl.inj hv
  refine w_ld d_88_5 rfl rfl rfl ?_
  refine w_con d_88_6 ?_
  refine w_iadd d_88_7 ?_
  refine w_st1 (L' := [_, _, _, _, _]) d_88_8 rfl (by decide) rfl (by decide) rfl ?_
  refine w_con d_88_9 ?_
  refine w_st1 (L' := [_, _, _, _, _]) d_88_10 rfl (by decide) rfl (by decide) rfl ?_
  exact t_arw_l hT hY hW hTR hE hk hko hf hl hr hd _ 0 μ1 [] N rfl (by have := (hTR.2.1.2 k hk.1 hk.2).2.2.1; show (0 : Int) ≤ _; omega) rfl ho1
theorem t_arw {sc : Nat × (Nat → Int32)} {fr lo : Nat} {μ : Mem} {ρ : Nat × Nat × Nat} {t y : Nat} (hT : isT t) (hY : y = 42 ∨ y = 44) {N : List (List Int)} (hW : WC t y N [] μ) (hTR : TR0 t μ) {f f0 l0 : Nat} (hE : VaC sc t y f f0 l0) {k d : Int} (hk : 0 ≤ k ∧ k < μ.1 t 7) (hko : okv (f + 1) (vT μ t) k) (hf : f0 + 60 ≤ fr) (hl : l0 + 1500 ≤ lo) (hr : 1 ≤ ρ.2.1 ∧ 6 ≤ ρ.2.2) (hd : 0 ≤ d ∧ d ≤ 30) : w_S sc fr lo 88 [.ref 35, .int (ji k), .int (ji d)] (hp μ, ρ) (PV t y μ ρ (arw (vT μ t) f d k N)) := by
  by_cases h : d < 8
  · exact t_arwO hT hY hW hTR hE hk hko hf hl hr ⟨hd.1, h⟩
  · have e : (arw (vT μ t) f d k N) = none := if_pos (by omega)
    rw [e]
    refine w_S.of (L0 := [some (.ref 35), some (.int (ji k)), some (.int (ji d)), none, none]) rfl rfl (Nat.le_of_ble_eq_true rfl) (by rfl) ?_
    refine w_ld d_88_0 rfl rfl rfl ?_
    refine w_ld d_88_1 rfl rfl rfl ?_
    refine w_cVx (as := [_]) (rest := _) rfl d_88_2 (by rfl) (by rfl) (by first | rfl | assumption) (by rfl) (by rfl) (Nat.le_of_ble_eq_true rfl) (by omega) (by omega) (t_opX (by omega) (by omega) (by omega) hr) ?_
    exact PV_X (WOK_refl hW) rfl
