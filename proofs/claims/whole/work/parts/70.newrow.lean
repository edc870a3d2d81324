/-! THE PURE PART, 52: a new row of the reference -/
/-- ν is μ with one row more, the last one being made -/
def mk1 (μ ν : Mem) (n : Int) : Prop := (∀ a q, ¬ (a = 46 ∧ q = 17) → ν.1 a q = μ.1 a q) ∧ ν.1 46 17 = n + 1 ∧ ν.2.1 = μ.2.1 ∧ ∀ a i, ¬ (49 ≤ a ∧ a ≤ 56 ∧ i = 256 + n) → ν.2.2 a i = μ.2.2 a i
theorem mk1_0 {μ : Mem} {n : Int} (h : μ.1 46 17 = n) : mk1 μ (stI μ 46 17 (μ.1 46 17 + 1)) n := ⟨fun a q z => stI_ne z, by rw [stI_at, h], rfl, fun _ _ _ => rfl⟩
theorem mk1_A {μ ν : Mem} {n : Int} (h : mk1 μ ν n) {a : Nat} (ha : 49 ≤ a ∧ a ≤ 56) {v x : Int} (hv : v = 256 + n) : mk1 μ (stA ν a v x) n :=
  ⟨h.1, h.2.1, h.2.2.1, fun b i z => by
    show (if b = a ∧ i = v then x else ν.2.2 b i) = _
    rw [if_neg (fun w => z ⟨by omega, by omega, by omega⟩)]
    exact h.2.2.2 b i z⟩
theorem mk1_I {μ ν : Mem} {n : Int} (h : mk1 μ ν n) {q : Nat} {x : Int} (hq : q ≠ 17) : mk1 (stI μ 46 q x) (stI ν 46 q x) n :=
  ⟨fun a p z => by
    by_cases hp : a = 46 ∧ p = q
    · rw [hp.1, hp.2, stI_at, stI_at]
    · rw [stI_ne hp, stI_ne hp]
      exact h.1 a p z, by rw [stI_ne (fun z => hq z.2.symm)]; exact h.2.1, h.2.2.1, h.2.2.2⟩
theorem mk1_fr {μ ν : Mem} {n : Int} (h : mk1 μ ν n) (hn : 0 ≤ n) : mfr μ ν :=
  ⟨fun a q z => h.1 a q (fun w => z w.1), fun q _ _ z3 _ _ _ _ => h.1 46 q (fun w => z3 w.2), h.2.2.1, fun a z => by
    funext i
    exact h.2.2.2 a i (fun w => by omega), fun a i _ _ z3 => h.2.2.2 a i (fun w => by omega), fun i _ => h.2.2.2 57 i (fun w => by omega)⟩
/-- the rows and fields that a new row leaves; m rows were there -/
def kp (μ ν : Mem) (m : Int) : Prop := (∀ a q, ¬ (a = 46 ∧ q = 17) → ν.1 a q = μ.1 a q) ∧ ν.2.1 = μ.2.1 ∧ ∀ a i, ¬ (49 ≤ a ∧ a ≤ 56 ∧ 256 + m ≤ i) → ν.2.2 a i = μ.2.2 a i
theorem mk1_MI {μ ν : Mem} {n : Int} (h : mk1 μ ν n) (hM : MI μ) (hn : μ.1 46 17 = n ∧ n ≤ 126) (hg : ν.2.2 56 (256 + n) = -1) : MI ν := by
  have h0 := hM.1
  refine MI_row (a := 256 + n) hM (by rw [h.2.1]; omega) ?_ (fun z => by omega) (by rw [hg]; decide) (fun b v b1 b2 hv => h.2.2.2 b v (fun w => hv w.2.2)) (fun v v1 v2 => by rw [h.2.1] at v2; omega)
  funext i
  exact h.2.2.2 57 i (fun w => by omega)
theorem m_finish {sc : Nat × (Nat → Int32)} {fr lo : Nat} {μ ν : Mem} {ρ : Nat × Nat × Nat} {n : Int} (h : mk1 μ ν n) (hM : MI μ) (hn : μ.1 46 17 = n ∧ n ≤ 126) (hg : ν.2.2 56 (256 + n) = -1) (hP : ν.2.2 53 (256 + n) = 0) (hK : 0 ≤ ν.2.2 49 (256 + n) ∧ ν.2.2 49 (256 + n) ≤ 12) (hN : -9223372036854775808 ≤ ν.2.2 50 (256 + n) ∧ ν.2.2 50 (256 + n) < 9223372036854775808) (hS : (0 ≤ ν.2.2 52 (256 + n) ∧ ν.2.2 52 (256 + n) ≤ 240) ∧ (ν.2.2 52 (256 + n) = 0 ∨ 0 ≤ ν.2.2 51 (256 + n) ∧ ν.2.2 51 (256 + n) + ν.2.2 52 (256 + n) ≤ 720)) (hf : 7 ≤ fr) (hl : 300 ≤ lo) : w_S sc fr lo 135 [.ref 46, .int (ji (256 + n))] (hp ν, ρ) (fun o t' => ∃ μ' : Mem, o = .inl none ∧ (MI μ' ∧ kp μ μ' n ∧ μ'.1 46 17 = n + 1 ∧ (∀ a, 49 ≤ a → a ≤ 55 → a ≠ 54 → μ'.2.2 a (256 + n) = ν.2.2 a (256 + n)) ∧ μ'.2.2 54 (256 + n) = 1 ∧ 0 ≤ μ'.2.2 56 (256 + n)) ∧ t' = (hp μ', ρ)) := by
  have h0 := hM.1
  have ht : ν.1 46 17 = n + 1 := h.2.1
  have hsp : 256 + ν.1 46 17 - (256 + n) = 1 := by omega
  have h1 : mk1 μ (stA ν 54 (256 + n) 1) n := mk1_A h (by decide) rfl
  have hM1 : MI (stA ν 54 (256 + n) 1) := mk1_MI h1 hM hn hg
  have k := m_ready (sc := sc) (fr := fr) (lo := lo) (μ := ν) (ρ := ρ) (a := (256 + n)) (by omega) (by rw [hsp]; exact hM1) (by omega) hg (by
    rw [hsp]
    refine ⟨hK, hN, ?_, ?_, hS.1, hS.2, ?_⟩
    · show 0 ≤ ν.2.2 53 (256 + n) ∧ ν.2.2 53 (256 + n) ≤ 240
      omega
    · show 1 ≤ (if 54 = 54 ∧ (256 + n) = (256 + n) then 1 else ν.2.2 54 (256 + n)) ∧ (if 54 = 54 ∧ (256 + n) = (256 + n) then 1 else ν.2.2 54 (256 + n)) ≤ 240
      rw [if_pos ⟨rfl, rfl⟩]
      decide
    · show -1 ≤ (if 56 = 56 ∧ (256 + n) = (256 + n) then (256 + n) else ν.2.2 56 (256 + n)) ∧ (if 56 = 56 ∧ (256 + n) = (256 + n) then (256 + n) else ν.2.2 56 (256 + n)) < 384
      rw [if_pos ⟨rfl, rfl⟩]
      omega) (okv_0 hP) (fun m hm => by omega) hf hl
  refine k.mono ?_
  rintro o t' ⟨μ', ho, ⟨r, hr, r1, hMI⟩, ht'⟩
  rw [hsp] at hr
  refine ⟨μ', ho, ⟨hMI, ?_, ?_, ?_, ?_, ?_⟩, ht'⟩
  · rw [hr]
    refine ⟨h.1, h.2.2.1, fun a i z => ?_⟩
    show (if a = 56 ∧ i = (256 + n) then r else if a = 54 ∧ i = (256 + n) then 1 else ν.2.2 a i) = _
    rw [if_neg (by omega), if_neg (by omega)]
    exact h.2.2.2 a i (by omega)
  · rw [hr]; exact ht
  · intro a a1 a2 a3
    rw [hr]
    show (if a = 56 ∧ (256 + n) = (256 + n) then r else if a = 54 ∧ (256 + n) = (256 + n) then 1 else ν.2.2 a (256 + n)) = _
    rw [if_neg (by omega), if_neg (by omega)]
  · rw [hr]
    show (if 54 = 56 ∧ (256 + n) = (256 + n) then r else if 54 = 54 ∧ (256 + n) = (256 + n) then 1 else ν.2.2 54 (256 + n)) = 1
    rw [if_neg (by omega), if_pos ⟨rfl, rfl⟩]
  · rw [hr]
    show 0 ≤ (if 56 = 56 ∧ (256 + n) = (256 + n) then r else _)
    rw [if_pos ⟨rfl, rfl⟩]
    omega
/-- the letters of a name, 0 behind its end -/
def litl (k : Nat) (i : Int) : Int := if i < slen k then sch k i else 0
theorem m_word_s {sc : Nat × (Nat → Int32)} {fr lo : Nat} {μ : Mem} {ρ : Nat × Nat × Nat} {k : Nat} (hk : k < 22) (hw : 0 ≤ μ.1 46 16 ∧ μ.1 46 16 < 2147483648) : ∀ (m : Nat) (i : Int), (5 - i).toNat = m → (0 ≤ i ∧ i ≤ 5) → w_P sc fr lo 144 7 8 false (none) prog_9_method_32_code 3 [some (.ref 46), some (.int (ji (litl k 0))), some (.int (ji (litl k 1))), some (.int (ji (litl k 2))), some (.int (ji (litl k 3))), some (.int (ji (litl k 4))), some (.int (ji i)), none] [] (hp (μ), ρ) (fun o t' => o = .inl none ∧ t' = (hp μ, ρ)) := by
  intro m
  induction m using Nat.strongRecOn with
  | ind m ih =>
    intro i hm hi
    have hli : ∀ j, 0 ≤ j → j < 5 → 0 ≤ litl k j ∧ litl k j ≤ 126 := fun j j0 j1 => by
      unfold litl
      split
      · have := sch_in hk (i := j) ⟨j0, by omega⟩
        omega
      · decide
    have q0 := hli 0 (by decide) (by decide)
    have q1 := hli 1 (by decide) (by decide)
    have q2 := hli 2 (by decide) (by decide)
    have q3 := hli 3 (by decide) (by decide)
    have q4 := hli 4 (by decide) (by decide)
    refine w_ld d_144_3 rfl rfl rfl ?_
    refine w_con d_144_5 ?_
    refine w_icmp_ge (g := 102) d_144_6 (by decide) (by omega) (fun h6 => ?_) (fun h6 => ?_)
    · refine w_ret d_144_102 rfl ?_
      exact ⟨rfl, rfl⟩
    · refine w_ld d_144_9 rfl rfl rfl ?_
      refine w_if_ne (g := 18) d_144_11 (by decide) (by omega) (fun h11 => ?_) (fun h11 => ?_)
      · refine w_ld d_144_18 rfl rfl rfl ?_
        refine w_con d_144_20 ?_
        refine w_icmp_ne (g := 28) d_144_21 (by decide) (by omega) (fun h21 => ?_) (fun h21 => ?_)
        · refine w_ld d_144_28 rfl rfl rfl ?_
          refine w_con d_144_30 ?_
          refine w_icmp_ne (g := 38) d_144_31 (by decide) (by omega) (fun h31 => ?_) (fun h31 => ?_)
          · refine w_ld d_144_38 rfl rfl rfl ?_
            refine w_con d_144_40 ?_
            refine w_icmp_ne (g := 49) d_144_41 (by decide) (by omega) (fun h41 => ?_) (fun h41 => ?_)
            · refine w_ld d_144_49 rfl rfl rfl ?_
              refine w_st1 (L' := [_, _, _, _, _, _, _, _]) d_144_51 rfl (by decide) rfl (by decide) rfl ?_
              refine w_ld d_144_53 rfl rfl rfl ?_
              refine w_if_le (g := 96) d_144_55 (by decide) (by omega) (fun h55 => ?_) (fun h55 => ?_)
              · refine w_inc (L' := [_, _, _, _, _, _, _, _]) d_144_96 rfl (by decide) rfl ?_
                refine w_goto (g := 3) d_144_99 (by decide) ?_
                exact w_P.le (ih _ (by omega) (i + 1) rfl (by omega)) ⟨rfl, rfl, rfl, rfl, rfl, rfl, rfl, trivial⟩
              · refine w_ld d_144_58 rfl rfl rfl ?_
                refine w_gI d_144_59 (by rfl) (by first | rfl | assumption) (by rfl) rfl ?_
                refine w_if_ge (g := 96) d_144_62 (by decide) (by omega) (fun h62 => ?_) (fun h62 => ?_)
                · refine w_inc (L' := [_, _, _, _, _, _, _, _]) d_144_96 rfl (by decide) rfl ?_
                  refine w_goto (g := 3) d_144_99 (by decide) ?_
                  exact w_P.le (ih _ (by omega) (i + 1) rfl (by omega)) ⟨rfl, rfl, rfl, rfl, rfl, rfl, rfl, trivial⟩
                · exact absurd h62 (by omega)
            · refine w_ld d_144_44 rfl rfl rfl ?_
              refine w_goto (g := 51) d_144_46 (by decide) ?_
              refine w_st1 (L' := [_, _, _, _, _, _, _, _]) d_144_51 rfl (by decide) rfl (by decide) rfl ?_
              refine w_ld d_144_53 rfl rfl rfl ?_
              refine w_if_le (g := 96) d_144_55 (by decide) (by omega) (fun h55 => ?_) (fun h55 => ?_)
              · refine w_inc (L' := [_, _, _, _, _, _, _, _]) d_144_96 rfl (by decide) rfl ?_
                refine w_goto (g := 3) d_144_99 (by decide) ?_
                exact w_P.le (ih _ (by omega) (i + 1) rfl (by omega)) ⟨rfl, rfl, rfl, rfl, rfl, rfl, rfl, trivial⟩
              · refine w_ld d_144_58 rfl rfl rfl ?_
                refine w_gI d_144_59 (by rfl) (by first | rfl | assumption) (by rfl) rfl ?_
                refine w_if_ge (g := 96) d_144_62 (by decide) (by omega) (fun h62 => ?_) (fun h62 => ?_)
                · refine w_inc (L' := [_, _, _, _, _, _, _, _]) d_144_96 rfl (by decide) rfl ?_
                  refine w_goto (g := 3) d_144_99 (by decide) ?_
                  exact w_P.le (ih _ (by omega) (i + 1) rfl (by omega)) ⟨rfl, rfl, rfl, rfl, rfl, rfl, rfl, trivial⟩
                · exact absurd h62 (by omega)
          · refine w_ld d_144_34 rfl rfl rfl ?_
            refine w_goto (g := 51) d_144_35 (by decide) ?_
            refine w_st1 (L' := [_, _, _, _, _, _, _, _]) d_144_51 rfl (by decide) rfl (by decide) rfl ?_
            refine w_ld d_144_53 rfl rfl rfl ?_
            refine w_if_le (g := 96) d_144_55 (by decide) (by omega) (fun h55 => ?_) (fun h55 => ?_)
            · refine w_inc (L' := [_, _, _, _, _, _, _, _]) d_144_96 rfl (by decide) rfl ?_
              refine w_goto (g := 3) d_144_99 (by decide) ?_
              exact w_P.le (ih _ (by omega) (i + 1) rfl (by omega)) ⟨rfl, rfl, rfl, rfl, rfl, rfl, rfl, trivial⟩
            · refine w_ld d_144_58 rfl rfl rfl ?_
              refine w_gI d_144_59 (by rfl) (by first | rfl | assumption) (by rfl) rfl ?_
              refine w_if_ge (g := 96) d_144_62 (by decide) (by omega) (fun h62 => ?_) (fun h62 => ?_)
              · refine w_inc (L' := [_, _, _, _, _, _, _, _]) d_144_96 rfl (by decide) rfl ?_
                refine w_goto (g := 3) d_144_99 (by decide) ?_
                exact w_P.le (ih _ (by omega) (i + 1) rfl (by omega)) ⟨rfl, rfl, rfl, rfl, rfl, rfl, rfl, trivial⟩
              · exact absurd h62 (by omega)
        · refine w_ld d_144_24 rfl rfl rfl ?_
          refine w_goto (g := 51) d_144_25 (by decide) ?_
          refine w_st1 (L' := [_, _, _, _, _, _, _, _]) d_144_51 rfl (by decide) rfl (by decide) rfl ?_
          refine w_ld d_144_53 rfl rfl rfl ?_
          refine w_if_le (g := 96) d_144_55 (by decide) (by omega) (fun h55 => ?_) (fun h55 => ?_)
          · refine w_inc (L' := [_, _, _, _, _, _, _, _]) d_144_96 rfl (by decide) rfl ?_
            refine w_goto (g := 3) d_144_99 (by decide) ?_
            exact w_P.le (ih _ (by omega) (i + 1) rfl (by omega)) ⟨rfl, rfl, rfl, rfl, rfl, rfl, rfl, trivial⟩
          · refine w_ld d_144_58 rfl rfl rfl ?_
            refine w_gI d_144_59 (by rfl) (by first | rfl | assumption) (by rfl) rfl ?_
            refine w_if_ge (g := 96) d_144_62 (by decide) (by omega) (fun h62 => ?_) (fun h62 => ?_)
            · refine w_inc (L' := [_, _, _, _, _, _, _, _]) d_144_96 rfl (by decide) rfl ?_
              refine w_goto (g := 3) d_144_99 (by decide) ?_
              exact w_P.le (ih _ (by omega) (i + 1) rfl (by omega)) ⟨rfl, rfl, rfl, rfl, rfl, rfl, rfl, trivial⟩
            · exact absurd h62 (by omega)
      · refine w_ld d_144_14 rfl rfl rfl ?_
        refine w_goto (g := 51) d_144_15 (by decide) ?_
        refine w_st1 (L' := [_, _, _, _, _, _, _, _]) d_144_51 rfl (by decide) rfl (by decide) rfl ?_
        refine w_ld d_144_53 rfl rfl rfl ?_
        refine w_if_le (g := 96) d_144_55 (by decide) (by omega) (fun h55 => ?_) (fun h55 => ?_)
        · refine w_inc (L' := [_, _, _, _, _, _, _, _]) d_144_96 rfl (by decide) rfl ?_
          refine w_goto (g := 3) d_144_99 (by decide) ?_
          exact w_P.le (ih _ (by omega) (i + 1) rfl (by omega)) ⟨rfl, rfl, rfl, rfl, rfl, rfl, rfl, trivial⟩
        · refine w_ld d_144_58 rfl rfl rfl ?_
          refine w_gI d_144_59 (by rfl) (by first | rfl | assumption) (by rfl) rfl ?_
          refine w_if_ge (g := 96) d_144_62 (by decide) (by omega) (fun h62 => ?_) (fun h62 => ?_)
          · refine w_inc (L' := [_, _, _, _, _, _, _, _]) d_144_96 rfl (by decide) rfl ?_
            refine w_goto (g := 3) d_144_99 (by decide) ?_
            exact w_P.le (ih _ (by omega) (i + 1) rfl (by omega)) ⟨rfl, rfl, rfl, rfl, rfl, rfl, rfl, trivial⟩
          · exact absurd h62 (by omega)
theorem m_word_l {sc : Nat × (Nat → Int32)} {fr lo : Nat} {μ : Mem} {ρ : Nat × Nat × Nat} (hn : 0 ≤ μ.1 46 3 ∧ μ.1 46 3 ≤ 240) (hch : ∀ k, 0 ≤ μ.2.2 47 k ∧ μ.2.2 47 k < 65536) (h16 : μ.1 46 16 = -1) {k : Nat} (hk : k < 22) (hk5 : slen k ≤ 5 ∧ 1 ≤ slen k) {p0 : Int} (hp0 : 0 ≤ p0 ∧ p0 ≤ 500) (hf : 8 ≤ fr) (hl : 200 ≤ lo) : ∀ (m : Nat) (i pl : Int), (5 - i).toNat = m → (0 ≤ i ∧ i ≤ 5) → pl = (if i < slen k then i else slen k) → pl ≤ (fm (μ.2.2 47) (μ.1 46 3) p0 k) → w_P sc fr lo 144 7 8 false (none) prog_9_method_32_code 3 [some (.ref 46), some (.int (ji (litl k 0))), some (.int (ji (litl k 1))), some (.int (ji (litl k 2))), some (.int (ji (litl k 3))), some (.int (ji (litl k 4))), some (.int (ji i)), none] [] (hp (stI μ 46 15 (p0 + pl)), ρ) (fun o t' => ∃ μ' : Mem, o = .inl none ∧ (((fm (μ.2.2 47) (μ.1 46 3) p0 k) = slen k → μ' = stI μ 46 15 (p0 + slen k)) ∧ ((fm (μ.2.2 47) (μ.1 46 3) p0 k) ≠ slen k → μ' = stI (stI μ 46 15 (p0 + (fm (μ.2.2 47) (μ.1 46 3) p0 k) + 1)) 46 16 (p0 + (fm (μ.2.2 47) (μ.1 46 3) p0 k)))) ∧ t' = (hp μ', ρ)) := by
  intro m
  induction m using Nat.strongRecOn with
  | ind m ih =>
    intro i pl hm hi hpl hif
    have fp := fm_sp (T := μ.2.2 47) (n := μ.1 46 3) (p := p0) (k := k) hk
    have hpr : 0 ≤ pl ∧ pl ≤ 5 := by rw [hpl]; split <;> omega
    have hli : ∀ j, 0 ≤ j → j < 5 → 0 ≤ litl k j ∧ litl k j ≤ 126 := fun j j0 j1 => by
      unfold litl
      split
      · have := sch_in hk (i := j) ⟨j0, by omega⟩
        omega
      · decide
    have q0 := hli 0 (by decide) (by decide)
    have q1 := hli 1 (by decide) (by decide)
    have q2 := hli 2 (by decide) (by decide)
    have q3 := hli 3 (by decide) (by decide)
    have q4 := hli 4 (by decide) (by decide)
    have lk : w_E sc (fr - 1) (lo - (19 + 2)) 119 [.ref 46, .int (ji (p0 + pl))] (hp (stI μ 46 15 (p0 + pl)), ρ) (.inl (some (.int (ji (if p0 + pl < μ.1 46 3 then μ.2.2 47 (p0 + pl) else 0))))) (hp (stI μ 46 15 (p0 + pl)), ρ) := m_look (μ := stI μ 46 15 (p0 + pl)) hn (by omega) (by omega)
    refine w_ld d_144_3 rfl rfl rfl ?_
    refine w_con d_144_5 ?_
    refine w_icmp_ge (g := 102) d_144_6 (by decide) (by omega) (fun h6 => ?_) (fun h6 => ?_)
    · refine w_ret d_144_102 rfl ?_
      have hpe : pl = slen k := by rw [hpl, if_neg (by omega)]
      rw [hpe]
      exact ⟨_, rfl, ⟨(fun _ => rfl), (fun z => absurd (show (fm (μ.2.2 47) (μ.1 46 3) p0 k) = slen k by omega) z)⟩, rfl⟩
    · refine w_ld d_144_9 rfl rfl rfl ?_
      refine w_if_ne (g := 18) d_144_11 (by decide) (by omega) (fun h11 => ?_) (fun h11 => ?_)
      · refine w_ld d_144_18 rfl rfl rfl ?_
        refine w_con d_144_20 ?_
        refine w_icmp_ne (g := 28) d_144_21 (by decide) (by omega) (fun h21 => ?_) (fun h21 => ?_)
        · refine w_ld d_144_28 rfl rfl rfl ?_
          refine w_con d_144_30 ?_
          refine w_icmp_ne (g := 38) d_144_31 (by decide) (by omega) (fun h31 => ?_) (fun h31 => ?_)
          · refine w_ld d_144_38 rfl rfl rfl ?_
            refine w_con d_144_40 ?_
            refine w_icmp_ne (g := 49) d_144_41 (by decide) (by omega) (fun h41 => ?_) (fun h41 => ?_)
            · refine w_ld d_144_49 rfl rfl rfl ?_
              refine w_st1 (L' := [_, _, _, _, _, _, _, _]) d_144_51 rfl (by decide) rfl (by decide) rfl ?_
              refine w_ld d_144_53 rfl rfl rfl ?_
              refine w_if_le (g := 96) d_144_55 (by decide) (by omega) (fun h55 => ?_) (fun h55 => ?_)
              · refine w_inc (L' := [_, _, _, _, _, _, _, _]) d_144_96 rfl (by decide) rfl ?_
                refine w_goto (g := 3) d_144_99 (by decide) ?_
                have hge : slen k ≤ i := Decidable.byContradiction (fun z => by
                  have h1 : litl k 4 = sch k 4 := if_pos (by omega)
                  have h2 := sch_in hk (i := 4) (by omega)
                  omega)
                exact w_P.le (ih _ (by omega) (i + 1) pl rfl (by omega) (by rw [hpl, if_neg (by omega), if_neg (by omega)]) hif) ⟨rfl, rfl, rfl, rfl, rfl, rfl, rfl, trivial⟩
              · have hsl : i < slen k := Decidable.byContradiction (fun z => by
                  have : litl k 4 = 0 := if_neg (by omega)
                  omega)
                have hlit : litl k 4 = sch k i := by
                  rw [show (4 : Int) = i by omega]
                  exact if_pos hsl
                have hpe : pl = i := by rw [hpl, if_pos hsl]
                refine w_ld d_144_58 rfl rfl rfl ?_
                refine w_gI d_144_59 (by rfl) (by first | rfl | assumption) (by rfl) (show (stI μ 46 15 (p0 + pl)).1 46 16 = -1 from h16) ?_
                refine w_if_ge (g := 96) d_144_62 (by decide) (by omega) (fun h62 => ?_) (fun h62 => ?_)
                · exact absurd h62 (by omega)
                · refine w_ld d_144_65 rfl rfl rfl ?_
                  refine w_ld d_144_66 rfl rfl rfl ?_
                  refine w_gI d_144_67 (by rfl) (by first | rfl | assumption) (by rfl) (show _ = p0 + pl from stI_at _ _ _ _) ?_
                  refine w_cV1 (a := 46) (as := [_]) (rest := _) rfl d_144_70 (by rfl) (by rfl) (by first | rfl | assumption) (by rfl) (by rfl) (Nat.le_of_ble_eq_true rfl) (by omega) (by omega) lk ?_
                  refine w_ld d_144_73 rfl rfl rfl ?_
                  refine w_icmp_eq (g := 86) d_144_75 (by decide) (by have := hch (p0 + pl); split <;> omega) (fun h75 => ?_) (fun h75 => ?_)
                  · refine w_ld d_144_86 rfl rfl rfl ?_
                    refine w_stk d_144_87 rfl ?_
                    refine w_gI d_144_88 (by rfl) (by first | rfl | assumption) (by rfl) (show _ = p0 + pl from stI_at _ _ _ _) ?_
                    refine w_con d_144_91 ?_
                    refine w_iadd d_144_92 ?_
                    refine w_putI d_144_93 (by rfl) (by first | rfl | assumption) (by rfl) (fit_I (by rfl)) (by rfl) ?_
                    refine w_inc (L' := [_, _, _, _, _, _, _, _]) d_144_96 rfl (by decide) rfl ?_
                    refine w_goto (g := 3) d_144_99 (by decide) ?_
                    have hlt : p0 + pl < μ.1 46 3 := Decidable.byContradiction (fun z => by rw [if_neg z] at h75; have := sch_in hk (i := i) (by omega); omega)
                    rw [if_pos hlt] at h75
                    have hfm : i < (fm (μ.2.2 47) (μ.1 46 3) p0 k) := Decidable.byContradiction (fun z => by
                      have e : (fm (μ.2.2 47) (μ.1 46 3) p0 k) = i := by omega
                      have h3 := fp.2.2 (by omega)
                      rw [e] at h3
                      rw [hpe] at hlt h75
                      exact h3 ⟨hlt, by omega⟩)
                    rw [stI_stI, show p0 + pl + 1 = p0 + (pl + 1) by omega]
                    exact w_P.le (ih _ (by omega) (i + 1) (pl + 1) rfl (by omega) (by split <;> omega) (by omega)) ⟨rfl, rfl, rfl, rfl, rfl, rfl, rfl, trivial⟩
                  · refine w_ld d_144_78 rfl rfl rfl ?_
                    refine w_ld d_144_79 rfl rfl rfl ?_
                    refine w_gI d_144_80 (by rfl) (by first | rfl | assumption) (by rfl) (show _ = p0 + pl from stI_at _ _ _ _) ?_
                    refine w_cV0 (a := 46) (as := [_]) (rest := _) rfl d_144_83 (by rfl) (by rfl) (by first | rfl | assumption) (by rfl) (by rfl) (Nat.le_of_ble_eq_true rfl) (by omega) (by omega) (by have e := m_fail (sc := sc) (fr := fr - 1) (lo := lo - (19 + 2)) (μ := stI μ 46 15 (p0 + pl)) (ρ := ρ) (by rw [show (stI μ 46 15 (p0 + pl)).1 46 16 = -1 from h16]; decide) (k := p0 + pl); rw [show (stI μ 46 15 (p0 + pl)).1 46 16 = -1 from h16, if_pos (by decide)] at e; exact e) ?_
                    refine w_ld d_144_86 rfl rfl rfl ?_
                    refine w_stk d_144_87 rfl ?_
                    refine w_gI d_144_88 (by rfl) (by first | rfl | assumption) (by rfl) (show _ = p0 + pl from rfl) ?_
                    refine w_con d_144_91 ?_
                    refine w_iadd d_144_92 ?_
                    refine w_putI d_144_93 (by rfl) (by first | rfl | assumption) (by rfl) (fit_I (by rfl)) (by rfl) ?_
                    refine w_inc (L' := [_, _, _, _, _, _, _, _]) d_144_96 rfl (by decide) rfl ?_
                    refine w_goto (g := 3) d_144_99 (by decide) ?_
                    have hfm : (fm (μ.2.2 47) (μ.1 46 3) p0 k) = pl := by
                      refine Decidable.byContradiction (fun z => ?_)
                      have h2 := fp.2.1 i (by omega) (by omega)
                      rw [hpe, if_pos h2.1] at h75
                      omega
                    have ew : stI (stI (stI μ 46 15 (p0 + pl)) 46 16 (p0 + pl)) 46 15 (p0 + pl + 1) = stI (stI μ 46 15 (p0 + (fm (μ.2.2 47) (μ.1 46 3) p0 k) + 1)) 46 16 (p0 + (fm (μ.2.2 47) (μ.1 46 3) p0 k)) := by
                      rw [hfm]
                      refine Prod.ext ?_ rfl
                      funext b q
                      simp only [stI]
                      by_cases z1 : b = 46 ∧ q = 15
                      · rw [if_pos z1, if_neg (by omega), if_pos z1]
                      · rw [if_neg z1, if_neg z1, if_neg z1]
                    rw [ew]
                    refine w_P.le ((m_word_s (μ := stI (stI μ 46 15 (p0 + (fm (μ.2.2 47) (μ.1 46 3) p0 k) + 1)) 46 16 (p0 + (fm (μ.2.2 47) (μ.1 46 3) p0 k))) hk (by rw [stI_at]; omega) _ (i + 1) rfl (by omega)).mono ?_) ⟨rfl, rfl, rfl, rfl, rfl, rfl, rfl, trivial⟩
                    rintro o t' ⟨rfl, rfl⟩
                    exact ⟨_, rfl, ⟨(fun z => absurd (hfm.symm.trans z) (by omega)), (fun _ => rfl)⟩, rfl⟩
            · refine w_ld d_144_44 rfl rfl rfl ?_
              refine w_goto (g := 51) d_144_46 (by decide) ?_
              refine w_st1 (L' := [_, _, _, _, _, _, _, _]) d_144_51 rfl (by decide) rfl (by decide) rfl ?_
              refine w_ld d_144_53 rfl rfl rfl ?_
              refine w_if_le (g := 96) d_144_55 (by decide) (by omega) (fun h55 => ?_) (fun h55 => ?_)
              · refine w_inc (L' := [_, _, _, _, _, _, _, _]) d_144_96 rfl (by decide) rfl ?_
                refine w_goto (g := 3) d_144_99 (by decide) ?_
                have hge : slen k ≤ i := Decidable.byContradiction (fun z => by
                  have h1 : litl k 3 = sch k 3 := if_pos (by omega)
                  have h2 := sch_in hk (i := 3) (by omega)
                  omega)
                exact w_P.le (ih _ (by omega) (i + 1) pl rfl (by omega) (by rw [hpl, if_neg (by omega), if_neg (by omega)]) hif) ⟨rfl, rfl, rfl, rfl, rfl, rfl, rfl, trivial⟩
              · have hsl : i < slen k := Decidable.byContradiction (fun z => by
                  have : litl k 3 = 0 := if_neg (by omega)
                  omega)
                have hlit : litl k 3 = sch k i := by
                  rw [show (3 : Int) = i by omega]
                  exact if_pos hsl
                have hpe : pl = i := by rw [hpl, if_pos hsl]
                refine w_ld d_144_58 rfl rfl rfl ?_
                refine w_gI d_144_59 (by rfl) (by first | rfl | assumption) (by rfl) (show (stI μ 46 15 (p0 + pl)).1 46 16 = -1 from h16) ?_
                refine w_if_ge (g := 96) d_144_62 (by decide) (by omega) (fun h62 => ?_) (fun h62 => ?_)
                · exact absurd h62 (by omega)
                · refine w_ld d_144_65 rfl rfl rfl ?_
                  refine w_ld d_144_66 rfl rfl rfl ?_
                  refine w_gI d_144_67 (by rfl) (by first | rfl | assumption) (by rfl) (show _ = p0 + pl from stI_at _ _ _ _) ?_
                  refine w_cV1 (a := 46) (as := [_]) (rest := _) rfl d_144_70 (by rfl) (by rfl) (by first | rfl | assumption) (by rfl) (by rfl) (Nat.le_of_ble_eq_true rfl) (by omega) (by omega) lk ?_
                  refine w_ld d_144_73 rfl rfl rfl ?_
                  refine w_icmp_eq (g := 86) d_144_75 (by decide) (by have := hch (p0 + pl); split <;> omega) (fun h75 => ?_) (fun h75 => ?_)
                  · refine w_ld d_144_86 rfl rfl rfl ?_
                    refine w_stk d_144_87 rfl ?_
                    refine w_gI d_144_88 (by rfl) (by first | rfl | assumption) (by rfl) (show _ = p0 + pl from stI_at _ _ _ _) ?_
                    refine w_con d_144_91 ?_
                    refine w_iadd d_144_92 ?_
                    refine w_putI d_144_93 (by rfl) (by first | rfl | assumption) (by rfl) (fit_I (by rfl)) (by rfl) ?_
                    refine w_inc (L' := [_, _, _, _, _, _, _, _]) d_144_96 rfl (by decide) rfl ?_
                    refine w_goto (g := 3) d_144_99 (by decide) ?_
                    have hlt : p0 + pl < μ.1 46 3 := Decidable.byContradiction (fun z => by rw [if_neg z] at h75; have := sch_in hk (i := i) (by omega); omega)
                    rw [if_pos hlt] at h75
                    have hfm : i < (fm (μ.2.2 47) (μ.1 46 3) p0 k) := Decidable.byContradiction (fun z => by
                      have e : (fm (μ.2.2 47) (μ.1 46 3) p0 k) = i := by omega
                      have h3 := fp.2.2 (by omega)
                      rw [e] at h3
                      rw [hpe] at hlt h75
                      exact h3 ⟨hlt, by omega⟩)
                    rw [stI_stI, show p0 + pl + 1 = p0 + (pl + 1) by omega]
                    exact w_P.le (ih _ (by omega) (i + 1) (pl + 1) rfl (by omega) (by split <;> omega) (by omega)) ⟨rfl, rfl, rfl, rfl, rfl, rfl, rfl, trivial⟩
                  · refine w_ld d_144_78 rfl rfl rfl ?_
                    refine w_ld d_144_79 rfl rfl rfl ?_
                    refine w_gI d_144_80 (by rfl) (by first | rfl | assumption) (by rfl) (show _ = p0 + pl from stI_at _ _ _ _) ?_
                    refine w_cV0 (a := 46) (as := [_]) (rest := _) rfl d_144_83 (by rfl) (by rfl) (by first | rfl | assumption) (by rfl) (by rfl) (Nat.le_of_ble_eq_true rfl) (by omega) (by omega) (by have e := m_fail (sc := sc) (fr := fr - 1) (lo := lo - (19 + 2)) (μ := stI μ 46 15 (p0 + pl)) (ρ := ρ) (by rw [show (stI μ 46 15 (p0 + pl)).1 46 16 = -1 from h16]; decide) (k := p0 + pl); rw [show (stI μ 46 15 (p0 + pl)).1 46 16 = -1 from h16, if_pos (by decide)] at e; exact e) ?_
                    refine w_ld d_144_86 rfl rfl rfl ?_
                    refine w_stk d_144_87 rfl ?_
                    refine w_gI d_144_88 (by rfl) (by first | rfl | assumption) (by rfl) (show _ = p0 + pl from rfl) ?_
                    refine w_con d_144_91 ?_
                    refine w_iadd d_144_92 ?_
                    refine w_putI d_144_93 (by rfl) (by first | rfl | assumption) (by rfl) (fit_I (by rfl)) (by rfl) ?_
                    refine w_inc (L' := [_, _, _, _, _, _, _, _]) d_144_96 rfl (by decide) rfl ?_
                    refine w_goto (g := 3) d_144_99 (by decide) ?_
                    have hfm : (fm (μ.2.2 47) (μ.1 46 3) p0 k) = pl := by
                      refine Decidable.byContradiction (fun z => ?_)
                      have h2 := fp.2.1 i (by omega) (by omega)
                      rw [hpe, if_pos h2.1] at h75
                      omega
                    have ew : stI (stI (stI μ 46 15 (p0 + pl)) 46 16 (p0 + pl)) 46 15 (p0 + pl + 1) = stI (stI μ 46 15 (p0 + (fm (μ.2.2 47) (μ.1 46 3) p0 k) + 1)) 46 16 (p0 + (fm (μ.2.2 47) (μ.1 46 3) p0 k)) := by
                      rw [hfm]
                      refine Prod.ext ?_ rfl
                      funext b q
                      simp only [stI]
                      by_cases z1 : b = 46 ∧ q = 15
                      · rw [if_pos z1, if_neg (by omega), if_pos z1]
                      · rw [if_neg z1, if_neg z1, if_neg z1]
                    rw [ew]
                    refine w_P.le ((m_word_s (μ := stI (stI μ 46 15 (p0 + (fm (μ.2.2 47) (μ.1 46 3) p0 k) + 1)) 46 16 (p0 + (fm (μ.2.2 47) (μ.1 46 3) p0 k))) hk (by rw [stI_at]; omega) _ (i + 1) rfl (by omega)).mono ?_) ⟨rfl, rfl, rfl, rfl, rfl, rfl, rfl, trivial⟩
                    rintro o t' ⟨rfl, rfl⟩
                    exact ⟨_, rfl, ⟨(fun z => absurd (hfm.symm.trans z) (by omega)), (fun _ => rfl)⟩, rfl⟩
          · refine w_ld d_144_34 rfl rfl rfl ?_
            refine w_goto (g := 51) d_144_35 (by decide) ?_
            refine w_st1 (L' := [_, _, _, _, _, _, _, _]) d_144_51 rfl (by decide) rfl (by decide) rfl ?_
            refine w_ld d_144_53 rfl rfl rfl ?_
            refine w_if_le (g := 96) d_144_55 (by decide) (by omega) (fun h55 => ?_) (fun h55 => ?_)
            · refine w_inc (L' := [_, _, _, _, _, _, _, _]) d_144_96 rfl (by decide) rfl ?_
              refine w_goto (g := 3) d_144_99 (by decide) ?_
              have hge : slen k ≤ i := Decidable.byContradiction (fun z => by
                have h1 : litl k 2 = sch k 2 := if_pos (by omega)
                have h2 := sch_in hk (i := 2) (by omega)
                omega)
              exact w_P.le (ih _ (by omega) (i + 1) pl rfl (by omega) (by rw [hpl, if_neg (by omega), if_neg (by omega)]) hif) ⟨rfl, rfl, rfl, rfl, rfl, rfl, rfl, trivial⟩
            · have hsl : i < slen k := Decidable.byContradiction (fun z => by
                have : litl k 2 = 0 := if_neg (by omega)
                omega)
              have hlit : litl k 2 = sch k i := by
                rw [show (2 : Int) = i by omega]
                exact if_pos hsl
              have hpe : pl = i := by rw [hpl, if_pos hsl]
              refine w_ld d_144_58 rfl rfl rfl ?_
              refine w_gI d_144_59 (by rfl) (by first | rfl | assumption) (by rfl) (show (stI μ 46 15 (p0 + pl)).1 46 16 = -1 from h16) ?_
              refine w_if_ge (g := 96) d_144_62 (by decide) (by omega) (fun h62 => ?_) (fun h62 => ?_)
              · exact absurd h62 (by omega)
              · refine w_ld d_144_65 rfl rfl rfl ?_
                refine w_ld d_144_66 rfl rfl rfl ?_
                refine w_gI d_144_67 (by rfl) (by first | rfl | assumption) (by rfl) (show _ = p0 + pl from stI_at _ _ _ _) ?_
                refine w_cV1 (a := 46) (as := [_]) (rest := _) rfl d_144_70 (by rfl) (by rfl) (by first | rfl | assumption) (by rfl) (by rfl) (Nat.le_of_ble_eq_true rfl) (by omega) (by omega) lk ?_
                refine w_ld d_144_73 rfl rfl rfl ?_
                refine w_icmp_eq (g := 86) d_144_75 (by decide) (by have := hch (p0 + pl); split <;> omega) (fun h75 => ?_) (fun h75 => ?_)
                · refine w_ld d_144_86 rfl rfl rfl ?_
                  refine w_stk d_144_87 rfl ?_
                  refine w_gI d_144_88 (by rfl) (by first | rfl | assumption) (by rfl) (show _ = p0 + pl from stI_at _ _ _ _) ?_
                  refine w_con d_144_91 ?_
                  refine w_iadd d_144_92 ?_
                  refine w_putI d_144_93 (by rfl) (by first | rfl | assumption) (by rfl) (fit_I (by rfl)) (by rfl) ?_
                  refine w_inc (L' := [_, _, _, _, _, _, _, _]) d_144_96 rfl (by decide) rfl ?_
                  refine w_goto (g := 3) d_144_99 (by decide) ?_
                  have hlt : p0 + pl < μ.1 46 3 := Decidable.byContradiction (fun z => by rw [if_neg z] at h75; have := sch_in hk (i := i) (by omega); omega)
                  rw [if_pos hlt] at h75
                  have hfm : i < (fm (μ.2.2 47) (μ.1 46 3) p0 k) := Decidable.byContradiction (fun z => by
                    have e : (fm (μ.2.2 47) (μ.1 46 3) p0 k) = i := by omega
                    have h3 := fp.2.2 (by omega)
                    rw [e] at h3
                    rw [hpe] at hlt h75
                    exact h3 ⟨hlt, by omega⟩)
                  rw [stI_stI, show p0 + pl + 1 = p0 + (pl + 1) by omega]
                  exact w_P.le (ih _ (by omega) (i + 1) (pl + 1) rfl (by omega) (by split <;> omega) (by omega)) ⟨rfl, rfl, rfl, rfl, rfl, rfl, rfl, trivial⟩
                · refine w_ld d_144_78 rfl rfl rfl ?_
                  refine w_ld d_144_79 rfl rfl rfl ?_
                  refine w_gI d_144_80 (by rfl) (by first | rfl | assumption) (by rfl) (show _ = p0 + pl from stI_at _ _ _ _) ?_
                  refine w_cV0 (a := 46) (as := [_]) (rest := _) rfl d_144_83 (by rfl) (by rfl) (by first | rfl | assumption) (by rfl) (by rfl) (Nat.le_of_ble_eq_true rfl) (by omega) (by omega) (by have e := m_fail (sc := sc) (fr := fr - 1) (lo := lo - (19 + 2)) (μ := stI μ 46 15 (p0 + pl)) (ρ := ρ) (by rw [show (stI μ 46 15 (p0 + pl)).1 46 16 = -1 from h16]; decide) (k := p0 + pl); rw [show (stI μ 46 15 (p0 + pl)).1 46 16 = -1 from h16, if_pos (by decide)] at e; exact e) ?_
                  refine w_ld d_144_86 rfl rfl rfl ?_
                  refine w_stk d_144_87 rfl ?_
                  refine w_gI d_144_88 (by rfl) (by first | rfl | assumption) (by rfl) (show _ = p0 + pl from rfl) ?_
                  refine w_con d_144_91 ?_
                  refine w_iadd d_144_92 ?_
                  refine w_putI d_144_93 (by rfl) (by first | rfl | assumption) (by rfl) (fit_I (by rfl)) (by rfl) ?_
                  refine w_inc (L' := [_, _, _, _, _, _, _, _]) d_144_96 rfl (by decide) rfl ?_
                  refine w_goto (g := 3) d_144_99 (by decide) ?_
                  have hfm : (fm (μ.2.2 47) (μ.1 46 3) p0 k) = pl := by
                    refine Decidable.byContradiction (fun z => ?_)
                    have h2 := fp.2.1 i (by omega) (by omega)
                    rw [hpe, if_pos h2.1] at h75
                    omega
                  have ew : stI (stI (stI μ 46 15 (p0 + pl)) 46 16 (p0 + pl)) 46 15 (p0 + pl + 1) = stI (stI μ 46 15 (p0 + (fm (μ.2.2 47) (μ.1 46 3) p0 k) + 1)) 46 16 (p0 + (fm (μ.2.2 47) (μ.1 46 3) p0 k)) := by
                    rw [hfm]
                    refine Prod.ext ?_ rfl
                    funext b q
                    simp only [stI]
                    by_cases z1 : b = 46 ∧ q = 15
                    · rw [if_pos z1, if_neg (by omega), if_pos z1]
                    · rw [if_neg z1, if_neg z1, if_neg z1]
                  rw [ew]
                  refine w_P.le ((m_word_s (μ := stI (stI μ 46 15 (p0 + (fm (μ.2.2 47) (μ.1 46 3) p0 k) + 1)) 46 16 (p0 + (fm (μ.2.2 47) (μ.1 46 3) p0 k))) hk (by rw [stI_at]; omega) _ (i + 1) rfl (by omega)).mono ?_) ⟨rfl, rfl, rfl, rfl, rfl, rfl, rfl, trivial⟩
                  rintro o t' ⟨rfl, rfl⟩
                  exact ⟨_, rfl, ⟨(fun z => absurd (hfm.symm.trans z) (by omega)), (fun _ => rfl)⟩, rfl⟩
        · refine w_ld d_144_24 rfl rfl rfl ?_
          refine w_goto (g := 51) d_144_25 (by decide) ?_
          refine w_st1 (L' := [_, _, _, _, _, _, _, _]) d_144_51 rfl (by decide) rfl (by decide) rfl ?_
          refine w_ld d_144_53 rfl rfl rfl ?_
          refine w_if_le (g := 96) d_144_55 (by decide) (by omega) (fun h55 => ?_) (fun h55 => ?_)
          · refine w_inc (L' := [_, _, _, _, _, _, _, _]) d_144_96 rfl (by decide) rfl ?_
            refine w_goto (g := 3) d_144_99 (by decide) ?_
            have hge : slen k ≤ i := Decidable.byContradiction (fun z => by
              have h1 : litl k 1 = sch k 1 := if_pos (by omega)
              have h2 := sch_in hk (i := 1) (by omega)
              omega)
            exact w_P.le (ih _ (by omega) (i + 1) pl rfl (by omega) (by rw [hpl, if_neg (by omega), if_neg (by omega)]) hif) ⟨rfl, rfl, rfl, rfl, rfl, rfl, rfl, trivial⟩
          · have hsl : i < slen k := Decidable.byContradiction (fun z => by
              have : litl k 1 = 0 := if_neg (by omega)
              omega)
            have hlit : litl k 1 = sch k i := by
              rw [show (1 : Int) = i by omega]
              exact if_pos hsl
            have hpe : pl = i := by rw [hpl, if_pos hsl]
            refine w_ld d_144_58 rfl rfl rfl ?_
            refine w_gI d_144_59 (by rfl) (by first | rfl | assumption) (by rfl) (show (stI μ 46 15 (p0 + pl)).1 46 16 = -1 from h16) ?_
            refine w_if_ge (g := 96) d_144_62 (by decide) (by omega) (fun h62 => ?_) (fun h62 => ?_)
            · exact absurd h62 (by omega)
            · refine w_ld d_144_65 rfl rfl rfl ?_
              refine w_ld d_144_66 rfl rfl rfl ?_
              refine w_gI d_144_67 (by rfl) (by first | rfl | assumption) (by rfl) (show _ = p0 + pl from stI_at _ _ _ _) ?_
              refine w_cV1 (a := 46) (as := [_]) (rest := _) rfl d_144_70 (by rfl) (by rfl) (by first | rfl | assumption) (by rfl) (by rfl) (Nat.le_of_ble_eq_true rfl) (by omega) (by omega) lk ?_
              refine w_ld d_144_73 rfl rfl rfl ?_
              refine w_icmp_eq (g := 86) d_144_75 (by decide) (by have := hch (p0 + pl); split <;> omega) (fun h75 => ?_) (fun h75 => ?_)
              · refine w_ld d_144_86 rfl rfl rfl ?_
                refine w_stk d_144_87 rfl ?_
                refine w_gI d_144_88 (by rfl) (by first | rfl | assumption) (by rfl) (show _ = p0 + pl from stI_at _ _ _ _) ?_
                refine w_con d_144_91 ?_
                refine w_iadd d_144_92 ?_
                refine w_putI d_144_93 (by rfl) (by first | rfl | assumption) (by rfl) (fit_I (by rfl)) (by rfl) ?_
                refine w_inc (L' := [_, _, _, _, _, _, _, _]) d_144_96 rfl (by decide) rfl ?_
                refine w_goto (g := 3) d_144_99 (by decide) ?_
                have hlt : p0 + pl < μ.1 46 3 := Decidable.byContradiction (fun z => by rw [if_neg z] at h75; have := sch_in hk (i := i) (by omega); omega)
                rw [if_pos hlt] at h75
                have hfm : i < (fm (μ.2.2 47) (μ.1 46 3) p0 k) := Decidable.byContradiction (fun z => by
                  have e : (fm (μ.2.2 47) (μ.1 46 3) p0 k) = i := by omega
                  have h3 := fp.2.2 (by omega)
                  rw [e] at h3
                  rw [hpe] at hlt h75
                  exact h3 ⟨hlt, by omega⟩)
                rw [stI_stI, show p0 + pl + 1 = p0 + (pl + 1) by omega]
                exact w_P.le (ih _ (by omega) (i + 1) (pl + 1) rfl (by omega) (by split <;> omega) (by omega)) ⟨rfl, rfl, rfl, rfl, rfl, rfl, rfl, trivial⟩
              · refine w_ld d_144_78 rfl rfl rfl ?_
                refine w_ld d_144_79 rfl rfl rfl ?_
                refine w_gI d_144_80 (by rfl) (by first | rfl | assumption) (by rfl) (show _ = p0 + pl from stI_at _ _ _ _) ?_
                refine w_cV0 (a := 46) (as := [_]) (rest := _) rfl d_144_83 (by rfl) (by rfl) (by first | rfl | assumption) (by rfl) (by rfl) (Nat.le_of_ble_eq_true rfl) (by omega) (by omega) (by have e := m_fail (sc := sc) (fr := fr - 1) (lo := lo - (19 + 2)) (μ := stI μ 46 15 (p0 + pl)) (ρ := ρ) (by rw [show (stI μ 46 15 (p0 + pl)).1 46 16 = -1 from h16]; decide) (k := p0 + pl); rw [show (stI μ 46 15 (p0 + pl)).1 46 16 = -1 from h16, if_pos (by decide)] at e; exact e) ?_
                refine w_ld d_144_86 rfl rfl rfl ?_
                refine w_stk d_144_87 rfl ?_
                refine w_gI d_144_88 (by rfl) (by first | rfl | assumption) (by rfl) (show _ = p0 + pl from rfl) ?_
                refine w_con d_144_91 ?_
                refine w_iadd d_144_92 ?_
                refine w_putI d_144_93 (by rfl) (by first | rfl | assumption) (by rfl) (fit_I (by rfl)) (by rfl) ?_
                refine w_inc (L' := [_, _, _, _, _, _, _, _]) d_144_96 rfl (by decide) rfl ?_
                refine w_goto (g := 3) d_144_99 (by decide) ?_
                have hfm : (fm (μ.2.2 47) (μ.1 46 3) p0 k) = pl := by
                  refine Decidable.byContradiction (fun z => ?_)
                  have h2 := fp.2.1 i (by omega) (by omega)
                  rw [hpe, if_pos h2.1] at h75
                  omega
                have ew : stI (stI (stI μ 46 15 (p0 + pl)) 46 16 (p0 + pl)) 46 15 (p0 + pl + 1) = stI (stI μ 46 15 (p0 + (fm (μ.2.2 47) (μ.1 46 3) p0 k) + 1)) 46 16 (p0 + (fm (μ.2.2 47) (μ.1 46 3) p0 k)) := by
                  rw [hfm]
                  refine Prod.ext ?_ rfl
                  funext b q
                  simp only [stI]
                  by_cases z1 : b = 46 ∧ q = 15
                  · rw [if_pos z1, if_neg (by omega), if_pos z1]
                  · rw [if_neg z1, if_neg z1, if_neg z1]
                rw [ew]
                refine w_P.le ((m_word_s (μ := stI (stI μ 46 15 (p0 + (fm (μ.2.2 47) (μ.1 46 3) p0 k) + 1)) 46 16 (p0 + (fm (μ.2.2 47) (μ.1 46 3) p0 k))) hk (by rw [stI_at]; omega) _ (i + 1) rfl (by omega)).mono ?_) ⟨rfl, rfl, rfl, rfl, rfl, rfl, rfl, trivial⟩
                rintro o t' ⟨rfl, rfl⟩
                exact ⟨_, rfl, ⟨(fun z => absurd (hfm.symm.trans z) (by omega)), (fun _ => rfl)⟩, rfl⟩
      · refine w_ld d_144_14 rfl rfl rfl ?_
        refine w_goto (g := 51) d_144_15 (by decide) ?_
        refine w_st1 (L' := [_, _, _, _, _, _, _, _]) d_144_51 rfl (by decide) rfl (by decide) rfl ?_
        refine w_ld d_144_53 rfl rfl rfl ?_
        refine w_if_le (g := 96) d_144_55 (by decide) (by omega) (fun h55 => ?_) (fun h55 => ?_)
        · refine w_inc (L' := [_, _, _, _, _, _, _, _]) d_144_96 rfl (by decide) rfl ?_
          refine w_goto (g := 3) d_144_99 (by decide) ?_
          have hge : slen k ≤ i := Decidable.byContradiction (fun z => by
            have h1 : litl k 0 = sch k 0 := if_pos (by omega)
            have h2 := sch_in hk (i := 0) (by omega)
            omega)
          exact w_P.le (ih _ (by omega) (i + 1) pl rfl (by omega) (by rw [hpl, if_neg (by omega), if_neg (by omega)]) hif) ⟨rfl, rfl, rfl, rfl, rfl, rfl, rfl, trivial⟩
        · have hsl : i < slen k := Decidable.byContradiction (fun z => by
            have : litl k 0 = 0 := if_neg (by omega)
            omega)
          have hlit : litl k 0 = sch k i := by
            rw [show (0 : Int) = i by omega]
            exact if_pos hsl
          have hpe : pl = i := by rw [hpl, if_pos hsl]
          refine w_ld d_144_58 rfl rfl rfl ?_
          refine w_gI d_144_59 (by rfl) (by first | rfl | assumption) (by rfl) (show (stI μ 46 15 (p0 + pl)).1 46 16 = -1 from h16) ?_
          refine w_if_ge (g := 96) d_144_62 (by decide) (by omega) (fun h62 => ?_) (fun h62 => ?_)
          · exact absurd h62 (by omega)
          · refine w_ld d_144_65 rfl rfl rfl ?_
            refine w_ld d_144_66 rfl rfl rfl ?_
            refine w_gI d_144_67 (by rfl) (by first | rfl | assumption) (by rfl) (show _ = p0 + pl from stI_at _ _ _ _) ?_
            refine w_cV1 (a := 46) (as := [_]) (rest := _) rfl d_144_70 (by rfl) (by rfl) (by first | rfl | assumption) (by rfl) (by rfl) (Nat.le_of_ble_eq_true rfl) (by omega) (by omega) lk ?_
            refine w_ld d_144_73 rfl rfl rfl ?_
            refine w_icmp_eq (g := 86) d_144_75 (by decide) (by have := hch (p0 + pl); split <;> omega) (fun h75 => ?_) (fun h75 => ?_)
            · refine w_ld d_144_86 rfl rfl rfl ?_
              refine w_stk d_144_87 rfl ?_
              refine w_gI d_144_88 (by rfl) (by first | rfl | assumption) (by rfl) (show _ = p0 + pl from stI_at _ _ _ _) ?_
              refine w_con d_144_91 ?_
              refine w_iadd d_144_92 ?_
              refine w_putI d_144_93 (by rfl) (by first | rfl | assumption) (by rfl) (fit_I (by rfl)) (by rfl) ?_
              refine w_inc (L' := [_, _, _, _, _, _, _, _]) d_144_96 rfl (by decide) rfl ?_
              refine w_goto (g := 3) d_144_99 (by decide) ?_
              have hlt : p0 + pl < μ.1 46 3 := Decidable.byContradiction (fun z => by rw [if_neg z] at h75; have := sch_in hk (i := i) (by omega); omega)
              rw [if_pos hlt] at h75
              have hfm : i < (fm (μ.2.2 47) (μ.1 46 3) p0 k) := Decidable.byContradiction (fun z => by
                have e : (fm (μ.2.2 47) (μ.1 46 3) p0 k) = i := by omega
                have h3 := fp.2.2 (by omega)
                rw [e] at h3
                rw [hpe] at hlt h75
                exact h3 ⟨hlt, by omega⟩)
              rw [stI_stI, show p0 + pl + 1 = p0 + (pl + 1) by omega]
              exact w_P.le (ih _ (by omega) (i + 1) (pl + 1) rfl (by omega) (by split <;> omega) (by omega)) ⟨rfl, rfl, rfl, rfl, rfl, rfl, rfl, trivial⟩
            · refine w_ld d_144_78 rfl rfl rfl ?_
              refine w_ld d_144_79 rfl rfl rfl ?_
              refine w_gI d_144_80 (by rfl) (by first | rfl | assumption) (by rfl) (show _ = p0 + pl from stI_at _ _ _ _) ?_
              refine w_cV0 (a := 46) (as := [_]) (rest := _) rfl d_144_83 (by rfl) (by rfl) (by first | rfl | assumption) (by rfl) (by rfl) (Nat.le_of_ble_eq_true rfl) (by omega) (by omega) (by have e := m_fail (sc := sc) (fr := fr - 1) (lo := lo - (19 + 2)) (μ := stI μ 46 15 (p0 + pl)) (ρ := ρ) (by rw [show (stI μ 46 15 (p0 + pl)).1 46 16 = -1 from h16]; decide) (k := p0 + pl); rw [show (stI μ 46 15 (p0 + pl)).1 46 16 = -1 from h16, if_pos (by decide)] at e; exact e) ?_
              refine w_ld d_144_86 rfl rfl rfl ?_
              refine w_stk d_144_87 rfl ?_
              refine w_gI d_144_88 (by rfl) (by first | rfl | assumption) (by rfl) (show _ = p0 + pl from rfl) ?_
              refine w_con d_144_91 ?_
              refine w_iadd d_144_92 ?_
              refine w_putI d_144_93 (by rfl) (by first | rfl | assumption) (by rfl) (fit_I (by rfl)) (by rfl) ?_
              refine w_inc (L' := [_, _, _, _, _, _, _, _]) d_144_96 rfl (by decide) rfl ?_
              refine w_goto (g := 3) d_144_99 (by decide) ?_
              have hfm : (fm (μ.2.2 47) (μ.1 46 3) p0 k) = pl := by
                refine Decidable.byContradiction (fun z => ?_)
                have h2 := fp.2.1 i (by omega) (by omega)
                rw [hpe, if_pos h2.1] at h75
                omega
              have ew : stI (stI (stI μ 46 15 (p0 + pl)) 46 16 (p0 + pl)) 46 15 (p0 + pl + 1) = stI (stI μ 46 15 (p0 + (fm (μ.2.2 47) (μ.1 46 3) p0 k) + 1)) 46 16 (p0 + (fm (μ.2.2 47) (μ.1 46 3) p0 k)) := by
                rw [hfm]
                refine Prod.ext ?_ rfl
                funext b q
                simp only [stI]
                by_cases z1 : b = 46 ∧ q = 15
                · rw [if_pos z1, if_neg (by omega), if_pos z1]
                · rw [if_neg z1, if_neg z1, if_neg z1]
              rw [ew]
              refine w_P.le ((m_word_s (μ := stI (stI μ 46 15 (p0 + (fm (μ.2.2 47) (μ.1 46 3) p0 k) + 1)) 46 16 (p0 + (fm (μ.2.2 47) (μ.1 46 3) p0 k))) hk (by rw [stI_at]; omega) _ (i + 1) rfl (by omega)).mono ?_) ⟨rfl, rfl, rfl, rfl, rfl, rfl, rfl, trivial⟩
              rintro o t' ⟨rfl, rfl⟩
              exact ⟨_, rfl, ⟨(fun z => absurd (hfm.symm.trans z) (by omega)), (fun _ => rfl)⟩, rfl⟩
theorem m_word {sc : Nat × (Nat → Int32)} {fr lo : Nat} {μ : Mem} {ρ : Nat × Nat × Nat} (hn : 0 ≤ μ.1 46 3 ∧ μ.1 46 3 ≤ 240) (hch : ∀ k, 0 ≤ μ.2.2 47 k ∧ μ.2.2 47 k < 65536) (h16 : μ.1 46 16 = -1) {k : Nat} (hk : k < 22) (hk5 : slen k ≤ 5 ∧ 1 ≤ slen k) (hp0 : 0 ≤ μ.1 46 15 ∧ μ.1 46 15 ≤ 500) (hf : 8 ≤ fr) (hl : 200 ≤ lo) : w_S sc fr lo 144 [.ref 46, .int (ji (litl k 0)), .int (ji (litl k 1)), .int (ji (litl k 2)), .int (ji (litl k 3)), .int (ji (litl k 4))] (hp μ, ρ) (fun o t' => ∃ μ' : Mem, o = .inl none ∧ (((fm (μ.2.2 47) (μ.1 46 3) (μ.1 46 15) k) = slen k → μ' = stI μ 46 15 ((μ.1 46 15) + slen k)) ∧ ((fm (μ.2.2 47) (μ.1 46 3) (μ.1 46 15) k) ≠ slen k → μ' = stI (stI μ 46 15 ((μ.1 46 15) + (fm (μ.2.2 47) (μ.1 46 3) (μ.1 46 15) k) + 1)) 46 16 ((μ.1 46 15) + (fm (μ.2.2 47) (μ.1 46 3) (μ.1 46 15) k)))) ∧ t' = (hp μ', ρ)) := by
  refine w_S.of (L0 := [some (.ref 46), some (.int (ji (litl k 0))), some (.int (ji (litl k 1))), some (.int (ji (litl k 2))), some (.int (ji (litl k 3))), some (.int (ji (litl k 4))), none, none]) rfl rfl (Nat.le_of_ble_eq_true rfl) (by rfl) ?_
  refine w_con d_144_0 ?_
  refine w_st1 (L' := [_, _, _, _, _, _, _, _]) d_144_1 rfl (by decide) rfl (by decide) rfl ?_
  have e := m_word_l (sc := sc) (ρ := ρ) hn hch h16 hk hk5 hp0 hf hl _ 0 0 rfl (by decide) (by rw [if_pos (by omega)]) (by have := (fm_sp (T := μ.2.2 47) (n := μ.1 46 3) (p := μ.1 46 15) (k := k) hk).1; omega)
  rw [Int.add_zero, stI_self] at e
  exact e
