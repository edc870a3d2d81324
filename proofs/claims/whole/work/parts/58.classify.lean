/-! THE PURE PART, 42: contracts: the reference gives a value its group -/
theorem stA_stA (μ : Mem) (a : Nat) (i u v : Int) : stA (stA μ a i u) a i v = stA μ a i v := by
  refine Prod.ext rfl (Prod.ext rfl ?_)
  funext b m
  show (if b = a ∧ m = i then v else if b = a ∧ m = i then u else μ.2.2 b m) = (if b = a ∧ m = i then v else μ.2.2 b m)
  split <;> rfl
theorem vM_56 (μ : Mem) (a r : Int) : vM (stA μ 56 a r) = vM μ := by
  unfold vM
  rw [stA_o2 (by decide), stA_o2 (by decide), stA_o2 (by decide), stA_o2 (by decide), stA_o2 (by decide), stA_o2 (by decide), stA_o2 (by decide)]
/-- the parts of a and b by their groups -/
def alP (μ : Mem) (a b : Int) : Prop := (μ.2.2 49 a = 10 → ∀ n : Nat, (n : Int) < μ.2.2 53 a → ∃ m : Nat, (m : Int) < μ.2.2 53 b ∧ μ.2.2 56 (pt (vM μ) a n) = μ.2.2 56 (pt (vM μ) b m))
  ∧ (μ.2.2 49 a = 11 → ∀ n : Nat, (2 * n : Int) < μ.2.2 53 a → ∃ m : Nat, (2 * m : Int) < μ.2.2 53 b ∧ μ.2.2 56 (pt (vM μ) a (2 * n)) = μ.2.2 56 (pt (vM μ) b (2 * m)) ∧ μ.2.2 56 (pt (vM μ) a (2 * n + 1)) = μ.2.2 56 (pt (vM μ) b (2 * m + 1)))
  ∧ (μ.2.2 49 a ≠ 10 → μ.2.2 49 a ≠ 11 → ∀ n : Nat, (n : Int) < μ.2.2 53 a → μ.2.2 56 (pt (vM μ) a n) = μ.2.2 56 (pt (vM μ) b n))
theorem m_sameParts {sc : Nat × (Nat → Int32)} {fr lo : Nat} {μ : Mem} {ρ : Nat × Nat × Nat} {a b : Int} (ha : 0 ≤ a ∧ a < 384) (hb : 0 ≤ b ∧ b < 384) (ma : mok μ a) (mb : mok μ b) (hPP : μ.2.2 53 a = μ.2.2 53 b) (pa : ∀ n : Nat, (n : Int) < μ.2.2 53 a → (0 ≤ pt (vM μ) a n ∧ pt (vM μ) a n < 384) ∧ mok μ (pt (vM μ) a n)) (pb : ∀ n : Nat, (n : Int) < μ.2.2 53 b → (0 ≤ pt (vM μ) b n ∧ pt (vM μ) b n < 384) ∧ mok μ (pt (vM μ) b n)) (hf : 3 ≤ fr) (hl : 100 ≤ lo) (hev : μ.2.2 49 a = 11 → μ.2.2 53 a % 2 = 0) (huq : μ.2.2 49 a = 11 → ∀ m m2 : Nat, ((2 * m : Nat) : Int) < μ.2.2 53 b → ((2 * m2 : Nat) : Int) < μ.2.2 53 b → μ.2.2 56 (pt (vM μ) b (2 * m)) = μ.2.2 56 (pt (vM μ) b (2 * m2)) → m = m2) : w_E sc fr lo 138 [.ref 46, .int (ji a), .int (ji b)] (hp μ, ρ) (.inl (some (.int (ji (b01 (alP μ a b)))))) (hp μ, ρ) := by
  by_cases h10 : μ.2.2 49 a = 10
  · have e := m_sp10 (sc := sc) (ρ := ρ) ha hb ma mb hPP pa pb hf hl h10
    rw [b01_iff (show _ ↔ alP μ a b from ⟨fun z => ⟨fun _ => z, fun w => absurd (h10.symm.trans w) (by decide), fun w => absurd h10 w⟩, fun z => z.1 h10⟩)] at e
    exact e
  · by_cases h11 : μ.2.2 49 a = 11
    · have e := m_sp11 (sc := sc) (ρ := ρ) ha hb ma mb hPP pa pb hf hl h11 (hev h11) (huq h11)
      rw [b01_iff (show _ ↔ alP μ a b from ⟨fun z => ⟨fun w => absurd w h10, fun _ n hn => by
        obtain ⟨m, z1, z2⟩ := z n (by omega)
        exact ⟨m, by omega, z2⟩, fun _ w => absurd h11 w⟩, fun z n hn => by
        obtain ⟨m, z1, z2⟩ := z.2.1 h11 n (by omega)
        exact ⟨m, by omega, z2⟩⟩)] at e
      exact e
    · have e := m_sp8 (sc := sc) (ρ := ρ) ha hb ma mb hPP pa pb hf hl h10 h11
      rw [b01_iff (show _ ↔ alP μ a b from ⟨fun z => ⟨fun w => absurd w h10, fun w => absurd w h11, fun _ _ => z⟩, fun z => z.2.2 h10 h11⟩)] at e
      exact e
/-- what classify looks for -/
theorem cl_iff {μ : Mem} {a lw hg b : Int} (hG : GI (vM μ) (fun v => if v = a then -1 else μ.2.2 56 v) lw hg) (oa : okv 10 (vM μ) a) (pa : ∀ n : Nat, (n : Int) < μ.2.2 53 a → lw ≤ pt (vM μ) a n ∧ pt (vM μ) a n < hg ∧ pt (vM μ) a n ≠ a ∧ 0 ≤ μ.2.2 56 (pt (vM μ) a n)) (hb : lw ≤ b ∧ b < hg ∧ b ≠ a ∧ 0 ≤ μ.2.2 56 b) : al 10 (vM μ) a (vM μ) b ↔ bas (vM μ) a (vM μ) b ∧ alP (stA μ 56 a a) a b := by
  have hg0 : ∀ v, v ≠ a → (if v = a then -1 else μ.2.2 56 v) = μ.2.2 56 v := fun v hv => if_neg hv
  have hb' : 0 ≤ (if b = a then -1 else μ.2.2 56 b) := by rw [hg0 b hb.2.2.1]; exact hb.2.2.2
  have hp : ∀ n : Nat, (n : Int) < μ.2.2 53 a → lw ≤ pt (vM μ) a n ∧ pt (vM μ) a n < hg ∧ 0 ≤ (if pt (vM μ) a n = a then -1 else μ.2.2 56 (pt (vM μ) a n)) := fun n hn => by
    obtain ⟨q1, q2, q3, q4⟩ := pa n hn
    exact ⟨q1, q2, by rw [hg0 _ q3]; exact q4⟩
  rw [← GI_key hG oa hp ⟨hb.1, hb.2.1, hb'⟩]
  have pbn : ∀ m : Nat, (m : Int) < μ.2.2 53 b → pt (vM μ) b m ≠ a := fun m hm z => by
    have : 0 ≤ (if pt (vM μ) b m = a then -1 else μ.2.2 56 (pt (vM μ) b m)) := ((hG b hb.1 hb.2.1 hb').2.2.1 m hm).2.2
    rw [if_pos z] at this
    omega
  have pan : ∀ n : Nat, (n : Int) < μ.2.2 53 a → pt (vM μ) a n ≠ a := fun n hn => (pa n hn).2.2.1
  have hev : μ.2.2 49 a = 11 → μ.2.2 53 a % 2 = 0 := oa.2.1
  have hm1 : ∀ v, v ≠ a → (stA μ 56 a a).2.2 56 v = μ.2.2 56 v := fun v hv => if_neg (fun z => hv z.2)
  have key : ∀ n m : Nat, (n : Int) < μ.2.2 53 a → (m : Int) < μ.2.2 53 b → (((if pt (vM μ) a n = a then -1 else μ.2.2 56 (pt (vM μ) a n)) = (if pt (vM μ) b m = a then -1 else μ.2.2 56 (pt (vM μ) b m))) ↔ (stA μ 56 a a).2.2 56 (pt (vM μ) a n) = (stA μ 56 a a).2.2 56 (pt (vM μ) b m)) := fun n m hn hm => by
    rw [hg0 _ (pan n hn), hg0 _ (pbn m hm), hm1 _ (pan n hn), hm1 _ (pbn m hm)]
  unfold alR alP
  rw [vM_56, stA_o2 (a := 56) (b := 49) (by decide), stA_o2 (a := 56) (b := 53) (by decide)]
  constructor
  · rintro ⟨k0, k1, k2, k3⟩
    have hPP : μ.2.2 53 a = μ.2.2 53 b := k0.2.2.1
    refine ⟨k0, fun e n hn => ?_, fun e n hn => ?_, fun e e2 n hn => ?_⟩
    · obtain ⟨m, z1, z2⟩ := k1 e n hn
      exact ⟨m, z1, (key n m hn z1).mp z2⟩
    · obtain ⟨m, z1, z2, z3⟩ := k2 e n hn
      have z1 : 2 * (m : Int) < μ.2.2 53 b := z1
      have := hev e
      exact ⟨m, z1, (key _ _ (by omega) (by omega)).mp z2, (key _ _ (by omega) (by omega)).mp z3⟩
    · exact (key n n hn (by omega)).mp (k3 e e2 n hn)
  · rintro ⟨k0, k1, k2, k3⟩
    have hPP : μ.2.2 53 a = μ.2.2 53 b := k0.2.2.1
    refine ⟨k0, fun e n hn => ?_, fun e n hn => ?_, fun e e2 n hn => ?_⟩
    · obtain ⟨m, z1, z2⟩ := k1 e n hn
      exact ⟨m, z1, (key n m hn z1).mpr z2⟩
    · obtain ⟨m, z1, z2, z3⟩ := k2 e n hn
      have hn : 2 * (n : Int) < μ.2.2 53 a := hn
      have := hev e
      exact ⟨m, z1, (key _ _ (by omega) (by omega)).mpr z2, (key _ _ (by omega) (by omega)).mpr z3⟩
    · have hn : (n : Int) < μ.2.2 53 a := hn
      exact (key n n hn (by omega)).mpr (k3 e e2 n hn)
theorem m_classify_l {sc : Nat × (Nat → Int32)} {fr lo : Nat} {μ : Mem} {ρ : Nat × Nat × Nat} {a lw hg : Int} (hlo : 0 ≤ lw ∧ hg ≤ 384) (ha : lw ≤ a ∧ a < hg) (hG : GI (vM μ) (fun v => if v = a then -1 else μ.2.2 56 v) lw hg) (hrow : ∀ v, lw ≤ v → v < hg → v ≠ a → 0 ≤ μ.2.2 56 v → mok μ v) (hgr : ∀ v, lw ≤ v → v < hg → -1 ≤ μ.2.2 56 v ∧ μ.2.2 56 v < 384) (ma : mok (stA μ 56 a a) a) (oa : okv 10 (vM μ) a) (pa : ∀ n : Nat, (n : Int) < μ.2.2 53 a → lw ≤ pt (vM μ) a n ∧ pt (vM μ) a n < hg ∧ pt (vM μ) a n ≠ a ∧ 0 ≤ μ.2.2 56 (pt (vM μ) a n)) (hch : ∀ k, 0 ≤ μ.2.2 57 k ∧ μ.2.2 57 k < 65536) (hf : 5 ≤ fr) (hl : 200 ≤ lo) : ∀ (m : Nat) (b : Int), (hg - b).toNat = m → (lw ≤ b ∧ b ≤ hg) → (∀ v, lw ≤ v → v < b → 0 ≤ (if v = a then -1 else μ.2.2 56 v) → ¬ al 10 (vM μ) a (vM μ) v) → w_P sc fr lo 136 7 6 false (none) prog_9_method_13_code 10 [some (.ref 46), some (.int (ji a)), some (.int (ji lw)), some (.int (ji hg)), some (.int (ji b)), none] [] (hp (stA μ 56 a a), ρ) (fun o t' => ∃ μ' : Mem, o = .inl none ∧ (∃ r : Int, μ' = stA μ 56 a r ∧ lw ≤ r ∧ r < hg ∧ GI (vM μ) (fun v => if v = a then r else μ.2.2 56 v) lw hg) ∧ t' = (hp μ', ρ)) := by
  intro m
  induction m using Nat.strongRecOn with
  | ind m ih =>
    intro b hm hbr hno
    have e49 : (stA μ 56 a a).2.2 49 = μ.2.2 49 := stA_o2 (by decide)
    have e50 : (stA μ 56 a a).2.2 50 = μ.2.2 50 := stA_o2 (by decide)
    have e51 : (stA μ 56 a a).2.2 51 = μ.2.2 51 := stA_o2 (by decide)
    have e52 : (stA μ 56 a a).2.2 52 = μ.2.2 52 := stA_o2 (by decide)
    have e53 : (stA μ 56 a a).2.2 53 = μ.2.2 53 := stA_o2 (by decide)
    have e54 : (stA μ 56 a a).2.2 54 = μ.2.2 54 := stA_o2 (by decide)
    have e57 : (stA μ 56 a a).2.2 57 = μ.2.2 57 := stA_o2 (by decide)
    have e56 : ∀ v, v ≠ a → (stA μ 56 a a).2.2 56 v = μ.2.2 56 v := fun v hv => if_neg (fun z => hv z.2)
    have mk1 : ∀ v, v ≠ a → mok μ v → mok (stA μ 56 a a) v := fun v hv z => by
      unfold mok
      rw [e49, e50, e51, e52, e53, e54, e56 v hv]
      exact z
    have ma' := ma
    obtain ⟨a1, a2, a3, a4, a5, a6, a7⟩ := ma'
    rw [e49] at a1
    rw [e50] at a2
    rw [e53] at a3
    refine w_ld d_136_10 rfl rfl rfl ?_
    refine w_ld d_136_12 rfl rfl rfl ?_
    refine w_icmp_ge (g := 133) d_136_13 (by decide) (by omega) (fun h13 => ?_) (fun h13 => ?_)
    · refine w_ret d_136_133 rfl ?_
      refine ⟨(stA μ 56 a a), rfl, ⟨a, rfl, by omega, by omega, ?_⟩, rfl⟩
      refine GI_own hG hlo.1 ha (by show (if a = a then (-1 : Int) else _) < 0; rw [if_pos rfl]; decide) oa (fun n hn => ?_) (fun v v1 v2 v3 => hno v v1 (by omega) v3) (fun v hv => by show (if v = a then _ else μ.2.2 56 v) = (if v = a then _ else μ.2.2 56 v); rw [if_neg hv, if_neg hv]) (if_pos rfl)
      obtain ⟨q1, q2, q3, q4⟩ := pa n hn
      exact ⟨q1, q2, by show 0 ≤ (if pt (vM μ) a n = a then -1 else μ.2.2 56 (pt (vM μ) a n)); rw [if_neg q3]; exact q4⟩
    · refine w_ld d_136_16 rfl rfl rfl ?_
      refine w_ld d_136_18 rfl rfl rfl ?_
      refine w_icmp_eq (g := 95) d_136_19 (by decide) (by omega) (fun h19 => ?_) (fun h19 => ?_)
      · refine w_con d_136_95 ?_
        refine w_st1 (L' := [_, _, _, _, _, _]) d_136_96 rfl (by decide) rfl (by decide) rfl ?_
        refine w_ld d_136_98 rfl rfl rfl ?_
        refine w_if_eq (g := 127) d_136_100 (by decide) (by decide) (fun h100 => ?_) (fun h100 => ?_)
        · refine w_inc (L' := [_, _, _, _, _, _]) d_136_127 rfl (by decide) rfl ?_
          refine w_goto (g := 10) d_136_130 (by decide) ?_
          refine w_P.le (?_ : w_P _ _ _ _ _ _ _ _ _ 10 [some (.ref 46), some (.int (ji a)), some (.int (ji lw)), some (.int (ji hg)), some (.int (ji (b + 1))), none] _ _ _) ⟨rfl, rfl, rfl, rfl, rfl, trivial⟩
          refine ih _ (by omega) (b + 1) rfl (by omega) (fun v v1 v2 v3 => ?_)
          by_cases hvb : v = b
          · subst hvb
            rw [if_pos h19] at v3
            omega
          · exact hno v v1 (by omega) v3
        · exact absurd h100 (by omega)
      · have hg1 : -2147483648 ≤ (stA μ 56 a a).2.2 56 b ∧ (stA μ 56 a a).2.2 56 b < 2147483648 := by
          rw [e56 b h19]
          have := hgr b (by omega) (by omega)
          omega
        refine w_ld d_136_22 rfl rfl rfl ?_
        refine w_getF d_136_23 (by rfl) (by first | rfl | assumption) (by rfl) (by rfl) ?_
        refine w_ld d_136_26 rfl rfl rfl ?_
        refine w_aI d_136_28 (by first | rfl | assumption) (by omega) (by (try simp only [Nat.reduceAdd]) <;> rfl) ?_
        refine w_if_lt (g := 95) d_136_29 (by decide) hg1 (fun h29 => ?_) (fun h29 => ?_)
        · refine w_con d_136_95 ?_
          refine w_st1 (L' := [_, _, _, _, _, _]) d_136_96 rfl (by decide) rfl (by decide) rfl ?_
          refine w_ld d_136_98 rfl rfl rfl ?_
          refine w_if_eq (g := 127) d_136_100 (by decide) (by decide) (fun h100 => ?_) (fun h100 => ?_)
          · refine w_inc (L' := [_, _, _, _, _, _]) d_136_127 rfl (by decide) rfl ?_
            refine w_goto (g := 10) d_136_130 (by decide) ?_
            refine w_P.le (?_ : w_P _ _ _ _ _ _ _ _ _ 10 [some (.ref 46), some (.int (ji a)), some (.int (ji lw)), some (.int (ji hg)), some (.int (ji (b + 1))), none] _ _ _) ⟨rfl, rfl, rfl, rfl, rfl, trivial⟩
            refine ih _ (by omega) (b + 1) rfl (by omega) (fun v v1 v2 v3 => ?_)
            by_cases hvb : v = b
            · subst hvb
              rw [if_neg h19, ← e56 _ h19] at v3
              omega
            · exact hno v v1 (by omega) v3
          · exact absurd h100 (by omega)
        · have hb4 : lw ≤ b ∧ b < hg ∧ b ≠ a ∧ 0 ≤ μ.2.2 56 b := ⟨by omega, by omega, h19, by rw [← e56 b h19]; exact h29⟩
          have mb := hrow b hb4.1 hb4.2.1 h19 hb4.2.2.2
          have mb1 := mk1 b h19 mb
          obtain ⟨b1, b2, b3, b4, b5, b6, b7⟩ := mb
          refine w_ld d_136_32 rfl rfl rfl ?_
          refine w_getF d_136_33 (by rfl) (by first | rfl | assumption) (by rfl) (by rfl) ?_
          refine w_ld d_136_36 rfl rfl rfl ?_
          refine w_aI d_136_37 (by first | rfl | assumption) (by omega) (by (try simp only [Nat.reduceAdd]) <;> rfl) ?_
          refine w_ld d_136_38 rfl rfl rfl ?_
          refine w_getF d_136_39 (by rfl) (by first | rfl | assumption) (by rfl) (by rfl) ?_
          refine w_ld d_136_42 rfl rfl rfl ?_
          refine w_aI d_136_44 (by first | rfl | assumption) (by omega) (by (try simp only [Nat.reduceAdd]) <;> rfl) ?_
          refine w_icmp_ne (g := 95) d_136_45 (by decide) (by rw [e49]; omega) (fun h45 => ?_) (fun h45 => ?_)
          · refine w_con d_136_95 ?_
            refine w_st1 (L' := [_, _, _, _, _, _]) d_136_96 rfl (by decide) rfl (by decide) rfl ?_
            refine w_ld d_136_98 rfl rfl rfl ?_
            refine w_if_eq (g := 127) d_136_100 (by decide) (by decide) (fun h100 => ?_) (fun h100 => ?_)
            · refine w_inc (L' := [_, _, _, _, _, _]) d_136_127 rfl (by decide) rfl ?_
              refine w_goto (g := 10) d_136_130 (by decide) ?_
              refine w_P.le (?_ : w_P _ _ _ _ _ _ _ _ _ 10 [some (.ref 46), some (.int (ji a)), some (.int (ji lw)), some (.int (ji hg)), some (.int (ji (b + 1))), none] _ _ _) ⟨rfl, rfl, rfl, rfl, rfl, trivial⟩
              refine ih _ (by omega) (b + 1) rfl (by omega) (fun v v1 v2 v3 => ?_)
              by_cases hvb : v = b
              · subst hvb
                exact fun z => h45 (by rw [e49]; exact ((cl_iff hG oa pa hb4).mp z).1.1)
              · exact hno v v1 (by omega) v3
            · exact absurd h100 (by omega)
          · refine w_ld d_136_48 rfl rfl rfl ?_
            refine w_getF d_136_49 (by rfl) (by first | rfl | assumption) (by rfl) (by rfl) ?_
            refine w_ld d_136_52 rfl rfl rfl ?_
            refine w_aL d_136_53 (by first | rfl | assumption) (by omega) (by (try simp only [Nat.reduceAdd]) <;> rfl) ?_
            refine w_ld d_136_54 rfl rfl rfl ?_
            refine w_getF d_136_55 (by rfl) (by first | rfl | assumption) (by rfl) (by rfl) ?_
            refine w_ld d_136_58 rfl rfl rfl ?_
            refine w_aL d_136_60 (by first | rfl | assumption) (by omega) (by (try simp only [Nat.reduceAdd]) <;> rfl) ?_
            refine w_lcmp d_136_61 (by rw [e50]; omega) ?_
            refine w_if_ne (g := 95) d_136_62 (by decide) (by have := lcm_in ((stA μ 56 a a).2.2 50 a) ((stA μ 56 a a).2.2 50 b); omega) (fun h62 => ?_) (fun h62 => ?_)
            · refine w_con d_136_95 ?_
              refine w_st1 (L' := [_, _, _, _, _, _]) d_136_96 rfl (by decide) rfl (by decide) rfl ?_
              refine w_ld d_136_98 rfl rfl rfl ?_
              refine w_if_eq (g := 127) d_136_100 (by decide) (by decide) (fun h100 => ?_) (fun h100 => ?_)
              · refine w_inc (L' := [_, _, _, _, _, _]) d_136_127 rfl (by decide) rfl ?_
                refine w_goto (g := 10) d_136_130 (by decide) ?_
                refine w_P.le (?_ : w_P _ _ _ _ _ _ _ _ _ 10 [some (.ref 46), some (.int (ji a)), some (.int (ji lw)), some (.int (ji hg)), some (.int (ji (b + 1))), none] _ _ _) ⟨rfl, rfl, rfl, rfl, rfl, trivial⟩
                refine ih _ (by omega) (b + 1) rfl (by omega) (fun v v1 v2 v3 => ?_)
                by_cases hvb : v = b
                · subst hvb
                  exact fun z => h62 ((lcm_eq _ _).mpr (by rw [e50]; exact ((cl_iff hG oa pa hb4).mp z).1.2.1))
                · exact hno v v1 (by omega) v3
              · exact absurd h100 (by omega)
            · refine w_ld d_136_65 rfl rfl rfl ?_
              refine w_getF d_136_66 (by rfl) (by first | rfl | assumption) (by rfl) (by rfl) ?_
              refine w_ld d_136_69 rfl rfl rfl ?_
              refine w_aI d_136_70 (by first | rfl | assumption) (by omega) (by (try simp only [Nat.reduceAdd]) <;> rfl) ?_
              refine w_ld d_136_71 rfl rfl rfl ?_
              refine w_getF d_136_72 (by rfl) (by first | rfl | assumption) (by rfl) (by rfl) ?_
              refine w_ld d_136_75 rfl rfl rfl ?_
              refine w_aI d_136_77 (by first | rfl | assumption) (by omega) (by (try simp only [Nat.reduceAdd]) <;> rfl) ?_
              refine w_icmp_ne (g := 95) d_136_78 (by decide) (by rw [e53]; omega) (fun h78 => ?_) (fun h78 => ?_)
              · refine w_con d_136_95 ?_
                refine w_st1 (L' := [_, _, _, _, _, _]) d_136_96 rfl (by decide) rfl (by decide) rfl ?_
                refine w_ld d_136_98 rfl rfl rfl ?_
                refine w_if_eq (g := 127) d_136_100 (by decide) (by decide) (fun h100 => ?_) (fun h100 => ?_)
                · refine w_inc (L' := [_, _, _, _, _, _]) d_136_127 rfl (by decide) rfl ?_
                  refine w_goto (g := 10) d_136_130 (by decide) ?_
                  refine w_P.le (?_ : w_P _ _ _ _ _ _ _ _ _ 10 [some (.ref 46), some (.int (ji a)), some (.int (ji lw)), some (.int (ji hg)), some (.int (ji (b + 1))), none] _ _ _) ⟨rfl, rfl, rfl, rfl, rfl, trivial⟩
                  refine ih _ (by omega) (b + 1) rfl (by omega) (fun v v1 v2 v3 => ?_)
                  by_cases hvb : v = b
                  · subst hvb
                    exact fun z => h78 (by rw [e53]; exact ((cl_iff hG oa pa hb4).mp z).1.2.2.1)
                  · exact hno v v1 (by omega) v3
                · exact absurd h100 (by omega)
              · refine w_ld d_136_81 rfl rfl rfl ?_
                refine w_ld d_136_82 rfl rfl rfl ?_
                refine w_ld d_136_83 rfl rfl rfl ?_
                refine w_cV1 (as := [_, _]) (rest := _) rfl d_136_85 (by rfl) (by rfl) (by first | rfl | assumption) (by rfl) (by rfl) (Nat.le_of_ble_eq_true rfl) (by omega) (by omega) (m_sameWord (by omega) (by omega) ma mb1 (by rw [e57]; exact hch)) ?_
                refine w_if_eq (g := 95) d_136_88 (by decide) (b01_in _) (fun h88 => ?_) (fun h88 => ?_)
                · refine w_con d_136_95 ?_
                  refine w_st1 (L' := [_, _, _, _, _, _]) d_136_96 rfl (by decide) rfl (by decide) rfl ?_
                  refine w_ld d_136_98 rfl rfl rfl ?_
                  refine w_if_eq (g := 127) d_136_100 (by decide) (by decide) (fun h100 => ?_) (fun h100 => ?_)
                  · refine w_inc (L' := [_, _, _, _, _, _]) d_136_127 rfl (by decide) rfl ?_
                    refine w_goto (g := 10) d_136_130 (by decide) ?_
                    refine w_P.le (?_ : w_P _ _ _ _ _ _ _ _ _ 10 [some (.ref 46), some (.int (ji a)), some (.int (ji lw)), some (.int (ji hg)), some (.int (ji (b + 1))), none] _ _ _) ⟨rfl, rfl, rfl, rfl, rfl, trivial⟩
                    refine ih _ (by omega) (b + 1) rfl (by omega) (fun v v1 v2 v3 => ?_)
                    by_cases hvb : v = b
                    · subst hvb
                      exact fun z => b01_eq h88 (by
                        have z1 := ((cl_iff hG oa pa hb4).mp z).1
                        unfold swd
                        rw [e51, e52, e57]
                        exact ⟨z1.2.2.2.1, z1.2.2.2.2⟩)
                    · exact hno v v1 (by omega) v3
                  · exact absurd h100 (by omega)
                · refine w_con d_136_91 ?_
                  refine w_goto (g := 96) d_136_92 (by decide) ?_
                  refine w_st1 (L' := [_, _, _, _, _, _]) d_136_96 rfl (by decide) rfl (by decide) rfl ?_
                  refine w_ld d_136_98 rfl rfl rfl ?_
                  refine w_if_eq (g := 127) d_136_100 (by decide) (by decide) (fun h100 => ?_) (fun h100 => ?_)
                  · exact absurd h100 (by omega)
                  · have hbas : bas (vM μ) a (vM μ) b := by
                      have hs := b01_ne h88
                      unfold swd at hs
                      rw [e51, e52, e57] at hs
                      rw [e49] at h45
                      rw [e50] at h62
                      rw [e53] at h78
                      exact ⟨h45, (lcm_eq _ _).mp h62, h78, hs.1, hs.2⟩
                    have hb0 : 0 ≤ (if b = a then -1 else μ.2.2 56 b) := by rw [if_neg h19]; exact hb4.2.2.2
                    have GB := hG b hb4.1 hb4.2.1 hb0
                    have pbx : ∀ m : Nat, (m : Int) < μ.2.2 53 b → (lw ≤ pt (vM μ) b m ∧ pt (vM μ) b m < hg) ∧ pt (vM μ) b m ≠ a ∧ 0 ≤ μ.2.2 56 (pt (vM μ) b m) := fun m hm => by
                      have z : lw ≤ pt (vM μ) b m ∧ pt (vM μ) b m < hg ∧ 0 ≤ (if pt (vM μ) b m = a then -1 else μ.2.2 56 (pt (vM μ) b m)) := GB.2.2.1 m hm
                      by_cases hz : pt (vM μ) b m = a
                      · rw [if_pos hz] at z
                        omega
                      · rw [if_neg hz] at z
                        exact ⟨⟨z.1, z.2.1⟩, hz, z.2.2⟩
                    refine w_ld d_136_103 rfl rfl rfl ?_
                    refine w_ld d_136_104 rfl rfl rfl ?_
                    refine w_ld d_136_105 rfl rfl rfl ?_
                    refine w_cV1 (as := [_, _]) (rest := _) rfl d_136_107 (by rfl) (by rfl) (by first | rfl | assumption) (by rfl) (by rfl) (Nat.le_of_ble_eq_true rfl) (by omega) (by omega) (m_sameParts (by omega) (by omega) ma mb1 h78 (by
          rw [e53, vM_56]
          intro n hn
          obtain ⟨q1, q2, q3, q4⟩ := pa n hn
          exact ⟨by omega, mk1 _ q3 (hrow _ q1 q2 q3 q4)⟩) (by
          rw [e53, vM_56]
          intro n hn
          obtain ⟨⟨q1, q2⟩, q3, q4⟩ := pbx n hn
          exact ⟨by omega, mk1 _ q3 (hrow _ q1 q2 q3 q4)⟩) (by omega) (by omega) (by rw [e49, e53]; exact oa.2.1) (by
          rw [e49, e53, vM_56]
          intro e m m2 hm1 hm2 he
          have hm1' : ((2 * m : Nat) : Int) < μ.2.2 53 b := hm1
          have hm2' : ((2 * m2 : Nat) : Int) < μ.2.2 53 b := hm2
          have x1 := pbx _ hm1'
          have x2 := pbx _ hm2'
          rw [e56 _ x1.2.1, e56 _ x2.2.1] at he
          have y1 : ((if pt (vM μ) b (2 * m) = a then -1 else μ.2.2 56 (pt (vM μ) b (2 * m))) = (if pt (vM μ) b (2 * m2) = a then -1 else μ.2.2 56 (pt (vM μ) b (2 * m2)))) ↔ _ := (hG _ x1.1.1 x1.1.2 (by show (0 : Int) ≤ (if _ then _ else _); rw [if_neg x1.2.1]; exact x1.2.2)).2.2.2 _ x2.1.1 x2.1.2 (by show (0 : Int) ≤ (if _ then _ else _); rw [if_neg x2.2.1]; exact x2.2.2)
          rw [if_neg x1.2.1, if_neg x2.2.1] at y1
          have y2 := y1.mp he
          have kb : (vM μ).1 b = 11 := hbas.1.symm.trans e
          have ob : okv 11 (vM μ) b := okv_up _ _ GB.2.1
          have o1 : okv 10 (vM μ) (pt (vM μ) b (2 * m)) := ob.2.2.1 _ hm1'
          exact al_uq2 ob kb hm1' hm2' (al_refl 10 _ o1) o1 y2)) ?_
                    refine w_if_eq (g := 127) d_136_110 (by decide) (b01_in _) (fun h110 => ?_) (fun h110 => ?_)
                    · refine w_inc (L' := [_, _, _, _, _, _]) d_136_127 rfl (by decide) rfl ?_
                      refine w_goto (g := 10) d_136_130 (by decide) ?_
                      refine w_P.le (?_ : w_P _ _ _ _ _ _ _ _ _ 10 [some (.ref 46), some (.int (ji a)), some (.int (ji lw)), some (.int (ji hg)), some (.int (ji (b + 1))), none] _ _ _) ⟨rfl, rfl, rfl, rfl, rfl, trivial⟩
                      refine ih _ (by omega) (b + 1) rfl (by omega) (fun v v1 v2 v3 => ?_)
                      by_cases hvb : v = b
                      · subst hvb
                        exact fun z => b01_eq h110 ((cl_iff hG oa pa hb4).mp z).2
                      · exact hno v v1 (by omega) v3
                    · refine w_ld d_136_113 rfl rfl rfl ?_
                      refine w_getF d_136_114 (by rfl) (by first | rfl | assumption) (by rfl) (by rfl) ?_
                      refine w_ld d_136_117 rfl rfl rfl ?_
                      refine w_ld d_136_118 rfl rfl rfl ?_
                      refine w_getF d_136_119 (by rfl) (by first | rfl | assumption) (by rfl) (by rfl) ?_
                      refine w_ld d_136_122 rfl rfl rfl ?_
                      refine w_aI d_136_124 (by first | rfl | assumption) (by omega) (by (try simp only [Nat.reduceAdd]) <;> rfl) ?_
                      refine w_iast d_136_125 (by first | rfl | assumption) (by omega) ?_
                      refine w_ret d_136_126 rfl ?_
                      rw [stA_stA, e56 b h19]
                      refine ⟨_, rfl, ⟨μ.2.2 56 b, rfl, ?_⟩, rfl⟩
                      have GB1 : lw ≤ (if b = a then -1 else μ.2.2 56 b) ∧ (if b = a then -1 else μ.2.2 56 b) < hg ∧ _ := GB.1
                      rw [if_neg h19] at GB1
                      refine ⟨GB1.1, GB1.2.1, ?_⟩
                      refine GI_join hG ha (by show (if a = a then (-1 : Int) else _) < 0; rw [if_pos rfl]; decide) oa (fun n hn => ?_) ⟨hb4.1, hb4.2.1, hb0⟩ ((cl_iff hG oa pa hb4).mpr ⟨hbas, b01_ne h110⟩) (fun v hv => by show (if v = a then _ else μ.2.2 56 v) = (if v = a then _ else μ.2.2 56 v); rw [if_neg hv, if_neg hv]) (by show (if a = a then μ.2.2 56 b else _) = (if b = a then -1 else μ.2.2 56 b); rw [if_pos rfl, if_neg h19])
                      obtain ⟨q1, q2, q3, q4⟩ := pa n hn
                      exact ⟨q1, q2, by show 0 ≤ (if pt (vM μ) a n = a then -1 else μ.2.2 56 (pt (vM μ) a n)); rw [if_neg q3]; exact q4⟩
theorem m_classify {sc : Nat × (Nat → Int32)} {fr lo : Nat} {μ : Mem} {ρ : Nat × Nat × Nat} {a lw hg : Int} (hlo : 0 ≤ lw ∧ hg ≤ 384) (ha : lw ≤ a ∧ a < hg) (hG : GI (vM μ) (fun v => if v = a then -1 else μ.2.2 56 v) lw hg) (hrow : ∀ v, lw ≤ v → v < hg → v ≠ a → 0 ≤ μ.2.2 56 v → mok μ v) (hgr : ∀ v, lw ≤ v → v < hg → -1 ≤ μ.2.2 56 v ∧ μ.2.2 56 v < 384) (ma : mok (stA μ 56 a a) a) (oa : okv 10 (vM μ) a) (pa : ∀ n : Nat, (n : Int) < μ.2.2 53 a → lw ≤ pt (vM μ) a n ∧ pt (vM μ) a n < hg ∧ pt (vM μ) a n ≠ a ∧ 0 ≤ μ.2.2 56 (pt (vM μ) a n)) (hch : ∀ k, 0 ≤ μ.2.2 57 k ∧ μ.2.2 57 k < 65536) (hf : 5 ≤ fr) (hl : 200 ≤ lo) : w_S sc fr lo 136 [.ref 46, .int (ji a), .int (ji lw), .int (ji hg)] (hp μ, ρ) (fun o t' => ∃ μ' : Mem, o = .inl none ∧ (∃ r : Int, μ' = stA μ 56 a r ∧ lw ≤ r ∧ r < hg ∧ GI (vM μ) (fun v => if v = a then r else μ.2.2 56 v) lw hg) ∧ t' = (hp μ', ρ)) := by
  refine w_S.of (L0 := [some (.ref 46), some (.int (ji a)), some (.int (ji lw)), some (.int (ji hg)), none, none]) rfl rfl (Nat.le_of_ble_eq_true rfl) (by rfl) ?_
  refine w_ld d_136_0 rfl rfl rfl ?_
  refine w_getF d_136_1 (by rfl) (by first | rfl | assumption) (by rfl) (by rfl) ?_
  refine w_ld d_136_4 rfl rfl rfl ?_
  refine w_ld d_136_5 rfl rfl rfl ?_
  refine w_iast d_136_6 (by first | rfl | assumption) (by omega) ?_
  refine w_ld d_136_7 rfl rfl rfl ?_
  refine w_st1 (L' := [_, _, _, _, _, _]) d_136_8 rfl (by decide) rfl (by decide) rfl ?_
  exact m_classify_l hlo ha hG hrow hgr ma oa pa hch hf hl _ lw rfl (by omega) (fun v v1 v2 => by omega)
