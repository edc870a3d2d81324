/-! THE PURE PART, 87: same, in both -/
/-- the reference's groups are g -/
def stG (μ : Mem) (g : Int → Int) : Mem := (μ.1, μ.2.1, fun b q => if b = 56 then g q else μ.2.2 b q)
theorem stG_o {μ : Mem} {g : Int → Int} {b : Nat} (h : b ≠ 56) : (stG μ g).2.2 b = μ.2.2 b := by
  funext q
  exact if_neg h
theorem stG_56 {μ : Mem} {g : Int → Int} : (stG μ g).2.2 56 = g := by
  funext q
  exact (if_pos rfl : (if (56 : Nat) = 56 then g q else μ.2.2 56 q) = g q)
theorem stG_A {μ : Mem} {g : Int → Int} {i v : Int} : stA (stG μ g) 56 i v = stG μ (fun q => if q = i then v else g q) := by
  refine Prod.ext rfl (Prod.ext rfl ?_)
  funext b q
  show (if b = 56 ∧ q = i then v else if b = 56 then g q else μ.2.2 b q) = if b = 56 then (if q = i then v else g q) else μ.2.2 b q
  by_cases h : b = 56
  · by_cases z : q = i
    · rw [if_pos ⟨h, z⟩, if_pos h, if_pos z]
    · rw [if_neg (fun y => z y.2), if_pos h, if_pos h, if_neg z]
  · rw [if_neg (fun y => h y.1), if_neg h, if_neg h]
theorem vM_G {μ : Mem} {g : Int → Int} : vM (stG μ g) = vM μ := by
  unfold vM
  rw [stG_o (by omega), stG_o (by omega), stG_o (by omega), stG_o (by omega), stG_o (by omega), stG_o (by omega), stG_o (by omega)]
/-- a slot's rows in the reference are the class's -/
theorem Si_iso {μ : Mem} {t : Nat} {r : Int} (h : Si μ t r) : iso (128 * r) (vT μ t) (vM μ) (fun k => 0 ≤ k ∧ k < μ.1 t 7) ∧ reg (vT μ t) (fun k => 0 ≤ k ∧ k < μ.1 t 7) := by
  obtain ⟨h1, h2, h3, h4, h5⟩ := h
  refine ⟨fun k hk => ?_, rok_reg h3 (fun k k1 k2 => (h5 k k1 k2).1)⟩
  obtain ⟨_, _, r1, r2, r3, r4, r5, r6, r7⟩ := h5 k hk.1 hk.2
  rw [show k + 128 * r = 128 * r + k by omega]
  refine ⟨⟨r1.symm, r2.symm, r4.symm, r3.symm, fun y y0 y1 => (r6 y y0 y1).symm⟩, ?_⟩
  show 128 * r + k + μ.2.2 54 (128 * r + k) = μ.2.2 (t + 6) k + 128 * r
  omega
theorem Si_rowM {μ : Mem} {t : Nat} {r k : Int} (h : Si μ t r) (hr : r = 0 ∨ r = 1) (hk : 0 ≤ k ∧ k < μ.1 t 7) : okv 10 (vM μ) (128 * r + k) ∧ (∀ n : Nat, (n : Int) < μ.2.2 53 (128 * r + k) → 128 * r + k < pt (vM μ) (128 * r + k) n ∧ pt (vM μ) (128 * r + k) n < 128 * r + μ.1 t 7) ∧ ((0 ≤ μ.2.2 49 (128 * r + k) ∧ μ.2.2 49 (128 * r + k) ≤ 12) ∧ (-9223372036854775808 ≤ μ.2.2 50 (128 * r + k) ∧ μ.2.2 50 (128 * r + k) < 9223372036854775808) ∧ (0 ≤ μ.2.2 53 (128 * r + k) ∧ μ.2.2 53 (128 * r + k) ≤ 240) ∧ (1 ≤ μ.2.2 54 (128 * r + k) ∧ μ.2.2 54 (128 * r + k) ≤ 240) ∧ (0 ≤ μ.2.2 52 (128 * r + k) ∧ μ.2.2 52 (128 * r + k) ≤ 240) ∧ (μ.2.2 52 (128 * r + k) = 0 ∨ 0 ≤ μ.2.2 51 (128 * r + k) ∧ μ.2.2 51 (128 * r + k) + μ.2.2 52 (128 * r + k) ≤ 720)) := by
  obtain ⟨hi, hg⟩ := Si_iso h
  obtain ⟨h1, h2, h3, h4, h5⟩ := h
  obtain ⟨o1, o2, r1, r2, r3, r4, r5, r6, r7⟩ := h5 k hk.1 hk.2
  obtain ⟨s1, s2, s3, s4, s5, s6⟩ := h3.2 k hk.1 hk.2
  have h30 := h3.1
  refine ⟨?_, fun n hn => ?_, by rw [r1]; exact s1, by rw [r2]; exact s2, by rw [r4]; exact s3, by rw [r5]; omega, by rw [r3]; omega, by rw [r3]; omega⟩
  · rw [show 128 * r + k = k + 128 * r by omega]
    exact okv_iso hi hg 10 k hk o1
  · rw [r4] at hn
    have q := s6 n hn
    have q2 := s4.2.1
    have hp := pt_iso hi hg hk n (show (n : Int) ≤ μ.2.2 (t + 5) k by omega)
    rw [show 128 * r + k = k + 128 * r by omega, hp]
    omega
/-- rows that have a group by now -/
def dn (μ : Mem) (a v w : Int) : Prop := ∃ r k : Int, (r = 0 ∨ r = 1) ∧ (0 ≤ k ∧ k < μ.2.2 48 r) ∧ w = 128 * r + k ∧ (r < a ∨ r = a ∧ v < w)
def SG (μ : Mem) (a v : Int) (g : Int → Int) : Prop := GI (vM μ) g 0 256 ∧ ∀ w, 0 ≤ w → w < 256 → (dn μ a v w → 0 ≤ g w ∧ g w < 256) ∧ (¬ dn μ a v w → g w = -1)
theorem SG_eq {μ : Mem} {a v a' v' : Int} {g : Int → Int} (h : SG μ a v g) (e : ∀ w, 0 ≤ w → w < 256 → (dn μ a v w ↔ dn μ a' v' w)) : SG μ a' v' g :=
  ⟨h.1, fun w w0 w1 => ⟨fun z => (h.2 w w0 w1).1 ((e w w0 w1).mpr z), fun z => (h.2 w w0 w1).2 (fun y => z ((e w w0 w1).mp y))⟩⟩
/-- one row is given its group -/
theorem m_clsG {sc : Nat × (Nat → Int32)} {fr lo : Nat} {μ : Mem} {ρ : Nat × Nat × Nat} {a v : Int} {g : Int → Int} (hS : ∀ r, r = 0 ∨ r = 1 → ∃ t, isT t ∧ Si μ t r) (h57 : ∀ k, 0 ≤ μ.2.2 57 k ∧ μ.2.2 57 k < 65536) (ha : a = 0 ∨ a = 1) (hv : 128 * a ≤ v ∧ v < 128 * a + μ.2.2 48 a) (h : SG μ a v g) (hf : 5 ≤ fr) (hl : 200 ≤ lo) : w_S sc fr lo 136 [.ref 46, .int (ji v), .int (ji 0), .int (ji 256)] (hp (stG μ g), ρ) (fun o t' => ∃ μ' : Mem, o = .inl none ∧ (∃ g', SG μ a (v - 1) g' ∧ μ' = stG μ g') ∧ t' = (hp μ', ρ)) := by
  obtain ⟨t, hT, hSi⟩ := hS a ha
  have hn := hSi.2.1
  have hn0 := hSi.1
  have hk : 0 ≤ v - 128 * a ∧ v - 128 * a < μ.1 t 7 := by omega
  obtain ⟨ov, pv, mv⟩ := Si_rowM hSi ha hk
  rw [show 128 * a + (v - 128 * a) = v by omega] at ov pv mv
  have hnd : ¬ dn μ a v v := by
    rintro ⟨r, k, hr, hk2, he, z | z⟩
    · obtain ⟨t', _, s'⟩ := hS r hr
      have := s'.1
      have := s'.2.1
      omega
    · omega
  have hgv : g v = -1 := (h.2 v (by omega) (by omega)).2 hnd
  have e0 : (fun w => if w = v then -1 else (stG μ g).2.2 56 w) = g := by
    funext w
    rw [stG_56]
    by_cases z : w = v
    · rw [if_pos z, z, hgv]
    · rw [if_neg z]
  have hmok : ∀ w, 0 ≤ w → w < 256 → 0 ≤ g w → mok (stG μ g) w := fun w w0 w1 w2 => by
    have hd : dn μ a v w := Classical.byContradiction (fun z => by have := (h.2 w w0 w1).2 z; omega)
    have hgw := (h.2 w w0 w1).1 hd
    obtain ⟨r, k, hr, hk2, he, _⟩ := hd
    obtain ⟨t', _, s'⟩ := hS r hr
    have q := (Si_rowM s' hr ⟨hk2.1, by have := s'.2.1; omega⟩).2.2
    rw [← he] at q
    unfold mok
    rw [stG_56, stG_o (by omega), stG_o (by omega), stG_o (by omega), stG_o (by omega), stG_o (by omega), stG_o (by omega)]
    exact ⟨q.1, q.2.1, q.2.2.1, q.2.2.2.1, q.2.2.2.2.1, q.2.2.2.2.2, by omega, by omega⟩
  refine (m_classify (μ := stG μ g) (a := v) (lw := 0) (hg := 256) (by decide) (by omega) (by rw [e0, vM_G]; exact h.1) (fun w w0 w1 _ w2 => hmok w w0 w1 (by rw [stG_56] at w2; exact w2)) (fun w w0 w1 => ?_) ?_ (by rw [vM_G]; exact ov) (fun n hn' => ?_) (by rw [stG_o (by omega)]; exact h57) hf hl).mono ?_
  · rw [stG_56]
    by_cases z : dn μ a v w
    · have := (h.2 w w0 w1).1 z; omega
    · have := (h.2 w w0 w1).2 z; omega
  · rw [stG_A]
    unfold mok
    rw [stG_56, stG_o (by omega), stG_o (by omega), stG_o (by omega), stG_o (by omega), stG_o (by omega), stG_o (by omega), if_pos rfl]
    exact ⟨mv.1, mv.2.1, mv.2.2.1, mv.2.2.2.1, mv.2.2.2.2.1, mv.2.2.2.2.2, by omega, by omega⟩
  · rw [stG_o (by omega)] at hn'
    have q := pv n hn'
    rw [vM_G, stG_56]
    exact ⟨by omega, by omega, by omega, ((h.2 _ (by omega) (by omega)).1 ⟨a, pt (vM μ) v n - 128 * a, ha, by omega, by omega, Or.inr ⟨rfl, q.1⟩⟩).1⟩
  · rintro o τ ⟨μ', rfl, ⟨r, rfl, r0, r1, hG⟩, rfl⟩
    rw [stG_A]
    refine ⟨_, rfl, ⟨_, ⟨?_, fun w w0 w1 => ?_⟩, rfl⟩, rfl⟩
    · rw [vM_G, stG_56] at hG
      exact hG
    · have hd : dn μ a (v - 1) w ↔ dn μ a v w ∨ w = v := by
        constructor
        · rintro ⟨r, k, hr, hk2, he, z | z⟩
          · exact Or.inl ⟨r, k, hr, hk2, he, Or.inl z⟩
          · by_cases y : w = v
            · exact Or.inr y
            · exact Or.inl ⟨r, k, hr, hk2, he, Or.inr ⟨z.1, by omega⟩⟩
        · rintro (⟨r, k, hr, hk2, he, z | z⟩ | z)
          · exact ⟨r, k, hr, hk2, he, Or.inl z⟩
          · exact ⟨r, k, hr, hk2, he, Or.inr ⟨z.1, by omega⟩⟩
          · exact ⟨a, v - 128 * a, ha, by omega, by omega, Or.inr ⟨rfl, by omega⟩⟩
      show (dn μ a (v - 1) w → 0 ≤ (if w = v then r else g w) ∧ (if w = v then r else g w) < 256) ∧ (¬ dn μ a (v - 1) w → (if w = v then r else g w) = -1)
      by_cases z : w = v
      · rw [if_pos z]
        exact ⟨fun _ => ⟨by omega, by omega⟩, fun y => absurd (hd.mpr (Or.inr z)) y⟩
      · rw [if_neg z]
        exact ⟨fun y => (h.2 w w0 w1).1 ((hd.mp y).resolve_right z), fun y => (h.2 w w0 w1).2 (fun x => y (hd.mpr (Or.inl x)))⟩
theorem m_rst_l {sc : Nat × (Nat → Int32)} {fr lo : Nat} {μ : Mem} {ρ : Nat × Nat × Nat} {Q : z_O → z_T → Prop} (K : w_P sc fr lo 179 7 3 false ((some FieldType.boolean)) prog_9_method_71_code 66 [some (.ref 46), none, none] [] (hp (stG μ (fun q => if 0 ≤ q ∧ q < 256 then -1 else μ.2.2 56 q)), ρ) Q) : ∀ (m : Nat) (k : Int), (256 - k).toNat = m → (0 ≤ k ∧ k ≤ 256) → w_P sc fr lo 179 7 3 false ((some FieldType.boolean)) prog_9_method_71_code 46 [some (.ref 46), some (.int (ji k)), none] [] (hp (stG μ (fun q => if 0 ≤ q ∧ q < k then -1 else μ.2.2 56 q)), ρ) Q := by
  intro m
  induction m using Nat.strongRecOn with
  | ind m ih =>
    intro k hm hk
    refine w_ld d_179_46 rfl rfl rfl ?_
    refine w_sip d_179_47 (by decide) ?_
    refine w_icmp_ge (g := 66) d_179_50 (by decide) (by omega) (fun h50 => ?_) (fun h50 => ?_)
    · obtain rfl : k = 256 := by omega
      exact w_P.le K ⟨rfl, trivial⟩
    · refine w_ld d_179_53 rfl rfl rfl ?_
      refine w_getF d_179_54 (by rfl) (by first | rfl | assumption) (by rfl) (by rfl) ?_
      refine w_ld d_179_57 rfl rfl rfl ?_
      refine w_con d_179_58 ?_
      refine w_iast d_179_59 (by first | rfl | assumption) (by omega) ?_
      refine w_inc (L' := [_, _, _]) d_179_60 rfl (by decide) rfl ?_
      refine w_goto (g := 46) d_179_63 (by decide) ?_
      rw [stG_A, show (fun q => if q = k then -1 else (if 0 ≤ q ∧ q < k then -1 else μ.2.2 56 q)) = (fun q => if 0 ≤ q ∧ q < (k + 1) then -1 else μ.2.2 56 q) from funext fun q => by
        by_cases z : q = k
        · rw [if_pos z, if_pos (by omega)]
        · rw [if_neg z]
          by_cases y : 0 ≤ q ∧ q < k
          · rw [if_pos y, if_pos (by omega)]
          · rw [if_neg y, if_neg (by omega)]]
      exact ih _ (by omega) (k + 1) rfl (by omega)
theorem m_grp_l {sc : Nat × (Nat → Int32)} {fr lo : Nat} {μ : Mem} {ρ : Nat × Nat × Nat} {a : Int} (ha : a = 0 ∨ a = 1) (hS : ∀ r, r = 0 ∨ r = 1 → ∃ t, isT t ∧ Si μ t r) (h57 : ∀ k, 0 ≤ μ.2.2 57 k ∧ μ.2.2 57 k < 65536) (hf : 10 ≤ fr) (hl : 400 ≤ lo) {Q : z_O → z_T → Prop} (K : ∀ g, SG μ a (128 * a - 1) g → w_P sc fr lo 179 7 3 false ((some FieldType.boolean)) prog_9_method_71_code 112 [some (.ref 46), some (.int (ji a)), none] [] (hp (stG μ g), ρ) Q) : ∀ (m : Nat) (v : Int) (g : Int → Int), (v - 128 * a + 1).toNat = m → (128 * a - 1 ≤ v ∧ v < 128 * a + μ.2.2 48 a) → SG μ a v g → w_P sc fr lo 179 7 3 false ((some FieldType.boolean)) prog_9_method_71_code 88 [some (.ref 46), some (.int (ji a)), some (.int (ji v))] [] (hp (stG μ g), ρ) Q := by
  intro m
  induction m using Nat.strongRecOn with
  | ind m ih =>
    intro v g hm hv hg
    obtain ⟨t, _, hSi⟩ := hS a ha
    have hn0 := hSi.1
    have hn1 := hSi.2.1
    refine w_ld d_179_88 rfl rfl rfl ?_
    refine w_sip d_179_89 (by decide) ?_
    refine w_ld d_179_92 rfl rfl rfl ?_
    refine w_imul d_179_93 ?_
    refine w_icmp_lt (g := 112) d_179_94 (by decide) (by omega) (fun h94 => ?_) (fun h94 => ?_)
    · obtain rfl : v = 128 * a - 1 := by omega
      exact w_P.le (K g hg) ⟨rfl, rfl, trivial⟩
    · refine w_ld d_179_97 rfl rfl rfl ?_
      refine w_ld d_179_98 rfl rfl rfl ?_
      refine w_con d_179_99 ?_
      refine w_sip d_179_100 (by decide) ?_
      refine w_cVm (a := 46) (as := [_, _, _]) (rest := _) rfl d_179_103 (by rfl) (by rfl) (by first | rfl | assumption) (by rfl) (by rfl) (Nat.le_of_ble_eq_true rfl) (by omega) (by omega) (m_clsG hS h57 ha (by omega) hg (by omega) (by omega)) (fun μ' hm2 => ?_)
      obtain ⟨g2, hg2, rfl⟩ := hm2
      refine w_inc (L' := [_, _, _]) d_179_106 rfl (by decide) rfl ?_
      refine w_goto (g := 88) d_179_109 (by decide) ?_
      exact ih _ (by omega) (v - 1) g2 rfl (by omega) hg2
theorem SG_0 {μ : Mem} : SG μ 0 (128 * 0 + μ.2.2 48 0 - 1) (fun q => if 0 ≤ q ∧ q < 256 then -1 else μ.2.2 56 q) := by
  refine ⟨fun v v0 v1 v2 => ?_, fun w w0 w1 => ⟨fun z => ?_, fun _ => if_pos ⟨w0, w1⟩⟩⟩
  · have v2 : 0 ≤ (if 0 ≤ v ∧ v < 256 then -1 else μ.2.2 56 v) := v2
    rw [if_pos ⟨v0, v1⟩] at v2
    omega
  · obtain ⟨r, k, hr, hk, he, z | z⟩ := z
    · omega
    · obtain ⟨rfl, z⟩ := z
      omega
theorem SG_1 {μ : Mem} {g : Int → Int} (hS : ∀ r, r = 0 ∨ r = 1 → ∃ t, isT t ∧ Si μ t r) (h : SG μ 0 (128 * 0 - 1) g) : SG μ 1 (128 * 1 + μ.2.2 48 1 - 1) g := SG_eq h (fun w w0 w1 => by
  constructor
  · rintro ⟨r, k, hr, hk, he, z | z⟩
    · omega
    · exact ⟨r, k, hr, hk, he, Or.inl (by omega)⟩
  · rintro ⟨r, k, hr, hk, he, z | z⟩
    · exact ⟨r, k, hr, hk, he, Or.inr ⟨by omega, by omega⟩⟩
    · obtain ⟨rfl, z⟩ := z
      omega)
theorem m_grp {sc : Nat × (Nat → Int32)} {fr lo : Nat} {μ : Mem} {ρ : Nat × Nat × Nat} (hS : ∀ r, r = 0 ∨ r = 1 → ∃ t, isT t ∧ Si μ t r) (h57 : ∀ k, 0 ≤ μ.2.2 57 k ∧ μ.2.2 57 k < 65536) (hf : 10 ≤ fr) (hl : 400 ≤ lo) (hn : 0 < μ.2.2 48 0 ∧ 0 < μ.2.2 48 1) : w_P sc fr lo 179 7 3 false ((some FieldType.boolean)) prog_9_method_71_code 66 [some (.ref 46), none, none] [] (hp (stG μ (fun q => if 0 ≤ q ∧ q < 256 then -1 else μ.2.2 56 q)), ρ) (fun o t' => ∃ g, SG μ 1 (128 * 1 - 1) g ∧ o = .inl (some (.int (ji (b01 (g 0 = g 128))))) ∧ t' = (hp (stG μ g), ρ)) := by
  obtain ⟨t0, _, hs0⟩ := hS 0 (Or.inl rfl)
  obtain ⟨t1, _, hs1⟩ := hS 1 (Or.inr rfl)
  have a1 := hs0.1
  have a2 := hs0.2.1
  have a3 := hs1.1
  have a4 := hs1.2.1
  have r48 : ∀ g : Int → Int, (stG μ g).2.2 48 = μ.2.2 48 := fun g => stG_o (by omega)
  refine w_con d_179_66 ?_
  refine w_st1 (L' := [_, _, _]) d_179_67 rfl (by decide) rfl (by decide) rfl ?_
  refine w_ld d_179_68 rfl rfl rfl ?_
  refine w_con d_179_69 ?_
  refine w_icmp_ge (g := 118) d_179_70 (by decide) (by decide) (fun h70 => ?_) (fun h70 => ?_)
  · exact absurd h70 (by decide)
  · refine w_sip d_179_73 (by decide) ?_
    refine w_ld d_179_76 rfl rfl rfl ?_
    refine w_imul d_179_77 ?_
    refine w_ld d_179_78 rfl rfl rfl ?_
    refine w_getF d_179_79 (by rfl) (by first | rfl | assumption) (by rfl) (by rfl) ?_
    refine w_ld d_179_82 rfl rfl rfl ?_
    refine w_aI d_179_83 (by first | rfl | assumption) (by decide) (by rw [r48]) ?_
    refine w_iadd d_179_84 ?_
    refine w_con d_179_85 ?_
    refine w_isub d_179_86 ?_
    refine w_st1 (L' := [_, _, _]) d_179_87 rfl (by decide) rfl (by decide) rfl ?_
    refine m_grp_l (a := 0) (Or.inl rfl) hS h57 hf hl (fun g hg => ?_) _ (128 * 0 + μ.2.2 48 0 - 1) _ rfl (by omega) SG_0
    refine w_inc (L' := [_, _, _]) d_179_112 rfl (by decide) rfl ?_
    refine w_goto (g := 68) d_179_115 (by decide) ?_
    refine w_ld d_179_68 rfl rfl rfl ?_
    refine w_con d_179_69 ?_
    refine w_icmp_ge (g := 118) d_179_70 (by decide) (by decide) (fun h70 => ?_) (fun h70 => ?_)
    · exact absurd h70 (by decide)
    · refine w_sip d_179_73 (by decide) ?_
      refine w_ld d_179_76 rfl rfl rfl ?_
      refine w_imul d_179_77 ?_
      refine w_ld d_179_78 rfl rfl rfl ?_
      refine w_getF d_179_79 (by rfl) (by first | rfl | assumption) (by rfl) (by rfl) ?_
      refine w_ld d_179_82 rfl rfl rfl ?_
      refine w_aI d_179_83 (by first | rfl | assumption) (by decide) (by rw [r48]) ?_
      refine w_iadd d_179_84 ?_
      refine w_con d_179_85 ?_
      refine w_isub d_179_86 ?_
      refine w_st1 (L' := [_, _, _]) d_179_87 rfl (by decide) rfl (by decide) rfl ?_
      refine m_grp_l (a := 1) (Or.inr rfl) hS h57 hf hl (fun g2 hg2 => ?_) _ (128 * 1 + μ.2.2 48 1 - 1) g rfl (by omega) (SG_1 hS hg)
      have hrg : -2147483648 ≤ g2 0 ∧ g2 0 < 2147483648 ∧ -2147483648 ≤ g2 128 ∧ g2 128 < 2147483648 := by
        have z0 := (hg2.2 0 (by decide) (by decide)).1 ⟨0, 0, Or.inl rfl, by omega, by omega, Or.inl (by decide)⟩
        have z1 := (hg2.2 128 (by decide) (by decide)).1 ⟨1, 0, Or.inr rfl, by omega, by omega, Or.inr ⟨rfl, by decide⟩⟩
        omega
      refine w_inc (L' := [_, _, _]) d_179_112 rfl (by decide) rfl ?_
      refine w_goto (g := 68) d_179_115 (by decide) ?_
      refine w_ld d_179_68 rfl rfl rfl ?_
      refine w_con d_179_69 ?_
      refine w_icmp_ge (g := 118) d_179_70 (by decide) (by decide) (fun h70 => ?_) (fun h70 => ?_)
      · refine w_ld d_179_118 rfl rfl rfl ?_
        refine w_getF d_179_119 (by rfl) (by first | rfl | assumption) (by rfl) (by rfl) ?_
        refine w_con d_179_122 ?_
        refine w_aI d_179_123 (by first | rfl | assumption) (by decide) (by rw [stG_56]) ?_
        refine w_ld d_179_124 rfl rfl rfl ?_
        refine w_getF d_179_125 (by rfl) (by first | rfl | assumption) (by rfl) (by rfl) ?_
        refine w_sip d_179_128 (by decide) ?_
        refine w_aI d_179_131 (by first | rfl | assumption) (by decide) (by rw [stG_56]) ?_
        refine w_icmp_ne (g := 139) d_179_132 (by decide) hrg (fun h132 => ?_) (fun h132 => ?_)
        · refine w_con d_179_139 ?_
          refine w_zret d_179_140 rfl (by decide) ?_
          exact ⟨g2, hg2, by rw [b01_f h132], rfl⟩
        · refine w_con d_179_135 ?_
          refine w_goto (g := 140) d_179_136 (by decide) ?_
          refine w_zret d_179_140 rfl (by decide) ?_
          exact ⟨g2, hg2, by rw [b01_t h132], rfl⟩
      · exact absurd h70 (by decide)
theorem stG_self {μ : Mem} : stG μ (fun q => if 0 ≤ q ∧ q < 0 then -1 else μ.2.2 56 q) = μ := by
  refine Prod.ext rfl (Prod.ext rfl ?_)
  funext b q
  show (if b = 56 then (if 0 ≤ q ∧ q < 0 then -1 else μ.2.2 56 q) else μ.2.2 b q) = μ.2.2 b q
  by_cases h : b = 56
  · rw [if_pos h, if_neg (by omega), h]
  · rw [if_neg h]
theorem m_sameE {sc : Nat × (Nat → Int32)} {fr lo : Nat} {μ : Mem} {ρ : Nat × Nat × Nat} (h48 : (0 ≤ μ.2.2 48 0 ∧ μ.2.2 48 0 ≤ 240) ∧ 0 ≤ μ.2.2 48 1 ∧ μ.2.2 48 1 ≤ 240) (h0 : μ.2.2 48 0 = 0 ∨ μ.2.2 48 1 = 0) : w_E sc fr lo 179 [.ref 46] (hp μ, ρ) (.inl (some (.int (ji (b01 (μ.2.2 48 0 = μ.2.2 48 1)))))) (hp (stI μ 46 0 0), ρ) := by
  refine w_S.of (L0 := [some (.ref 46), none, none]) rfl rfl (Nat.le_of_ble_eq_true rfl) (by rfl) ?_
  refine w_ld d_179_0 rfl rfl rfl ?_
  refine w_con d_179_1 ?_
  refine w_putI d_179_2 (by rfl) (by first | rfl | assumption) (by rfl) (fit_I (by rfl)) (by rfl) ?_
  refine w_ld d_179_5 rfl rfl rfl ?_
  refine w_getF d_179_6 (by rfl) (by first | rfl | assumption) (by rfl) (by rfl) ?_
  refine w_con d_179_9 ?_
  refine w_aI d_179_10 (by first | rfl | assumption) (by decide) (show _ = μ.2.2 48 0 from rfl) ?_
  refine w_if_eq (g := 23) d_179_11 (by decide) (by omega) (fun h11 => ?_) (fun h11 => ?_)
  · refine w_ld d_179_23 rfl rfl rfl ?_
    refine w_getF d_179_24 (by rfl) (by first | rfl | assumption) (by rfl) (by rfl) ?_
    refine w_con d_179_27 ?_
    refine w_aI d_179_28 (by first | rfl | assumption) (by decide) (show _ = μ.2.2 48 0 from rfl) ?_
    refine w_ld d_179_29 rfl rfl rfl ?_
    refine w_getF d_179_30 (by rfl) (by first | rfl | assumption) (by rfl) (by rfl) ?_
    refine w_con d_179_33 ?_
    refine w_aI d_179_34 (by first | rfl | assumption) (by decide) (show _ = μ.2.2 48 1 from rfl) ?_
    refine w_icmp_ne (g := 42) d_179_35 (by decide) (by omega) (fun h35 => ?_) (fun h35 => ?_)
    · refine w_con d_179_42 ?_
      refine w_zret d_179_43 rfl (by decide) ?_
      rw [b01_f h35]
      exact ⟨rfl, rfl⟩
    · refine w_con d_179_38 ?_
      refine w_goto (g := 43) d_179_39 (by decide) ?_
      refine w_zret d_179_43 rfl (by decide) ?_
      rw [b01_t h35]
      exact ⟨rfl, rfl⟩
  · refine w_ld d_179_14 rfl rfl rfl ?_
    refine w_getF d_179_15 (by rfl) (by first | rfl | assumption) (by rfl) (by rfl) ?_
    refine w_con d_179_18 ?_
    refine w_aI d_179_19 (by first | rfl | assumption) (by decide) (show _ = μ.2.2 48 1 from rfl) ?_
    refine w_if_ne (g := 44) d_179_20 (by decide) (by omega) (fun h20 => ?_) (fun h20 => ?_)
    · exact absurd h0 (by omega)
    · refine w_ld d_179_23 rfl rfl rfl ?_
      refine w_getF d_179_24 (by rfl) (by first | rfl | assumption) (by rfl) (by rfl) ?_
      refine w_con d_179_27 ?_
      refine w_aI d_179_28 (by first | rfl | assumption) (by decide) (show _ = μ.2.2 48 0 from rfl) ?_
      refine w_ld d_179_29 rfl rfl rfl ?_
      refine w_getF d_179_30 (by rfl) (by first | rfl | assumption) (by rfl) (by rfl) ?_
      refine w_con d_179_33 ?_
      refine w_aI d_179_34 (by first | rfl | assumption) (by decide) (show _ = μ.2.2 48 1 from rfl) ?_
      refine w_icmp_ne (g := 42) d_179_35 (by decide) (by omega) (fun h35 => ?_) (fun h35 => ?_)
      · refine w_con d_179_42 ?_
        refine w_zret d_179_43 rfl (by decide) ?_
        rw [b01_f h35]
        exact ⟨rfl, rfl⟩
      · refine w_con d_179_38 ?_
        refine w_goto (g := 43) d_179_39 (by decide) ?_
        refine w_zret d_179_43 rfl (by decide) ?_
        rw [b01_t h35]
        exact ⟨rfl, rfl⟩
theorem m_sameF {sc : Nat × (Nat → Int32)} {fr lo : Nat} {μ : Mem} {ρ : Nat × Nat × Nat} (h48 : (0 ≤ μ.2.2 48 0 ∧ μ.2.2 48 0 ≤ 240) ∧ 0 ≤ μ.2.2 48 1 ∧ μ.2.2 48 1 ≤ 240) (h0 : ¬ (μ.2.2 48 0 = 0 ∨ μ.2.2 48 1 = 0)) (hS : ∀ r, r = 0 ∨ r = 1 → ∃ t, isT t ∧ Si (stI μ 46 0 0) t r) (h57 : ∀ k, 0 ≤ μ.2.2 57 k ∧ μ.2.2 57 k < 65536) (hf : 10 ≤ fr) (hl : 400 ≤ lo) : w_S sc fr lo 179 [.ref 46] (hp μ, ρ) (fun o t' => ∃ g, SG (stI μ 46 0 0) 1 (128 * 1 - 1) g ∧ o = .inl (some (.int (ji (b01 (g 0 = g 128))))) ∧ t' = (hp (stG (stI μ 46 0 0) g), ρ)) := by
  refine w_S.of (L0 := [some (.ref 46), none, none]) rfl rfl (Nat.le_of_ble_eq_true rfl) (by rfl) ?_
  refine w_ld d_179_0 rfl rfl rfl ?_
  refine w_con d_179_1 ?_
  refine w_putI d_179_2 (by rfl) (by first | rfl | assumption) (by rfl) (fit_I (by rfl)) (by rfl) ?_
  refine w_ld d_179_5 rfl rfl rfl ?_
  refine w_getF d_179_6 (by rfl) (by first | rfl | assumption) (by rfl) (by rfl) ?_
  refine w_con d_179_9 ?_
  refine w_aI d_179_10 (by first | rfl | assumption) (by decide) (show _ = μ.2.2 48 0 from rfl) ?_
  refine w_if_eq (g := 23) d_179_11 (by decide) (by omega) (fun h11 => ?_) (fun h11 => ?_)
  · exact absurd (Or.inl h11) h0
  · refine w_ld d_179_14 rfl rfl rfl ?_
    refine w_getF d_179_15 (by rfl) (by first | rfl | assumption) (by rfl) (by rfl) ?_
    refine w_con d_179_18 ?_
    refine w_aI d_179_19 (by first | rfl | assumption) (by decide) (show _ = μ.2.2 48 1 from rfl) ?_
    refine w_if_ne (g := 44) d_179_20 (by decide) (by omega) (fun h20 => ?_) (fun h20 => ?_)
    · refine w_con d_179_44 ?_
      refine w_st1 (L' := [_, _, _]) d_179_45 rfl (by decide) rfl (by decide) rfl ?_
      have e := m_rst_l (sc := sc) (fr := fr) (lo := lo) (μ := stI μ 46 0 0) (ρ := ρ) (m_grp hS h57 hf hl (show 0 < μ.2.2 48 0 ∧ 0 < μ.2.2 48 1 by omega)) _ 0 rfl (by decide)
      rw [stG_self] at e
      exact e
    · exact absurd (Or.inr h20) h0
theorem t_sameE {sc : Nat × (Nat → Int32)} {fr lo : Nat} {μ : Mem} {ρ : Nat × Nat × Nat} {t0 t1 : Nat} (hT0 : isT t0) (hT1 : isT t1) (h0 : μ.2.1 1 (0 : Int).toNat = .ref t0) (h1 : μ.2.1 1 (1 : Int).toNat = .ref t1) (hn : (0 ≤ μ.1 t0 7 ∧ μ.1 t0 7 ≤ 240) ∧ 0 ≤ μ.1 t1 7 ∧ μ.1 t1 7 ≤ 240) (hz : μ.1 t0 7 = 0 ∨ μ.1 t1 7 = 0) : w_E sc fr lo 15 [.ref 0] (hp μ, ρ) (.inl (some (.int (ji (b01 (μ.1 t0 7 = μ.1 t1 7)))))) (hp μ, ρ) := by
  obtain ⟨u0, _⟩ := hT0.sh
  obtain ⟨u1, _⟩ := hT1.sh
  refine w_S.of (L0 := [some (.ref 0)]) rfl rfl (Nat.le_of_ble_eq_true rfl) (by rfl) ?_
  refine w_ld d_15_0 rfl rfl rfl ?_
  refine w_getF d_15_1 (by rfl) (by first | rfl | assumption) (by rfl) (by rfl) ?_
  refine w_con d_15_4 ?_
  refine w_aald d_15_5 (by first | rfl | assumption) (by decide) h0 ?_
  refine w_gI d_15_6 (by rfl) (by first | rfl | assumption) (by rfl) rfl ?_
  refine w_if_eq (g := 24) d_15_9 (by decide) (by omega) (fun h9 => ?_) (fun h9 => ?_)
  · refine w_ld d_15_24 rfl rfl rfl ?_
    refine w_getF d_15_25 (by rfl) (by first | rfl | assumption) (by rfl) (by rfl) ?_
    refine w_con d_15_28 ?_
    refine w_aald d_15_29 (by first | rfl | assumption) (by decide) h0 ?_
    refine w_gI d_15_30 (by rfl) (by first | rfl | assumption) (by rfl) rfl ?_
    refine w_ld d_15_33 rfl rfl rfl ?_
    refine w_getF d_15_34 (by rfl) (by first | rfl | assumption) (by rfl) (by rfl) ?_
    refine w_con d_15_37 ?_
    refine w_aald d_15_38 (by first | rfl | assumption) (by decide) h1 ?_
    refine w_gI d_15_39 (by rfl) (by first | rfl | assumption) (by rfl) rfl ?_
    refine w_icmp_ne (g := 49) d_15_42 (by decide) (by omega) (fun h42 => ?_) (fun h42 => ?_)
    · refine w_con d_15_49 ?_
      refine w_zret d_15_50 rfl (by decide) ?_
      rw [b01_f h42]
      exact ⟨rfl, rfl⟩
    · refine w_con d_15_45 ?_
      refine w_goto (g := 50) d_15_46 (by decide) ?_
      refine w_zret d_15_50 rfl (by decide) ?_
      rw [b01_t h42]
      exact ⟨rfl, rfl⟩
  · refine w_ld d_15_12 rfl rfl rfl ?_
    refine w_getF d_15_13 (by rfl) (by first | rfl | assumption) (by rfl) (by rfl) ?_
    refine w_con d_15_16 ?_
    refine w_aald d_15_17 (by first | rfl | assumption) (by decide) h1 ?_
    refine w_gI d_15_18 (by rfl) (by first | rfl | assumption) (by rfl) rfl ?_
    refine w_if_ne (g := 51) d_15_21 (by decide) (by omega) (fun h21 => ?_) (fun h21 => ?_)
    · exact absurd hz (by omega)
    · refine w_ld d_15_24 rfl rfl rfl ?_
      refine w_getF d_15_25 (by rfl) (by first | rfl | assumption) (by rfl) (by rfl) ?_
      refine w_con d_15_28 ?_
      refine w_aald d_15_29 (by first | rfl | assumption) (by decide) h0 ?_
      refine w_gI d_15_30 (by rfl) (by first | rfl | assumption) (by rfl) rfl ?_
      refine w_ld d_15_33 rfl rfl rfl ?_
      refine w_getF d_15_34 (by rfl) (by first | rfl | assumption) (by rfl) (by rfl) ?_
      refine w_con d_15_37 ?_
      refine w_aald d_15_38 (by first | rfl | assumption) (by decide) h1 ?_
      refine w_gI d_15_39 (by rfl) (by first | rfl | assumption) (by rfl) rfl ?_
      refine w_icmp_ne (g := 49) d_15_42 (by decide) (by omega) (fun h42 => ?_) (fun h42 => ?_)
      · refine w_con d_15_49 ?_
        refine w_zret d_15_50 rfl (by decide) ?_
        rw [b01_f h42]
        exact ⟨rfl, rfl⟩
      · refine w_con d_15_45 ?_
        refine w_goto (g := 50) d_15_46 (by decide) ?_
        refine w_zret d_15_50 rfl (by decide) ?_
        rw [b01_t h42]
        exact ⟨rfl, rfl⟩
theorem t_sameF {sc : Nat × (Nat → Int32)} {fr lo : Nat} {μ : Mem} {ρ : Nat × Nat × Nat} {t0 t1 : Nat} (hT0 : isT t0) (hT1 : isT t1) (h0 : μ.2.1 1 (0 : Int).toNat = .ref t0) (h1 : μ.2.1 1 (1 : Int).toNat = .ref t1) (hn : (0 ≤ μ.1 t0 7 ∧ μ.1 t0 7 ≤ 240) ∧ 0 ≤ μ.1 t1 7 ∧ μ.1 t1 7 ≤ 240) (hz : ¬ (μ.1 t0 7 = 0 ∨ μ.1 t1 7 = 0)) (r0 : rok μ t0 0 (μ.1 t0 7)) (r1 : rok μ t1 0 (μ.1 t1 7)) (o0 : okv 10 (vT μ t0) 0) (o1 : okv 10 (vT μ t1) 0) (hG : GL μ) (hf : 40 ≤ fr) (hl : 1000 ≤ lo) : w_E sc fr lo 15 [.ref 0] (hp μ, ρ) (.inl (some (.int (ji (b01 (al 10 (vT μ t0) 0 (vT μ t1) 0)))))) (hp μ, ρ) := by
  obtain ⟨u0, _⟩ := hT0.sh
  obtain ⟨u1, _⟩ := hT1.sh
  refine w_S.of (L0 := [some (.ref 0)]) rfl rfl (Nat.le_of_ble_eq_true rfl) (by rfl) ?_
  refine w_ld d_15_0 rfl rfl rfl ?_
  refine w_getF d_15_1 (by rfl) (by first | rfl | assumption) (by rfl) (by rfl) ?_
  refine w_con d_15_4 ?_
  refine w_aald d_15_5 (by first | rfl | assumption) (by decide) h0 ?_
  refine w_gI d_15_6 (by rfl) (by first | rfl | assumption) (by rfl) rfl ?_
  refine w_if_eq (g := 24) d_15_9 (by decide) (by omega) (fun h9 => ?_) (fun h9 => ?_)
  · exact absurd (Or.inl h9) hz
  · refine w_ld d_15_12 rfl rfl rfl ?_
    refine w_getF d_15_13 (by rfl) (by first | rfl | assumption) (by rfl) (by rfl) ?_
    refine w_con d_15_16 ?_
    refine w_aald d_15_17 (by first | rfl | assumption) (by decide) h1 ?_
    refine w_gI d_15_18 (by rfl) (by first | rfl | assumption) (by rfl) rfl ?_
    refine w_if_ne (g := 51) d_15_21 (by decide) (by omega) (fun h21 => ?_) (fun h21 => ?_)
    · refine w_ld d_15_51 rfl rfl rfl ?_
      refine w_getF d_15_52 (by rfl) (by first | rfl | assumption) (by rfl) (by rfl) ?_
      refine w_con d_15_55 ?_
      refine w_aald d_15_56 (by first | rfl | assumption) (by decide) h0 ?_
      refine w_con d_15_57 ?_
      refine w_ld d_15_58 rfl rfl rfl ?_
      refine w_getF d_15_59 (by rfl) (by first | rfl | assumption) (by rfl) (by rfl) ?_
      refine w_con d_15_62 ?_
      refine w_aald d_15_63 (by first | rfl | assumption) (by decide) h1 ?_
      refine w_con d_15_64 ?_
      refine w_con d_15_65 ?_
      refine w_cS1 (as := [_, _, _, _, _]) (rest := _) rfl d_15_66 (by rfl) (by rfl) (by rfl) (by rfl) (Nat.le_of_ble_eq_true rfl) (by omega) (by omega) (t_alike hT0 hT1 r0 r1 hG 10 0 (by decide) _ _ (by omega) (by omega) _ _ (by omega) (by omega) o0 o1) ?_
      refine w_zret d_15_69 rfl (by rcases b01_01 (al 10 (vT μ t0) 0 (vT μ t1) 0) with z | z <;> rw [z] <;> decide) ?_
      exact ⟨rfl, rfl⟩
    · exact absurd (Or.inr h21) hz
/-- groups alone have changed -/
theorem IvL_grp {μ : Mem} {g : Int → Int} (k : IvL μ) : IvL (stG μ g) := by
  obtain ⟨k1, ⟨x, hx, q1, q2, q3, q4⟩, k3, t0, t1, t2, a0, a1, a2, b0, b1, b2, c0, c1, c2, k4⟩ := id k
  refine IvL_scr k q1 c2 (fun a n ha => ?_) rfl (fun t hT hn => ⟨rfl, rfl, fun a h1 h2 => stG_o (by unfold isT at hT; omega)⟩) ⟨rfl, rfl, fun _ => rfl, rfl⟩ (stG_o (by omega)) ⟨stG_o (by omega), stG_o (by omega)⟩ (fun a i h1 h2 h3 => by rw [stG_o (by omega)]) (fun i _ => by rw [stG_o (by omega)]) (fun i => by rw [stG_o (by omega)]; exact (k3.2.2.2 i).2) ⟨rfl, rfl⟩ ⟨k3.1, k3.2.1, k3.2.2.1⟩
  have ha' := ha
  unfold isL at ha
  rw [stG_o (by omega)]
  exact k1 a n ha'
/-- same, in the law -/
theorem la_same {sc : Nat × (Nat → Int32)} {μ : Mem} {ρ : Nat × Nat × Nat} {Q : z_O → z_T → Prop} {i : Int} (hi : 0 ≤ i ∧ i + 3 < sc.1 ∧ sc.1 ≤ 2048) (h : IvL μ) (hρ : 1 ≤ ρ.2.1 ∧ 6 ≤ ρ.2.2) (K : ∀ μ' ρ', IvL μ' → (ρ.2.1 ≤ ρ'.2.1 + 1 ∧ ρ.2.2 ≤ ρ'.2.2 + 6) → w_P sc 2048 84000 9999 8 8 false ret code 742 [some (.float 1000), some (.ref 0), some (.ref 46), some (.ref 73), some (.int (ji i)), none, none, none] [] (hp μ', ρ') Q) : w_P sc 2048 84000 9999 8 8 false ret code 718 [some (.float 1000), some (.ref 0), some (.ref 46), some (.ref 73), some (.int (ji i)), none, none, none] [] (hp μ, ρ) Q := by
  obtain ⟨k1, _, k3, t0, t1, t2, a0, a1, a2, b0, b1, b2, c0, c1, c2, k4⟩ := id h
  have hGL : GL μ := fun a n ha => (k1 a n ha).2
  have hb : ∀ P : Prop, -2147483648 ≤ b01 P ∧ b01 P < 2147483648 := b01_in
  have fin : ∀ (ta tb : Nat), isT ta → isT tb → Si μ ta 0 → Si μ tb 1 → (t0 = ta ∧ t1 = tb ∨ t0 = tb ∧ t1 = ta) → w_P sc 2048 84000 9999 8 8 false ret code 718 [some (.float 1000), some (.ref 0), some (.ref 46), some (.ref 73), some (.int (ji i)), none, none, none] [] (hp μ, ρ) Q := fun ta tb hTa hTb sa sb hab => by
    have na := sa.1
    have nb := sb.1
    have ea := sa.2.1
    have eb := sb.2.1
    have hn : (0 ≤ μ.1 t0 7 ∧ μ.1 t0 7 ≤ 240) ∧ 0 ≤ μ.1 t1 7 ∧ μ.1 t1 7 ≤ 240 := by
      rcases hab with ⟨rfl, rfl⟩ | ⟨rfl, rfl⟩ <;> omega
    by_cases hz : μ.1 t0 7 = 0 ∨ μ.1 t1 7 = 0
    · have hz2 : μ.2.2 48 0 = 0 ∨ μ.2.2 48 1 = 0 := by
        rcases hab with ⟨rfl, rfl⟩ | ⟨rfl, rfl⟩ <;> omega
      refine lc_same hi (t_sameE a0 a1 c0 c1 hn hz) (m_sameE (by omega) hz2) (b01_iff ?_) (hb _) (K _ ρ (IvL_code h 0) (by omega))
      rcases hab with ⟨rfl, rfl⟩ | ⟨rfl, rfl⟩ <;> omega
    · have hz2 : ¬ (μ.2.2 48 0 = 0 ∨ μ.2.2 48 1 = 0) := by
        rcases hab with ⟨rfl, rfl⟩ | ⟨rfl, rfl⟩ <;> omega
      have sx : ∀ t r, Si μ t r → Si (stI μ 46 0 0) t r := fun t r s => Si_eq (μ := μ) (ν := stI μ 46 0 0) (fun a _ _ => rfl) (fun a _ _ => rfl) (stI_ne (by omega)) (stI_ne (by omega)) s
      have hS : ∀ r, r = 0 ∨ r = 1 → ∃ t, isT t ∧ Si (stI μ 46 0 0) t r := fun r hr => by
        rcases hr with rfl | rfl
        · exact ⟨ta, hTa, sx _ _ sa⟩
        · exact ⟨tb, hTb, sx _ _ sb⟩
      obtain ⟨o, τ, ⟨g, hg, rfl, rfl⟩, hM⟩ := (m_sameF (sc := sc) (fr := 2048 - 1) (lo := 84000 - (19 + 3)) (μ := μ) (ρ := ρ) (by omega) hz2 hS (fun k => (k3.2.2.2 k).2) (by omega) (by omega)).ex
      have oa := sa.2.2.2.2 0 (by omega) (by rcases hab with ⟨rfl, rfl⟩ | ⟨rfl, rfl⟩ <;> omega)
      have ob := sb.2.2.2.2 0 (by omega) (by rcases hab with ⟨rfl, rfl⟩ | ⟨rfl, rfl⟩ <;> omega)
      obtain ⟨ia, ra⟩ := Si_iso (sx _ _ sa)
      obtain ⟨ib, rb⟩ := Si_iso (sx _ _ sb)
      have e7a : (stI μ 46 0 0).1 ta 7 = μ.1 ta 7 := stI_ne (by unfold isT at hTa; omega)
      have e7b : (stI μ 46 0 0).1 tb 7 = μ.1 tb 7 := stI_ne (by unfold isT at hTb; omega)
      have hna : 0 < μ.1 ta 7 ∧ 0 < μ.1 tb 7 := by rcases hab with ⟨rfl, rfl⟩ | ⟨rfl, rfl⟩ <;> omega
      have hal := al_iso ia ra ib rb 10 0 0 (by rw [e7a]; omega) (by rw [e7b]; omega)
      have z0 := (hg.2 0 (by decide) (by decide)).1 ⟨0, 0, Or.inl rfl, ⟨by decide, by show 0 < μ.2.2 48 0; omega⟩, by omega, Or.inl (by decide)⟩
      have z1 := (hg.2 128 (by decide) (by decide)).1 ⟨1, 0, Or.inr rfl, ⟨by decide, by show 0 < μ.2.2 48 1; omega⟩, by omega, Or.inr ⟨rfl, by decide⟩⟩
      have hgi := (hg.1 0 (by decide) (by decide) z0.1).2.2.2 128 (by decide) (by decide) z1.1
      have key : al 10 (vT μ ta) 0 (vT μ tb) 0 ↔ g 0 = g 128 := hal.trans hgi.symm
      rcases hab with ⟨rfl, rfl⟩ | ⟨rfl, rfl⟩
      · exact lc_same hi (t_sameF a0 a1 c0 c1 hn hz sa.2.2.1 sb.2.2.1 oa.1 ob.1 hGL (by omega) (by omega)) hM (b01_iff key) (hb _) (K _ ρ (IvL_grp (IvL_code h 0)) (by omega))
      · refine lc_same hi (t_sameF a0 a1 c0 c1 hn hz sb.2.2.1 sa.2.2.1 ob.1 oa.1 hGL (by omega) (by omega)) hM (b01_iff ?_) (hb _) (K _ ρ (IvL_grp (IvL_code h 0)) (by omega))
        rw [← key]
        exact ⟨fun z => al_symm 10 _ _ ob.1 oa.1 z, fun z => al_symm 10 _ _ oa.1 ob.1 z⟩
  rcases k4 with ⟨_, z1, z2⟩ | ⟨_, z1, z2⟩
  · exact fin t0 t1 a0 a1 z1 z2 (Or.inl ⟨rfl, rfl⟩)
  · exact fin t1 t0 a1 a0 z2 z1 (Or.inr ⟨rfl, rfl⟩)
