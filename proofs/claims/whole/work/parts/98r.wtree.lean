/-! THE PURE PART, 97: contracts: the class writes values, 3 -/
section WV
variable {A : View} {f : Nat} {d k key : Int} {N : List (List Int)}
theorem wv_s (h : A.1 k < 8) : wv A (f + 1) d k key N = some (smp A k key N) := by
  unfold wv
  rw [if_pos h]
theorem wv_8 (h : A.1 k = 8) : wv A (f + 1) d k key N = arw A f d k N := by
  unfold wv arw
  rw [if_neg (by omega)]
  by_cases z : 8 ≤ d
  · rw [if_pos z, if_pos z]
  · rw [if_neg z, if_neg z, if_pos h]
    rfl
theorem wv_12 (h : A.1 k = 12) : wv A (f + 1) d k key N = brk d (126 :: 35 :: wrd A k) N (wv A f (d + 1) (k + 1) 0 (nts N (126 :: 35 :: wrd A k) 0)) := by
  conv => lhs; unfold wv
  unfold brk
  rw [if_neg (by omega)]
  by_cases z : 8 ≤ d
  · rw [if_pos z, if_pos z]
  · rw [if_neg z, if_neg z, if_neg (by omega), if_pos h]
    cases wv A f (d + 1) (k + 1) 0 (nts N (126 :: 35 :: wrd A k) 0) with
    | none => rfl
    | some p => rfl
theorem wv_m (h : A.1 k = 11) (hs : spk A k) : wv A (f + 1) d k key N = mpw A f d k N := by
  conv => lhs; unfold wv
  unfold mpw
  rw [if_neg (by omega)]
  by_cases z : 8 ≤ d
  · rw [if_pos z, if_pos z]
  · rw [if_neg z, if_neg z, if_neg (by omega), if_neg (by omega), if_pos ⟨h, hs⟩]
    rfl
theorem wv_t (h : A.1 k = 9 ∨ A.1 k = 10 ∨ A.1 k = 11) (hs : A.1 k = 11 → ¬ spk A k) : wv A (f + 1) d k key N = brk d (tgw (A.1 k)) N (arw A f (d + 1) k (nts N (tgw (A.1 k)) 0)) := by
  conv => lhs; unfold wv
  unfold brk arw
  rw [if_neg (by omega)]
  by_cases z : 8 ≤ d
  · rw [if_pos z, if_pos z]
  · rw [if_neg z, if_neg z, if_neg (by omega), if_neg (by omega), if_neg (fun y => hs y.1 y.2)]
    by_cases z2 : 8 ≤ d + 1
    · rw [if_pos z2, if_pos z2]
    · rw [if_neg z2, if_neg z2, show d + 1 + 1 = d + 2 by omega]
      cases wpt (fun i c M => wv A f (d + 2) i c M) A k (fun _ => 0) 0 (A.2.2.1 k).toNat (nts N (tgw (A.1 k)) 0) with
      | none => rfl
      | some p =>
        obtain ⟨l, N1⟩ := p
        simp
end WV
theorem t_tar {sc : Nat × (Nat → Int32)} {fr lo : Nat} {μ : Mem} {ρ : Nat × Nat × Nat} {t y : Nat} (hT : isT t) (hY : y = 42 ∨ y = 44) {N : List (List Int)} (hW : WC t y N [] μ) (hTR : TR0 t μ) {f f0 l0 : Nat} (hE : VaC sc t y f f0 l0) {k d : Int} (hk : 0 ≤ k ∧ k < μ.1 t 7) (hko : okv (f + 1) (vT μ t) k) (hf : f0 + 90 ≤ fr) (hl : l0 + 1600 ≤ lo) (hr : 1 ≤ ρ.2.1 ∧ 6 ≤ ρ.2.2) (hd : 0 ≤ d ∧ d ≤ 30) {kk : Nat} (hkk : kk < 22) : w_S sc fr lo 90 [.ref 35, .float (UInt32.ofNat kk), .int (ji k), .int (ji d)] (hp μ, ρ) (PV t y μ ρ (brk d (litL kk) N (arw (vT μ t) f (d + 1) k (nts N (litL kk) 0)))) := by
  by_cases h : d < 8
  · exact t_tarO hT hY hW hTR hE hk hko hf hl hr ⟨hd.1, h⟩ hkk
  · have e : (brk d (litL kk) N (arw (vT μ t) f (d + 1) k (nts N (litL kk) 0))) = none := if_pos (by omega)
    rw [e]
    exact t_tarX hW (by omega) (by omega) (by omega) hr
theorem t_tgv {sc : Nat × (Nat → Int32)} {fr lo : Nat} {μ : Mem} {ρ : Nat × Nat × Nat} {t y : Nat} (hT : isT t) (hY : y = 42 ∨ y = 44) {N : List (List Int)} (hW : WC t y N [] μ) (hTR : TR0 t μ) {f f0 l0 : Nat} (hE : VaC sc t y f f0 l0) {k d : Int} (hk : 0 ≤ k ∧ k < μ.1 t 7) (hko : okv (f + 1) (vT μ t) k) (hf : f0 + 90 ≤ fr) (hl : l0 + 1600 ≤ lo) (hr : 1 ≤ ρ.2.1 ∧ 6 ≤ ρ.2.2) (hd : 0 ≤ d ∧ d ≤ 30) (hc12 : μ.2.2 (t + 1) k = 12) : w_S sc fr lo 93 [.ref 35, .int (ji k), .int (ji d)] (hp μ, ρ) (PV t y μ ρ (brk d (126 :: 35 :: wrd (vT μ t) k) N (wv (vT μ t) f (d + 1) (k + 1) 0 (nts N (126 :: 35 :: wrd (vT μ t) k) 0)))) := by
  by_cases h : d < 8
  · exact t_tgvO hT hY hW hTR hE hk hko hf hl hr ⟨hd.1, h⟩ hc12
  · have e : (brk d (126 :: 35 :: wrd (vT μ t) k) N (wv (vT μ t) f (d + 1) (k + 1) 0 (nts N (126 :: 35 :: wrd (vT μ t) k) 0))) = none := if_pos (by omega)
    rw [e]
    exact t_tgvX hW (by omega) (by omega) (by omega) hr
theorem t_mpw {sc : Nat × (Nat → Int32)} {fr lo : Nat} {μ : Mem} {ρ : Nat × Nat × Nat} {t y : Nat} (hT : isT t) (hY : y = 42 ∨ y = 44) {N : List (List Int)} (hW : WC t y N [] μ) (hTR : TR0 t μ) {f f0 l0 : Nat} (hE : VaC sc t y f f0 l0) {k d : Int} (hk : 0 ≤ k ∧ k < μ.1 t 7) (hko : okv (f + 1) (vT μ t) k) (hf : f0 + 90 ≤ fr) (hl : l0 + 1600 ≤ lo) (hr : 1 ≤ ρ.2.1 ∧ 6 ≤ ρ.2.2) (hd : 0 ≤ d ∧ d ≤ 30) : w_S sc fr lo 92 [.ref 35, .int (ji k), .int (ji d)] (hp μ, ρ) (PV t y μ ρ (mpw (vT μ t) f d k N)) := by
  by_cases h : d < 8
  · exact t_mpwO hT hY hW hTR hE hk hko hf hl hr ⟨hd.1, h⟩ 
  · have e : (mpw (vT μ t) f d k N) = none := if_pos (by omega)
    rw [e]
    exact t_mpwX hW (by omega) (by omega) (by omega) hr
theorem t_val {sc : Nat × (Nat → Int32)} {fr lo : Nat} {μ : Mem} {ρ : Nat × Nat × Nat} {t y : Nat} (hT : isT t) (hY : y = 42 ∨ y = 44) {N : List (List Int)} (hW : WC t y N [] μ) (hTR : TR0 t μ) {f f0 l0 : Nat} (hE : VaC sc t y f f0 l0) {k key d : Int} (hk : 0 ≤ k ∧ k < μ.1 t 7) (hko : okv (f + 1) (vT μ t) k) (hf : f0 + 100 ≤ fr) (hl : l0 + 1700 ≤ lo) (hr : 1 ≤ ρ.2.1 ∧ 6 ≤ ρ.2.2) (hd : 0 ≤ d ∧ d ≤ 20) (hkey : key = 0 ∨ key = 1) (hc1 : 1 ≤ μ.1 y 1 ∨ 8 ≤ μ.2.2 (t + 1) k) : w_S sc fr lo 87 [.ref 35, .int (ji k), .int (ji key), .int (ji d)] (hp μ, ρ) (PV t y μ ρ (wv (vT μ t) (f + 1) d k key N)) := by
  obtain ⟨hT0, hT1, hT2, hT3, hT4, hT5, hT6, hT7, hT8⟩ := hT.sh
  have hT9 : t = 2 ∨ t = 11 ∨ t = 26 := hT
  have h240 := hTR.2.1.1
  have hrk := hTR.2.1.2 k hk.1 hk.2
  refine w_S.of (L0 := [some (.ref 35), some (.int (ji k)), some (.int (ji key)), some (.int (ji d))]) rfl rfl (Nat.le_of_ble_eq_true rfl) (by rfl) ?_
  refine w_ld d_87_0 rfl rfl rfl ?_
  refine w_getR d_87_1 (by rfl) (by first | rfl | assumption) (by rfl) hW.1.2 ?_
  refine w_getF d_87_4 (by rfl) (by first | rfl | assumption) (by rfl) (by rfl) ?_
  refine w_ld d_87_7 rfl rfl rfl ?_
  refine w_aI d_87_8 (by first | rfl | assumption) (by omega) (show _ = μ.2.2 (t + 1) k from rfl) ?_
  rcases (show μ.2.2 (t + 1) k = 8 ∨ μ.2.2 (t + 1) k = 9 ∨ μ.2.2 (t + 1) k = 10 ∨ μ.2.2 (t + 1) k = 11 ∨ μ.2.2 (t + 1) k = 12 ∨ (μ.2.2 (t + 1) k ≠ 8 ∧ μ.2.2 (t + 1) k ≠ 9 ∧ μ.2.2 (t + 1) k ≠ 10 ∧ μ.2.2 (t + 1) k ≠ 11 ∧ μ.2.2 (t + 1) k ≠ 12) by omega) with h9 | h9 | h9 | h9 | h9 | h9
  · refine w_tsw (g := 44) d_87_9 (by omega) (by rw [h9]; decide) ?_
    refine w_ld d_87_44 rfl rfl rfl ?_
    refine w_ld d_87_45 rfl rfl rfl ?_
    refine w_ld d_87_46 rfl rfl rfl ?_
    refine w_cVq (as := [_, _]) (rest := _) rfl d_87_47 (by rfl) (by rfl) (by first | rfl | assumption) (by rfl) (by rfl) (Nat.le_of_ble_eq_true rfl) (by omega) (by omega) (t_arw hT hY hW hTR hE hk hko (by omega) (by omega) hr (by omega)) ?_ ?_
    rotate_left
    · intro r τ g
      exact PV_res (wv_8 (show (vT μ t).1 k = 8 from h9)).symm g
    rintro v τ g
    obtain rfl := PV_none g
    refine w_goto (g := 121) d_87_50 (by decide) ?_
    refine w_ret d_87_121 rfl ?_
    exact PV_res (wv_8 (show (vT μ t).1 k = 8 from h9)).symm g
  · refine w_tsw (g := 53) d_87_9 (by omega) (by rw [h9]; decide) ?_
    refine w_ld d_87_53 rfl rfl rfl ?_
    refine w_lds (k := 17) d_87_54 (by rfl) ?_
    refine w_ld d_87_56 rfl rfl rfl ?_
    refine w_ld d_87_57 rfl rfl rfl ?_
    refine w_cVq (as := [_, _, _]) (rest := _) rfl d_87_58 (by rfl) (by rfl) (by first | rfl | assumption) (by rfl) (by rfl) (Nat.le_of_ble_eq_true rfl) (by omega) (by omega) (t_tar hT hY hW hTR hE hk hko (by omega) (by omega) hr (by omega) (kk := 17) (by decide)) ?_ ?_
    rotate_left
    · intro r τ g
      exact PV_res (by rw [litL_17]; exact ((wv_t (by show μ.2.2 (t + 1) k = 9 ∨ μ.2.2 (t + 1) k = 10 ∨ μ.2.2 (t + 1) k = 11; omega) (fun z => absurd (show μ.2.2 (t + 1) k = 11 from z) (by omega))).trans (by rw [show (vT μ t).1 k = 9 from h9]; rfl)).symm) g
    rintro v τ g
    obtain rfl := PV_none g
    refine w_goto (g := 121) d_87_61 (by decide) ?_
    refine w_ret d_87_121 rfl ?_
    exact PV_res (by rw [litL_17]; exact ((wv_t (by show μ.2.2 (t + 1) k = 9 ∨ μ.2.2 (t + 1) k = 10 ∨ μ.2.2 (t + 1) k = 11; omega) (fun z => absurd (show μ.2.2 (t + 1) k = 11 from z) (by omega))).trans (by rw [show (vT μ t).1 k = 9 from h9]; rfl)).symm) g
  · refine w_tsw (g := 64) d_87_9 (by omega) (by rw [h9]; decide) ?_
    refine w_ld d_87_64 rfl rfl rfl ?_
    refine w_lds (k := 18) d_87_65 (by rfl) ?_
    refine w_ld d_87_67 rfl rfl rfl ?_
    refine w_ld d_87_68 rfl rfl rfl ?_
    refine w_cVq (as := [_, _, _]) (rest := _) rfl d_87_69 (by rfl) (by rfl) (by first | rfl | assumption) (by rfl) (by rfl) (Nat.le_of_ble_eq_true rfl) (by omega) (by omega) (t_tar hT hY hW hTR hE hk hko (by omega) (by omega) hr (by omega) (kk := 18) (by decide)) ?_ ?_
    rotate_left
    · intro r τ g
      exact PV_res (by rw [litL_18]; exact ((wv_t (by show μ.2.2 (t + 1) k = 9 ∨ μ.2.2 (t + 1) k = 10 ∨ μ.2.2 (t + 1) k = 11; omega) (fun z => absurd (show μ.2.2 (t + 1) k = 11 from z) (by omega))).trans (by rw [show (vT μ t).1 k = 10 from h9]; rfl)).symm) g
    rintro v τ g
    obtain rfl := PV_none g
    refine w_goto (g := 121) d_87_72 (by decide) ?_
    refine w_ret d_87_121 rfl ?_
    exact PV_res (by rw [litL_18]; exact ((wv_t (by show μ.2.2 (t + 1) k = 9 ∨ μ.2.2 (t + 1) k = 10 ∨ μ.2.2 (t + 1) k = 11; omega) (fun z => absurd (show μ.2.2 (t + 1) k = 11 from z) (by omega))).trans (by rw [show (vT μ t).1 k = 10 from h9]; rfl)).symm) g
  · refine w_tsw (g := 75) d_87_9 (by omega) (by rw [h9]; decide) ?_
    have hev : μ.2.2 (t + 5) k % 2 = 0 := hko.2.1 h9
    refine w_ld d_87_75 rfl rfl rfl ?_
    refine w_getR d_87_76 (by rfl) (by first | rfl | assumption) (by rfl) hW.1.2 ?_
    refine w_ld d_87_79 rfl rfl rfl ?_
    refine w_cV1 (a := t) (as := [_]) (rest := _) rfl d_87_80 (by rfl) (by rfl) (by first | rfl | assumption) (by rfl) (by rfl) (Nat.le_of_ble_eq_true rfl) (by omega) (by omega) (t_hsk hT hTR.2.1 hk hev (by omega) (by omega)) ?_
    refine w_if_eq (g := 95) d_87_83 (by decide) (by have := b01_01 (spk (vT μ t) k); omega) (fun h83 => ?_) (fun h83 => ?_)
    · have hsp : ¬ spk (vT μ t) k := fun z => by rw [b01_t z] at h83; exact absurd h83 (by decide)
      refine w_ld d_87_95 rfl rfl rfl ?_
      refine w_lds (k := 20) d_87_96 (by rfl) ?_
      refine w_ld d_87_98 rfl rfl rfl ?_
      refine w_ld d_87_99 rfl rfl rfl ?_
      refine w_cVq (as := [_, _, _]) (rest := _) rfl d_87_100 (by rfl) (by rfl) (by first | rfl | assumption) (by rfl) (by rfl) (Nat.le_of_ble_eq_true rfl) (by omega) (by omega) (t_tar hT hY hW hTR hE hk hko (by omega) (by omega) hr (by omega) (kk := 20) (by decide)) ?_ ?_
      rotate_left
      · intro r τ g
        exact PV_res (by rw [litL_20]; exact ((wv_t (by show μ.2.2 (t + 1) k = 9 ∨ μ.2.2 (t + 1) k = 10 ∨ μ.2.2 (t + 1) k = 11; omega) (fun _ => hsp)).trans (by rw [show (vT μ t).1 k = 11 from h9]; rfl)).symm) g
      rintro v τ g
      obtain rfl := PV_none g
      refine w_goto (g := 121) d_87_103 (by decide) ?_
      refine w_ret d_87_121 rfl ?_
      exact PV_res (by rw [litL_20]; exact ((wv_t (by show μ.2.2 (t + 1) k = 9 ∨ μ.2.2 (t + 1) k = 10 ∨ μ.2.2 (t + 1) k = 11; omega) (fun _ => hsp)).trans (by rw [show (vT μ t).1 k = 11 from h9]; rfl)).symm) g
    · have hsp : spk (vT μ t) k := Classical.byContradiction (fun z => h83 (b01_f z))
      refine w_ld d_87_86 rfl rfl rfl ?_
      refine w_ld d_87_87 rfl rfl rfl ?_
      refine w_ld d_87_88 rfl rfl rfl ?_
      refine w_cVq (as := [_, _]) (rest := _) rfl d_87_89 (by rfl) (by rfl) (by first | rfl | assumption) (by rfl) (by rfl) (Nat.le_of_ble_eq_true rfl) (by omega) (by omega) (t_mpw hT hY hW hTR hE hk hko (by omega) (by omega) hr (by omega)) ?_ ?_
      rotate_left
      · intro r τ g
        exact PV_res (wv_m (show (vT μ t).1 k = 11 from h9) hsp).symm g
      rintro v τ g
      obtain rfl := PV_none g
      refine w_goto (g := 121) d_87_92 (by decide) ?_
      refine w_ret d_87_121 rfl ?_
      exact PV_res (wv_m (show (vT μ t).1 k = 11 from h9) hsp).symm g
  · refine w_tsw (g := 106) d_87_9 (by omega) (by rw [h9]; decide) ?_
    refine w_ld d_87_106 rfl rfl rfl ?_
    refine w_ld d_87_107 rfl rfl rfl ?_
    refine w_ld d_87_108 rfl rfl rfl ?_
    refine w_cVq (as := [_, _]) (rest := _) rfl d_87_109 (by rfl) (by rfl) (by first | rfl | assumption) (by rfl) (by rfl) (Nat.le_of_ble_eq_true rfl) (by omega) (by omega) (t_tgv hT hY hW hTR hE hk hko (by omega) (by omega) hr (by omega) h9) ?_ ?_
    rotate_left
    · intro r τ g
      exact PV_res (wv_12 (show (vT μ t).1 k = 12 from h9)).symm g
    rintro v τ g
    obtain rfl := PV_none g
    refine w_goto (g := 121) d_87_112 (by decide) ?_
    refine w_ret d_87_121 rfl ?_
    exact PV_res (wv_12 (show (vT μ t).1 k = 12 from h9)).symm g
  · refine w_tsw (g := 115) d_87_9 (by omega) (by rw [if_pos (by omega)]; decide) ?_
    have h8 : μ.2.2 (t + 1) k < 8 := by omega
    refine w_ld d_87_115 rfl rfl rfl ?_
    refine w_ld d_87_116 rfl rfl rfl ?_
    refine w_ld d_87_117 rfl rfl rfl ?_
    refine w_cVq (as := [_, _]) (rest := _) rfl d_87_118 (by rfl) (by rfl) (by first | rfl | assumption) (by rfl) (by rfl) (Nat.le_of_ble_eq_true rfl) (by omega) (by omega) (t_smpW hT hY hW (TR0_row hTR hk) h8 hkey (by omega) (by omega) (by omega) hr) ?_ ?_
    rotate_left
    · intro r τ g
      exact PV_res (wv_s (show (vT μ t).1 k < 8 from h8)).symm (PW_V g)
    rintro v τ g
    obtain rfl := PW_none g
    refine w_ret d_87_121 rfl ?_
    exact PV_res (wv_s (show (vT μ t).1 k < 8 from h8)).symm (PW_V g)
theorem VaC_s {sc : Nat × (Nat → Int32)} {t y : Nat} (hT : isT t) (hY : y = 42 ∨ y = 44) {f f0 l0 : Nat} (h : VaC sc t y f f0 l0) : VaC sc t y (f + 1) (f0 + 100) (l0 + 1700) :=
  fun fr lo μ ρ N k key d hf hl hW hTR hk hko hkey hd hc1 hr => t_val hT hY hW hTR h hk hko hf hl hr hd hkey hc1
theorem VaC_n {sc : Nat × (Nat → Int32)} {t y : Nat} (hT : isT t) (hY : y = 42 ∨ y = 44) : ∀ f : Nat, VaC sc t y f (100 * f) (1700 * f)
  | 0 => fun fr lo μ ρ N k key d hf hl hW hTR hk hko hkey hd hc1 hr => hko.elim
  | f + 1 => VaC_s hT hY (VaC_n hT hY f)
/-- what is written of a tree -/
noncomputable def wtr (A : View) : Option (List Int × List (List Int)) := if A.1 0 < 8 then some ([91, 34, 126, 35, 39, 34, 44] ++ ((smp A 0 0 []).1 ++ [93]), (smp A 0 0 []).2) else wv A 10 0 0 0 []
/-- the writer, ready to write tree t to y -/
def wcl (t y : Nat) (μ : Mem) : Mem := stI (stI (stI (stR μ 35 4 (.ref t)) 36 2 0) 39 1 0) y 1 0
theorem wcl_W {t y : Nat} (hT : isT t) (hY : y = 42 ∨ y = 44) {μ : Mem} (hy : μ.2.1 35 3 = .ref y) (hG : GL μ) (hTR : TR0 t μ) : WC t y [] [] (wcl t y μ) ∧ TR0 t (wcl t y μ) ∧ vT (wcl t y μ) t = vT μ t ∧ (wcl t y μ).1 y 1 = 0 ∧ (wcl t y μ).1 t 7 = μ.1 t 7 := by
  unfold isT at hT
  have y1 : (wcl t y μ).1 y 1 = 0 := stI_at _ _ _ _
  have e9 : (wcl t y μ).1 39 1 = 0 := (stI_ne (by omega)).trans (stI_at _ _ _ _)
  have e6 : (wcl t y μ).1 36 2 = 0 := (stI_ne (by omega)).trans ((stI_ne (by omega)).trans (stI_at _ _ _ _))
  have eI : ∀ a q, a ≠ 36 → a ≠ 39 → a ≠ y → (wcl t y μ).1 a q = μ.1 a q := fun a q h1 h2 h3 => (stI_ne (by omega)).trans ((stI_ne (by omega)).trans (stI_ne (by omega)))
  have eA : (wcl t y μ).2.2 = μ.2.2 := rfl
  refine ⟨⟨⟨?_, stR_at _ _ _ _⟩, by omega, ?_, hG, ⟨⟨e6, Nat.zero_le _⟩, fun n hn => absurd hn (Nat.not_lt_zero n)⟩, fun n hn => absurd hn (Nat.not_lt_zero n)⟩, ?_, rfl, y1, eI t 7 (by omega) (by omega) (by omega)⟩
  · exact (stR_ne (by omega)).trans hy
  · rw [e9, y1]
    show 0 ≤ (0 : Int) - ((0 : Nat) : Int) ∧ ((0 : Int) - ((0 : Nat) : Int) = 0 ∨ (0 : Int) - ((0 : Nat) : Int) + 3 ≤ 0) ∧ (0 : Int) ≤ 480
    omega
  · obtain ⟨h1, h2, h3⟩ := hTR
    have e7 := eI t 7 (by omega) (by omega) (by omega)
    refine ⟨by rw [e7]; exact h1, by rw [e7]; exact rok_eq (μ := μ) (fun a _ _ => rfl) (eI (t + 7) 1 (by omega) (by omega) (by omega)) h2, fun k k0 k1 => ?_⟩
    rw [e7] at k1
    exact h3 k k0 k1
theorem t_wtr {sc : Nat × (Nat → Int32)} {fr lo : Nat} {μ : Mem} {ρ : Nat × Nat × Nat} {t y : Nat} (hT : isT t) (hY : y = 42 ∨ y = 44) (hy : μ.2.1 35 3 = .ref y) (hG : GL μ) (hTR : TR0 t μ) (hko : okv 10 (vT μ t) 0) (h0 : 0 < μ.1 t 7) (h39 : 0 ≤ μ.1 39 1 ∧ μ.1 39 1 ≤ 480) (hyb : 0 ≤ μ.1 y 1 ∧ μ.1 y 1 ≤ 240) (hf : 1100 ≤ fr) (hl : 18000 ≤ lo) (hr : 1 ≤ ρ.2.1 ∧ 6 ≤ ρ.2.2) : w_S sc fr lo 72 [.ref 35, .ref t] (hp μ, ρ) (PV t y (wcl t y μ) ρ (wtr (vT μ t))) := by
  obtain ⟨hT0, hT1, hT2, hT3, hT4, hT5, hT6, hT7, hT8⟩ := hT.sh
  have hT9 : t = 2 ∨ t = 11 ∨ t = 26 := hT
  obtain ⟨hY0, hY1⟩ := xsh hY
  have hcl := wcl_W hT hY hy hG hTR
  obtain ⟨hW, hTR2, evv, hy0, e70⟩ := hcl
  have h240 := hTR.2.1.1
  have hrk := hTR.2.1.2 0 (by omega) h0
  refine w_S.of (L0 := [some (.ref 35), some (.ref t)]) rfl rfl (Nat.le_of_ble_eq_true rfl) (by rfl) ?_
  refine w_ld d_72_0 rfl rfl rfl ?_
  refine w_ld d_72_1 rfl rfl rfl ?_
  refine w_putR d_72_2 (by rfl) (by first | rfl | assumption) (by rfl) (fit_R (by rfl)) (by rfl) ?_
  refine w_ld d_72_5 rfl rfl rfl ?_
  refine w_getF d_72_6 (by rfl) (by first | rfl | assumption) (by rfl) (by rfl) ?_
  refine w_cV0 (as := []) (rest := _) rfl d_72_9 (by rfl) (by rfl) (by first | rfl | assumption) (by rfl) (by rfl) (Nat.le_of_ble_eq_true rfl) (by omega) (by omega) (t_forget (a := 36) (by unfold isN; omega)) ?_
  refine w_ld d_72_12 rfl rfl rfl ?_
  refine w_getF d_72_13 (by rfl) (by first | rfl | assumption) (by rfl) (by rfl) ?_
  refine w_con d_72_16 ?_
  refine w_cV0 (as := [_]) (rest := _) rfl d_72_17 (by rfl) (by rfl) (by first | rfl | assumption) (by rfl) (by rfl) (Nat.le_of_ble_eq_true rfl) (by omega) (by omega) (t_cut (a := 39) (n := 480) rfl rfl (by show 0 ≤ μ.1 39 1 ∧ μ.1 39 1 ≤ ((480 : Nat) : Int) ∧ 480 < 2147483648; omega)) ?_
  refine w_ld d_72_20 rfl rfl rfl ?_
  refine w_getR d_72_21 (by rfl) (by first | rfl | assumption) (by rfl) (show (stR μ 35 4 (.ref t)).2.1 35 3 = .ref y from (stR_ne (by omega)).trans hy) ?_
  refine w_con d_72_24 ?_
  refine w_cV0 (as := [_]) (rest := _) rfl d_72_25 (by rfl) (by rfl) (by first | rfl | assumption) (by rfl) (by rfl) (Nat.le_of_ble_eq_true rfl) (by omega) (by omega) (t_cut (a := y) (n := 240) hY0 hY1 (by show 0 ≤ (stI (stI (stR μ 35 4 (.ref t)) 36 2 0) 39 1 0).1 y 1 ∧ (stI (stI (stR μ 35 4 (.ref t)) 36 2 0) 39 1 0).1 y 1 ≤ ((240 : Nat) : Int) ∧ 240 < 2147483648; rw [stI_ne (by omega), stI_ne (by omega)]; exact ⟨hyb.1, hyb.2, by decide⟩)) ?_
  show w_P _ _ _ _ _ _ _ _ _ _ _ _ (hp (wcl t y μ), ρ) _
  refine w_ld d_72_28 rfl rfl rfl ?_
  refine w_getR d_72_29 (by rfl) (by first | rfl | assumption) (by rfl) hW.1.2 ?_
  refine w_getF d_72_32 (by rfl) (by first | rfl | assumption) (by rfl) (by rfl) ?_
  refine w_con d_72_35 ?_
  refine w_aI d_72_36 (by first | rfl | assumption) (by omega) (show _ = μ.2.2 (t + 1) 0 from rfl) ?_
  refine w_bip d_72_37 (by decide) ?_
  refine w_icmp_gt (g := 63) d_72_39 (by decide) (by omega) (fun h39 => ?_) (fun h39 => ?_)
  · refine w_ld d_72_63 rfl rfl rfl ?_
    refine w_con d_72_64 ?_
    refine w_con d_72_65 ?_
    refine w_con d_72_66 ?_
    refine w_cVq (as := [_, _, _]) (rest := _) rfl d_72_67 (by rfl) (by rfl) (by first | rfl | assumption) (by rfl) (by rfl) (Nat.le_of_ble_eq_true rfl) (by omega) (by omega) (VaC_n hT hY 10 _ _ (wcl t y μ) ρ [] 0 0 0 (by omega) (by omega) hW hTR2 (by rw [e70]; omega) (by rw [evv]; exact hko) (by decide) (by omega) (Or.inr (by show 8 ≤ μ.2.2 (t + 1) 0; omega)) hr) ?_ ?_
    rotate_left
    · intro r τ g
      exact PV_res (by rw [evv]; exact (if_neg (by show ¬ μ.2.2 (t + 1) 0 < 8; omega)).symm) g
    rintro v τ g
    obtain rfl := PV_none g
    refine w_ret d_72_70 rfl ?_
    exact PV_res (by rw [evv]; exact (if_neg (by show ¬ μ.2.2 (t + 1) 0 < 8; omega)).symm) g
  · have e : wtr (vT μ t) = some ([91, 34, 126, 35, 39, 34, 44] ++ ((smp (vT μ t) 0 0 []).1 ++ [93]), (smp (vT μ t) 0 0 []).2) := if_pos (by show μ.2.2 (t + 1) 0 < 8; omega)
    rw [e]
    refine w_ld d_72_42 rfl rfl rfl ?_
    refine w_lds (k := 8) d_72_43 (by rfl) ?_
    refine w_cVq (as := [_]) (rest := _) rfl d_72_45 (by rfl) (by rfl) (by first | rfl | assumption) (by rfl) (by rfl) (Nat.le_of_ble_eq_true rfl) (by omega) (by omega) (t_pnm hT hY hW (k := 8) (by decide) (by omega) (by omega) hr) ?_ ?_
    rotate_left
    · intro r τ g
      rw [litL_8] at g
      exact PVx (WOK_refl hW) g (fun L N' z => by cases z; exact ⟨_, rfl⟩)
    rintro v τ (⟨hb1, hv, μ1, rfl, ho1⟩ | ⟨_, hv, _⟩)
    rotate_left
    · cases hv
    obtain rfl := Sum.inl.inj hv
    rw [litL_8] at ho1
    obtain ⟨ev, e7, eu, eA, eT⟩ := wfr_t hT hY ho1.1
    have hc1 := ho1.2.2.1
    have hc1 : μ1.1 y 1 = (wcl t y μ).1 y 1 + 7 := hc1
    refine w_ld d_72_48 rfl rfl rfl ?_
    refine w_con d_72_49 ?_
    refine w_con d_72_50 ?_
    refine w_cVq (as := [_, _]) (rest := _) rfl d_72_51 (by rfl) (by rfl) (by first | rfl | assumption) (by rfl) (by rfl) (Nat.le_of_ble_eq_true rfl) (by omega) (by omega) (t_smpW (μ := μ1) (k := 0) (key := 0) hT hY ho1.2.1 (TR0_row (eT hTR2) (by rw [e7, e70]; omega)) (by rw [eA (t + 1) (by omega) (by omega)]; show μ.2.2 (t + 1) 0 < 8; omega) (by decide) (by omega) (by omega) (by omega) hr) ?_ ?_
    rotate_left
    · intro r τ g
      rw [ev, evv] at g
      exact PVx ho1 g (fun L N' z => by cases z; exact ⟨_, rfl⟩)
    intro v τ g
    rw [ev, evv] at g
    revert g
    rintro (⟨hb2, hv, μ2, rfl, ho2⟩ | ⟨_, hv, _⟩)
    rotate_left
    · cases hv
    obtain rfl := Sum.inl.inj hv
    refine w_ld d_72_54 rfl rfl rfl ?_
    refine w_bip d_72_55 (by decide) ?_
    refine w_cVq (as := [_]) (rest := _) rfl d_72_57 (by rfl) (by rfl) (by first | rfl | assumption) (by rfl) (by rfl) (Nat.le_of_ble_eq_true rfl) (by omega) (by omega) (t_put hT hY ho2.2.1 (c := 93) (by decide) (by omega) (by omega) hr) ?_ ?_
    rotate_left
    · intro r τ g
      exact PVe (WOK_trans ho1 ho2) g (by rw [List.append_assoc])
    rintro v τ g
    obtain rfl := PW_none g
    refine w_goto (g := 70) d_72_60 (by decide) ?_
    refine w_ret d_72_70 rfl ?_
    exact PVe (WOK_trans ho1 ho2) g (by rw [List.append_assoc])
