/-! THE PURE PART, 99g: the reference writes values of every depth -/
theorem MS_0b {s : Option (List Int × List (List Int))} {μ : Mem} (h : MS s μ) (hs : s ≠ none) : μ.1 46 31 = 0 := by
  cases s with
  | none => exact absurd rfl hs
  | some p => exact h.1
theorem LVc {sc : Nat × (Nat → Int32)} {fr lo : Nat} {ρ : Nat × Nat × Nat} {r : Int} {Q : z_O → z_T → Prop} {C : Int → Prop} {F : Nat} (IH : LV sc fr lo ρ r Q C F) (hf : 14 ≤ fr) (hl : 600 ≤ lo) {μ : Mem} {s sF : Option (List Int × List (List Int))} {v key kd dF c e' : Int} {c0 e : Nat} {kf : Nat → Int}
    (hC : C v) (hG : MRg C μ) (hok : okv (F + 1) (vM μ) v) (h33 : -1 ≤ μ.1 46 33 ∧ μ.1 46 33 + 1 ≤ μ.1 46 32 ∧ μ.1 46 32 ≤ 8)
    (hkd : (kd = 0 ∧ ∀ i, kf i = 0) ∨ (kd = 1 ∧ ∀ i, kf i = if i % 2 = 0 then 1 else 0)) (he : 1 ≤ e ∧ e ≤ 2) (hc0 : c0 ≤ 1) (hc : c = (c0 : Int)) (hee : e' = (e : Int))
    (hdF : sF ≠ none → dF = μ.1 46 32 + e ∧ dF ≤ 8)
    (hB : w_S sc (fr - 1) (lo - (19 + 6)) 170 [.ref 46, .int (ji v), .int (ji key)] (hp μ, ρ) (BGp v c kd e' sF dF μ ρ))
    (heq : wrn (fun N => wv (vM μ) (F + 1) (μ.1 46 32) v key N) s = wrn (fun N => some (List.replicate e 93, N)) (wrn (wpt (fun i c M => wv (vM μ) F dF i c M) (vM μ) v kf c0 (μ.2.2 53 v).toNat) sF))
    (K : ∀ μ', MS (wrn (fun N => wv (vM μ) (F + 1) (μ.1 46 32) v key N) s) μ' → mw1 μ μ' → (wrn (fun N => wv (vM μ) (F + 1) (μ.1 46 32) v key N) s ≠ none → μ'.1 46 32 = μ.1 46 32 ∧ μ'.1 46 33 = μ.1 46 33 ∧ ∀ a, 65 ≤ a → a ≤ 70 → ∀ q, q ≤ μ.1 46 33 → μ'.2.2 a q = μ.2.2 a q) → (-1 ≤ μ'.1 46 33 ∧ μ'.1 46 33 ≤ 12) → hdP sc fr lo ρ r Q μ') :
    w_S sc (fr - 1) (lo - (19 + 6)) 170 [.ref 46, .int (ji v), .int (ji key)] (hp μ, ρ) (fun o τ => o = .inl none ∧ ∃ μ1, τ = (hp μ1, ρ) ∧ hdP sc fr lo ρ r Q μ1) := by
  subst hc hee
  refine hB.mono ?_
  rintro o τ ⟨rfl, μ1, rfl, hS1, hm1, hr1, hx1⟩
  refine ⟨rfl, μ1, rfl, ?_⟩
  obtain ⟨v1, v2, v3, v4, v5, v6, v7, v8, v9⟩ := hG.1 v hC
  have hkd01 : kd = 0 ∨ kd = 1 := hkd.elim (fun z => Or.inl z.1) (fun z => Or.inr z.1)
  have hak : ∀ i, kf i = 0 ∨ kf i = 1 := fun i => by
    rcases hkd with ⟨_, h⟩ | ⟨_, h⟩
    · exact Or.inl (h i)
    · rw [h i]
      by_cases z : i % 2 = 0
      · exact Or.inr (if_pos z)
      · exact Or.inl (if_neg z)
  have hks : ∀ i, (if kd = 1 ∧ kf i = 0 then (1 : Int) else 0) = kf (i + 1) := fun i => by
    rcases hkd with ⟨h0, h⟩ | ⟨h0, h⟩
    · rw [h (i + 1), if_neg (by omega)]
    · rw [h (i + 1), h i]
      by_cases z : i % 2 = 0
      · rw [if_pos z, if_neg (by omega), if_neg (by omega)]
      · rw [if_neg z, if_pos ⟨h0, rfl⟩, if_pos (by omega)]
  have hn0 : ((μ.2.2 53 v).toNat : Int) = μ.2.2 53 v := by omega
  generalize hn : (μ.2.2 53 v).toNat = n at heq hn0
  have hnone : ∀ (i : Nat) (μ2 : Mem), i ≤ n → MS (wrn (wpt (fun i c M => wv (vM μ) F dF i c M) (vM μ) v kf c0 i) sF) μ2 → mw1 μ μ2 → (-1 ≤ μ2.1 46 33 ∧ μ2.1 46 33 ≤ 12) → wrn (wpt (fun i c M => wv (vM μ) F dF i c M) (vM μ) v kf c0 i) sF = none → hdP sc fr lo ρ r Q μ2 := fun i μ2 hi hS hm hr hz => by
    have hw : wrn (fun N => wv (vM μ) (F + 1) (μ.1 46 32) v key N) s = none := by rw [heq, wpt_le hz n hi]; rfl
    refine K μ2 (by rw [hw]; rw [hz] at hS; exact hS) hm (fun h => absurd hw h) hr
  have PL : ∀ (m i : Nat) (μ2 : Mem), n - i = m → i ≤ n → MS (wrn (wpt (fun i c M => wv (vM μ) F dF i c M) (vM μ) v kf c0 i) sF) μ2 → mw1 μ μ2 → (-1 ≤ μ2.1 46 33 ∧ μ2.1 46 33 ≤ 12) → (wrn (wpt (fun i c M => wv (vM μ) F dF i c M) (vM μ) v kf c0 i) sF ≠ none → μ2.1 46 32 = dF ∧ μ2.1 46 33 = μ.1 46 33 + 1 ∧ FRM μ2 (μ.1 46 33 + 1) (pt (vM μ) v i) ((n : Int) - i) (if i + c0 = 0 then 0 else 1) kd (kf i) e ∧ ∀ a, 65 ≤ a → a ≤ 70 → ∀ q, q ≤ μ.1 46 33 → μ2.2.2 a q = μ.2.2 a q) → hdP sc fr lo ρ r Q μ2 := by
    intro m
    induction m with
    | zero =>
      intro i μ2 hmi hi hS hm hr hx
      by_cases hz : wrn (wpt (fun i c M => wv (vM μ) F dF i c M) (vM μ) v kf c0 i) sF = none
      · exact hnone i μ2 hi hS hm hr hz
      obtain rfl : i = n := by omega
      obtain ⟨x1, x2, x3, x4⟩ := hx hz
      obtain ⟨d1, d2⟩ := hdF (fun z => hz (by rw [z]; rfl))
      rw [show ((i : Int) - i) = 0 by omega, ← x2] at x3
      refine m_wa_close hS (MS_0b hS hz) (by omega) (by omega) he.2 x3 hf hl (fun μ3 g1 g2 g3 g4 g5 => ?_)
      exact K μ3 (by rw [heq]; exact g1) (mw1_trans hm g2) (fun _ => ⟨by omega, by omega, fun a a1 a2 q hq => by rw [g5 a a1 a2]; exact x4 a a1 a2 q hq⟩) (by omega)
    | succ m ih =>
      intro i μ2 hmi hi hS hm hr hx
      by_cases hz : wrn (wpt (fun i c M => wv (vM μ) F dF i c M) (vM μ) v kf c0 i) sF = none
      · exact hnone i μ2 hi hS hm hr hz
      obtain ⟨x1, x2, x3, x4⟩ := hx hz
      obtain ⟨d1, d2⟩ := hdF (fun z => hz (by rw [z]; rfl))
      have hCp : C (pt (vM μ) v i) := (hG.2.1 v hC).2 i (by show (i : Int) < μ.2.2 53 v; omega)
      obtain ⟨p1, _⟩ := hG.1 _ hCp
      rw [← x2] at x3
      refine m_wa_part hS (MS_0b hS hz) (by omega) x3 (by omega) ((Decidable.em (i + c0 = 0)).elim (fun z => Or.inl (if_pos z)) (fun z => Or.inr (if_neg z))) hkd01 (hak i) p1 hf hl (fun μ3 g1 g2 g3 g4 g5 g6 => ?_)
      have hm3 := mw1_trans hm g2
      have ev := vM_mw hm3
      refine IH μ3 _ (pt (vM μ) v i) (kf i) hCp (MRg_mw hm3 hG) (by rw [ev]; exact hok.2.2.1 i (by show (i : Int) < μ.2.2 53 v; omega)) (hak i) g1 (by omega) (fun μ4 k1 k2 k3 k4 => ?_)
      rw [ev, g3, x1] at k1 k3
      have en := wpt_n hS
      refine ih (i + 1) μ4 (by omega) (by omega) (by rw [en]; exact k1) (mw1_trans hm3 k2) k4 (fun h => ?_)
      rw [en] at h
      obtain ⟨y1, y2, y3⟩ := k3 h
      refine ⟨y1, by omega, FRM_eq (fun a a1 a2 => y3 a a1 a2 _ (by omega)) ?_, fun a a1 a2 q hq => (y3 a a1 a2 q (by omega)).trans ((g6 a a1 a2 q (by omega)).trans (x4 a a1 a2 q hq))⟩
      have q1 : pt (vM μ) v (i + 1) = pt (vM μ) v i + μ2.2.2 54 (pt (vM μ) v i) := by rw [hm.2.2 54 (by omega)]; rfl
      rw [q1, show (n : Int) - ((i + 1 : Nat) : Int) = (n : Int) - i - 1 by omega, if_neg (by omega : ¬ i + 1 + c0 = 0), ← hks i, ← x2]
      exact g5
  have hS0 : MS (wrn (wpt (fun i c M => wv (vM μ) F dF i c M) (vM μ) v kf c0 0) sF) μ1 := by rw [wpt_0 hS1]; exact hS1
  refine PL n 0 μ1 (by omega) (Nat.zero_le _) hS0 hm1 hr1 (fun h => ?_)
  rw [wpt_0 hS1] at h
  obtain ⟨x1, x2, x3, x4⟩ := hx1 h
  refine ⟨x1, x2, ?_, x4⟩
  have e1 : (if 0 + c0 = 0 then (0 : Int) else 1) = c0 := by
    by_cases z : c0 = 0
    · rw [z]; rfl
    · rw [if_neg (by omega)]; omega
  have e2 : kf 0 = kd := by
    rcases hkd with ⟨h0, h⟩ | ⟨h0, h⟩
    · rw [h 0, h0]
    · rw [h 0, h0]; rfl
  rw [e1, e2, show (n : Int) - ((0 : Nat) : Int) = μ.2.2 53 v by omega]
  exact x3
theorem lim_ne {s : Option (List Int × List (List Int))} {d : Int} (h : lim s d ≠ none) : d ≤ 8 := Decidable.byContradiction fun z => h (if_pos (by omega))
theorem wrn_ne {g : List (List Int) → Option (List Int × List (List Int))} {s : Option (List Int × List (List Int))} (h : wrn g s ≠ none) : s ≠ none := fun z => h (by rw [z]; rfl)
theorem wrn_no {s : Option (List Int × List (List Int))} : wrn (fun _ => none) s = none := by
  cases s <;> rfl
theorem tx94 (N : List (List Int)) : txt N [94, 32] 0 = [34, 94, 32, 34] ∧ nts N [94, 32] 0 = N := by
  have e : tkl [94, 32] 0 = 0 := by
    rw [tkl_eq]
    exact b01_f (fun z => absurd z.1 (by decide))
  refine ⟨?_, ?_⟩
  · unfold txt
    rw [if_neg (fun z => by rw [e] at z; exact absurd z.1 (by decide))]
    rfl
  · unfold nts
    rw [if_neg (fun z => by rw [e] at z; exact absurd z.1 (by decide))]
theorem tx39 (N : List (List Int)) : txt N [126, 35, 39] 0 = [34, 126, 35, 39, 34] ∧ nts N [126, 35, 39] 0 = N := by
  have e : tkl [126, 35, 39] 0 = 0 := by
    rw [tkl_eq]
    exact b01_f (fun z => absurd z.1 (by decide))
  refine ⟨?_, ?_⟩
  · unfold txt
    rw [if_neg (fun z => by rw [e] at z; exact absurd z.1 (by decide))]
    rfl
  · unfold nts
    rw [if_neg (fun z => by rw [e] at z; exact absurd z.1 (by decide))]
section HQ
variable {A : View} {F : Nat} {d k key : Int} {s : Option (List Int × List (List Int))}
theorem hq8 (h : A.1 k = 8) : wrn (fun N => wv A (F + 1) d k key N) s = wrn (fun N => some (List.replicate 1 93, N)) (wrn (wpt (fun i c M => wv A F (d + 1) i c M) A k (fun _ => 0) 0 (A.2.2.1 k).toNat) (lim (wap s [91]) (d + 1))) := by
  by_cases z : 8 ≤ d
  · rw [show (fun N => wv A (F + 1) d k key N) = fun _ => none from funext fun N => by rw [wv_8 h]; exact if_pos z, show lim (wap s [91]) (d + 1) = none from if_pos (by omega)]
    exact wrn_no
  · rw [show lim (wap s [91]) (d + 1) = wap s [91] from if_neg (by omega)]
    show _ = wrn _ (wrn _ (wrn (fun N => some ([91], N)) s))
    rw [wrn_wrn, wrn_wrn]
    congr 1
    funext N
    rw [wv_8 h]
    unfold arw
    rw [if_neg z]
    cases hw : wpt (fun i c M => wv A F (d + 1) i c M) A k (fun _ => 0) 0 (A.2.2.1 k).toNat N with
    | none => simp only [wsq, hw]
    | some p =>
      obtain ⟨l, N1⟩ := p
      simp only [wsq, hw]
      rfl
theorem hq12 (h : A.1 k = 12) (h1 : A.2.2.1 k = 1) : wrn (fun N => wv A (F + 1) d k key N) s = wrn (fun N => some (List.replicate 1 93, N)) (wrn (wpt (fun i c M => wv A F (d + 1) i c M) A k (fun _ => 0) 1 (A.2.2.1 k).toNat) (wrn (fun N => some (txt N (126 :: 35 :: wrd A k) 0, nts N (126 :: 35 :: wrd A k) 0)) (lim (wap s [91]) (d + 1)))) := by
  by_cases z : 8 ≤ d
  · rw [show (fun N => wv A (F + 1) d k key N) = fun _ => none from funext fun N => by rw [wv_12 h]; exact if_pos z, show lim (wap s [91]) (d + 1) = none from if_pos (by omega)]
    exact wrn_no
  · rw [show lim (wap s [91]) (d + 1) = wap s [91] from if_neg (by omega), h1]
    show _ = wrn _ (wrn (wpt _ A k _ 1 1) (wrn _ (wrn (fun N => some ([91], N)) s)))
    rw [wrn_wrn, wrn_wrn, wrn_wrn]
    congr 1
    funext N
    rw [wv_12 h]
    cases hw : wv A F (d + 1) (k + 1) 0 (nts N (126 :: 35 :: wrd A k) 0) with
    | none =>
      have e : wpt (fun i c M => wv A F (d + 1) i c M) A k (fun _ => 0) 1 1 (nts N (126 :: 35 :: wrd A k) 0) = none := by
        show (match wv A F (d + 1) (k + 1) 0 (nts N (126 :: 35 :: wrd A k) 0) with
          | none => none
          | some (l2, N2) => some ([] ++ ((if 0 + 1 = 0 then [] else [44]) ++ l2), N2)) = _
        rw [hw]
      simp only [wsq, e]
      unfold brk
      rw [if_neg z]
    | some p =>
      obtain ⟨l, N1⟩ := p
      have e : wpt (fun i c M => wv A F (d + 1) i c M) A k (fun _ => 0) 1 1 (nts N (126 :: 35 :: wrd A k) 0) = some (44 :: l, N1) := by
        show (match wv A F (d + 1) (k + 1) 0 (nts N (126 :: 35 :: wrd A k) 0) with
          | none => none
          | some (l2, N2) => some ([] ++ ((if 0 + 1 = 0 then [] else [44]) ++ l2), N2)) = _
        rw [hw]
        rfl
      simp only [wsq, e]
      rw [brk_s z]
      rfl
theorem hq11s (h : A.1 k = 11) (hs : spk A k) : wrn (fun N => wv A (F + 1) d k key N) s = wrn (fun N => some (List.replicate 1 93, N)) (wrn (wpt (fun i c M => wv A F (d + 1) i c M) A k (fun i => if i % 2 = 0 then 1 else 0) 1 (A.2.2.1 k).toNat) (wrn (fun N => some (txt N [94, 32] 0, nts N [94, 32] 0)) (lim (wap s [91]) (d + 1)))) := by
  by_cases z : 8 ≤ d
  · rw [show (fun N => wv A (F + 1) d k key N) = fun _ => none from funext fun N => by rw [wv_m h hs]; exact if_pos z, show lim (wap s [91]) (d + 1) = none from if_pos (by omega)]
    exact wrn_no
  · rw [show lim (wap s [91]) (d + 1) = wap s [91] from if_neg (by omega)]
    show _ = wrn _ (wrn _ (wrn _ (wrn (fun N => some ([91], N)) s)))
    rw [wrn_wrn, wrn_wrn, wrn_wrn]
    congr 1
    funext N
    rw [wv_m h hs]
    unfold mpw
    rw [if_neg z]
    obtain ⟨e1, e2⟩ := tx94 N
    cases hw : wpt (fun i c M => wv A F (d + 1) i c M) A k (fun i => if i % 2 = 0 then 1 else 0) 1 (A.2.2.1 k).toNat N with
    | none => simp only [wsq, e1, e2, hw]
    | some p =>
      obtain ⟨l, N1⟩ := p
      simp only [wsq, e1, e2, hw]
      rfl
theorem hqT (h : A.1 k = 9 ∨ A.1 k = 10 ∨ A.1 k = 11) (hs : A.1 k = 11 → ¬ spk A k) : wrn (fun N => wv A (F + 1) d k key N) s = wrn (fun N => some (List.replicate 2 93, N)) (wrn (wpt (fun i c M => wv A F (d + 1 + 1) i c M) A k (fun _ => 0) 0 (A.2.2.1 k).toNat) (lim (wap (wap (wrn (fun N => some (txt N (tgw (A.1 k)) 0, nts N (tgw (A.1 k)) 0)) (lim (wap s [91]) (d + 1))) [44]) [91]) (d + 1 + 1))) := by
  by_cases z : 8 ≤ d
  · rw [show (fun N => wv A (F + 1) d k key N) = fun _ => none from funext fun N => by rw [wv_t h hs]; exact if_pos z, show lim (wap (wap (wrn (fun N => some (txt N (tgw (A.1 k)) 0, nts N (tgw (A.1 k)) 0)) (lim (wap s [91]) (d + 1))) [44]) [91]) (d + 1 + 1) = none from if_pos (by omega)]
    exact wrn_no
  · by_cases z2 : 8 ≤ d + 1
    · rw [show (fun N => wv A (F + 1) d k key N) = fun _ => none from funext fun N => by
        rw [wv_t h hs, show arw A F (d + 1) k (nts N (tgw (A.1 k)) 0) = none from if_pos z2]
        unfold brk
        rw [if_neg z], show lim (wap (wap (wrn (fun N => some (txt N (tgw (A.1 k)) 0, nts N (tgw (A.1 k)) 0)) (lim (wap s [91]) (d + 1))) [44]) [91]) (d + 1 + 1) = none from if_pos (by omega)]
      exact wrn_no
    · rw [show lim (wap s [91]) (d + 1) = wap s [91] from if_neg (by omega), show lim (wap (wap (wrn (fun N => some (txt N (tgw (A.1 k)) 0, nts N (tgw (A.1 k)) 0)) (wap s [91])) [44]) [91]) (d + 1 + 1) = (wap (wap (wrn (fun N => some (txt N (tgw (A.1 k)) 0, nts N (tgw (A.1 k)) 0)) (wap s [91])) [44]) [91]) from if_neg (by omega)]
      show _ = wrn _ (wrn _ (wrn (fun N => some ([91], N)) (wrn (fun N => some ([44], N)) (wrn _ (wrn (fun N => some ([91], N)) s)))))
      rw [wrn_wrn, wrn_wrn, wrn_wrn, wrn_wrn, wrn_wrn]
      congr 1
      funext N
      rw [wv_t h hs]
      unfold arw
      rw [if_neg z2]
      cases hw : wpt (fun i c M => wv A F (d + 1 + 1) i c M) A k (fun _ => 0) 0 (A.2.2.1 k).toNat (nts N (tgw (A.1 k)) 0) with
      | none =>
        simp only [wsq, hw]
        unfold brk
        rw [if_neg z]
      | some p =>
        obtain ⟨l, N1⟩ := p
        simp only [wsq, hw]
        rw [brk_s z]
        simp
end HQ
theorem LV_s {sc : Nat × (Nat → Int32)} {fr lo : Nat} {ρ : Nat × Nat × Nat} {r : Int} {Q : z_O → z_T → Prop} {C : Int → Prop} {F : Nat} (IH : LV sc fr lo ρ r Q C F) (hf : 14 ≤ fr) (hl : 600 ≤ lo) : LV sc fr lo ρ r Q C (F + 1) := by
  intro μ s v key hC hG hok hkey hS h33 K
  have hv := hG.1 v hC
  have h2 := hv.2.1
  by_cases h8 : μ.2.2 49 v < 8
  · refine (m_bgS hS hG hC hkey h8 (by omega) (by omega)).mono ?_
    rintro o τ ⟨rfl, μ1, rfl, g1, g2⟩
    have e : (fun N => wv (vM μ) (F + 1) (μ.1 46 32) v key N) = fun N => some (smp (vM μ) v key N) := funext fun N => wv_s h8
    refine ⟨rfl, μ1, rfl, K μ1 (by rw [e]; exact g1) g2.mw (fun _ => ⟨g2.1 46 32 (by omega), g2.1 46 33 (by omega), fun a a1 a2 q _ => by rw [g2.2.2 a (by omega) (by omega) (by omega) (by omega) (by omega)]⟩) (by rw [g2.1 46 33 (by omega)]; omega)⟩
  rcases (show μ.2.2 49 v = 8 ∨ μ.2.2 49 v = 9 ∨ μ.2.2 49 v = 10 ∨ μ.2.2 49 v = 11 ∨ μ.2.2 49 v = 12 by omega) with h | h | h | h | h
  · exact LVc (c0 := 0) (e := 1) (kf := fun _ => 0) IH hf hl hC hG hok h33 (Or.inl ⟨rfl, fun _ => rfl⟩) (by decide) (by decide) rfl rfl (fun z => ⟨rfl, lim_ne z⟩) (m_bg8 hS hG hC (by omega) (by omega) h (by omega) (by omega)) (hq8 h) K
  · have hq := hqT (A := vM μ) (F := F) (d := μ.1 46 32) (k := v) (key := key) (s := s) (Or.inl h) (fun z => absurd (show μ.2.2 49 v = 11 from z) (by omega))
    rw [show (vM μ).1 v = 9 from h] at hq
    exact LVc (c0 := 0) (e := 2) (kf := fun _ => 0) IH hf hl hC hG hok h33 (Or.inl ⟨rfl, fun _ => rfl⟩) (by decide) (by decide) rfl rfl (fun z => ⟨by show μ.1 46 32 + 1 + 1 = μ.1 46 32 + 2; omega, lim_ne z⟩) (m_bg9 hS hG hC (by omega) (by omega) h (by omega) (by omega)) hq K
  · have hq := hqT (A := vM μ) (F := F) (d := μ.1 46 32) (k := v) (key := key) (s := s) (Or.inr (Or.inl h)) (fun z => absurd (show μ.2.2 49 v = 11 from z) (by omega))
    rw [show (vM μ).1 v = 10 from h] at hq
    exact LVc (c0 := 0) (e := 2) (kf := fun _ => 0) IH hf hl hC hG hok h33 (Or.inl ⟨rfl, fun _ => rfl⟩) (by decide) (by decide) rfl rfl (fun z => ⟨by show μ.1 46 32 + 1 + 1 = μ.1 46 32 + 2; omega, lim_ne z⟩) (m_bg10 hS hG hC (by omega) (by omega) h (by omega) (by omega)) hq K
  · by_cases hsp : spk (vM μ) v
    · exact LVc (c0 := 1) (e := 1) (kf := fun i => if i % 2 = 0 then 1 else 0) IH hf hl hC hG hok h33 (Or.inr ⟨rfl, fun _ => rfl⟩) (by decide) (by decide) rfl rfl (fun z => ⟨rfl, lim_ne (wrn_ne z)⟩) (m_bg11s hS hG hC (by omega) (by omega) h hsp (by omega) (by omega)) (hq11s h hsp) K
    · have hq := hqT (A := vM μ) (F := F) (d := μ.1 46 32) (k := v) (key := key) (s := s) (Or.inr (Or.inr h)) (fun _ => hsp)
      rw [show (vM μ).1 v = 11 from h] at hq
      exact LVc (c0 := 0) (e := 2) (kf := fun _ => 0) IH hf hl hC hG hok h33 (Or.inl ⟨rfl, fun _ => rfl⟩) (by decide) (by decide) rfl rfl (fun z => ⟨by show μ.1 46 32 + 1 + 1 = μ.1 46 32 + 2; omega, lim_ne z⟩) (m_bg11n hS hG hC (by omega) (by omega) h hsp (by omega) (by omega)) hq K
  · exact LVc (c0 := 1) (e := 1) (kf := fun _ => 0) IH hf hl hC hG hok h33 (Or.inl ⟨rfl, fun _ => rfl⟩) (by decide) (by decide) rfl rfl (fun z => ⟨rfl, lim_ne (wrn_ne z)⟩) (m_bg12 hS hG hC (by omega) (by omega) h (by omega) (by omega)) (hq12 h (hv.2.2.2.2.2.2.2.2 h)) K
theorem LV_n {sc : Nat × (Nat → Int32)} {fr lo : Nat} {ρ : Nat × Nat × Nat} {r : Int} {Q : z_O → z_T → Prop} {C : Int → Prop} (hf : 14 ≤ fr) (hl : 600 ≤ lo) : ∀ F : Nat, LV sc fr lo ρ r Q C F
  | 0 => fun μ s v key hC hG hok hkey hS h33 K => hok.elim
  | F + 1 => LV_s (LV_n hf hl F) hf hl
/-- what the reference writes of the value r -/
noncomputable def wtm (A : View) (r : Int) : Option (List Int × List (List Int)) := if A.1 r < 8 then some ([91, 34, 126, 35, 39, 34, 44] ++ ((smp A r 0 []).1 ++ [93]), (smp A r 0 []).2) else wv A 10 0 r 0 []
def ww0 (μ : Mem) : Mem := stI (stI (stI (stI (stI μ 46 30 0) 46 31 0) 46 32 0) 46 26 0) 46 33 (-1)
theorem ww0_1 {μ : Mem} {a q : Nat} (h : ¬ (a = 46 ∧ (q = 26 ∨ q = 30 ∨ q = 31 ∨ q = 32 ∨ q = 33))) : (ww0 μ).1 a q = μ.1 a q := by
  unfold ww0
  rw [stI_ne (by omega), stI_ne (by omega), stI_ne (by omega), stI_ne (by omega), stI_ne (by omega)]
theorem ww0_f (μ : Mem) : (ww0 μ).1 46 30 = 0 ∧ (ww0 μ).1 46 31 = 0 ∧ (ww0 μ).1 46 32 = 0 ∧ (ww0 μ).1 46 26 = 0 ∧ (ww0 μ).1 46 33 = -1 := ⟨rfl, rfl, rfl, rfl, rfl⟩
theorem ww0_w (μ : Mem) : mw1 μ (ww0 μ) := ⟨fun a q z => ww0_1 (by omega), rfl, fun _ _ => rfl⟩
theorem ww0_M (μ : Mem) : MS (some ([], [])) (ww0 μ) := ⟨rfl, ⟨rfl, by decide⟩, fun i hi => absurd hi (Nat.not_lt_zero i), ⟨⟨rfl, by decide⟩, fun n hn => absurd hn (Nat.not_lt_zero n)⟩, by show (0 : Int) ≤ 0; decide⟩
theorem m_writeAll {sc : Nat × (Nat → Int32)} {fr lo : Nat} {μ : Mem} {ρ : Nat × Nat × Nat} {C : Int → Prop} (hG : MRg C μ) {r : Int} (hC : C r) (hok : okv 10 (vM μ) r) (hf : 14 ≤ fr) (hl : 600 ≤ lo) : w_S sc fr lo 154 [.ref 46, .int (ji r)] (hp μ, ρ) (fun o τ => o = .inl none ∧ ∃ μ', τ = (hp μ', ρ) ∧ MS (wrn (fun _ => wtm (vM μ) r) (some ([], []))) μ' ∧ mw1 μ μ') := by
  have hv := hG.1 r hC
  obtain ⟨v1, v2, v3, v4, v5, v6, v7, v8, v9⟩ := hv
  have hv : mrw r μ := ⟨v1, v2, v3, v4, v5, v6, v7, v8, v9⟩
  refine w_S.of (L0 := [some (.ref 46), some (.int (ji r)), none, none, none]) rfl rfl (Nat.le_of_ble_eq_true rfl) (by rfl) ?_
  refine w_ld d_154_0 rfl rfl rfl ?_
  refine w_con d_154_1 ?_
  refine w_putI d_154_2 (by rfl) (by first | rfl | assumption) (by rfl) (fit_I (by rfl)) (by rfl) ?_
  refine w_ld d_154_5 rfl rfl rfl ?_
  refine w_con d_154_6 ?_
  refine w_putI d_154_7 (by rfl) (by first | rfl | assumption) (by rfl) (fit_Z (by rfl) (by omega)) (by rfl) ?_
  refine w_ld d_154_10 rfl rfl rfl ?_
  refine w_con d_154_11 ?_
  refine w_putI d_154_12 (by rfl) (by first | rfl | assumption) (by rfl) (fit_I (by rfl)) (by rfl) ?_
  refine w_ld d_154_15 rfl rfl rfl ?_
  refine w_con d_154_16 ?_
  refine w_putI d_154_17 (by rfl) (by first | rfl | assumption) (by rfl) (fit_I (by rfl)) (by rfl) ?_
  refine w_ld d_154_20 rfl rfl rfl ?_
  refine w_con d_154_21 ?_
  refine w_putI d_154_22 (by rfl) (by first | rfl | assumption) (by rfl) (fit_I (by rfl)) (by rfl) ?_
  show w_P _ _ _ _ _ _ _ _ _ _ _ _ (hp (ww0 μ), ρ) _
  refine w_ld d_154_25 rfl rfl rfl ?_
  refine w_getF d_154_26 (by rfl) (by first | rfl | assumption) (by rfl) (by rfl) ?_
  refine w_ld d_154_29 rfl rfl rfl ?_
  refine w_aI d_154_30 (by first | rfl | assumption) (by omega) (show _ = μ.2.2 49 r from rfl) ?_
  refine w_bip d_154_31 (by decide) ?_
  refine w_icmp_ge (g := 68) d_154_33 (by decide) (by omega) (fun h33 => ?_) (fun h33 => ?_)
  · have ew : wtm (vM μ) r = wv (vM μ) 10 0 r 0 [] := if_neg (by show ¬ μ.2.2 49 r < 8; omega)
    have e0 : wrn (fun N => wv (vM (ww0 μ)) 10 ((ww0 μ).1 46 32) r 0 N) (some ([], [])) = wrn (fun _ => wtm (vM μ) r) (some ([], [])) := by
      rw [vM_mw (ww0_w μ), ew]
      rfl
    have hfin : ∀ μ', MS (wrn (fun N => wv (vM (ww0 μ)) 10 ((ww0 μ).1 46 32) r 0 N) (some ([], []))) μ' → mw1 (ww0 μ) μ' → (wrn (fun N => wv (vM (ww0 μ)) 10 ((ww0 μ).1 46 32) r 0 N) (some ([], [])) ≠ none → μ'.1 46 32 = (ww0 μ).1 46 32 ∧ μ'.1 46 33 = (ww0 μ).1 46 33 ∧ ∀ a, 65 ≤ a → a ≤ 70 → ∀ q, q ≤ (ww0 μ).1 46 33 → μ'.2.2 a q = (ww0 μ).2.2 a q) → (-1 ≤ μ'.1 46 33 ∧ μ'.1 46 33 ≤ 12) → hdP sc fr lo ρ r (fun o τ => o = .inl none ∧ ∃ μ', τ = (hp μ', ρ) ∧ MS (wrn (fun _ => wtm (vM μ) r) (some ([], []))) μ' ∧ mw1 μ μ') μ' := fun μ9 k1 k2 k3 k4 => by
      refine m_wa_end (MS_b k1).1 ?_ k4 ⟨rfl, μ9, rfl, by rw [← e0]; exact k1, mw1_trans (ww0_w μ) k2⟩
      by_cases z : wrn (fun N => wv (vM (ww0 μ)) 10 ((ww0 μ).1 46 32) r 0 N) (some ([], [])) = none
      · rw [z] at k1
        exact Or.inl k1.1
      · exact Or.inr ((k3 z).2.1)
    refine w_ld d_154_68 rfl rfl rfl ?_
    refine w_ld d_154_69 rfl rfl rfl ?_
    refine w_con d_154_70 ?_
    refine w_cVq (a := 46) (as := [_, _]) (rest := _) rfl d_154_71 (by rfl) (by rfl) (by first | rfl | assumption) (by rfl) (by rfl) (Nat.le_of_ble_eq_true rfl) (by omega) (by omega) (LV_n (Q := (fun o τ => o = .inl none ∧ ∃ μ', τ = (hp μ', ρ) ∧ MS (wrn (fun _ => wtm (vM μ) r) (some ([], []))) μ' ∧ mw1 μ μ')) (r := r) (C := C) hf hl 10 (ww0 μ) (some ([], [])) r 0 hC (MRg_mw (ww0_w μ) hG) (by rw [vM_mw (ww0_w μ)]; exact hok) (by decide) (ww0_M μ) (by show (-1 : Int) ≤ -1 ∧ (-1 : Int) + 1 ≤ 0 ∧ (0 : Int) ≤ 8; decide) hfin) ?_ ?_
    rotate_left
    · rintro r τ ⟨hv9, _⟩
      cases hv9
    rintro vv1 τ1 ⟨hv1, μ1, rfl, hH⟩
    obtain rfl := Sum.inl.inj hv1
    exact hH
  · refine w_ld d_154_36 rfl rfl rfl ?_
    refine w_cVq (a := 46) (as := []) (rest := _) rfl d_154_37 (by rfl) (by rfl) (by first | rfl | assumption) (by rfl) (by rfl) (Nat.le_of_ble_eq_true rfl) (by omega) (by omega) (m_opens (ww0_M μ) (by show (0 : Int) ≤ 0 ∧ (0 : Int) ≤ 20; decide) (by omega) (by omega)) ?_ ?_
    rotate_left
    · rintro r τ ⟨hv9, _⟩
      cases hv9
    rintro vv1 τ1 ⟨hv1, μ1, rfl, hS1, hf1, hd1⟩
    obtain rfl := Sum.inl.inj hv1
    refine w_ld d_154_40 rfl rfl rfl ?_
    refine w_bip d_154_41 (by decide) ?_
    refine w_con d_154_43 ?_
    refine w_con d_154_44 ?_
    refine w_con d_154_45 ?_
    refine w_cVq (a := 46) (as := [_, _, _, _]) (rest := _) rfl d_154_46 (by rfl) (by rfl) (by first | rfl | assumption) (by rfl) (by rfl) (Nat.le_of_ble_eq_true rfl) (by omega) (by omega) (m_tag1 hS1 (by decide) rfl rfl (by omega) (by omega)) ?_ ?_
    rotate_left
    · rintro r τ ⟨hv9, _⟩
      cases hv9
    rintro vv2 τ2 ⟨hv2, μ2, rfl, hS2, hf2⟩
    obtain rfl := Sum.inl.inj hv2
    refine w_ld d_154_49 rfl rfl rfl ?_
    refine w_bip d_154_50 (by decide) ?_
    refine w_cVq (a := 46) (as := [_]) (rest := _) rfl d_154_52 (by rfl) (by rfl) (by first | rfl | assumption) (by rfl) (by rfl) (Nat.le_of_ble_eq_true rfl) (by omega) (by omega) (m_pu hS2) ?_ ?_
    rotate_left
    · rintro r τ ⟨hv9, _⟩
      cases hv9
    rintro vv3 τ3 ⟨hv3, μ3, rfl, hS3, hf3⟩
    obtain rfl := Sum.inl.inj hv3
    have hm3 : mw1 μ μ3 := mw1_trans (ww0_w μ) (mw1_trans hf1.mw (mw1_trans hf2.mw hf3.mw.mw))
    refine w_ld d_154_55 rfl rfl rfl ?_
    refine w_ld d_154_56 rfl rfl rfl ?_
    refine w_con d_154_57 ?_
    refine w_cVq (a := 46) (as := [_, _]) (rest := _) rfl d_154_58 (by rfl) (by rfl) (by first | rfl | assumption) (by rfl) (by rfl) (Nat.le_of_ble_eq_true rfl) (by omega) (by omega) (m_writeSimple hS3 (mrw_mw hm3 hv) (by rw [hm3.2.2 57 (by omega)]; exact hG.2.2) (by rw [hm3.2.2 49 (by omega)]; omega) (key := 0) (by decide) (by omega) (by omega)) ?_ ?_
    rotate_left
    · rintro r τ ⟨hv9, _⟩
      cases hv9
    rintro vv4 τ4 ⟨hv4, μ4, rfl, hS4, hf4⟩
    obtain rfl := Sum.inl.inj hv4
    refine w_ld d_154_61 rfl rfl rfl ?_
    refine w_bip d_154_62 (by decide) ?_
    refine w_cVq (a := 46) (as := [_]) (rest := _) rfl d_154_64 (by rfl) (by rfl) (by first | rfl | assumption) (by rfl) (by rfl) (Nat.le_of_ble_eq_true rfl) (by omega) (by omega) (m_pu hS4) ?_ ?_
    rotate_left
    · rintro r τ ⟨hv9, _⟩
      cases hv9
    rintro vv5 τ5 ⟨hv5, μ5, rfl, hS5, hf5⟩
    obtain rfl := Sum.inl.inj hv5
    refine w_ret d_154_67 rfl ?_
    refine ⟨rfl, _, rfl, ?_, mw1_trans hm3 (mw1_trans hf4.mw hf5.mw.mw)⟩
    have ew : wtm (vM μ) r = some ([91, 34, 126, 35, 39, 34, 44] ++ ((smp (vM μ) r 0 []).1 ++ [93]), (smp (vM μ) r 0 []).2) := if_pos (by show μ.2.2 49 r < 8; omega)
    rw [vM_mw hm3] at hS5
    have e0 : wap (wrn (fun N => some (txt N [126, 35, 39] 0, nts N [126, 35, 39] 0)) (lim (wap (some ([], [])) [91]) ((ww0 μ).1 46 32 + 1))) [44] = wrn (fun N => some ([91, 34, 126, 35, 39, 34, 44], N)) (some ([], [])) := by
      rw [show lim (wap (some ([], [])) [91]) ((ww0 μ).1 46 32 + 1) = some ([91], []) from rfl]
      show wap (if ([91] : List Int).length + (txt [] [126, 35, 39] 0).length ≤ 240 then some ([91] ++ txt [] [126, 35, 39] 0, nts [] [126, 35, 39] 0) else none) [44] = _
      rw [(tx39 []).1, (tx39 []).2]
      rfl
    rw [e0] at hS5
    have e1 : wap (wrn (fun N => some (smp (vM μ) r 0 N)) (wrn (fun N => some ([91, 34, 126, 35, 39, 34, 44], N)) (some ([], [])))) [93] = wrn (fun _ => wtm (vM μ) r) (some ([], [])) := by
      show wrn (fun N => some ([93], N)) _ = _
      rw [wrn_wrn, wrn_wrn, ew]
      rfl
    rw [e1] at hS5
    exact hS5
