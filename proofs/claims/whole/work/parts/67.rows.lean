/-! THE PURE PART, 49: what holds of the reference's rows while it reads -/
/-- the rows with a group are whole, and their groups are right -/
def MI (ν : Mem) : Prop := (0 ≤ ν.1 46 17 ∧ ν.1 46 17 ≤ 127) ∧ GI (vM ν) (ν.2.2 56) 256 (256 + ν.1 46 17) ∧ (∀ v, 256 ≤ v → v < 256 + ν.1 46 17 → 0 ≤ ν.2.2 56 v → mok ν v) ∧ (∀ v, 256 ≤ v → v < 256 + ν.1 46 17 → -1 ≤ ν.2.2 56 v ∧ ν.2.2 56 v < 384) ∧ ∀ k, 0 ≤ ν.2.2 57 k ∧ ν.2.2 57 k < 65536
theorem mok_eq {ν ν' : Mem} {v : Int} (h : ∀ a, 49 ≤ a → a ≤ 56 → ν'.2.2 a v = ν.2.2 a v) (k : mok ν v) : mok ν' v := by
  unfold mok
  rw [h 49 (by omega) (by omega), h 50 (by omega) (by omega), h 51 (by omega) (by omega), h 52 (by omega) (by omega), h 53 (by omega) (by omega), h 54 (by omega) (by omega), h 56 (by omega) (by omega)]
  exact k
/-- the rows that are done stay; the words of the done rows too -/
theorem MI_keep {ν ν' : Mem} (h : MI ν) (ht : 0 ≤ ν'.1 46 17 ∧ ν'.1 46 17 ≤ 127) (h57 : ∀ k, 0 ≤ ν'.2.2 57 k ∧ ν'.2.2 57 k < 65536)
    (hr : ∀ v, 256 ≤ v → v < 256 + ν.1 46 17 → 0 ≤ ν.2.2 56 v → v < 256 + ν'.1 46 17 ∧ (∀ a, 49 ≤ a → a ≤ 56 → ν'.2.2 a v = ν.2.2 a v) ∧ ∀ x, 0 ≤ x → x < ν.2.2 52 v → ν'.2.2 57 (ν.2.2 51 v + x) = ν.2.2 57 (ν.2.2 51 v + x))
    (hn : ∀ v, 256 ≤ v → v < 256 + ν'.1 46 17 → (0 ≤ ν'.2.2 56 v → v < 256 + ν.1 46 17 ∧ ν'.2.2 56 v = ν.2.2 56 v) ∧ -1 ≤ ν'.2.2 56 v ∧ ν'.2.2 56 v < 384) : MI ν' := by
  obtain ⟨h1, h2, h3, h4, h5⟩ := h
  refine ⟨ht, ?_, fun v v1 v2 v3 => ?_, fun v v1 v2 => (hn v v1 v2).2, h57⟩
  · refine GI_keep h2 (fun v v1 v2 v3 => (hn v v1 v2).1 v3) (fun v v1 v2 v3 => ⟨(hr v v1 v2 v3).1, (hr v v1 v2 v3).2.1 56 (by omega) (by omega)⟩) (fun v v1 v2 v3 => ?_)
    obtain ⟨_, e, ew⟩ := hr v v1 v2 v3
    refine ⟨⟨(e 49 (by omega) (by omega)).symm, (e 50 (by omega) (by omega)).symm, (e 53 (by omega) (by omega)).symm, (e 52 (by omega) (by omega)).symm, fun x x0 x1 => ?_⟩, ?_⟩
    · show ν.2.2 57 (ν.2.2 51 v + x) = ν'.2.2 57 (ν'.2.2 51 v + x)
      rw [e 51 (by omega) (by omega)]
      exact (ew x x0 x1).symm
    · show v + ν'.2.2 54 v = v + ν.2.2 54 v
      rw [e 54 (by omega) (by omega)]
  · obtain ⟨v4, v5⟩ := (hn v v1 v2).1 v3
    rw [v5] at v3
    exact mok_eq (hr v v1 v4 v3).2.1 (h3 v v1 v4 v3)
/-- one row changes that is not done -/
theorem MI_row {ν ν' : Mem} {a : Int} (h : MI ν) (ht : ν.1 46 17 ≤ ν'.1 46 17 ∧ ν'.1 46 17 ≤ 127) (h57 : ν'.2.2 57 = ν.2.2 57) (ha : a < 256 + ν.1 46 17 → ν.2.2 56 a < 0) (hg : -1 ≤ ν'.2.2 56 a ∧ ν'.2.2 56 a < 0) (hr : ∀ b v, 49 ≤ b → b ≤ 56 → v ≠ a → ν'.2.2 b v = ν.2.2 b v) (hnew : ∀ v, 256 + ν.1 46 17 ≤ v → v < 256 + ν'.1 46 17 → v = a) : MI ν' := by
  refine MI_keep h ⟨by have := h.1; omega, ht.2⟩ (by rw [h57]; exact h.2.2.2.2) (fun v v1 v2 v3 => ?_) (fun v v1 v2 => ?_)
  · have hva : v ≠ a := fun z => by
      have := ha (by omega)
      rw [← z] at this
      omega
    exact ⟨by omega, fun b b1 b2 => hr b v b1 b2 hva, fun x _ _ => by rw [h57]⟩
  · by_cases hva : v = a
    · subst hva
      exact ⟨fun z => by omega, by omega, by omega⟩
    · have hv : v < 256 + ν.1 46 17 := Decidable.byContradiction (fun z => hva (hnew v (by omega) v2))
      rw [hr 56 v (by omega) (by omega) hva]
      exact ⟨fun _ => ⟨hv, rfl⟩, h.2.2.2.1 v v1 hv⟩
theorem okv_0 {A : View} {i : Int} {d : Nat} (h : A.2.2.1 i = 0) : okv (d + 1) A i := by
  refine ⟨by omega, fun _ => by omega, fun n hn => ?_, fun _ n m _ hm => ?_, fun _ n m _ hm => ?_⟩ <;> rw [h] at * <;> omega
theorem m_cls {sc : Nat × (Nat → Int32)} {fr lo : Nat} {ν : Mem} {ρ : Nat × Nat × Nat} {a : Int} (hM : MI ν) (ha : 256 ≤ a ∧ a < 256 + ν.1 46 17) (hg : ν.2.2 56 a = -1) (ma : mok (stA ν 56 a a) a) (oa : okv 10 (vM ν) a) (pa : ∀ n : Nat, (n : Int) < ν.2.2 53 a → 256 ≤ pt (vM ν) a n ∧ pt (vM ν) a n < 256 + ν.1 46 17 ∧ 0 ≤ ν.2.2 56 (pt (vM ν) a n)) (hf : 5 ≤ fr) (hl : 200 ≤ lo) : w_S sc fr lo 136 [.ref 46, .int (ji a), .int (ji 256), .int (ji (256 + ν.1 46 17))] (hp ν, ρ) (fun o t' => ∃ μ' : Mem, o = .inl none ∧ (∃ r : Int, μ' = stA ν 56 a r ∧ (256 ≤ r ∧ r < 256 + ν.1 46 17) ∧ MI μ') ∧ t' = (hp μ', ρ)) := by
  obtain ⟨h1, h2, h3, h4, h5⟩ := hM
  have e : (fun v => if v = a then -1 else ν.2.2 56 v) = ν.2.2 56 := by
    funext v
    split
    · rename_i hv
      rw [hv, hg]
    · rfl
  have k := m_classify (sc := sc) (fr := fr) (lo := lo) (μ := ν) (ρ := ρ) (a := a) (lw := 256) (hg := 256 + ν.1 46 17) (by omega) ha (by rw [e]; exact h2) (fun v v1 v2 _ v4 => h3 v v1 v2 v4) h4 ma oa (fun n hn => by
    obtain ⟨q1, q2, q3⟩ := pa n hn
    exact ⟨q1, q2, fun z => by rw [z] at q3; omega, q3⟩) h5 hf hl
  refine k.mono ?_
  rintro o t' ⟨μ', ho, ⟨r, hr, r1, r2, hGI⟩, ht'⟩
  refine ⟨μ', ho, ⟨r, hr, ⟨r1, r2⟩, ?_⟩, ht'⟩
  rw [hr]
  have e56 : (stA ν 56 a r).2.2 56 = fun v => if v = a then r else ν.2.2 56 v := by
    funext v
    show (if 56 = 56 ∧ v = a then r else ν.2.2 56 v) = _
    by_cases hv : v = a
    · rw [if_pos ⟨rfl, hv⟩, if_pos hv]
    · rw [if_neg (fun z => hv z.2), if_neg hv]
  refine ⟨h1, ?_, fun v v1 v2 v3 => ?_, fun v v1 v2 => ?_, by rw [stA_o2 (by decide)]; exact h5⟩
  · rw [vM_56, e56]
    exact hGI
  · by_cases hv : v = a
    · subst hv
      obtain ⟨a1, a2, a3, a4, a5, a6, a7⟩ := ma
      refine ⟨a1, a2, a3, a4, a5, a6, ?_⟩
      rw [e56]
      show -1 ≤ (if v = v then r else _) ∧ (if v = v then r else _) < 384
      rw [if_pos rfl]
      omega
    · have hg2 : (stA ν 56 a r).2.2 56 v = ν.2.2 56 v := by rw [e56]; exact if_neg hv
      rw [hg2] at v3
      refine mok_eq (fun b b1 b2 => ?_) (h3 v v1 v2 v3)
      exact if_neg (fun z => hv z.2)
  · rw [e56]
    show -1 ≤ (if v = a then r else ν.2.2 56 v) ∧ (if v = a then r else ν.2.2 56 v) < 384
    split
    · omega
    · exact h4 v v1 v2
theorem m_ready {sc : Nat × (Nat → Int32)} {fr lo : Nat} {μ : Mem} {ρ : Nat × Nat × Nat} {a : Int} (ht : 0 ≤ μ.1 46 17 ∧ μ.1 46 17 ≤ 127) (hM : MI (stA μ 54 a (256 + μ.1 46 17 - a))) (ha : 256 ≤ a ∧ a < 256 + μ.1 46 17) (hg : μ.2.2 56 a = -1) (ma : mok (stA (stA μ 54 a (256 + μ.1 46 17 - a)) 56 a a) a) (oa : okv 10 (vM (stA μ 54 a (256 + μ.1 46 17 - a))) a) (pa : ∀ n : Nat, (n : Int) < μ.2.2 53 a → 256 ≤ pt (vM (stA μ 54 a (256 + μ.1 46 17 - a))) a n ∧ pt (vM (stA μ 54 a (256 + μ.1 46 17 - a))) a n < 256 + μ.1 46 17 ∧ 0 ≤ μ.2.2 56 (pt (vM (stA μ 54 a (256 + μ.1 46 17 - a))) a n)) (hf : 7 ≤ fr) (hl : 300 ≤ lo) : w_S sc fr lo 135 [.ref 46, .int (ji a)] (hp μ, ρ) (fun o t' => ∃ μ' : Mem, o = .inl none ∧ (∃ r : Int, μ' = stA (stA μ 54 a (256 + μ.1 46 17 - a)) 56 a r ∧ (256 ≤ r ∧ r < 256 + μ.1 46 17) ∧ MI μ') ∧ t' = (hp μ', ρ)) := by
  refine w_S.of (L0 := [some (.ref 46), some (.int (ji a))]) rfl rfl (Nat.le_of_ble_eq_true rfl) (by rfl) ?_
  refine w_ld d_135_0 rfl rfl rfl ?_
  refine w_getF d_135_1 (by rfl) (by first | rfl | assumption) (by rfl) (by rfl) ?_
  refine w_ld d_135_4 rfl rfl rfl ?_
  refine w_sip d_135_5 (by decide) ?_
  refine w_ld d_135_8 rfl rfl rfl ?_
  refine w_gI d_135_9 (by rfl) (by first | rfl | assumption) (by rfl) (show _ = μ.1 46 17 from rfl) ?_
  refine w_iadd d_135_12 ?_
  refine w_ld d_135_13 rfl rfl rfl ?_
  refine w_isub d_135_14 ?_
  refine w_iast d_135_15 (by first | rfl | assumption) (by omega) ?_
  refine w_ld d_135_16 rfl rfl rfl ?_
  refine w_ld d_135_17 rfl rfl rfl ?_
  refine w_sip d_135_18 (by decide) ?_
  refine w_sip d_135_21 (by decide) ?_
  refine w_ld d_135_24 rfl rfl rfl ?_
  refine w_gI d_135_25 (by rfl) (by first | rfl | assumption) (by rfl) (show _ = μ.1 46 17 from rfl) ?_
  refine w_iadd d_135_28 ?_
  refine w_cVm (a := 46) (as := [_, _, _]) (rest := _) rfl d_135_29 (by rfl) (by rfl) (by first | rfl | assumption) (by rfl) (by rfl) (Nat.le_of_ble_eq_true rfl) (by omega) (by omega) (m_cls (ν := stA μ 54 a (256 + μ.1 46 17 - a)) hM ha hg ma oa pa (by omega) (by omega)) (fun μ' hm => ?_)
  refine w_ret d_135_32 rfl ?_
  exact ⟨μ', rfl, hm, rfl⟩
