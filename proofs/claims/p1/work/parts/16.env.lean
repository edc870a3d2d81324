/-! the environment at the law's start holds; the claim out of a run of the interpreter -/
theorem st_str : ∀ o, o < 9 → ∀ q ∈ zl_s.getD o [], zt_tm q.2 = .string (zt_cn o) q.1 ∨ Cond.eq (zt_tm q.2) (.string (zt_cn o) q.1) ∈ st_N1 ∨ Cond.eq (.string (zt_cn o) q.1) (zt_tm q.2) ∈ st_N1 := by decide +kernel
theorem st_strk : ∀ o, o < 9 → ∀ q ∈ zl_s.getD o [], q.2 < zt_sl.length := by decide +kernel
theorem st_vk {N : Nat} {len : List Nat} {byt : List (List Int32)} {a v a' v' : Nat → Nat} {A : Nat → Prop} {U : State} {H : Heap} (h : vk_S N len byt a v A U H) (ha : ∀ i, i < N → a' i = a i) (hv : ∀ i, i < N → v' i = v i) : vk_S N len byt a' v' A U H := by
  refine ⟨fun i hi => ?_, fun i j hi hj e => ?_⟩
  · rw [ha i hi, hv i hi]; exact h.1 i hi
  · rw [ha i hi, ha j hj] at e; exact h.2 i j hi hj e
set_option maxHeartbeats 2000000 in
theorem st_env {s : State} {b L : Nat} {xs : Nat → Int32} (hts : ∀ w ∈ lw_tbl, w.before #[Value.ref b] s = true) (hX : va_X b L xs s s.heap) (hbl : b < s.heap.size) (hgv : (Jvm.Cond.and given_1 narrow_1).before #[Value.ref b] s = true) :
    ∃ E : x_E, E.2.2.2.2 = (L, xs) ∧ E.2.2.2.1 1000 = b ∧ x_EV E s.heap.size s := by
  have hfl : ∀ w ∈ st_N1, w.before #[Value.ref b] s = true := flat_of_before _ hgv
  have ht : ∀ w ∈ x_tbl, w.before #[Value.ref b] s = true := fun w hw => hts w (List.mem_filter.mp hw).1
  have hA : ∀ a : Nat, a < s.heap.size → ¬ x_A s.heap.size a := fun a h => Nat.not_le.mpr h
  obtain ⟨adK, adV, hvk, htm⟩ := vk_Sof (args := #[Value.ref b]) (s := s) (N := zt_sl.length) (tm := zt_tm) (len := zt_sl) (byt := zt_sb) (A := x_A s.heap.size) (fun i hi => Nat.lt_of_lt_of_le (j_sizes i hi).2 (by decide)) (fun i hi => hfl _ (st_ex i hi)) (fun i hi => hfl _ (st_co i hi)) (fun i hi => hfl _ (st_ar i hi)) (fun i hi => hfl _ (st_le i hi)) (fun i hi j hj => hfl _ (st_el i hi j hj)) (fun i j hi hj hij => (st_ne i hi j hj hij).elim (fun h => Or.inl (hfl _ h)) (fun h => Or.inr (hfl _ h))) hA
  have hcl : ∀ c : Nat, ∃ q : ClassId × (Nat → Nat), ∀ r, classes[c]? = some r → u_Kn s r.1 r.2.1 r.2.2 q.1 q.2 := by
    intro c
    cases hc : classes[c]? with
    | none => exact ⟨(0, fun _ => 0), fun r h => by cases h⟩
    | some r =>
      obtain ⟨C, T, N, h1, h2, -, -, -, -, -, -, h9, -⟩ := ok_ck c r hc
      cases hc.symm.trans h1
      obtain ⟨cC, iS, hK⟩ := u_known ht h2 (ht _ h9)
      exact ⟨(cC, iS), fun r h => by cases h; exact hK⟩
  obtain ⟨d, hd⟩ := Classical.axiomOfChoice hcl
  have hxc : ∀ i : Nat, ∃ c : ClassId, ∀ nm, x_xs[i]? = some nm → s.vm.findClass nm = some c := by
    intro i
    cases hi : x_xs[i]? with
    | none => exact ⟨0, fun nm h => by cases h⟩
    | some nm =>
      obtain ⟨cX, kX, h1, -⟩ := Cond.instantiable_spec (ht _ (ok_xi nm (List.mem_of_getElem? hi)))
      exact ⟨cX, fun nm h => by cases h; exact h1⟩
  obtain ⟨xc, hxc⟩ := Classical.axiomOfChoice hxc
  obtain ⟨c0, k0, m0, a0, b0, e0⟩ := Cond.arrayClass_spec (ht _ ok_A.1)
  obtain ⟨c1, k1, m1, a1, b1, e1⟩ := Cond.arrayClass_spec (ht _ ok_A.2.1)
  obtain ⟨c2, k2, m2, a2, b2, e2⟩ := Cond.arrayClass_spec (ht _ ok_A.2.2.1)
  obtain ⟨c3, k3, m3, a3, b3, e3⟩ := Cond.arrayClass_spec (ht _ ok_A.2.2.2)
  obtain ⟨m4, c4, k4, f4, -, b4, e4, a4⟩ := Cond.arrayOver_spec (hts _ ok_ao)
  have hNz : zt_sl.length ≤ 1000 := by decide
  refine ⟨((fun c => (d c).1, fun c => (d c).2), fun t => [c0, c1, c2, c3, c4].getD t 0, xc, fun k => if k = 1000 then b else if 2000 ≤ k then adV (k - 2000) else adK k, L, xs), rfl, by simp, Nat.le_refl _, ⟨?_, ?_⟩, ?_, ⟨?_, ?_, ?_, ?_⟩, ?_, ?_, ⟨?_, ?_⟩, ⟨?_, ?_⟩, ?_, ?_, ?_⟩
  · intro c q hq
    exact hd c q hq
  · intro k q hq
    match k, hq with
    | 0, hq => cases hq; exact ⟨fun n z => ⟨(fun k h => by cases h), k0, b0, m0, e0⟩, a0⟩
    | 1, hq => cases hq; exact ⟨fun n z => ⟨(fun k h => by cases h), k1, b1, m1, e1⟩, a1⟩
    | 2, hq => cases hq; exact ⟨fun n z => ⟨(fun k h => by cases h), k2, b2, m2, e2⟩, a2⟩
    | 3, hq => cases hq; exact ⟨fun n z => ⟨(fun k h => by cases h), k3, b3, m3, e3⟩, a3⟩
    | 4, hq => cases hq; exact ⟨fun n z => ⟨(fun k h => by cases h), k4, b4, m4, e4⟩, k4, m4, b4, e4, f4, a4⟩
    | n + 5, hq => cases hq
  · intro w hw
    exact va_Nw.of (x_Nt hw) (hts w (List.mem_filter.mp hw).1)
  · exact va_Zqof (hts _ ok_z1) (ht _ ok_thr) (hfl _ st_r1.1) hA
  · exact va_Zqof (hts _ ok_z2) (ht _ ok_thr) (hfl _ st_r1.2.1) hA
  · exact x_LS.of (hts _ ok_z1)
  · exact x_LS.of (hts _ ok_z2)
  · intro i nm hi
    exact hxc i nm hi
  · exact va_AO.of (hts _ ok_ao)
  · intro own i k hs
    obtain ⟨tx, htx⟩ := ok_s own i k hs
    have hrow : ∀ (P : Nat → Nat × Nat → Prop), (∀ o, o < 9 → ∀ q ∈ zl_s.getD o [], P o q) → P own (i, k) := fun P hP => z_row_in (P := P) hs (fun o r hr q hq => hP o (List.getElem?_eq_some_iff.mp hr).1 q (by rw [List.getD_eq_getElem?_getD, hr]; exact hq))
    have hk : k < zt_sl.length := hrow (fun _ q => q.2 < zt_sl.length) st_strk
    have hev : (Term.string (zt_cn own) i).eval #[Value.ref b] s none [] s = some (.ref (adK k)) := by
      rcases hrow (fun o q => zt_tm q.2 = .string (zt_cn o) q.1 ∨ Cond.eq (zt_tm q.2) (.string (zt_cn o) q.1) ∈ st_N1 ∨ Cond.eq (.string (zt_cn o) q.1) (zt_tm q.2) ∈ st_N1) st_str with h | h | h
      · rw [← h]; exact htm k hk
      · obtain ⟨w, g1, g2⟩ := Cond.eq_one (hfl _ h)
        rw [htm k hk] at g1
        rw [g2, ← g1]
      · obtain ⟨w, g1, g2⟩ := Cond.eq_one (hfl _ h)
        rw [htm k hk] at g2
        rw [g1, ← g2]
    refine ⟨tx, vk_R.of (hts _ htx) ?_⟩
    show _ = some (Value.ref (if k = 1000 then b else if 2000 ≤ k then adV (k - 2000) else adK k))
    rw [if_neg (by omega), if_neg (by omega)]
    exact hev
  · refine st_vk hvk (fun i hi => ?_) (fun i hi => ?_)
    · show (if i = 1000 then b else if 2000 ≤ i then adV (i - 2000) else adK i) = adK i
      rw [if_neg (by omega), if_neg (by omega)]
    · show (if 2000 + i = 1000 then b else if 2000 ≤ 2000 + i then adV (2000 + i - 2000) else adK (2000 + i)) = adV i
      rw [if_neg (by omega), if_pos (by omega), Nat.add_sub_cancel_left]
  · exact va_Zof (hts _ ok_z3) (ht _ jn_S) (va_eqi (hfl _ st_r1.2.2.2)) hA
  · exact va_Zqof (hts _ ok_z4) (ht _ jn_PC) (hfl _ st_r1.2.2.1) hA
  · intro i j hi hj hij
    have h1 := hfl _ (st_nc i hi j hj hij)
    have hgi : x_xs[i]? = some (x_xs.getD i "") := by rw [List.getD_eq_getElem?_getD, List.getElem?_eq_getElem hi]; rfl
    have hgj : x_xs[j]? = some (x_xs.getD j "") := by rw [List.getD_eq_getElem?_getD, List.getElem?_eq_getElem hj]; rfl
    have h2 := hxc i _ hgi
    have h3 := hxc j _ hgj
    show s.vm.assignable (xc i) (xc j) = false
    simp only [Cond.before, Cond.holds, Cond.value, h2, h3] at h1
    simpa using h1
  · simp only [if_true]; exact hbl
  · simp only [if_true]; exact hX
