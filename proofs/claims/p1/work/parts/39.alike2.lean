/-! THE PURE PART, 23: the same values elsewhere; deeper looks -/
theorem okv_up {A : View} : ∀ (d : Nat) (i : Int), okv d A i → okv (d + 1) A i
  | 0, _, h => h.elim
  | d + 1, i, h => by
    have hp : ∀ n : Nat, (n : Int) < A.2.2.1 i → okv (d + 1) A (pt A i n) := fun n hn => okv_up d _ (h.2.2.1 n hn)
    refine ⟨h.1, h.2.1, hp, fun e n m hnm hm k => ?_, fun e n m hnm hm k => ?_⟩
    · exact h.2.2.2.1 e n m hnm hm (al_ok d (d + 1) _ _ (h.2.2.1 n (by omega)) k)
    · exact h.2.2.2.2 e n m hnm hm (al_ok d (d + 1) _ _ (h.2.2.1 (2 * n) (by omega)) k)
theorem okv_le {A : View} {d e : Nat} {i : Int} (h : d ≤ e) (k : okv d A i) : okv e A i := by
  induction h with
  | refl => exact k
  | step _ ih => exact okv_up _ _ ih
theorem al_iff {A B : View} {d e : Nat} {i j : Int} (hd : okv d A i) (he : okv e A i) : al d A i B j ↔ al e A i B j := ⟨al_ok e d i j he, al_ok d e i j hd⟩
/-- the rows C of A stand in B, s further on -/
def iso (s : Int) (A B : View) (C : Int → Prop) : Prop := ∀ k, C k → bas A k B (k + s) ∧ B.2.2.2.1 (k + s) = A.2.2.2.1 k + s
/-- the parts of the rows C are rows C; a map has an even number -/
def reg (A : View) (C : Int → Prop) : Prop := ∀ k, C k → (A.1 k = 11 → A.2.2.1 k % 2 = 0) ∧ ∀ n : Nat, (n : Int) < A.2.2.1 k → C (pt A k n)
theorem pt_iso {s : Int} {A B : View} {C : Int → Prop} (h : iso s A B C) (hr : reg A C) {k : Int} (hk : C k) : ∀ n : Nat, (n : Int) ≤ A.2.2.1 k → pt B (k + s) n = pt A k n + s
  | 0, _ => by simp only [pt]; omega
  | n + 1, hn => by
    have ih := pt_iso h hr hk n (by omega)
    have hp := (hr k hk).2 n (by omega)
    show B.2.2.2.1 (pt B (k + s) n) = A.2.2.2.1 (pt A k n) + s
    rw [ih, (h (pt A k n) hp).2]
theorem bas_iff {s t : Int} {A B A' B' : View} {i j : Int} (h : bas A i A' (i + s)) (g : bas B j B' (j + t)) : bas A i B j ↔ bas A' (i + s) B' (j + t) :=
  ⟨fun k => bas_trans (bas_symm h) (bas_trans k g), fun k => bas_trans h (bas_trans k (bas_symm g))⟩
theorem al_iso {s t : Int} {A B A' B' : View} {C D : Int → Prop} (h : iso s A A' C) (hr : reg A C) (g : iso t B B' D) (gr : reg B D) : ∀ (d : Nat) (i j : Int), C i → D j → (al d A i B j ↔ al d A' (i + s) B' (j + t))
  | 0, _, _, _, _ => Iff.rfl
  | d + 1, i, j, hi', hj => by
    have h1 := (h i hi').1
    have h2 := (g j hj).1
    have pA : ∀ n : Nat, (n : Int) < A.2.2.1 i → pt A' (i + s) n = pt A i n + s := fun n hn => pt_iso h hr hi' n (by omega)
    have pB : ∀ n : Nat, (n : Int) < B.2.2.1 j → pt B' (j + t) n = pt B j n + t := fun n hn => pt_iso g gr hj n (by omega)
    have iA : ∀ n : Nat, (n : Int) < A.2.2.1 i → C (pt A i n) := (hr i hi').2
    have iB : ∀ n : Nat, (n : Int) < B.2.2.1 j → D (pt B j n) := (gr j hj).2
    have e1 := (hr i hi').1
    have e2 := (gr j hj).1
    have key : ∀ n m : Nat, (n : Int) < A.2.2.1 i → (m : Int) < B.2.2.1 j → (al d A (pt A i n) B (pt B j m) ↔ al d A' (pt A' (i + s) n) B' (pt B' (j + t) m)) := fun n m hn hm => by
      rw [pA n hn, pB m hm]
      exact al_iso h hr g gr d _ _ (iA n hn) (iB m hm)
    have hK : A.1 i = A'.1 (i + s) := h1.1
    have hPA : A.2.2.1 i = A'.2.2.1 (i + s) := h1.2.2.1
    have hPB : B.2.2.1 j = B'.2.2.1 (j + t) := h2.2.2.1
    constructor
    · rintro ⟨k0, k1, k2, k3⟩
      have hPP : A.2.2.1 i = B.2.2.1 j := k0.2.2.1
      refine ⟨(bas_iff h1 h2).mp k0, fun e n hn => ?_, fun e n hn => ?_, fun e e' n hn => ?_⟩
      · obtain ⟨m, hm, hR⟩ := k1 (by rw [hK]; exact e) n (by rw [hPA]; exact hn)
        exact ⟨m, by rw [← hPB]; exact hm, (key n m (by rw [hPA]; exact hn) hm).mp hR⟩
      · have e' : A.1 i = 11 := by rw [hK]; exact e
        have := e1 e'
        have hn' : (2 * n : Int) < A.2.2.1 i := by rw [hPA]; exact hn
        obtain ⟨m, hm, hR, hS⟩ := k2 e' n hn'
        exact ⟨m, by rw [← hPB]; exact hm, (key (2 * n) (2 * m) (by omega) (by omega)).mp hR, (key (2 * n + 1) (2 * m + 1) (by omega) (by omega)).mp hS⟩
      · have hn' : (n : Int) < A.2.2.1 i := by rw [hPA]; exact hn
        exact (key n n hn' (by omega)).mp (k3 (by rw [hK]; exact e) (by rw [hK]; exact e') n hn')
    · rintro ⟨k0, k1, k2, k3⟩
      have k0' := (bas_iff h1 h2).mpr k0
      have hPP : A.2.2.1 i = B.2.2.1 j := k0'.2.2.1
      refine ⟨k0', fun e n hn => ?_, fun e n hn => ?_, fun e e' n hn => ?_⟩
      · obtain ⟨m, hm, hR⟩ := k1 (by rw [← hK]; exact e) n (by rw [← hPA]; exact hn)
        have hm' : (m : Int) < B.2.2.1 j := by rw [hPB]; exact hm
        exact ⟨m, hm', (key n m hn hm').mpr hR⟩
      · have := e1 e
        obtain ⟨m, hm, hR, hS⟩ := k2 (by rw [← hK]; exact e) n (by rw [← hPA]; exact hn)
        have hm' : (2 * m : Int) < B.2.2.1 j := by rw [hPB]; exact hm
        exact ⟨m, hm', (key (2 * n) (2 * m) (by omega) (by omega)).mpr hR, (key (2 * n + 1) (2 * m + 1) (by omega) (by omega)).mpr hS⟩
      · exact (key n n hn (by omega)).mpr (k3 (by rw [← hK]; exact e) (by rw [← hK]; exact e') n (by rw [← hPA]; exact hn))
theorem okv_iso {s : Int} {A B : View} {C : Int → Prop} (h : iso s A B C) (hr : reg A C) : ∀ (d : Nat) (i : Int), C i → okv d A i → okv d B (i + s)
  | 0, _, _, h => h.elim
  | d + 1, i, hi', ho => by
    have h1 := (h i hi').1
    have pA : ∀ n : Nat, (n : Int) < A.2.2.1 i → pt B (i + s) n = pt A i n + s := fun n hn => pt_iso h hr hi' n (by omega)
    have iA : ∀ n : Nat, (n : Int) < A.2.2.1 i → C (pt A i n) := (hr i hi').2
    have hK : A.1 i = B.1 (i + s) := h1.1
    have hPA : A.2.2.1 i = B.2.2.1 (i + s) := h1.2.2.1
    have e1 := (hr i hi').1
    refine ⟨by rw [← hPA]; exact ho.1, fun e => by rw [← hPA]; exact ho.2.1 (by rw [hK]; exact e), fun n hn => ?_, fun e n m hnm hm => ?_, fun e n m hnm hm => ?_⟩
    · have hn' : (n : Int) < A.2.2.1 i := by rw [hPA]; exact hn
      rw [pA n hn']
      exact okv_iso h hr d _ (iA n hn') (ho.2.2.1 n hn')
    · have hm' : (m : Int) < A.2.2.1 i := by rw [hPA]; exact hm
      rw [pA n (by omega), pA m hm', ← al_iso h hr h hr d _ _ (iA n (by omega)) (iA m hm')]
      exact ho.2.2.2.1 (by rw [hK]; exact e) n m hnm hm'
    · have hm' : (2 * m : Int) < A.2.2.1 i := by rw [hPA]; exact hm
      rw [pA (2 * n) (by omega), pA (2 * m) (by omega), ← al_iso h hr h hr d _ _ (iA (2 * n) (by omega)) (iA (2 * m) (by omega))]
      exact ho.2.2.2.2 (by rw [hK]; exact e) n m hnm hm'
/-- the rows C are the same in both -/
def eqv (A B : View) (C : Int → Prop) : Prop := ∀ k, C k → bas A k B k ∧ B.2.2.2.1 k = A.2.2.2.1 k
theorem eqv.iso {A B : View} {C : Int → Prop} (h : eqv A B C) : iso 0 A B C := fun k hk => by rw [Int.add_zero, Int.add_zero]; exact h k hk
theorem pt_eqv {A B : View} {C : Int → Prop} (h : eqv A B C) (hr : reg A C) {k : Int} (hk : C k) (n : Nat) (hn : (n : Int) ≤ A.2.2.1 k) : pt B k n = pt A k n := by
  have := pt_iso h.iso hr hk n hn
  rwa [Int.add_zero, Int.add_zero] at this
theorem al_eqv {A B : View} {C : Int → Prop} (h : eqv A B C) (hr : reg A C) (d : Nat) {i j : Int} (hi : C i) (hj : C j) : al d A i A j ↔ al d B i B j := by
  have := al_iso h.iso hr h.iso hr d i j hi hj
  rwa [Int.add_zero, Int.add_zero] at this
theorem okv_eqv {A B : View} {C : Int → Prop} (h : eqv A B C) (hr : reg A C) (d : Nat) {i : Int} (hi : C i) (ho : okv d A i) : okv d B i := by
  have := okv_iso h.iso hr d i hi ho
  rwa [Int.add_zero] at this
/-! groups: the rows with a group from 0 on are the ones that are done -/
def GI (M : View) (g : Int → Int) (lo hi : Int) : Prop := ∀ v, lo ≤ v → v < hi → 0 ≤ g v → (lo ≤ g v ∧ g v < hi ∧ 0 ≤ g (g v)) ∧ okv 10 M v ∧ (∀ n : Nat, (n : Int) < M.2.2.1 v → lo ≤ pt M v n ∧ pt M v n < hi ∧ 0 ≤ g (pt M v n)) ∧ ∀ w, lo ≤ w → w < hi → 0 ≤ g w → (g v = g w ↔ al 10 M v M w)
theorem GI_key {M : View} {g : Int → Int} {lo hi a b : Int} (h : GI M g lo hi) (ho : okv 10 M a) (hp : ∀ n : Nat, (n : Int) < M.2.2.1 a → lo ≤ pt M a n ∧ pt M a n < hi ∧ 0 ≤ g (pt M a n)) (hb : lo ≤ b ∧ b < hi ∧ 0 ≤ g b) : alR (fun x y => g x = g y) M a M b ↔ al 10 M a M b := by
  obtain ⟨-, hob, hpb, -⟩ := h b hb.1 hb.2.1 hb.2.2
  have h1 : al 10 M a M b ↔ al 11 M a M b := al_iff ho (okv_up _ _ ho)
  rw [h1]
  have key : ∀ n m : Nat, (n : Int) < M.2.2.1 a → (m : Int) < M.2.2.1 b → (g (pt M a n) = g (pt M b m) ↔ al 10 M (pt M a n) M (pt M b m)) := fun n m hn hm => by
    obtain ⟨q1, q2, q3⟩ := hp n hn
    obtain ⟨q4, q5, q6⟩ := hpb m hm
    exact (h _ q1 q2 q3).2.2.2 _ q4 q5 q6
  exact ⟨fun k => alR_imp ho.2.1 (fun n m hn hm hR => (key n m hn hm).mp hR) k, fun k => alR_imp (R := fun x y => al 10 M x M y) ho.2.1 (fun n m hn hm hR => (key n m hn hm).mpr hR) k⟩
/-- a done row joins the group of one that is same -/
theorem GI_join {M : View} {g g' : Int → Int} {lo hi a b : Int} (h : GI M g lo hi) (ha : lo ≤ a ∧ a < hi) (hga : g a < 0) (ho : okv 10 M a) (hp : ∀ n : Nat, (n : Int) < M.2.2.1 a → lo ≤ pt M a n ∧ pt M a n < hi ∧ 0 ≤ g (pt M a n)) (hb : lo ≤ b ∧ b < hi ∧ 0 ≤ g b) (hal : al 10 M a M b) (hg : ∀ v, v ≠ a → g' v = g v) (hga' : g' a = g b) : GI M g' lo hi := by
  obtain ⟨⟨hb1, hb2, hb3⟩, hob, hpb, hwb⟩ := h b hb.1 hb.2.1 hb.2.2
  have hba : al 10 M b M a := al_symm 10 _ _ ho hob hal
  have ne : ∀ v, 0 ≤ g v → v ≠ a := fun v hv z => by rw [z] at hv; omega
  intro v hv1 hv2 hv
  by_cases hva : v = a
  · subst hva
    rw [hga']
    refine ⟨⟨hb1, hb2, by rw [hg _ (ne _ hb3)]; exact hb3⟩, ho, fun n hn => ?_, fun w hw1 hw2 hw => ?_⟩
    · obtain ⟨q1, q2, q3⟩ := hp n hn
      exact ⟨q1, q2, by rw [hg _ (ne _ q3)]; exact q3⟩
    · by_cases hwa : w = v
      · subst hwa
        exact ⟨fun _ => al_refl 10 _ ho, fun _ => hga'.symm⟩
      · rw [hg w hwa] at hw ⊢
        rw [hwb w hw1 hw2 hw]
        exact ⟨fun z => al_trans 10 _ _ _ hal z, fun z => al_trans 10 _ _ _ hba z⟩
  · rw [hg v hva] at hv ⊢
    obtain ⟨⟨q1, q2, q3⟩, hov, hpv, hwv⟩ := h v hv1 hv2 hv
    refine ⟨⟨q1, q2, by rw [hg _ (ne _ q3)]; exact q3⟩, hov, fun n hn => ?_, fun w hw1 hw2 hw => ?_⟩
    · obtain ⟨p1, p2, p3⟩ := hpv n hn
      exact ⟨p1, p2, by rw [hg _ (ne _ p3)]; exact p3⟩
    · by_cases hwa : w = a
      · subst hwa
        rw [hga', hwv b hb.1 hb.2.1 hb.2.2]
        exact ⟨fun z => al_trans 10 _ _ _ z hba, fun z => al_trans 10 _ _ _ z hal⟩
      · rw [hg w hwa] at hw ⊢
        exact hwv w hw1 hw2 hw
/-- a done row that is same as none is a group of its own -/
theorem GI_own {M : View} {g g' : Int → Int} {lo hi a : Int} (h : GI M g lo hi) (h0 : 0 ≤ lo) (ha : lo ≤ a ∧ a < hi) (hga : g a < 0) (ho : okv 10 M a) (hp : ∀ n : Nat, (n : Int) < M.2.2.1 a → lo ≤ pt M a n ∧ pt M a n < hi ∧ 0 ≤ g (pt M a n)) (hno : ∀ b, lo ≤ b → b < hi → 0 ≤ g b → ¬ al 10 M a M b) (hg : ∀ v, v ≠ a → g' v = g v) (hga' : g' a = a) : GI M g' lo hi := by
  have ne : ∀ v, 0 ≤ g v → v ≠ a := fun v hv z => by rw [z] at hv; omega
  intro v hv1 hv2 hv
  by_cases hva : v = a
  · subst hva
    rw [hga']
    refine ⟨⟨ha.1, ha.2, by rw [hga']; omega⟩, ho, fun n hn => ?_, fun w hw1 hw2 hw => ?_⟩
    · obtain ⟨q1, q2, q3⟩ := hp n hn
      exact ⟨q1, q2, by rw [hg _ (ne _ q3)]; exact q3⟩
    · by_cases hwa : w = v
      · subst hwa
        exact ⟨fun _ => al_refl 10 _ ho, fun _ => hga'.symm⟩
      · rw [hg w hwa] at hw ⊢
        refine ⟨fun z => ?_, fun z => absurd z (hno w hw1 hw2 hw)⟩
        have := (h w hw1 hw2 hw).1.2.2
        rw [← z] at this
        omega
  · rw [hg v hva] at hv ⊢
    obtain ⟨⟨q1, q2, q3⟩, hov, hpv, hwv⟩ := h v hv1 hv2 hv
    refine ⟨⟨q1, q2, by rw [hg _ (ne _ q3)]; exact q3⟩, hov, fun n hn => ?_, fun w hw1 hw2 hw => ?_⟩
    · obtain ⟨p1, p2, p3⟩ := hpv n hn
      exact ⟨p1, p2, by rw [hg _ (ne _ p3)]; exact p3⟩
    · by_cases hwa : w = a
      · subst hwa
        rw [hga']
        refine ⟨fun z => ?_, fun z => absurd (al_symm 10 _ _ hov ho z) (hno v hv1 hv2 hv)⟩
        rw [z] at q3
        omega
      · rw [hg w hwa] at hw ⊢
        exact hwv w hw1 hw2 hw
/-- other rows change, are added, are taken away: the done ones stay -/
theorem GI_keep {M M' : View} {g g' : Int → Int} {lo hi hi' : Int} (h : GI M g lo hi) (hd : ∀ v, lo ≤ v → v < hi' → 0 ≤ g' v → v < hi ∧ g' v = g v) (hd2 : ∀ v, lo ≤ v → v < hi → 0 ≤ g v → v < hi' ∧ g' v = g v) (he : ∀ v, lo ≤ v → v < hi → 0 ≤ g v → bas M v M' v ∧ M'.2.2.2.1 v = M.2.2.2.1 v) : GI M' g' lo hi' := by
  have hE : eqv M M' (fun v => lo ≤ v ∧ v < hi ∧ 0 ≤ g v) := fun k hk => he k hk.1 hk.2.1 hk.2.2
  have hR : reg M (fun v => lo ≤ v ∧ v < hi ∧ 0 ≤ g v) := fun k hk => by
    have q := h k hk.1 hk.2.1 hk.2.2
    exact ⟨q.2.1.2.1, fun n hn => q.2.2.1 n hn⟩
  intro v hv1 hv2 hv
  obtain ⟨hvh, hvg⟩ := hd v hv1 hv2 hv
  rw [hvg] at hv ⊢
  obtain ⟨⟨q1, q2, q3⟩, hov, hpv, hwv⟩ := h v hv1 hvh hv
  have hC : lo ≤ v ∧ v < hi ∧ 0 ≤ g v := ⟨hv1, hvh, hv⟩
  have hP : M.2.2.1 v = M'.2.2.1 v := (hE v hC).1.2.2.1
  refine ⟨⟨q1, (hd2 _ q1 q2 q3).1, by rw [(hd2 _ q1 q2 q3).2]; exact q3⟩, okv_eqv hE hR 10 hC hov, fun n hn => ?_, fun w hw1 hw2 hw => ?_⟩
  · have hn' : (n : Int) < M.2.2.1 v := by rw [hP]; exact hn
    rw [pt_eqv hE hR hC n (by omega)]
    obtain ⟨p1, p2, p3⟩ := hpv n hn'
    exact ⟨p1, (hd2 _ p1 p2 p3).1, by rw [(hd2 _ p1 p2 p3).2]; exact p3⟩
  · obtain ⟨hwh, hwg⟩ := hd w hw1 hw2 hw
    rw [hwg] at hw ⊢
    rw [hwv w hw1 hwh hw]
    exact al_eqv hE hR 10 hC ⟨hw1, hwh, hw⟩
