/-! THE PURE PART, 61: what looks at letters sees letters alone -/
theorem rws_cong {T T' : Int → Int} {n : Int} (h : ∀ k, 0 ≤ k → k < n → T k = T' k) : ∀ (f : Nat) (p : Int), 0 ≤ p → rws T n f p = rws T' n f p
  | 0, _, _ => rfl
  | f + 1, p, hp => by
    simp only [rws]
    by_cases z : p < n
    · rw [if_pos z, if_pos z, h p hp z, rws_cong h f (p + 1) (by omega), rws_cong h f (p + 2) (by omega)]
      by_cases z2 : p + 1 < n
      · rw [h (p + 1) (by omega) z2]
      · rw [if_neg (show ¬ (p + 1 < n ∧ (T (p + 1) = 34 ∨ T (p + 1) = 92 ∨ T (p + 1) = 47)) from fun w => z2 w.1), if_neg (show ¬ (p + 1 < n ∧ (T' (p + 1) = 34 ∨ T' (p + 1) = 92 ∨ T' (p + 1) = 47)) from fun w => z2 w.1)]
    · rw [if_neg z, if_neg z]
theorem rw_cong {T T' : Int → Int} {n : Int} (h : ∀ k, 0 ≤ k → k < n → T k = T' k) (p : Int) (hp : 0 ≤ p) : rw' T n p = rw' T' n p := rws_cong h _ p hp
theorem fmm_cong {T T' : Int → Int} {n p : Int} (h : ∀ k, 0 ≤ k → k < n → T k = T' k) (hp : 0 ≤ p) {k : Nat} : ∀ (f : Nat) (j : Int), 0 ≤ j → fmm T n p k f j = fmm T' n p k f j
  | 0, _, _ => rfl
  | f + 1, j, hj => by
    simp only [fmm]
    rw [fmm_cong h hp f (j + 1) (by omega)]
    by_cases z : p + j < n
    · rw [h (p + j) (by omega) z]
    · rw [if_neg (fun w => z w.2.1), if_neg (fun w => z w.2.1)]
theorem fm_cong {T T' : Int → Int} {n : Int} (h : ∀ k, 0 ≤ k → k < n → T k = T' k) (p : Int) (hp : 0 ≤ p) (k : Nat) : fm T n p k = fm T' n p k := fmm_cong h hp _ _ (by decide)
theorem drn_cong {R R' : Int → Int} {to a : Int} (h : ∀ k, a ≤ k → k < to → R k = R' k) : ∀ (f : Nat) (p : Int), a ≤ p → drn R to f p = drn R' to f p
  | 0, _, _ => rfl
  | f + 1, p, hp => by
    simp only [drn]
    rw [drn_cong h f (p + 1) (by omega)]
    by_cases z : p < to
    · rw [h p hp z]
    · rw [if_neg (fun w => z w.1), if_neg (fun w => z w.1)]
theorem dru_cong {R R' : Int → Int} {to a : Int} (h : ∀ k, a ≤ k → k < to → R k = R' k) (p : Int) (hp : a ≤ p) : dru R to p = dru R' to p := drn_cong h _ p hp
theorem dvl_cong {R R' : Int → Int} {to a : Int} (h : ∀ k, a ≤ k → k < to → R k = R' k) : ∀ (k : Nat) (p : Int) (c : Bool × Int), a ≤ p → p + k ≤ to → dvl R k p c = dvl R' k p c
  | 0, _, _, _, _ => rfl
  | k + 1, p, c, hp, hk => by
    show dvl R k (p + 1) (tkd c (R p - 48)) = dvl R' k (p + 1) (tkd c (R' p - 48))
    rw [h p hp (by omega)]
    exact dvl_cong h k (p + 1) _ (by omega) (by omega)
theorem scn_cong {R R' : Int → Int} {a b : Int} (h : ∀ k, a ≤ k → k < b → R k = R' k) : scn R a b = scn R' a b := by
  have hd : ∀ p, a ≤ p → p ≤ b → dvl R (dru R b p - p).toNat p (true, 0) = dvl R' (dru R' b p - p).toNat p (true, 0) := fun p hp hb => by
    rw [dru_cong h p hp]
    have := dru_ge R' b _ p rfl
    exact dvl_cong h _ _ _ hp (by omega)
  unfold scn
  by_cases z : a < b
  · rw [h a (by omega) z, hd a (by omega) (by omega), dru_cong h a (by omega), hd (a + 1) (by omega) (by omega), dru_cong h (a + 1) (by omega)]
    by_cases z2 : a + 1 < b
    · rw [h (a + 1) (by omega) z2]
    · rw [if_neg (fun w : a + 1 < b ∧ _ => z2 w.1), if_neg (fun w : a + 1 < b ∧ _ => z2 w.1)]
  · rw [if_neg (fun w : a < b ∧ _ => z w.1), if_neg (fun w : a < b ∧ _ => z w.1), if_neg (fun w : a < b ∧ _ => z w.1), if_neg (fun w : a < b ∧ _ => z w.1), if_neg (fun w : a < b ∧ _ => z w.1), if_neg (fun w : a < b ∧ _ => z w.1)]
theorem wl_cong {w w' : Int → Int} {s : Int} (h : ∀ k, 0 ≤ k → k < s → w k = w' k) (i : Int) (hi : 0 ≤ i) : wl w s i = wl w' s i := by
  unfold wl
  by_cases z : i < s
  · rw [if_pos z, if_pos z, h i hi z]
  · rw [if_neg z, if_neg z]
theorem cod_cong {w w' : Int → Int} {s : Int} (h : ∀ k, 0 ≤ k → k < s → w k = w' k) : cod w s = cod w' s := by
  unfold cod
  rw [wl_cong h 0 (by decide), wl_cong h 1 (by decide), wl_cong h 2 (by decide)]
theorem tks_cong {w w' : Int → Int} {s key : Int} (h : ∀ k, 0 ≤ k → k < s → w k = w' k) : tks w s key ↔ tks w' s key := by
  unfold tks
  rw [wl_cong h 0 (by decide), wl_cong h 1 (by decide)]
theorem mn_cong {w w' : Int → Int} {s : Int} (h : ∀ k, 0 ≤ k → k < s → w k = w' k) : mn w s = mn w' s := by
  have hs : nmb w 2 s = nmb w' 2 s := by
    unfold nmb
    rw [scn_cong (fun k k1 k2 => h k (by omega) k2)]
  unfold mn
  rw [wl_cong h 0 (by decide), wl_cong h 1 (by decide), wl_cong h 2 (by decide), hs]
theorem tgk_cong {w w' : Int → Int} {s : Int} {k : Nat} (h : ∀ i, 0 ≤ i → i < s → w i = w' i) : tgk w s k ↔ tgk w' s k := by
  unfold tgk
  constructor
  · rintro ⟨h1, h2⟩
    exact ⟨h1, fun j j0 j1 => by rw [← h (2 + j) (by omega) (by omega)]; exact h2 j j0 j1⟩
  · rintro ⟨h1, h2⟩
    exact ⟨h1, fun j j0 j1 => by rw [h (2 + j) (by omega) (by omega)]; exact h2 j j0 j1⟩
