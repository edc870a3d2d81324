/-! THE PURE PART, 73: the reference inside an array -/
/-- the reference goes on from ν to some ν' -/
def Stq (sc : Nat × (Nat → Int32)) (w f : Int) (ν : Mem) (w' f' : Int) (P : Mem → Prop) : Prop := ∀ (fr lo : Nat) (ρ : Nat × Nat × Nat) (Q : z_O → z_T → Prop), 40 ≤ fr → 2000 ≤ lo → (∀ ν', P ν' → RLp sc fr lo ρ Q w' f' ν') → RLp sc fr lo ρ Q w f ν
/-- the reference finds what is wrong -/
def StX (sc : Nat × (Nat → Int32)) (w f : Int) (ν : Mem) (b : Int) : Prop := ∀ (fr lo : Nat) (ρ : Nat × Nat × Nat) (Q : z_O → z_T → Prop), 40 ≤ fr → 2000 ≤ lo → (∀ ν' wa fa, mbv ν ν' b → RLp sc fr lo ρ Q wa fa ν') → RLp sc fr lo ρ Q w f ν
theorem Stq_trans {sc : Nat × (Nat → Int32)} {w f w1 f1 w2 f2 : Int} {ν : Mem} {P R : Mem → Prop} (h : Stq sc w f ν w1 f1 P) (g : ∀ ν', P ν' → Stq sc w1 f1 ν' w2 f2 R) : Stq sc w f ν w2 f2 R := fun fr lo ρ Q a b K => h fr lo ρ Q a b (fun ν' p => g ν' p fr lo ρ Q a b K)
theorem Stq_mono {sc : Nat × (Nat → Int32)} {w f w1 f1 : Int} {ν : Mem} {P R : Mem → Prop} (h : Stq sc w f ν w1 f1 P) (g : ∀ ν', P ν' → R ν') : Stq sc w f ν w1 f1 R := fun fr lo ρ Q a b K => h fr lo ρ Q a b (fun ν' p => K ν' (g ν' p))
theorem StX_of {sc : Nat × (Nat → Int32)} {w f w1 f1 b : Int} {ν : Mem} {P : Mem → Prop} (h : Stq sc w f ν w1 f1 P) (g : ∀ ν', P ν' → mfw ν ν' ∧ StX sc w1 f1 ν' b) : StX sc w f ν b := fun fr lo ρ Q a b' K => h fr lo ρ Q a b' (fun ν' p => (g ν' p).2 fr lo ρ Q a b' (fun ν'' wa fa hm => K ν'' wa fa ⟨⟨mfw_trans (g ν' p).1 hm.1.1, hm.1.2⟩, hm.2⟩))
/-- where an element is wanted, in both -/
def Pre (t x : Nat) (d key : Int) (μ ν : Mem) (f : Int) : Prop := Rel t x d μ ν ∧ kcd d key ν ∧ (0 < d → ν.2.2 59 d = 0 → cch x μ ≠ 34) ∧ (f = 0 ∨ f = 1 ∧ cch x μ ≠ 93)
theorem SimE_of {sc : Nat × (Nat → Int32)} {t x : Nat} {d key : Int} {μ μ' : Mem} (h : ∀ ν f, Pre t x d key μ ν f → Stq sc 1 f ν 0 0 (Pst t x d (μ.1 t 7) μ' ν)) : SimE sc t x d key μ μ' := fun fr lo ρ Q ν f a b h1 h2 h3 h4 K => h ν f ⟨h1, h2, h3, h4⟩ fr lo ρ Q a b K
theorem SimE_to {sc : Nat × (Nat → Int32)} {t x : Nat} {d key : Int} {μ μ' : Mem} (h : SimE sc t x d key μ μ') : ∀ ν f, Pre t x d key μ ν f → Stq sc 1 f ν 0 0 (Pst t x d (μ.1 t 7) μ' ν) := fun ν f p fr lo ρ Q a b K => h fr lo ρ Q ν f a b p.1 p.2.1 p.2.2.1 p.2.2.2 K
theorem SimX_of {sc : Nat × (Nat → Int32)} {t x : Nat} {d key : Int} {μ : Mem} {w : Int} (h : ∀ ν f, Pre t x d key μ ν f → StX sc 1 f ν w) : SimX sc t x d key μ w := fun fr lo ρ Q ν f a b h1 h2 h3 h4 K => h ν f ⟨h1, h2, h3, h4⟩ fr lo ρ Q a b K
theorem SimX_to {sc : Nat × (Nat → Int32)} {t x : Nat} {d key : Int} {μ : Mem} {w : Int} (h : SimX sc t x d key μ w) : ∀ ν f, Pre t x d key μ ν f → StX sc 1 f ν w := fun ν f p fr lo ρ Q a b K => h fr lo ρ Q ν f a b p.1 p.2.1 p.2.2.1 p.2.2.2 K
/-- what stays while the array at top is open, at level d + 1 -/
def UPf (d top : Int) (ν ν' : Mem) : Prop := mfw ν ν' ∧ (∀ a i, 49 ≤ a → a ≤ 56 → i < 256 + top → ν'.2.2 a i = ν.2.2 a i) ∧ ∀ a i, 58 ≤ a → a ≤ 61 → i ≤ d → ν'.2.2 a i = ν.2.2 a i
theorem UPf_refl (d top : Int) (ν : Mem) : UPf d top ν ν := ⟨mfw_refl ν, fun _ _ _ _ _ => rfl, fun _ _ _ _ _ => rfl⟩
theorem UPf_trans {d top : Int} {α β γ : Mem} (h : UPf d top α β) (g : UPf d top β γ) : UPf d top α γ :=
  ⟨mfw_trans h.1 g.1, fun a i h1 h2 h3 => (g.2.1 a i h1 h2 h3).trans (h.2.1 a i h1 h2 h3), fun a i h1 h2 h3 => (g.2.2 a i h1 h2 h3).trans (h.2.2 a i h1 h2 h3)⟩
theorem Pst_up {t x : Nat} {d top : Int} {μ' ν0 ν ν' : Mem} (h : UPf d top ν0 ν) (g : Pst t x d top μ' ν ν') : Pst t x d top μ' ν0 ν' := by
  obtain ⟨g1, g2, g3, g4, g5, g6, g7, g8⟩ := g
  refine ⟨g1, mfw_trans h.1 g2, fun a i h1 h2 h3 => (g3 a i h1 h2 h3).trans (h.2.1 a i h1 h2 h3), g4, g5, fun a i h1 h2 h3 => (g6 a i h1 h2 h3).trans (h.2.2 a i h1 h2 (by omega)), ⟨g7.1.trans (h.2.2 58 d (by omega) (by omega) (by omega)), g7.2.trans (h.2.2 61 d (by omega) (by omega) (by omega))⟩, fun h0 => ?_⟩
  rw [(g8 h0).1, (g8 h0).2, h.2.2 59 d (by omega) (by omega) (by omega), h.2.2 60 d (by omega) (by omega) (by omega)]
  exact ⟨rfl, rfl⟩
theorem Pst_in {t x : Nat} {d n top : Int} {μ' ν ν' : Mem} (g : Pst t x (d + 1) n μ' ν ν') (h : top ≤ n) : UPf d top ν ν' :=
  ⟨g.2.1, fun a i h1 h2 h3 => g.2.2.1 a i h1 h2 (by omega), fun a i h1 h2 h3 => g.2.2.2.2.2.1 a i h1 h2 (by omega)⟩
/-- the level's own registers -/
def OL (D top m j s : Int) (ν : Mem) : Prop := ν.2.2 58 D = 256 + top ∧ ν.2.2 59 D = m ∧ ν.2.2 60 D = j ∧ ν.2.2 61 D = s
/-- an array is open in the reference: its row waits -/
def OA (t x : Nat) (D top kd m j : Int) (μ ν : Mem) : Prop := Rel t x D μ ν ∧ OL D top m j (μ.2.2 25 top) ν ∧ (ν.2.2 49 (256 + top) = kd ∧ ν.2.2 50 (256 + top) = 0 ∧ ν.2.2 52 (256 + top) = μ.2.2 (t + 4) top ∧ (μ.2.2 (t + 4) top = 0 ∨ ν.2.2 51 (256 + top) = 480 + μ.2.2 (t + 3) top) ∧ ν.2.2 56 (256 + top) = -1) ∧ ∀ k, top < k → k < μ.1 t 7 → 0 ≤ ν.2.2 56 (256 + k)
theorem OL_step {t x : Nat} {D top n m j s : Int} {μ' ν ν' : Mem} (h : OL D top m j s ν) (hD : 0 < D) (g : Pst t x D n μ' ν ν') : OL D top (if m = 0 then 1 else m) (j + 1) s ν' := by
  obtain ⟨h1, h2, h3, h4⟩ := h
  obtain ⟨g1, g2, g3, g4, g5, g6, g7, g8⟩ := g
  exact ⟨g7.1.trans h1, by rw [(g8 hD).1, h2], by rw [(g8 hD).2, h3], g7.2.trans h4⟩
theorem OA_step {t x : Nat} {D top n kd m j : Int} {μ μ' ν ν' : Mem} (h : OA t x D top kd m j μ ν) (hD : 0 < D) (hn : μ.1 t 7 = n ∧ top < n) (hK : Kp t n μ μ') (g : Pst t x D n μ' ν ν') : OA t x D top kd (if m = 0 then 1 else m) (j + 1) μ' ν' := by
  obtain ⟨h1, h2, ⟨h3, h4, h5, h6, h7⟩, h8⟩ := h
  have e : ∀ a, 49 ≤ a → a ≤ 56 → ν'.2.2 a (256 + top) = ν.2.2 a (256 + top) := fun a a1 a2 => g.2.2.1 a _ a1 a2 (by omega)
  have c : ∀ a, t + 1 ≤ a ∧ a ≤ t + 6 ∨ a = 25 → μ'.2.2 a top = μ.2.2 a top := fun a ha => hK.2.1 a top ha hn.2
  refine ⟨g.1, by rw [c 25 (by omega)]; exact OL_step h2 hD g, ⟨by rw [e 49 (by omega) (by omega)]; exact h3, by rw [e 50 (by omega) (by omega)]; exact h4, by rw [e 52 (by omega) (by omega), c (t + 4) (by omega)]; exact h5, by rw [e 51 (by omega) (by omega), c (t + 4) (by omega), c (t + 3) (by omega)]; exact h6, by rw [e 56 (by omega) (by omega)]; exact h7⟩, fun k k1 k2 => ?_⟩
  by_cases z : k < n
  · rw [g.2.2.1 56 (256 + k) (by omega) (by omega) (by omega)]
    exact h8 k k1 (by omega)
  · exact g.2.2.2.1 k (by omega) k2
/-- only the place moves -/
def skp (ν ν' : Mem) : Prop := ν'.2 = ν.2 ∧ ∀ a q, ¬ (a = 46 ∧ q = 15) → ν'.1 a q = ν.1 a q
theorem skp_mfw {ν ν' : Mem} (h : skp ν ν') : mfw ν ν' := ⟨fun a q h1 => h.2 a q (by omega), fun q h1 _ _ _ _ _ _ _ => h.2 46 q (by omega), by rw [h.1], fun a _ => by rw [h.1], fun a i _ _ _ => by rw [h.1], fun i _ => by rw [h.1]⟩
theorem skp_UPf {d top : Int} {ν ν' : Mem} (h : skp ν ν') : UPf d top ν ν' := ⟨skp_mfw h, fun a i _ _ _ => by rw [h.1], fun a i _ _ _ => by rw [h.1]⟩
theorem skp_I {ν : Mem} {p : Int} : skp ν (stI ν 46 15 p) := ⟨rfl, fun a q h => stI_ne h⟩
theorem skp_trans {α β γ : Mem} (h : skp α β) (g : skp β γ) : skp α γ := ⟨g.1.trans h.1, fun a q z => (g.2 a q z).trans (h.2 a q z)⟩
theorem OL_skp {D top m j s : Int} {ν ν' : Mem} (h : OL D top m j s ν) (g : skp ν ν') : OL D top m j s ν' := by
  unfold OL at h ⊢
  rw [g.1]; exact h
theorem OA_skp {t x : Nat} {D top kd m j : Int} {μ μ' ν ν' : Mem} (h : OA t x D top kd m j μ ν) (g : skp ν ν') (hR : Rel t x D μ' ν') (h1 : μ'.2.2 = μ.2.2) (h2 : μ'.1 t 7 = μ.1 t 7) : OA t x D top kd m j μ' ν' := by
  unfold OA at h ⊢
  rw [h1, h2, g.1]
  exact ⟨hR, OL_skp h.2.1 g, h.2.2⟩
/-- the reference passes a comma -/
theorem sim_comma {sc : Nat × (Nat → Int32)} {t x : Nat} {D m j f : Int} (hT : isT t) (hX : x = 42 ∨ x = 44) {μ ν : Mem} (hC : CI t x μ) (hR : Rel t x D μ ν) (hD : 0 < D ∧ D ≤ 8) (h59 : ν.2.2 59 D = m) (h60 : ν.2.2 60 D = j) (hm : 0 ≤ m ∧ m ≤ 7) (hj : 0 ≤ j ∧ j ≤ 240) (hg : m < 3 ∨ j = 0) (hc : cch x μ = 44) : Stq sc 0 f ν 1 f (fun ν' => skp ν ν' ∧ Rel t x D (stI μ 20 5 (cpl x μ + 1)) ν') := by
  intro fr lo ρ Q hf hl K
  have ec := Rel_ch hC hR
  have hs := Rel_sk hT hX hC hR
  have hcp := cpl_in hC
  have h0 := hC.2.2.2.2.1.1
  have hlt : cpl x μ < μ.1 x 1 := Decidable.byContradiction (fun z => by unfold cch at hc; rw [if_neg z] at hc; omega)
  refine L_head (d := D) (by rw [hR.1.1]; exact hC.2.1) hR.1.2.2 (by have := hR.2.1.2; have := hC.2.1; omega) hR.2.2.1.1 ⟨hR.2.2.1.2.2.2.1, by omega, hD.2⟩ (Or.inr ⟨rfl, hD.1⟩) (by omega) (by omega) ?_
  rw [ec]
  have hg0 := m_mayGoOn (sc := sc) (fr := fr - 1) (lo := lo - (19 + 4)) (μ := skM ν) (ρ := ρ) (d := D) ⟨(hs.1.2.2.1.2.2.2.1), hD.1, hD.2⟩ (by show (0 ≤ ν.2.2 59 D ∧ ν.2.2 59 D ≤ 7) ∧ 0 ≤ ν.2.2 60 D ∧ ν.2.2 60 D ≤ 240; rw [h59, h60]; exact ⟨hm, hj⟩) (e := 0) (Or.inl rfl)
  have hb : (3 ≤ (skM ν).2.2 59 D ∧ ((0 : Int) = 1 ∧ (skM ν).2.2 60 D = 1 ∨ (0 : Int) = 0 ∧ (skM ν).2.2 60 D = 0)) ∨ ((skM ν).2.2 59 D < 3 ∧ ((0 : Int) = 0 ∨ (skM ν).2.2 59 D ≠ 2 ∨ (skM ν).2.2 60 D % 2 = 0)) := by
    show (3 ≤ ν.2.2 59 D ∧ ((0 : Int) = 1 ∧ ν.2.2 60 D = 1 ∨ (0 : Int) = 0 ∧ ν.2.2 60 D = 0)) ∨ (ν.2.2 59 D < 3 ∧ ((0 : Int) = 0 ∨ ν.2.2 59 D ≠ 2 ∨ ν.2.2 60 D % 2 = 0))
    rw [h59, h60]; omega
  rw [b01_t hb] at hg0
  refine L_comma rfl hc (by omega) (by omega) hg0 (K _ ⟨skp_trans skp_I skp_I, ?_⟩)
  have e5 : (stI μ 20 5 (cpl x μ)).1 20 5 = cpl x μ := stI_at _ _ _ _
  refine Rel_mv hT hX hR (fun a q h1 h2 => stI_ne (by omega)) rfl (fun q h1 h2 h3 => (stI_ne (by omega)).trans (stI_ne (by omega))) rfl ?_ ?_
  · rw [stI_at, stI_at, hs.2, hR.1.1]
    exact sk_cong hR.1.2.1 _ (by omega)
  · rw [stI_at, hs.2]; omega
/-- what stands behind an element is wrong -/
theorem sim_sepX {sc : Nat × (Nat → Int32)} {t x : Nat} {D m j f : Int} (hT : isT t) (hX : x = 42 ∨ x = 44) {μ ν : Mem} (hC : CI t x μ) (hR : Rel t x D μ ν) (hD : 0 < D ∧ D ≤ 8) (h59 : ν.2.2 59 D = m) (h60 : ν.2.2 60 D = j) (hm : 0 ≤ m ∧ m ≤ 7) (hj : 0 ≤ j ∧ j ≤ 240) (hc : cch x μ ≠ 44 ∧ cch x μ ≠ 93 ∨ cch x μ = 44 ∧ 3 ≤ m ∧ j ≠ 0 ∨ cch x μ = 93 ∧ (3 ≤ m ∧ j ≠ 1 ∨ m = 2 ∧ j % 2 = 1)) : StX sc 0 f ν (cpl x μ) := by
  intro fr lo ρ Q hf hl K
  have ec := Rel_ch hC hR
  have hs := Rel_sk hT hX hC hR
  have hcp := cpl_in hC
  have h0 := hC.2.2.2.2.1.1
  have hci := cch_in hC
  have hsz := hC.2.1
  refine L_head (d := D) (by rw [hR.1.1]; exact hC.2.1) hR.1.2.2 (by have := hR.2.1.2; have := hC.2.1; omega) hR.2.2.1.1 ⟨hR.2.2.1.2.2.2.1, by omega, hD.2⟩ (Or.inr ⟨rfl, hD.1⟩) (by omega) (by omega) ?_
  rw [ec]
  have hg := fun (e : Int) (he : e = 0 ∨ e = 1) => m_mayGoOn (sc := sc) (fr := fr - 1) (lo := lo - (19 + 4)) (μ := skM ν) (ρ := ρ) (d := D) ⟨(hs.1.2.2.1.2.2.2.1), hD.1, hD.2⟩ (by show (0 ≤ ν.2.2 59 D ∧ ν.2.2 59 D ≤ 7) ∧ 0 ≤ ν.2.2 60 D ∧ ν.2.2 60 D ≤ 240; rw [h59, h60]; exact ⟨hm, hj⟩) (e := e) he
  have h16 : (skM ν).1 46 16 = -1 := hs.1.2.2.1.1
  have KK : RLp sc fr lo ρ Q 0 f (stI (skM ν) 46 16 ((skM ν).1 46 15)) := K _ 0 f ⟨⟨mfw_trans (mfw_I (q := 15) (by decide)) (mfw_I (q := 16) (by decide)), by rw [stI_at, hs.2], by rw [stI_ne (by omega), hs.2]; omega⟩, hR.2.2.2.2.2.1.2.2.2.2⟩
  rcases hc with hc | hc | hc
  · exact L_fail3 h16 rfl ⟨hci.1, hci.2, hc⟩ (by omega) (by omega) KK
  · have hg0 := hg 0 (Or.inl rfl)
    rw [b01_f (by
      show ¬ ((3 ≤ ν.2.2 59 D ∧ ((0 : Int) = 1 ∧ ν.2.2 60 D = 1 ∨ (0 : Int) = 0 ∧ ν.2.2 60 D = 0)) ∨ (ν.2.2 59 D < 3 ∧ ((0 : Int) = 0 ∨ ν.2.2 59 D ≠ 2 ∨ ν.2.2 60 D % 2 = 0)))
      rw [h59, h60]; omega)] at hg0
    exact L_fail1 h16 rfl hc.1 (by omega) (by omega) hg0 KK
  · have hg0 := hg 1 (Or.inr rfl)
    rw [b01_f (by
      show ¬ ((3 ≤ ν.2.2 59 D ∧ ((1 : Int) = 1 ∧ ν.2.2 60 D = 1 ∨ (1 : Int) = 0 ∧ ν.2.2 60 D = 0)) ∨ (ν.2.2 59 D < 3 ∧ ((1 : Int) = 0 ∨ ν.2.2 59 D ≠ 2 ∨ ν.2.2 60 D % 2 = 0)))
      rw [h59, h60]; omega)] at hg0
    exact L_fail2 h16 rfl hc.1 (by omega) (by omega) hg0 KK
/-- an array is opened in both -/
theorem sim_open {sc : Nat × (Nat → Int32)} {t x : Nat} {d key f n p : Int} (hT : isT t) (hX : x = 42 ∨ x = 44) {μ ν : Mem} (hC : CI t x μ) (hd : 0 ≤ d ∧ d < 8) (hn : μ.1 t 7 = n ∧ 0 ≤ n ∧ n ≤ 125) (hc : cch x μ = 91) (hp2 : p = sk (μ.2.2 (x + 1)) (μ.1 x 1) (cpl x μ + 1)) (hP : Pre t x d key μ ν f) : Stq sc 1 f ν 1 1 (fun ν' => UPf d n ν ν' ∧ OA t x (d + 1) n 8 0 0 (adw (stI μ 20 5 p) t 8 0 0 0 (cpl x μ)) ν') := by
  obtain ⟨hR, hk, h34, hf1⟩ := hP
  intro fr lo ρ Q hf hl K
  have ec := Rel_ch hC hR
  have hs := Rel_sk hT hX hC hR
  have hcp := cpl_in hC
  have h0 := hC.2.2.2.2.1.1
  have hsz := hC.2.1
  have hlt : cpl x μ < μ.1 x 1 := Decidable.byContradiction (fun z => by unfold cch at hc; rw [if_neg z] at hc; omega)
  refine L_head (d := d) (by rw [hR.1.1]; exact hC.2.1) hR.1.2.2 (by have := hR.2.1.2; omega) hR.2.2.1.1 ⟨hR.2.2.1.2.2.2.1, by omega, by omega⟩ (Or.inl rfl) (by omega) (by omega) ?_
  rw [ec]
  have e17 : (skM ν).1 46 17 = n := (hs.1.2.2.1.2.1).trans ((stI_ne (by unfold isT at hT; omega)).trans hn.1)
  refine L_open rfl hc (by omega) (by omega) (m_open (n := n) (d := d) hs.1.2.2.2.2.2.1 ⟨e17, hn.2⟩ ⟨hs.1.2.2.1.2.2.2.1, hd⟩ (by omega) (by omega)) (fun ν' ho => K ν' ?_)
  obtain ⟨o1, ⟨o2, o3, o4⟩, o5, o6, o7, ⟨v1, v2, v3, v4, v5, v6, v7⟩, p1, p2, p3, p4⟩ := ho
  rw [hs.2] at o3 v6 p4
  obtain ⟨⟨r1, r2, r3, r4, r5, r6, r7⟩, rc, rI, rR, rA⟩ := adw_f (μ := stI μ 20 5 p) hT (k := 8) (v := 0) (f := 0) (z := 0) (s := cpl x μ)
  have hT' := hT
  unfold isT at hT
  have e7 : (stI μ 20 5 p).1 t 7 = n := (stI_ne (by omega)).trans hn.1
  rw [e7] at r1 r2 r3 r4 r5 r6 r7 rc rA
  have oI : ∀ q, q ≠ 15 → q ≠ 17 → q ≠ 19 → ν'.1 46 q = ν.1 46 q := fun q h1 h2 h3 => (o5 46 q (by omega)).trans (stI_ne (by omega))
  have oA : ∀ a i, ¬ (49 ≤ a ∧ a ≤ 56 ∧ i = 256 + n) → ¬ (58 ≤ a ∧ a ≤ 61 ∧ i = d + 1) → ν'.2.2 a i = ν.2.2 a i := fun a i h1 h2 => o7 a i h1 h2
  have oF : ∀ a, a < 49 ∨ a = 57 ∨ 61 < a → ν'.2.2 a = ν.2.2 a := fun a ha => funext fun i => oA a i (by omega) (by omega)
  have cx : (adw (stI μ 20 5 p) t 8 0 0 0 (cpl x μ)).1 x 1 = μ.1 x 1 := (rI x 1 (by omega)).trans (stI_ne (by omega))
  have cu : (adw (stI μ 20 5 p) t 8 0 0 0 (cpl x μ)).1 (t + 7) 1 = μ.1 (t + 7) 1 := (rI _ _ (by omega)).trans (stI_ne (by omega))
  have cn : (adw (stI μ 20 5 p) t 8 0 0 0 (cpl x μ)).1 21 2 = μ.1 21 2 := (rI _ _ (by omega)).trans (stI_ne (by omega))
  have cA : ∀ a i, ¬ ((t + 1 ≤ a ∧ a ≤ t + 6 ∨ a = 25) ∧ i = n) → (adw (stI μ 20 5 p) t 8 0 0 0 (cpl x μ)).2.2 a i = μ.2.2 a i := fun a i h1 => rA a i h1
  have cF : ∀ a, ¬ (t + 1 ≤ a ∧ a ≤ t + 6 ∨ a = 25) → (adw (stI μ 20 5 p) t 8 0 0 0 (cpl x μ)).2.2 a = μ.2.2 a := fun a h1 => funext fun i => cA a i (by omega)
  have c5 : (adw (stI μ 20 5 p) t 8 0 0 0 (cpl x μ)).1 20 5 = p := (rI _ _ (by omega)).trans (stI_at _ _ _ _)
  have hR' := hR
  obtain ⟨b1, b2, b3, b4, b5, b6, b7⟩ := hR'
  refine ⟨⟨⟨fun a q h1 => (o5 a q (by omega)).trans (stI_ne (by omega)), fun q h1 _ h3 _ h5 _ _ _ => oI q h1 h3 h5, o6, fun a ha => oF a (by omega), fun a i h1 h2 h3 => oA a i (by omega) (by omega), fun i _ => by rw [oF 57 (by omega)]⟩, fun a i h1 h2 h3 => oA a i (by omega) (by omega), fun a i h1 h2 h3 => oA a i (by omega) (by omega)⟩, ⟨⟨?_, ⟨?_, ?_⟩, ⟨?_, ?_, ?_, o2, ?_⟩, ?_, ?_, o1, fun k k0 k1 k2 => ?_⟩, ⟨p1, p2, p3, by rw [r7, p4]⟩, ⟨v1, v2, by rw [v3, r4], Or.inl r4, v7⟩, fun k k1 k2 => ?_⟩⟩
  · rw [oI 3 (by omega) (by omega) (by omega), cx, oF 47 (by omega), cF (x + 1) (by omega)]; exact b1
  · show sk (ν'.2.2 47) (ν'.1 46 3) (ν'.1 46 15) = sk ((adw (stI μ 20 5 p) t 8 0 0 0 (cpl x μ)).2.2 (x + 1)) ((adw (stI μ 20 5 p) t 8 0 0 0 (cpl x μ)).1 x 1) ((adw (stI μ 20 5 p) t 8 0 0 0 (cpl x μ)).1 20 5)
    rw [oI 3 (by omega) (by omega) (by omega), cx, oF 47 (by omega), cF (x + 1) (by omega), c5, o3, b1.1, hp2, sk_sk]
    exact sk_cong b1.2.1 _ (by omega)
  · rw [o3, cx]; omega
  · rw [oI 16 (by omega) (by omega) (by omega)]; exact b3.1
  · rw [o4, rc]
  · rw [oI 18 (by omega) (by omega) (by omega), cu]; exact b3.2.2.1
  · rw [oI 26 (by omega) (by omega) (by omega), cn]; exact b3.2.2.2.2
  · rw [cn, oF 62 (by omega), oF 63 (by omega), cF 22 (by omega), cF 23 (by omega)]; exact b4
  · rw [cu, oF 57 (by omega), cF (t + 7 + 1) (by omega)]; exact b5
  · rw [rc] at k1
    by_cases z : k = n
    · subst z; rw [v7] at k2; omega
    · rw [oA 56 (256 + k) (by omega) (by omega)] at k2
      exact RR_of (b7 k k0 (by omega) k2) (fun a ha => cA a k (by omega)) (fun a h1 h2 => oA a (256 + k) (by omega) (by omega)) (by rw [cu]; exact Int.le_refl _)
  · rw [rc] at k2; omega
/-- one array too many -/
theorem sim_openX {sc : Nat × (Nat → Int32)} {t x : Nat} {key f : Int} (hT : isT t) (hX : x = 42 ∨ x = 44) {μ ν : Mem} (hC : CI t x μ) (hc : cch x μ = 91) (hP : Pre t x 8 key μ ν f) : StX sc 1 f ν (cpl x μ) := by
  obtain ⟨hR, hk, h34, hf1⟩ := hP
  intro fr lo ρ Q hf hl K
  have ec := Rel_ch hC hR
  have hs := Rel_sk hT hX hC hR
  have hcp := cpl_in hC
  have h0 := hC.2.2.2.2.1.1
  have hsz := hC.2.1
  refine L_head (d := 8) (by rw [hR.1.1]; exact hC.2.1) hR.1.2.2 (by have := hR.2.1.2; omega) hR.2.2.1.1 ⟨hR.2.2.1.2.2.2.1, by omega, by omega⟩ (Or.inl rfl) (by omega) (by omega) ?_
  rw [ec]
  refine L_open rfl hc (P := fun ν' => ν' = stI (skM ν) 46 16 ((skM ν).1 46 15)) (by omega) (by omega) ((m_openX hs.1.2.2.1.1 hs.1.2.2.1.2.2.2.1 (by omega) (by omega)).mono ?_) (fun ν' ho => K ν' 1 1 ?_)
  · rintro o τ ⟨rfl, rfl⟩
    exact ⟨_, rfl, rfl, rfl⟩
  · subst ho
    exact ⟨⟨mfw_trans (mfw_I (q := 15) (by decide)) (mfw_I (q := 16) (by decide)), by rw [stI_at, hs.2], by rw [stI_ne (by omega), hs.2]; omega⟩, hR.2.2.2.2.2.1.2.2.2.2⟩
