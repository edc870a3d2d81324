/-! THE PURE PART, 77: an array while both read it -/
def EG (sc : Nat × (Nat → Int32)) (t x : Nat) (d key : Int) (e : Nat) (μ μ' : Mem) : Prop := CI t x μ' ∧ Kp t (μ.1 t 7) μ μ' ∧ GV t e (μ.1 t 7) μ' ∧ 2 * μ'.1 t 7 ≤ μ'.1 20 5 + d + 1 ∧ SimE sc t x d key μ μ'
def EB (sc : Nat × (Nat → Int32)) (t x : Nat) (d key : Int) (μ μ' : Mem) (w : Int) : Prop := Cbad t μ μ' w ∧ SimX sc t x d key μ w
theorem EP_ok {sc : Nat × (Nat → Int32)} {t x : Nat} {d key : Int} {e : Nat} {μ μ' : Mem} {ρ : Nat × Nat × Nat} (h : EG sc t x d key e μ μ') : EP sc t x d key e μ ρ (.inl none) (hp μ', ρ) := Or.inl ⟨rfl, μ', rfl, h⟩
theorem EP_bad {sc : Nat × (Nat → Int32)} {t x : Nat} {d key : Int} {e : Nat} {μ μ' : Mem} {ρ : Nat × Nat × Nat} {w : Int} (h : EB sc t x d key μ μ' w) : EP sc t x d key e μ ρ (.inr (1, ρ.1)) (hp μ', ρ.1 + 1, ρ.2.1 - 1, ρ.2.2 - 6) := Or.inr ⟨rfl, μ', w, rfl, h⟩
/-- the class has read j parts of the array at top; the reference is there too -/
def AL (sc : Nat × (Nat → Int32)) (t x : Nat) (d key : Int) (e : Nat) (top kd m : Int) (j : Nat) (μ0 μ : Mem) : Prop := CI t x μ ∧ Kp t top μ0 μ ∧ AS t e top j μ ∧ 2 * μ.1 t 7 ≤ μ.1 20 5 + d + 2 ∧ ∀ ν f, Pre t x d key μ0 ν f → Stq sc 1 f ν 0 0 (fun ν' => UPf d top ν ν' ∧ OA t x (d + 1) top kd m j μ ν')
/-- the array is open, nothing of it is read -/
def A0 (sc : Nat × (Nat → Int32)) (t x : Nat) (d key : Int) (e : Nat) (top : Int) (μ0 μ : Mem) : Prop := CI t x μ ∧ Kp t top μ0 μ ∧ AS t e top 0 μ ∧ (2 * μ.1 t 7 ≤ μ.1 20 5 + d + 1 ∧ μ.1 20 5 = cpl x μ ∧ μ.1 t 7 = top + 1) ∧ (μ.2.2 (t + 1) top = 8 ∧ μ.2.2 (t + 5) top = 0 ∧ μ.2.2 (t + 6) top = top + 1) ∧ ∀ ν f, Pre t x d key μ0 ν f → Stq sc 1 f ν 1 1 (fun ν' => UPf d top ν ν' ∧ OA t x (d + 1) top 8 0 0 μ ν')
theorem CI_mv {t x : Nat} (hT : isT t) (hX : x = 42 ∨ x = 44) {μ : Mem} {p : Int} (hC : CI t x μ) (h1 : μ.1 20 5 ≤ p) (h2 : p ≤ μ.1 x 1) : CI t x (stI μ 20 5 p) := by
  unfold isT at hT
  have hu := hC.2.2.2.2.2.1
  exact CI_of hC (stI_ne (by omega)) (stI_ne (by omega)) (stI_ne (by omega)) rfl rfl rfl rfl rfl (by rw [stI_at]; omega) (by rw [stI_ne (by omega)]; exact hC.2.2.2.2.2.2.2.2.2.2)
theorem UPf_md {t x : Nat} {d key f top : Int} {μ0 ν ν' : Mem} (hP : Pre t x d key μ0 ν f) (h : UPf d top ν ν') : 0 < d → 0 ≤ ν'.2.2 59 d ∧ ν'.2.2 59 d ≤ 7 := fun z => by
  rw [h.2.2 59 d (by omega) (by omega) (Int.le_refl _)]
  exact (hP.2.1.1 z).1
theorem AL_close {sc : Nat × (Nat → Int32)} {t x e : Nat} {d key top kd m : Int} {j : Nat} (hT : isT t) (hX : x = 42 ∨ x = 44) {μ0 μ : Mem} (h : AL sc t x d key e top kd m j μ0 μ) (h0 : μ0.1 t 7 = top) (hd : 0 ≤ d ∧ d ≤ 7) (he : e ≤ 9) (hm : m = 1 ∧ kd = 8 ∨ m = 7 ∧ kd = 12 ∧ j = 1) (hc : cch x μ = 93) : EG sc t x d key (e + 1) μ0 (cls (stI μ 20 5 (cpl x μ + 1)) t top kd j) := by
  obtain ⟨h1, h2, h3, h4, h5⟩ := h
  have hcp := cpl_in h1
  have hsz := h1.2.1
  obtain ⟨c1, c2, c3, c4, c5⟩ := cl_cls hT hX h1 h3 he hc (kd := kd) (by omega) (fun z => by omega) (fun z => by omega) (by omega) (fun z => by omega)
  unfold EG
  rw [h0]
  refine ⟨c1, Kp_trans h2 c2 (Int.le_refl _), c3, by rw [c4, c5]; omega, SimE_of (fun ν f hP => ?_)⟩
  rw [h0]
  refine Stq_trans (h5 ν f hP) (fun ν' hu => Stq_mono (sim_close1 hT hX h1 h3 hd (by omega) (by omega) hc (Or.inl rfl) hu.2 c3 (UPf_md hP hu.1)) (fun ν'' hp => Pst_up hu.1 hp))
/-- the array has no parts -/
theorem A0_close {sc : Nat × (Nat → Int32)} {t x e : Nat} {d key top : Int} (hT : isT t) (hX : x = 42 ∨ x = 44) {μ0 μ : Mem} (h : A0 sc t x d key e top μ0 μ) (h0 : μ0.1 t 7 = top) (hd : 0 ≤ d ∧ d ≤ 7) (he : e ≤ 9) (hc : cch x μ = 93) : EG sc t x d key (e + 1) μ0 (stI μ 20 5 (μ.1 20 5 + 1)) := by
  obtain ⟨h1, h2, h3, ⟨h4, h5, h6⟩, ⟨k1, k5, k6⟩, h7⟩ := h
  have hcp := cpl_in h1
  have hsz := h1.2.1
  have e7 : (stI μ 20 5 (cpl x μ + 1)).1 t 7 = μ.1 t 7 := stI_ne (by unfold isT at hT; omega)
  have e1 : cls (stI μ 20 5 (cpl x μ + 1)) t top 8 ((0 : Nat) : Int) = stI μ 20 5 (cpl x μ + 1) := by
    rw [cls_same (t := t) (top := top) (j := ((0 : Nat) : Int)) (μ := stI μ 20 5 (cpl x μ + 1)) k5 (by rw [e7, h6]; exact k6)]
    have := stA_self (stI μ 20 5 (cpl x μ + 1)) (t + 1) top
    rw [show (stI μ 20 5 (cpl x μ + 1)).2.2 (t + 1) top = 8 from k1] at this
    exact this
  obtain ⟨c1, c2, c3, c4, c5⟩ := cl_cls hT hX h1 h3 he hc (kd := 8) (by omega) (fun z => by omega) (fun z => by omega) (by omega) (fun z => by omega)
  unfold EG
  have c3' := c3
  rw [e1] at c1 c2 c3 c4 c5
  rw [h0, h5]
  refine ⟨c1, Kp_trans h2 c2 (Int.le_refl _), c3, by rw [c4, c5]; omega, SimE_of (fun ν f hP => ?_)⟩
  rw [h0]
  refine Stq_trans (h7 ν f hP) (fun ν' hu => Stq_mono (sim_close1 hT hX h1 h3 hd (by omega) (by omega) hc (Or.inr ⟨rfl, rfl⟩) hu.2 c3' (UPf_md hP hu.1)) (fun ν'' hp => ?_))
  rw [e1] at hp
  exact Pst_up hu.1 hp
theorem AL_sepX {sc : Nat × (Nat → Int32)} {t x e : Nat} {d key top kd m : Int} {j : Nat} (hT : isT t) (hX : x = 42 ∨ x = 44) {μ0 μ : Mem} (h : AL sc t x d key e top kd m j μ0 μ) (hd : 0 ≤ d ∧ d ≤ 7) (hm : 0 ≤ m ∧ m ≤ 7) (hc : cch x μ ≠ 44 ∧ cch x μ ≠ 93 ∨ cch x μ = 44 ∧ 3 ≤ m ∧ j ≠ 0 ∨ cch x μ = 93 ∧ (3 ≤ m ∧ j ≠ 1 ∨ m = 2 ∧ (j : Int) % 2 = 1)) : EB sc t x d key μ0 (stI (stI μ 20 5 (cpl x μ)) 20 6 (cpl x μ)) (cpl x μ) := by
  obtain ⟨h1, h2, h3, h4, h5⟩ := h
  have hcp := cpl_in h1
  have hsz := h1.2.1
  have hpl := h1.2.2.2.2.1
  have a1 := h3.1
  have a5 := h3.2.2.2.2.1
  refine ⟨Cbad_of hT (cfr_trans h2.1 (cfr_I (Or.inl rfl))) (CI_sk hT hX h1) (Or.inl rfl) (by omega), SimX_of (fun ν f hP => StX_of (h5 ν f hP) (fun ν' hu => ⟨hu.1.1, ?_⟩))⟩
  obtain ⟨u, o⟩ := hu
  exact sim_sepX hT hX h1 o.1 (by omega) o.2.1.2.1 o.2.1.2.2.1 hm (by omega) (by omega)
/-- one more part -/
theorem AL_elem {sc : Nat × (Nat → Int32)} {t x e : Nat} {d key key' top kd m : Int} {j : Nat} (hT : isT t) (hX : x = 42 ∨ x = 44) {μ0 μ μ' : Mem} (h : AL sc t x d key e top kd m j μ0 μ) (hd : 0 ≤ d ∧ d ≤ 7) (hm : 1 ≤ m ∧ m ≤ 7) (hg : m < 3 ∨ j = 0) (hk : key' = 1 ∧ m = 2 ∧ (j : Int) % 2 = 0 ∨ key' = 0 ∧ ¬ (m = 2 ∧ (j : Int) % 2 = 0)) (hc : cch x μ = 44) (hE : EG sc t x (d + 1) key' e (stI μ 20 5 (cpl x μ + 1)) μ') : AL sc t x d key e top kd m (j + 1) μ0 μ' := by
  obtain ⟨h1, h2, h3, h4, h5⟩ := h
  obtain ⟨g1, g2, g3, g4, g5⟩ := hE
  have hcp := cpl_in h1
  have hsz := h1.2.1
  have hpl := h1.2.2.2.2.1
  have hlt := cch_lt hc (by decide)
  have a1 := h3.1
  have a5 := h3.2.2.2.2.1
  have hT' := hT
  unfold isT at hT
  have e7 : (stI μ 20 5 (cpl x μ + 1)).1 t 7 = μ.1 t 7 := stI_ne (by omega)
  rw [e7] at g2 g3
  have hA : AS t e top j (stI μ 20 5 (cpl x μ + 1)) := AS_mv h3 (stI_ne (by omega)) (stI_ne (by omega)) rfl
  have hpl' := g1.2.2.2.2.1
  have hs' := g1.2.1
  refine ⟨g1, Kp_trans (Kp_trans h2 (Kp_pl hT' (by omega)) (Int.le_refl _)) g2 (by omega), AS_step hA e7 g2 g3 (by omega), by omega, fun ν f hP => ?_⟩
  refine Stq_trans (h5 ν f hP) (fun ν' hu => ?_)
  obtain ⟨u, o⟩ := hu
  refine Stq_trans (sim_comma hT' hX h1 o.1 (by omega) o.2.1.2.1 o.2.1.2.2.1 (by omega) (by omega) (by omega) hc) (fun ν2 h2 => ?_)
  have o2 : OA t x (d + 1) top kd m j (stI μ 20 5 (cpl x μ + 1)) ν2 := OA_skp o h2.1 h2.2 rfl e7
  refine Stq_mono (SimE_to g5 ν2 0 ⟨h2.2, ⟨fun _ => ?_, ?_⟩, fun _ z => ?_, Or.inl rfl⟩) (fun ν3 hp => ?_)
  · rw [o2.2.1.2.1, o2.2.1.2.2.1]; omega
  · rw [o2.2.1.2.1, o2.2.1.2.2.1]; omega
  · rw [o2.2.1.2.1] at z; omega
  · rw [e7] at hp
    refine ⟨UPf_trans u (UPf_trans (skp_UPf h2.1) (Pst_in hp (by omega))), ?_⟩
    have := OA_step o2 (by omega) ⟨e7, by omega⟩ g2 hp
    rw [if_neg (by omega)] at this
    exact this
theorem AL_elemX {sc : Nat × (Nat → Int32)} {t x e : Nat} {d key key' top kd m w : Int} {j : Nat} (hT : isT t) (hX : x = 42 ∨ x = 44) {μ0 μ μ' : Mem} (h : AL sc t x d key e top kd m j μ0 μ) (hd : 0 ≤ d ∧ d ≤ 7) (hm : 1 ≤ m ∧ m ≤ 7) (hg : m < 3 ∨ j = 0) (hk : key' = 1 ∧ m = 2 ∧ (j : Int) % 2 = 0 ∨ key' = 0 ∧ ¬ (m = 2 ∧ (j : Int) % 2 = 0)) (hc : cch x μ = 44) (hE : EB sc t x (d + 1) key' (stI μ 20 5 (cpl x μ + 1)) μ' w) : EB sc t x d key μ0 μ' w := by
  obtain ⟨h1, h2, h3, h4, h5⟩ := h
  obtain ⟨g1, g2⟩ := hE
  have hcp := cpl_in h1
  have hsz := h1.2.1
  have a1 := h3.1
  have a5 := h3.2.2.2.2.1
  have hT' := hT
  unfold isT at hT
  have e7 : (stI μ 20 5 (cpl x μ + 1)).1 t 7 = μ.1 t 7 := stI_ne (by omega)
  refine ⟨⟨cfr_trans (cfr_trans h2.1 (cfr_I (Or.inl rfl))) g1.1, g1.2⟩, SimX_of (fun ν f hP => StX_of (h5 ν f hP) (fun ν' hu => ⟨hu.1.1, ?_⟩))⟩
  obtain ⟨u, o⟩ := hu
  refine StX_of (sim_comma hT' hX h1 o.1 (by omega) o.2.1.2.1 o.2.1.2.2.1 (by omega) (by omega) (by omega) hc) (fun ν2 h2 => ⟨skp_mfw h2.1, ?_⟩)
  have o2 : OA t x (d + 1) top kd m j (stI μ 20 5 (cpl x μ + 1)) ν2 := OA_skp o h2.1 h2.2 rfl e7
  refine SimX_to g2 ν2 0 ⟨h2.2, ⟨fun _ => ?_, ?_⟩, fun _ z => ?_, Or.inl rfl⟩
  · rw [o2.2.1.2.1, o2.2.1.2.2.1]; omega
  · rw [o2.2.1.2.1, o2.2.1.2.2.1]; omega
  · rw [o2.2.1.2.1] at z; omega
/-- the first part, no string -/
theorem A0_elem {sc : Nat × (Nat → Int32)} {t x e : Nat} {d key top : Int} (hT : isT t) (hX : x = 42 ∨ x = 44) {μ0 μ μ' : Mem} (h : A0 sc t x d key e top μ0 μ) (hd : 0 ≤ d ∧ d ≤ 7) (hc : cch x μ ≠ 93 ∧ cch x μ ≠ 34) (hE : EG sc t x (d + 1) 0 e μ μ') : AL sc t x d key e top 8 1 1 μ0 μ' := by
  obtain ⟨h1, h2, h3, ⟨h4, h5, h6⟩, hk, h7⟩ := h
  obtain ⟨g1, g2, g3, g4, g5⟩ := hE
  have hpl' := g1.2.2.2.2.1
  have hs' := g1.2.1
  refine ⟨g1, Kp_trans h2 g2 (by omega), AS_step h3 rfl g2 g3 (by omega), by omega, fun ν f hP => ?_⟩
  refine Stq_trans (h7 ν f hP) (fun ν' hu => ?_)
  obtain ⟨u, o⟩ := hu
  refine Stq_mono (SimE_to g5 ν' 1 ⟨o.1, ⟨fun _ => ?_, Or.inr ⟨rfl, ?_⟩⟩, fun _ _ => hc.2, Or.inr ⟨rfl, hc.1⟩⟩) (fun ν3 hp => ⟨UPf_trans u (Pst_in hp (by omega)), OA_step o (by omega) ⟨rfl, by omega⟩ g2 hp⟩)
  · rw [o.2.1.2.1, o.2.1.2.2.1]; decide
  · rw [o.2.1.2.1]; omega
theorem A0_elemX {sc : Nat × (Nat → Int32)} {t x e : Nat} {d key top w : Int} (hT : isT t) (hX : x = 42 ∨ x = 44) {μ0 μ μ' : Mem} (h : A0 sc t x d key e top μ0 μ) (hd : 0 ≤ d ∧ d ≤ 7) (hc : cch x μ ≠ 93 ∧ cch x μ ≠ 34) (hE : EB sc t x (d + 1) 0 μ μ' w) : EB sc t x d key μ0 μ' w := by
  obtain ⟨h1, h2, h3, ⟨h4, h5, h6⟩, hk, h7⟩ := h
  obtain ⟨g1, g2⟩ := hE
  refine ⟨⟨cfr_trans h2.1 g1.1, g1.2⟩, SimX_of (fun ν f hP => StX_of (h7 ν f hP) (fun ν' hu => ⟨hu.1.1, ?_⟩))⟩
  obtain ⟨u, o⟩ := hu
  refine SimX_to g2 ν' 1 ⟨o.1, ⟨fun _ => ?_, Or.inr ⟨rfl, ?_⟩⟩, fun _ _ => hc.2, Or.inr ⟨rfl, hc.1⟩⟩
  · rw [o.2.1.2.1, o.2.1.2.2.1]; decide
  · rw [o.2.1.2.1]; omega
/-- an open array without parts -/
theorem AS_new {t e : Nat} {top : Int} {μ : Mem} (h0 : 0 ≤ top ∧ top ≤ 199) (hn : μ.1 t 7 = top + 1) (hu : 0 ≤ μ.1 (t + 7) 1 ∧ μ.1 (t + 7) 1 ≤ 240) (h2 : μ.2.2 (t + 2) top = 0) (hw : 0 ≤ μ.2.2 (t + 3) top ∧ 0 ≤ μ.2.2 (t + 4) top ∧ μ.2.2 (t + 3) top + μ.2.2 (t + 4) top ≤ μ.1 (t + 7) 1) (hs : 0 ≤ μ.2.2 25 top ∧ μ.2.2 25 top ≤ 240) : AS t e top 0 μ := by
  refine ⟨by omega, ⟨⟨⟨by omega, by omega, hu⟩, fun k k1 k2 => by omega⟩, fun k k1 k2 => by omega⟩, by rw [hn]; rfl, fun m hm => by omega, by omega, h2, hw, hs⟩
theorem AS_word {t x e : Nat} {top : Int} {μ μ1 : Mem} (h : AS t e top 0 μ) (hn : μ.1 t 7 = top + 1) (hW : WDc t x μ μ1) : AS t e top 0 μ1 := by
  obtain ⟨a1, a2, a3, a4, a5, a6, a7, a8⟩ := h
  obtain ⟨w1, w2, w3, w4, w5, w6, w7, w8, w9, w10, w11⟩ := hW
  have hu := w1.2.2.2.2.2.1
  have hp := w1.2.2.2.2.1
  have hz := w1.2.1
  exact AS_new (by omega) (by omega) (by omega) (by rw [w3 (t + 2) (by omega)]; exact a6) (by rw [w3 (t + 3) (by omega), w3 (t + 4) (by omega)]; omega) (by rw [w3 25 (by omega)]; exact a8)
theorem A0_of {sc : Nat × (Nat → Int32)} {t x : Nat} {d key top : Int} (hT : isT t) (hX : x = 42 ∨ x = 44) {μ : Mem} {p : Int} (hC : CI t x μ) (hd : 0 ≤ d ∧ d ≤ 7) (h0 : μ.1 t 7 = top) (hn : 2 * μ.1 t 7 ≤ μ.1 20 5 + d) (hc : cch x μ = 91) (hp : p = sk (μ.2.2 (x + 1)) (μ.1 x 1) (cpl x μ + 1)) (e : Nat) : A0 sc t x d key e top μ (adw (stI μ 20 5 p) t 8 0 0 0 (cpl x μ)) := by
  have hlt := cch_lt hc (by decide)
  have hcp := cpl_in hC
  have hsz := hC.2.1
  have hpl := hC.2.2.2.2.1
  have hu := hC.2.2.2.2.2.1
  have hc0 := hC.2.2.2.2.2.2.2.2.2.2
  have hp1 : cpl x μ + 1 ≤ p := by rw [hp]; exact sk_ge _ _ _
  have hp2 : p ≤ μ.1 x 1 := by rw [hp]; exact sk_le _ _ _ (by omega)
  have hCp := CI_mv hT hX hC (p := p) (by omega) hp2
  obtain ⟨⟨r1, r2, r3, r4, r5, r6, r7⟩, rc, rI, rR, rA⟩ := adw_f (μ := stI μ 20 5 p) hT (k := 8) (v := 0) (f := 0) (z := 0) (s := cpl x μ)
  have hT' := hT
  unfold isT at hT
  have e7 : (stI μ 20 5 p).1 t 7 = top := (stI_ne (by omega)).trans h0
  rw [e7] at r1 r2 r3 r4 r5 r6 r7 rc rA
  have e5 : (adw (stI μ 20 5 p) t 8 0 0 0 (cpl x μ)).1 20 5 = p := (rI _ _ (by omega)).trans (stI_at _ _ _ _)
  have eu : (adw (stI μ 20 5 p) t 8 0 0 0 (cpl x μ)).1 (t + 7) 1 = μ.1 (t + 7) 1 := (rI _ _ (by omega)).trans (stI_ne (by omega))
  have ex : (adw (stI μ 20 5 p) t 8 0 0 0 (cpl x μ)).1 x 1 = μ.1 x 1 := (rI _ _ (by omega)).trans (stI_ne (by omega))
  have exx : (adw (stI μ 20 5 p) t 8 0 0 0 (cpl x μ)).2.2 (x + 1) = μ.2.2 (x + 1) := funext fun i => rA _ i (by omega)
  have hCa : CI t x (adw (stI μ 20 5 p) t 8 0 0 0 (cpl x μ)) := CI_of hCp (rI x 1 (by omega)) (rI _ _ (by omega)) (rI 21 2 (by omega)) rR (funext fun i => rA _ i (by omega)) (funext fun i => rA _ i (by omega)) (funext fun i => rA _ i (by omega)) (funext fun i => rA _ i (by omega)) (by rw [e5, show (stI μ 20 5 p).1 (t + 7) 1 = μ.1 (t + 7) 1 from stI_ne (by omega), show (stI μ 20 5 p).1 x 1 = μ.1 x 1 from stI_ne (by omega)]; omega) (by rw [rc]; omega)
  refine ⟨hCa, Kp_trans (Kp_pl hT' (by omega)) (m := top) ⟨⟨fun a q h1 h2 h3 h4 h5 => rI a q (by omega), rR, fun a h1 h2 h3 h4 => funext fun i => rA a i (by omega)⟩, fun a i ha hi => rA a i (by omega), fun i hi => rA _ i (by omega), by rw [rI _ _ (by omega)]; exact Int.le_refl _, by rw [rI 20 5 (by omega)]; exact Int.le_refl _, rI 20 6 (by omega)⟩ (Int.le_refl _), AS_new (by omega) rc (by rw [eu]; omega) r2 (by rw [r3, r4, eu]; omega) (by rw [r7]; omega), ⟨by rw [rc, e5]; omega, ?_, rc⟩, ⟨r1, r5, r6⟩, fun ν f hP => sim_open hT' hX hC (by omega) ⟨h0, by omega, by omega⟩ hc hp hP⟩
  show _ = sk ((adw (stI μ 20 5 p) t 8 0 0 0 (cpl x μ)).2.2 (x + 1)) ((adw (stI μ 20 5 p) t 8 0 0 0 (cpl x μ)).1 x 1) ((adw (stI μ 20 5 p) t 8 0 0 0 (cpl x μ)).1 20 5)
  rw [e5, ex, exx, hp, sk_sk]
theorem A0_X {sc : Nat × (Nat → Int32)} {t x : Nat} {key : Int} (hT : isT t) (hX : x = 42 ∨ x = 44) {μ : Mem} (hC : CI t x μ) (hc : cch x μ = 91) : EB sc t x 8 key μ (stI (stI μ 20 5 (cpl x μ)) 20 6 (cpl x μ)) (cpl x μ) := by
  have hcp := cpl_in hC
  have hsz := hC.2.1
  have hpl := hC.2.2.2.2.1
  exact ⟨Cbad_of hT (cfr_I (Or.inl rfl)) (CI_sk hT hX hC) (Or.inl rfl) (by omega), SimX_of (fun ν f hP => sim_openX hT hX hC hc hP)⟩
/-- the first string is a map's mark -/
theorem A0_map {sc : Nat × (Nat → Int32)} {t x e : Nat} {d key top : Int} (hT : isT t) (hX : x = 42 ∨ x = 44) {μ0 μ μ1 : Mem} (h : A0 sc t x d key e top μ0 μ) (hd : 0 ≤ d ∧ d ≤ 7) (h0 : 0 ≤ top ∧ top ≤ 124) (hc : cch x μ = 34) (hW : WDc t x μ μ1) (hS : SimW sc t x (d + 1) 0 μ μ1) (hA : isM t μ1) : AL sc t x d key e top 11 2 0 μ0 μ1 := by
  obtain ⟨h1, h2, h3, ⟨h4, h5, h6⟩, hk, h7⟩ := h
  have w4 := hW.2.2.2.1
  have w10 := hW.2.2.2.2.2.2.2.2.2.1
  refine ⟨hW.1, Kp_trans h2 (hW.kp top) (Int.le_refl _), AS_word h3 h6 hW, by omega, fun ν f hP => Stq_trans (h7 ν f hP) (fun ν' hu => Stq_mono (first_map hT hX h1 h5 hd hc hu.2 (by omega) (Or.inr rfl) ⟨h6, by omega⟩ hW hS hA) (fun ν2 h2 => ⟨UPf_trans hu.1 h2.1, h2.2⟩))⟩
/-- the first string is a tag of a tagged value -/
theorem A0_tag {sc : Nat × (Nat → Int32)} {t x e : Nat} {d key top : Int} (hT : isT t) (hX : x = 42 ∨ x = 44) {μ0 μ μ1 : Mem} (h : A0 sc t x d key e top μ0 μ) (hd : 0 ≤ d ∧ d ≤ 7) (h0 : 0 ≤ top ∧ top ≤ 124) (hc : cch x μ = 34) (hW : WDc t x μ μ1) (hS : SimW sc t x (d + 1) 0 μ μ1) (hG : isG t μ1) (hs : 2 < μ1.1 20 9) (hN : ∀ k, (k = 1 ∨ k = 2 ∨ k = 3 ∨ k = 4) → ¬ tgk (fun i => μ1.2.2 (t + 7 + 1) (μ1.1 20 8 + i)) (μ1.1 20 9) k) : AL sc t x d key e top 12 7 0 μ0 (stA (stA μ1 (t + 3) top (μ1.1 20 8 + 2)) (t + 4) top (μ1.1 20 9 - 2)) := by
  obtain ⟨h1, h2, h3, ⟨h4, h5, h6⟩, hk, h7⟩ := h
  have w4 := hW.2.2.2.1
  have w10 := hW.2.2.2.2.2.2.2.2.2.1
  have w8 := hW.2.2.2.2.2.2.2.1
  have hA := AS_word h3 h6 hW
  have hT' := hT
  unfold isT at hT
  have hC1 := hW.1
  have hu := hC1.2.2.2.2.2.1
  have hpl := hC1.2.2.2.2.1
  have hsz := hC1.2.1
  have y : ∀ a, a ≠ t + 3 → a ≠ t + 4 → (stA (stA μ1 (t + 3) top (μ1.1 20 8 + 2)) (t + 4) top (μ1.1 20 9 - 2)).2.2 a = μ1.2.2 a := fun a y1 y2 => by rw [stA_o2 y2, stA_o2 y1]
  have c3 : (stA (stA μ1 (t + 3) top (μ1.1 20 8 + 2)) (t + 4) top (μ1.1 20 9 - 2)).2.2 (t + 3) top = μ1.1 20 8 + 2 := by rw [stA_o2 (by omega), stA_at]
  have c4 : (stA (stA μ1 (t + 3) top (μ1.1 20 8 + 2)) (t + 4) top (μ1.1 20 9 - 2)).2.2 (t + 4) top = μ1.1 20 9 - 2 := stA_at _ _ _ _
  refine ⟨CI_of hC1 rfl rfl rfl rfl (y _ (by omega) (by omega)) (y _ (by omega) (by omega)) (y _ (by omega) (by omega)) (y _ (by omega) (by omega)) (by show μ1.1 (t + 7) 1 ≤ μ1.1 20 5 ∧ μ1.1 20 5 ≤ μ1.1 x 1; omega) hC1.2.2.2.2.2.2.2.2.2.2, Kp_trans (Kp_trans h2 (hW.kp top) (Int.le_refl _)) (m := top) ⟨cfr_trans (cfr_A (by omega)) (cfr_A (by omega)), fun a k _ hk => by rw [stA_ne (by omega), stA_ne (by omega)], fun k _ => by rw [y _ (by omega) (by omega)], Int.le_refl _, Int.le_refl _, rfl⟩ (Int.le_refl _), AS_new (by omega) (w4.trans h6) (by show 0 ≤ μ1.1 (t + 7) 1 ∧ μ1.1 (t + 7) 1 ≤ 240; omega) (by rw [y _ (by omega) (by omega)]; exact hA.2.2.2.2.2.1) (by rw [c3, c4]; show 0 ≤ μ1.1 20 8 + 2 ∧ 0 ≤ μ1.1 20 9 - 2 ∧ μ1.1 20 8 + 2 + (μ1.1 20 9 - 2) ≤ μ1.1 (t + 7) 1; omega) (by rw [y _ (by omega) (by omega)]; exact hA.2.2.2.2.2.2.2), by show 2 * μ1.1 t 7 ≤ μ1.1 20 5 + d + 2; omega, fun ν f hP => Stq_trans (h7 ν f hP) (fun ν' hu => Stq_mono (first_tag hT' hX h1 h5 hd hc hu.2 (by omega) (Or.inr rfl) ⟨h6, by omega⟩ hW hS hG hs hN) (fun ν2 h2 => ⟨UPf_trans hu.1 h2.1, h2.2⟩))⟩
/-- the first string is wrong -/
theorem A0_wX {sc : Nat × (Nat → Int32)} {t x e : Nat} {d key top w : Int} (hT : isT t) (hX : x = 42 ∨ x = 44) {μ0 μ μ' : Mem} (h : A0 sc t x d key e top μ0 μ) (hd : 0 ≤ d ∧ d ≤ 7) (hc : cch x μ = 34) (hB : Cbad t μ μ' w) (hS : SimWX sc t x (d + 1) 0 μ w) : EB sc t x d key μ0 μ' w := by
  obtain ⟨h1, h2, h3, ⟨h4, h5, h6⟩, hk, h7⟩ := h
  exact ⟨⟨cfr_trans h2.1 hB.1, hB.2⟩, SimX_of (fun ν f hP => StX_of (h7 ν f hP) (fun ν' hu => ⟨hu.1.1, first_X hT hX h1 h5 (by omega) hc hu.2.1 hu.2.2.1.2.1 hu.2.2.1.2.2.1 (Or.inr rfl) hS⟩))⟩
/-- the first string is a value -/
theorem A0_mean {sc : Nat × (Nat → Int32)} {t x e : Nat} {d key top : Int} (hT : isT t) (hX : x = 42 ∨ x = 44) {μ0 μ μ1 μ' : Mem} (h : A0 sc t x d key e top μ0 μ) (hd : 0 ≤ d ∧ d ≤ 7) (h0 : 0 ≤ top ∧ top ≤ 123) (hc : cch x μ = 34) (hW : WDc t x μ μ1) (hS : SimW sc t x (d + 1) 0 μ μ1) (hA : ¬ isM t μ1) (hG : ¬ (isG t μ1 ∧ 2 < μ1.1 20 9)) (g1 : CI t x μ') (g2 : Kp t (top + 1) μ1 μ') (g3 : GV t e (top + 1) μ') (g5 : μ'.1 20 5 = μ1.1 20 5) (g6 : μ'.1 t 7 = top + 1 + 1 ∨ μ'.1 t 7 = top + 1 + 2 ∧ 2 ≤ μ1.1 20 9) (hP : ∀ ν ν1 ν', RWd t x (d + 1) μ1 ν ν1 → mmP ν1 ν' (fun i => ν1.2.2 57 (ν1.1 46 24 + i)) (ν1.1 46 25) (ν1.1 46 24) (μ.1 20 5) (top + 1) → Pst0 t x (d + 1) (top + 1) μ' ν ν') : AL sc t x d key e top 8 1 1 μ0 μ' := by
  obtain ⟨h1, h2, h3, ⟨h4, h5, h6⟩, hk, h7⟩ := h
  have w10 := hW.2.2.2.2.2.2.2.2.2
  have w4 := hW.2.2.2.1
  refine ⟨g1, Kp_trans (Kp_trans h2 (hW.kp top) (Int.le_refl _)) g2 (by omega), AS_step (AS_word h3 h6 hW) (w4.trans h6) g2 g3 (by omega), by omega, fun ν f hP0 => Stq_trans (h7 ν f hP0) (fun ν' hu => ?_)⟩
  obtain ⟨u, o⟩ := hu
  refine Stq_mono (first_mean hT hX h1 h5 (by omega) hc o.1 ⟨o.2.1.1, by omega, by omega⟩ o.2.1.2.1 o.2.1.2.2.1 (Or.inr rfl) ⟨h6, by omega, by omega⟩ hW hS hA hG hP) (fun ν2 hp => ⟨UPf_trans u (Pst_in hp (by omega)), ?_⟩)
  exact OA_step o (by omega) ⟨h6, by omega⟩ (Kp_trans (hW.kp (top + 1)) g2 (Int.le_refl _)) hp
theorem A0_meanX {sc : Nat × (Nat → Int32)} {t x e : Nat} {d key top : Int} (hT : isT t) (hX : x = 42 ∨ x = 44) {μ0 μ μ1 μ' : Mem} (h : A0 sc t x d key e top μ0 μ) (hd : 0 ≤ d ∧ d ≤ 7) (h0 : 0 ≤ top ∧ top ≤ 123) (hc : cch x μ = 34) (hW : WDc t x μ μ1) (hS : SimW sc t x (d + 1) 0 μ μ1) (hA : ¬ isM t μ1) (hG : ¬ (isG t μ1 ∧ 2 < μ1.1 20 9)) (hB : Cbad t μ μ' (μ.1 20 5)) (hm : mn (fun i => μ1.2.2 (t + 7 + 1) (μ1.1 20 8 + i)) (μ1.1 20 9) = none) : EB sc t x d key μ0 μ' (μ.1 20 5) := by
  obtain ⟨h1, h2, h3, ⟨h4, h5, h6⟩, hk, h7⟩ := h
  exact ⟨⟨cfr_trans h2.1 hB.1, hB.2⟩, SimX_of (fun ν f hP => StX_of (h7 ν f hP) (fun ν' hu => ⟨hu.1.1, first_meanX hT hX h1 h5 (by omega) hc hu.2.1 ⟨hu.2.2.1.1, by omega, by omega⟩ hu.2.2.1.2.1 hu.2.2.1.2.2.1 (Or.inr rfl) ⟨h6, by omega, by omega⟩ hW hS hA hG hm⟩))⟩
