/-! THE PURE PART, 39: it holds at the start -/
theorem Si_mu0 {t : Nat} {r : Int} (ht : t = 2 ∨ t = 11) : Si mu0 t r := by
  have e : mu0.1 t 7 = 0 := by rcases ht with rfl | rfl <;> rfl
  have e2 : mu0.1 (t + 7) 1 = 0 := by rcases ht with rfl | rfl <;> rfl
  refine ⟨by omega, by rw [e]; rfl, ?_, fun z => by omega, fun k h1 h2 => by omega⟩
  rw [e]
  exact ⟨⟨by omega, by omega, by omega, by omega⟩, fun k h1 h2 => by omega⟩
theorem IvL_mu0 : IvL mu0 := by
  refine ⟨fun a n ha => ?_, ⟨44, Or.inr rfl, rfl, rfl, rfl, fun k h1 h2 => ?_⟩, ⟨rfl, by decide, by decide, fun k => ⟨⟨show (0 : Int) ≤ 0 by decide, show (0 : Int) < 65536 by decide⟩, ⟨show (0 : Int) ≤ 0 by decide, show (0 : Int) < 65536 by decide⟩⟩⟩, 2, 11, 26, Or.inl rfl, Or.inr (Or.inl rfl), Or.inr (Or.inr rfl), by decide, by decide, by decide, rfl, rfl, rfl, Or.inl ⟨rfl, Si_mu0 (Or.inl rfl), Si_mu0 (Or.inr rfl)⟩⟩
  · have e : mu0.1 a 1 = 0 := by
      rcases ha with ⟨rfl | rfl | rfl | rfl | rfl, _⟩ | ⟨rfl, _⟩ <;> rfl
    exact ⟨by omega, fun k => ⟨show (0 : Int) ≤ 0 by decide, show (0 : Int) < 65536 by decide⟩⟩
  · have h2 : k < (0 : Int) := h2
    omega
