/-! THE PURE PART, 18: the two ways to take a byte are one -/
theorem bLA {w : Int32} {k : Int} (h : k = 24 ∨ k = 16 ∨ k = 8 ∨ k = 0) : bL w k = bA w k := by
  have key : ∀ (x : BitVec 32) (s : Nat), s ≤ 24 → (x >>> s) &&& 255#32 = (x.sshiftRight s) &&& 255#32 := by
    intro x s hs
    apply BitVec.eq_of_getLsbD_eq
    intro i hi
    rw [BitVec.getLsbD_and, BitVec.getLsbD_and]
    by_cases h8 : i < 8
    · rw [BitVec.getLsbD_ushiftRight, BitVec.getLsbD_sshiftRight]
      simp [show ¬ 32 ≤ i by omega, show s + i < 32 by omega]
    · have h0 : (255#32).getLsbD i = false := by
        have h1 : ∀ i : Fin 32, ¬ i.val < 8 → (255#32).getLsbD i.val = false := by decide
        exact h1 ⟨i, hi⟩ h8
      rw [h0]
      simp
  rcases h with rfl | rfl | rfl | rfl <;> unfold bL bA a255 <;> congr 1 <;> apply Int32.toBitVec_inj.mp <;> rw [Int32.toBitVec_and, Int32.toBitVec_and]
  · exact key w.toBitVec 24 (by decide)
  · exact key w.toBitVec 16 (by decide)
  · exact key w.toBitVec 8 (by decide)
  · exact key w.toBitVec 0 (by decide)
