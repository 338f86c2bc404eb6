/-! ===== at the start ===== -/
theorem f0_at {o : Nat} (h : (MF.2.2.all fun q => decide (q.1 ≠ o)) = true) (k : Nat) : F00 o k = 0 := by
  rcases fL_mem MF.2.2 o k with z | z
  · exact z
  · have := List.all_eq_true.mp h _ z
    exact absurd rfl (of_decide_eq_true this)
theorem rr0 : RR F00 := by
  have a0 : F00 174 0 = 0 := by decide +kernel
  have a1 : F00 174 1 = 0 := by decide +kernel
  have a2 : F00 174 2 = 0 := by decide +kernel
  have a3 : F00 174 3 = 0 := by decide +kernel
  have a6 : F00 174 6 = 0 := by decide +kernel
  have b1 : F00 2 1 = F00 174 6 := by decide +kernel
  have b2 : F00 2 2 = F00 174 7 := by decide +kernel
  have b3 : F00 2 3 = F00 174 8 := by decide +kernel
  have e3 : ∀ k, F00 3 k = 0 := f0_at (by decide +kernel)
  have e4 : ∀ k, F00 4 k = 0 := f0_at (by decide +kernel)
  have e34 : ∀ k, F00 34 k = 0 := f0_at (by decide +kernel)
  have e175 : ∀ k, F00 175 k = 0 := f0_at (by decide +kernel)
  have g1 : F00 173 11 = -1 := by decide +kernel
  have g2 : F00 173 12 = 0 := by decide +kernel
  have g3 : F00 173 13 = -1 := by decide +kernel
  refine ⟨⟨by rw [a0]; decide, by rw [a1]; decide, by rw [a2]; decide, by rw [a3]; decide, by rw [a6]; decide, fun k hk => by rw [a6] at hk; omega, fun k hk => by rw [a0] at hk; omega, fun k hk => by rw [a1] at hk; omega, fun k hk => by rw [a2] at hk; omega, fun k hk => by rw [a3] at hk; omega⟩, ⟨rfl, ⟨b1, b2, b3⟩, fun k _ => ?_, fun k hk => by rw [a6] at hk; omega, fun i hi => ?_, fun k hk => by rw [a0] at hk; omega, fun k hk => by rw [a1] at hk; omega, fun k hk => by rw [a2] at hk; omega, fun k hk => by rw [a3] at hk; omega⟩, fun j _ => ⟨(e175 j).trans (e34 j).symm, Or.inl (e34 j)⟩, g1, g2, g3⟩
  · show -128 ≤ F00 3 k ∧ F00 3 k < 128
    rw [e3]; decide
  · show F00 4 i = F00 174 i
    rw [e4]
    rcases (show i = 0 ∨ i = 1 ∨ i = 2 ∨ i = 3 by omega) with rfl | rfl | rfl | rfl
    · exact a0.symm
    · exact a1.symm
    · exact a2.symm
    · exact a3.symm
