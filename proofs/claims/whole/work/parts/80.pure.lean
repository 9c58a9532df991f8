/-- THE PLAIN CLAIM: on every script of at most 3072 ints the plain law answers 1, in the claim's room -/
theorem law_pure (sc : Nat → Int32) (L : Nat) (hL : L ≤ 3072) : ∃ h', L_law_f sc L hE = some (1, h') ∧ xn h' - 1 ≤ 601024 ∧ xs h' ≤ 7293034 := by
  obtain ⟨h', e, n, s⟩ := law_loop (sc := sc) hL FU 0 h0 (by show L + 6 ≤ 6 * 0 + 6 * 4000000; omega) (by omega) ⟨_, _, _, _, _, _, _, _, _, _, _, INV0⟩ (by rw [n0_h]; omega) (by have := s0_h; omega)
  exact ⟨h', law_start.trans e, by omega, by omega⟩
