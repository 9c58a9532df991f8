/-- the lowest bit goes -/
def lbN (n : Nat) : Nat := n &&& (n - 1)
theorem bits_m {h : AH} : ∀ n, n < 64 → X15_bits_f (nI n) h = some (nI (bcN n), h) := by
  have s1 : ∀ n, n < 64 → 0 < n → (nI n &&& (nI n - nI 1)) = nI (lbN n) ∧ lbN n < n ∧ bcN n = bcN (lbN n) + 1 := by decide +kernel
  have loop : ∀ f n c, n < 64 → n < f → X15_bits_B4 f (nI c) (nI n) h = some (nI (c + bcN n), h) := by
    intro f
    induction f with
    | zero => intro n c _ h; exact absurd h (Nat.not_lt_zero _)
    | succ f ih =>
      intro n c hn hf
      rw [X15_bits_B4]
      by_cases e : n = 0
      · rw [if_pos (by rw [e]; exact nI_0), e]; rfl
      · obtain ⟨a1, a2, a3⟩ := s1 n hn (by omega)
        rw [if_neg (nI_ne0 (by omega) (by omega)), LT_e, LT_e, a1, nI_add, ih _ _ (by omega) (by omega), a3, show c + 1 + bcN (lbN n) = c + (bcN (lbN n) + 1) by omega]
  intro n hn
  unfold X15_bits_f
  rw [loop FU n 0 hn (FU_gt (by omega)), Nat.zero_add]
