/-! both at the start -/
def z0L : List (Nat × Nat) := [(58, 4), (195, 8), (1, 13), (1, 16), (195, 3), (63, 0), (63, 1), (63, 2), (63, 3), (63, 4), (63, 5), (63, 6), (62, 1), (62, 2), (120, 1), (195, 16), (126, 1), (195, 17), (1, 14), (195, 18), (147, 0), (147, 1), (147, 2), (147, 3), (198, 0), (198, 1), (198, 2), (198, 3), (162, 1), (195, 42), (164, 1), (195, 43), (122, 1), (166, 1), (1, 15), (195, 1)]
set_option maxRecDepth 100000 in
theorem z0_a : ∀ q ∈ z0L, xI h0 q.1 q.2 = nI 0 := by decide +kernel
set_option maxRecDepth 100000 in
theorem z0_b : ∀ q ∈ [(145, 10), (195, 40), (145, 11), (195, 41), (145, 12), (195, 47), (195, 2)], xI h0 q.1 q.2 = -1 := by decide +kernel
set_option maxRecDepth 100000 in
theorem z0_r : xR h0 1 12 = 2 ∧ xR h0 62 0 = 63 ∧ xR h0 195 4 = 0 ∧ xR h0 159 0 = 168 := by decide +kernel
set_option maxRecDepth 100000 in
theorem z0_f : ∀ i, 1 ≤ i → i < 101 → xR h0 159 i = 0 := by
  have : ∀ i, i < 101 → 1 ≤ i → xR h0 159 i = 0 := by decide +kernel
  exact fun i a b => this i b a
set_option maxRecDepth 100000 in
theorem s0_ : xs hB0 ≤ 100000 := by decide +kernel
theorem s0_h : xs h0 ≤ 100001 := by
  have := s0_
  show xs hB0 + 1 ≤ 100001
  omega
theorem n0_h : xn h0 = 227 := by show xn hB0 + 1 = 227; rw [hB0_n]
theorem INV0 : INV h0 false (B0_, 0, nI 0, nI 0, nI 0, nI 0) 63 0 0 [] [] [] (fun _ => 0) [] [] := by
  have z := fun a k (q : (a, k) ∈ z0L) => z0_a (a, k) q
  have y := fun a k (q : (a, k) ∈ [(145, 10), (195, 40), (145, 11), (195, 41), (145, 12), (195, 47), (195, 2)]) => z0_b (a, k) q
  obtain ⟨r1, r2, r3, r4⟩ := z0_r
  refine ⟨SG0, gT_0 (z 58 4 (by decide)) (z 195 8 (by decide)), ⟨(z 1 13 (by decide)).trans rfl, (z 1 16 (by decide)).trans (z 195 3 (by decide)).symm, .inr ⟨rfl, r1⟩, r2⟩, ⟨(fun q => nomatch q), fun _ => ⟨fun k hk => ?_, z 62 1 (by decide), z 62 2 (by decide), r3, .inr rfl⟩⟩, gF_nil SG0 (z 120 1 (by decide)) (z 195 16 (by decide)), gM_nil SG0 (z 126 1 (by decide)) (z 195 17 (by decide)), gK_nil (z 1 14 (by decide)) (z 195 18 (by decide)), ⟨fun k hk => ?_, fun k hk => ?_, by decide⟩, ⟨(y 145 10 (by decide)).trans (y 195 40 (by decide)).symm, (y 145 11 (by decide)).trans (y 195 41 (by decide)).symm, (y 145 12 (by decide)).trans (y 195 47 (by decide)).symm⟩, gO_nil SG0 (z 162 1 (by decide)) (z 195 42 (by decide)), gE_nil SG0 (z 164 1 (by decide)) (z 195 43 (by decide)), ⟨z 122 1 (by decide), z 166 1 (by decide)⟩, (fun _ => ⟨rfl, rfl, rfl, fun _ _ => rfl⟩), ⟨r4, fun i a b c => absurd (z0_f i a b) c, fun i j a b c d => absurd (z0_f i a (by omega)) d, (fun q => nomatch q)⟩, (z 1 15 (by decide)).trans (z 195 1 (by decide)).symm, ?_⟩
  · have : k = 0 ∨ k = 1 ∨ k = 2 ∨ k = 3 ∨ k = 4 ∨ k = 5 ∨ k = 6 := by omega
    rcases this with e | e | e | e | e | e | e <;> rw [e] <;> exact z 63 _ (by decide)
  · have : k = 0 ∨ k = 1 ∨ k = 2 ∨ k = 3 := by omega
    rcases this with e | e | e | e <;> rw [e] <;> exact z 147 _ (by decide)
  · have : k = 0 ∨ k = 1 ∨ k = 2 ∨ k = 3 := by omega
    rcases this with e | e | e | e <;> rw [e] <;> exact z 198 _ (by decide)
  · rw [z 1 15 (by decide), if_neg (by decide)]; exact y 195 2 (by decide)
theorem law_start {sc : Nat → Int32} {L : Nat} : L_law_f sc L hE = L_law_B23 sc L FU 1 195 226 (nI 0) h0 := by
  have a1 : X11_init_f 1 (pN hE 11 18) = some ((), hA) := opt_get hA_ok ((), hE)
  have a2 : X15_init_f 195 (pN hA 15 51) = some ((), hB0) := opt_get hB0_ok ((), hE)
  have n1 : xn hE = 1 := rfl
  have c1 : xc (pN hE 11 18) 1 ≠ 99 := by decide
  have c2 : xc (pN hA 15 51) 195 ≠ 99 := by rw [xc_pN, if_pos hA_n.symm]; decide
  have e0 : pN hB0 17 1 = h0 := rfl
  unfold L_law_f
  rw [LT_e, LT_e, n1, G_t c1, a1, BN_ok, LT_e, LT_e, hA_n, G_t c2, a2, BN_ok, LT_e, LT_e, hB0_n, nI_cl (by decide), e0]
