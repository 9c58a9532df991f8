theorem puts_m {h : AH} {b k : Nat} {p : PR} {f g : FL} (C : MuX h b k p f g) : ∃ h', X15_puts_f 195 (nI k) h = some ((), h') ∧ MSt h h' p f g (pl p + 1) 0 := by
  have wm := C.m.q.w.m
  have hx := C.m.x
  obtain ⟨h', q, e⟩ := loopE (F := fun n t h' => X15_puts_B2 n 195 (nI k) (nI t) h') (E := fun h' => some ((), h')) (pl p + 1) (fun t h' => MSt h h' p f g t 0) (Nat.zero_le _) (by omega) (h := h) ⟨Fr.rf, fun u n r hu => by omega⟩
    (by
      intro n t h1 ht q
      have C1 := C.fr q.1 (fun x q => q)
      have ht' : ¬ pl p < t := by omega
      obtain ⟨h2, q2, e2⟩ := loopE (F := fun n' m h' => X15_puts_B12 (X15_puts_B2 n) n' 195 (nI k) (nI t) (nI m) h') (E := fun h' => X15_puts_B2 n 195 (nI k) (nI (t + 1)) h') (p.1 0 0) (fun m h' => MSt h h' p f g t m) (Nat.zero_le _) (by omega) (h := h1) q
        (by
          intro n' m h2 hm q2
          obtain ⟨h3, e3, q3⟩ := puts_cell (n := n') (X15_puts_B2 n) C hm (by omega : t ≤ pl p) q2
          exact ⟨h3, q3, e3⟩)
        (by
          intro n' h2 q2
          have C2 := C.fr q2.1 (fun x q => q)
          simp (disch := omega) only [X15_puts_B12, X15_puts_B410, LT_e, G_T, BN_ok, if_true, if_false, nI_add, pk_mul, G_gx, nI_cl, nI_lI, nI_tI, nI_eI, C2.m.s.c195, C2.m.r4, C2.m.q.s.c, C2.m.q.m, Nat.le_refl])
      refine ⟨h2, ⟨q2.1, fun u n r hu hr => q2.2 u n r (by omega) hr⟩, ?_⟩
      simp (disch := omega) only [X15_puts_B2, LT_e, G_T, BN_ok, if_true, if_false, nI_add, pk_mul, G_gx, nI_cl, nI_lI, nI_tI, nI_eI, C1.m.s.c195, C1.m.l, ht']
      exact e2)
    (by
      intro n h1 q
      have C1 := C.fr q.1 (fun x q => q)
      have ht' : pl p < pl p + 1 := by omega
      simp (disch := omega) only [X15_puts_B2, LT_e, G_T, BN_ok, if_true, if_false, nI_add, pk_mul, G_gx, nI_cl, nI_lI, nI_tI, nI_eI, C1.m.s.c195, C1.m.l, ht'])
  exact ⟨h', e, q⟩
theorem isSpoilt_m {h : AH} {b k : Nat} {p : PR} {f g : FL} (C : MuX h b k p f g) : ∃ h', X15_isSpoilt_f 195 (nI k) h = some (bI (spo p f g), h') ∧ Fr (fun x => x = 216) h h' := by
  obtain ⟨h1, e1, q1⟩ := puts_m C
  have C1 := C.fr q1.1 (fun x q => q)
  have M := C1.m
  have w := M.q.w
  have wm := w.m
  have wr := w.r
  have wo := w.no
  have hx := M.x
  have hk := C.k
  have loop : ∀ n j, j ≤ p.1 61 0 → p.1 61 0 - j < n → X15_isSpoilt_B7 n 195 (nI k) (nI j) h1 = some (bI (!anyF (fun i => Sz p f g (pl p) (p.1 65 i) (p.1 64 i)) j (p.1 61 0)), h1) := by
    intro n
    induction n with
    | zero => intro j _ h; exact absurd h (Nat.not_lt_zero _)
    | succ n ih =>
      intro j hj hn
      rcases Nat.lt_or_ge j (p.1 61 0) with hj | hj
      · have h1' := w.or j hj
        have h2' := w.oa j hj
        have hj' : ¬ p.1 61 0 ≤ j := by omega
        have ih := ih (j + 1) (by omega) (by omega)
        have e2 := q1.2 (pl p) (p.1 65 j) (p.1 64 j) (.inl ⟨by omega, h2'⟩) (by omega)
        rw [anyF_step hj]
        simp (disch := omega) only [X15_isSpoilt_B7, X15_isSpoilt_B86, LT_e, G_T, BN_ok, if_true, if_false, nI_add, pk_mul, G_gx, nI_cl, nI_lI, nI_tI, nI_eI, M.s.c195, M.r4, M.q.s.c, M.q.no, hj', M.q.s.r26, M.q.s.c17, M.q.s.z17, M.q.s.r27, M.q.s.c18, M.q.s.z18, M.q.or, M.q.oa, M.l, isThere_m M.s hk (by omega : pl p < 7) (by omega : p.1 65 j < 4) (by omega : p.1 64 j < 32), C1.s.T (pl p) (p.1 65 j) (Nat.le_refl _) h2' (p.1 64 j) (by omega), nI_z, bI_0, M.s.r195_35, M.s.c216, M.s.z216, has_m, e2, ih]
        cases hs : Sz p f g (pl p) (p.1 65 j) (p.1 64 j)
        · cases Tz p f (pl p) (p.1 65 j) (p.1 64 j) <;> simp
        · rw [Sz_sub w _ _ _ hs]; simp [bI]
      · have : j = p.1 61 0 := by omega
        subst this
        rw [anyF_end (Nat.le_refl _)]
        simp (disch := omega) only [X15_isSpoilt_B7, LT_e, G_T, BN_ok, if_true, if_false, nI_add, pk_mul, G_gx, nI_cl, nI_lI, nI_tI, nI_eI, M.s.c195, M.r4, M.q.s.c, M.q.no, Nat.le_refl]
        rfl
  refine ⟨h1, ?_, q1.1⟩
  unfold X15_isSpoilt_f spo
  rw [G_t C.m.s.c195, e1, BN_ok, loop FU 0 (Nat.zero_le _) (FU_gt (by omega)), anyF_0]
