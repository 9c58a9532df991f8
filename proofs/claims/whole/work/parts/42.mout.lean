theorem outcome_m {h : AH} {b k : Nat} {p : PR} {f : FL} (C : MoX h b p) (i : IsSl h k p f) (hk : k < 104) : X15_outcome_f 195 (nI k) h = some (nI (outB p f), h) := by
  have w := C.q.w
  have wm := w.m
  have wr := w.r
  have w1 := w.ne
  have w2 := w.no
  have hx := C.x
  have post : ∀ n j, j ≤ p.1 61 0 → p.1 61 0 - j < n → X15_outcome_B53 n 195 (nI k) (nI j) h = some (if anyF (fun i => Tz p f (pl p) (p.1 65 i) (p.1 64 i)) j (p.1 61 0) then nI 0 else nI 2, h) := by
    intro n
    induction n with
    | zero => intro j _ h; exact absurd h (Nat.not_lt_zero _)
    | succ n ih =>
      intro j hj hn
      rcases Nat.lt_or_ge j (p.1 61 0) with hj | hj
      · have h1 := w.or j hj
        have h2 := w.oa j hj
        have hj' : ¬ p.1 61 0 ≤ j := by omega
        have ih := ih (j + 1) (by omega) (by omega)
        rw [anyF_step hj]
        simp (disch := omega) only [X15_outcome_B53, LT_e, G_T, BN_ok, if_true, if_false, nI_add, pk_mul, G_gx, nI_cl, nI_lI, nI_tI, nI_eI, C.s.c195, C.r4, C.q.s.c, C.q.no, hj', C.q.s.r26, C.q.s.c17, C.q.s.z17, C.q.s.r27, C.q.s.c18, C.q.s.z18, C.q.or, C.q.oa, C.l, isThere_m C.s hk (by omega : pl p < 7) (by omega : p.1 65 j < 4) (by omega : p.1 64 j < 32), i.T (pl p) (p.1 65 j) (Nat.le_refl _) h2 (p.1 64 j) (by omega), nI_z, bI_0, ih]
        cases Tz p f (pl p) (p.1 65 j) (p.1 64 j) <;> simp
      · have : j = p.1 61 0 := by omega
        subst this
        rw [anyF_end (Nat.le_refl _)]
        simp (disch := omega) only [X15_outcome_B53, LT_e, G_T, BN_ok, if_true, if_false, nI_add, pk_mul, G_gx, nI_cl, nI_lI, nI_tI, nI_eI, C.s.c195, C.r4, C.q.s.c, C.q.no, Nat.le_refl, eq_self, Bool.true_eq_false, Bool.false_eq_true, if_true, if_false]
  have pre : ∀ n j, j ≤ p.1 60 0 → p.1 60 0 - j < n → X15_outcome_B2 n 195 (nI k) (nI j) h = if allF (fun i => Tz p f (pl p) (p.1 63 i) (p.1 62 i)) j (p.1 60 0) then X15_outcome_B51 195 (nI k) h else some (nI 1, h) := by
    intro n
    induction n with
    | zero => intro j _ h; exact absurd h (Nat.not_lt_zero _)
    | succ n ih =>
      intro j hj hn
      rcases Nat.lt_or_ge j (p.1 60 0) with hj | hj
      · have h1 := w.er j hj
        have h2 := w.ea j hj
        have hj' : ¬ p.1 60 0 ≤ j := by omega
        have ih := ih (j + 1) (by omega) (by omega)
        rw [allF_step hj]
        simp (disch := omega) only [X15_outcome_B2, LT_e, G_T, BN_ok, if_true, if_false, nI_add, pk_mul, G_gx, nI_cl, nI_lI, nI_tI, nI_eI, C.s.c195, C.r4, C.q.s.c, C.q.ne, hj', C.q.s.r24, C.q.s.c15, C.q.s.z15, C.q.s.r25, C.q.s.c16, C.q.s.z16, C.q.er, C.q.ea, C.l, isThere_m C.s hk (by omega : pl p < 7) (by omega : p.1 63 j < 4) (by omega : p.1 62 j < 32), i.T (pl p) (p.1 63 j) (Nat.le_refl _) h2 (p.1 62 j) (by omega), nI_z, bI_0, ih]
        cases Tz p f (pl p) (p.1 63 j) (p.1 62 j) <;> simp
      · have : j = p.1 60 0 := by omega
        subst this
        rw [allF_end (Nat.le_refl _)]
        simp (disch := omega) only [X15_outcome_B2, LT_e, G_T, BN_ok, if_true, if_false, nI_add, pk_mul, G_gx, nI_cl, nI_lI, nI_tI, nI_eI, C.s.c195, C.r4, C.q.s.c, C.q.ne, Nat.le_refl, eq_self, Bool.true_eq_false, Bool.false_eq_true, if_true, if_false]
  have e1 : X15_outcome_f 195 (nI k) h = X15_outcome_B2 FU 195 (nI k) (nI 0) h := rfl
  have e2 : X15_outcome_B51 195 (nI k) h = X15_outcome_B53 FU 195 (nI k) (nI 0) h := rfl
  rw [e1, pre FU 0 (Nat.zero_le _) (FU_gt (by omega)), e2, post FU 0 (Nat.zero_le _) (FU_gt (by omega)), allF_0, anyF_0]
  unfold outB preP posP
  cases (List.range (p.1 60 0)).all fun i => Tz p f (pl p) (p.1 63 i) (p.1 62 i) <;> cases (List.range (p.1 61 0)).any fun i => Tz p f (pl p) (p.1 65 i) (p.1 64 i) <;> rfl
theorem HaS.fq {A : Nat → Prop} {h h' : AH} {a : Nat} (F : Fq A h h') (q : HaS h a) : HaS h' a := by
  have := q.w
  have e : a ≠ 174 ∧ a ≠ 180 := by omega
  unfold HaS at *; simp only [F.c, F.z, F.r _ e]; exact q
/-- THE RUN of a set, into a slot -/
theorem runs_m {h : AH} {b k a i0 : Nat} {p : PR} {l : List Nat} (C : MoX h b p) (hk : k < 104) (hb : xc h a = 16) (hz : i0 + l.length ≤ xz h a) (hz2 : i0 + l.length < 1000) (hv : ∀ i, i < l.length → xI h a (i0 + i) = nI (l.getD i 0)) (o : ∀ d, d ∈ l → OKf d) (ne : ¬ (203 ≤ a ∧ a ≤ 205)) : ∃ h', X15_runs_f 195 (nI k) a (nI i0) (nI l.length) h = some (nI (outB p (flOf l)), h') ∧ Fr (fun x => (203 ≤ x ∧ x ≤ 205) ∨ (210 ≤ x ∧ x ≤ 214)) h h' ∧ (∀ k' (p' : PR) f', k' ≠ k → p'.1 0 0 ≤ 4 → p'.1 4 0 ≤ 6 → pl p' ≤ 6 → IsSl h k' p' f' → IsSl h' k' p' f') ∧ IsSl h' k p (flOf l) := by
  obtain ⟨h1, e1, F1, i1⟩ := lay_ok C.s.h1 hb hz hz2 hv o ne
  have C1 := C.fr F1 (by intro a q; omega)
  obtain ⟨h2, e2, F2, i2⟩ := goes_m C1 i1 hk
  have C2 := C1.fr F2.F (by intro a q; omega)
  refine ⟨h2, ?_, (F1.mo (fun x q => by omega)).tr (F2.F.mo (fun x q => by omega)), fun k' p' f' hn hm hs hx q => (q.fr F1 (by intro a q1 q2; omega)).fs F2 hn hm hs hx, i2⟩
  unfold X15_runs_f
  simp only [C.s.c195, C.s.r195_26, C.s.c202, LT_e, G_T, BN_ok, if_true, if_false, e1, C1.s.c195, e2, C2.s.c195, outcome_m C2 i2 hk]
