/-- the Support at work: Works, book, base run, falls put -/
def SuX (h : AH) (wk b a L : Nat) (p : PR) (f : FL) : Prop := (SG h) ∧ (LaS h L) ∧ (IsW h wk b p) ∧ (IsCB h b p.1) ∧ (IsTr h a p f) ∧ (xR h 180 1 = wk) ∧ (xR h 180 2 = b) ∧ (xR h 180 3 = a) ∧ (xR h 180 4 = L) ∧ (1 ≤ pl p) ∧ (pl p ≤ 6)
theorem SuX.s {h : AH} {wk b a L : Nat} {p : PR} {f : FL} (q_ : SuX h wk b a L p f) : SG h := q_.1
theorem SuX.l {h : AH} {wk b a L : Nat} {p : PR} {f : FL} (q_ : SuX h wk b a L p f) : LaS h L := q_.2.1
theorem SuX.w {h : AH} {wk b a L : Nat} {p : PR} {f : FL} (q_ : SuX h wk b a L p f) : IsW h wk b p := q_.2.2.1
theorem SuX.q {h : AH} {wk b a L : Nat} {p : PR} {f : FL} (q_ : SuX h wk b a L p f) : IsCB h b p.1 := q_.2.2.2.1
theorem SuX.t {h : AH} {wk b a L : Nat} {p : PR} {f : FL} (q_ : SuX h wk b a L p f) : IsTr h a p f := q_.2.2.2.2.1
theorem SuX.r1 {h : AH} {wk b a L : Nat} {p : PR} {f : FL} (q_ : SuX h wk b a L p f) : xR h 180 1 = wk := q_.2.2.2.2.2.1
theorem SuX.r2 {h : AH} {wk b a L : Nat} {p : PR} {f : FL} (q_ : SuX h wk b a L p f) : xR h 180 2 = b := q_.2.2.2.2.2.2.1
theorem SuX.r3 {h : AH} {wk b a L : Nat} {p : PR} {f : FL} (q_ : SuX h wk b a L p f) : xR h 180 3 = a := q_.2.2.2.2.2.2.2.1
theorem SuX.r4 {h : AH} {wk b a L : Nat} {p : PR} {f : FL} (q_ : SuX h wk b a L p f) : xR h 180 4 = L := q_.2.2.2.2.2.2.2.2.1
theorem SuX.n {h : AH} {wk b a L : Nat} {p : PR} {f : FL} (q_ : SuX h wk b a L p f) : 1 ≤ pl p := q_.2.2.2.2.2.2.2.2.2.1
theorem SuX.x {h : AH} {wk b a L : Nat} {p : PR} {f : FL} (q_ : SuX h wk b a L p f) : pl p ≤ 6 := q_.2.2.2.2.2.2.2.2.2.2
theorem SuX.fr {A : Nat → Prop} {h h' : AH} {wk b a L : Nat} {p : PR} {f : FL} (F : Fr A h h') (n : ∀ x, A x → x = 181) (C : SuX h wk b a L p f) : SuX h' wk b a L p f := by
  have ha := C.t.s.w
  have hw := C.w.w
  exact ⟨C.s.fr F, C.l.fr F, C.w.fr F (fun q => by have := n _ q; omega), C.q.fr F (fun x q => by have := n _ q; omega), C.t.fr F (fun k hk q => by have := n _ q; omega), by rw [F.r]; exact C.r1, by rw [F.r]; exact C.r2, by rw [F.r]; exact C.r3, by rw [F.r]; exact C.r4, C.n, C.x⟩
def SVb (h : AH) (j t m r : Nat) : Bool := tl (xL h 181 ((t * 4 + m) * 10 + r)) j
theorem cases_loop {h : AH} {a e c : Nat} {B : BK} (s : SG h) (q : IsCl h a B c) (w : WC B c) (hr : B 1 0 ≤ 10) (he : e ≤ 270) : ∀ n k l, k ≤ B 14 c → B 14 c - k < n → ∃ v, X7_casesStand_B18 n 180 a (nI e) l (nI k) h = some (v, h) ∧ ∀ j, j < 64 → tl v j = (tl l j && cHf B c true (fun r => tl (xL h 181 (e + r)) j) k) := by
  have hn := w.n
  intro n
  induction n with
  | zero => intro k l _ h; exact absurd h (Nat.not_lt_zero _)
  | succ n ih =>
    intro k l hk hn
    rcases Nat.lt_or_ge k (B 14 c) with hk | hk
    · have h1 := w.cr k hk
      have h2 := w.cn k hk
      have hk' : ¬ B 14 c ≤ k := by omega
      simp (disch := omega) only [X7_casesStand_B18, X7_casesStand_B57, LT_e, G_T, BN_ok, if_true, if_false, nI_add, pk_mul, G_gx, nI_cl, nI_lI, nI_tI, nI_eI, s.c180, s.r180_0, s.c181, s.z181, q.s.c, q.s.r0, q.s.r1, q.s.c1, q.s.z1, q.s.c2, q.s.z2, q.n, q.cr k hk, q.cn k hk, hk', nI_z]
      by_cases h0 : B (40 + c) k = 0
      · obtain ⟨v, e1, e2⟩ := ih (k + 1) (l &&& xL h 181 (e + B (20 + c) k)) (by omega) (by omega)
        refine ⟨v, by rw [if_pos h0, e1], fun j hj => ?_⟩
        rw [e2 j hj, cHf_step hk, if_pos h0, tl_and, Bool.and_assoc]
      · obtain ⟨v, e1, e2⟩ := ih (k + 1) l (by omega) (by omega)
        refine ⟨v, by rw [if_neg h0, e1], fun j hj => ?_⟩
        rw [e2 j hj, cHf_step hk, if_neg h0]
        simp
    · have : k = B 14 c := by omega
      subst this
      refine ⟨l, ?_, fun j hj => ?_⟩
      · simp (disch := omega) only [X7_casesStand_B18, LT_e, G_T, BN_ok, if_true, if_false, nI_add, pk_mul, G_gx, nI_cl, nI_lI, nI_tI, nI_eI, q.s.c, q.s.r0, q.s.r1, q.s.c1, q.s.z1, q.s.c2, q.s.z2, q.n, Nat.le_refl]
      · rw [cHf_end (Nat.le_refl _), Bool.and_true]
theorem cases_ok {h : AH} {a m t c : Nat} {B : BK} (s : SG h) (q : IsCl h a B c) (w : WC B c) (hr : B 1 0 ≤ 10) (hm : m < 4) (ht : t ≤ 6) : ∃ v, X7_casesStand_f 180 a (nI m) (nI t) h = some (v, h) ∧ ∀ j, j < 64 → tl v j = cH B c true (SVb h j t m) := by
  unfold X7_casesStand_f
  simp (disch := omega) only [LT_e, G_T, BN_ok, if_true, if_false, nI_add, pk_mul, G_gx, nI_cl, nI_lI, nI_tI, nI_eI]
  have := w.n
  obtain ⟨v, e1, e2⟩ := cases_loop s q w hr (e := (t * 4 + m) * 10) (by omega) FU 0 (-1) (by omega) (by unfold FU; omega)
  refine ⟨v, e1, fun j hj => ?_⟩
  rw [e2 j hj, tl_m1 j hj, Bool.true_and]
  rfl
theorem addFacts_ok {h : AH} {wk b a L m : Nat} {p : PR} {f : FL} {y : Int64} (C : SuX h wk b a L p f) (hm : m < p.1 0 0) : ∃ h', X7_addFacts_f 180 (nI m) y h = some ((), h') ∧ Fr (fun x => x = 181) h h' ∧ (∀ i, ¬ (m * 10 ≤ i ∧ i < m * 10 + 10) → xL h' 181 i = xL h 181 i) ∧ ∀ r, r < p.1 1 0 → ∀ j, j < 64 → SVb h' j 0 m r = if factB p m r then tl y j else SVb h j 0 m r := by
  have wm := C.q.w.m
  have wr := C.q.w.r
  obtain ⟨u, u1, u2⟩ := factsAt_ok C.q (m := m) (by omega)
  have e0 : X7_addFacts_f 180 (nI m) y h = X7_addFacts_B30 FU 180 y u (nI (m * 10)) (nI 0) h := by
    unfold X7_addFacts_f
    rw [G_t C.s.c180, C.r1, G_t C.w.c, C.r2, G_t C.q.s.c, C.w.S, u1, BN_ok, cell_ok, BN_ok, LT_e, pk_mul, Nat.zero_mul, Nat.zero_add]
  obtain ⟨h', ⟨F, out, val⟩, e⟩ := loopE (F := fun n k h' => X7_addFacts_B30 n 180 y u (nI (m * 10)) (nI k) h') (E := fun h' => some ((), h')) (p.1 1 0) (fun k h' => Fr (fun x => x = 181) h h' ∧ (∀ i, ¬ (m * 10 ≤ i ∧ i < m * 10 + k) → xL h' 181 i = xL h 181 i) ∧ ∀ r, r < k → xL h' 181 (m * 10 + r) = if factB p m r then y else xL h 181 (m * 10 + r)) (Nat.zero_le _) (by omega) (h := h) ⟨Fr.rf, fun _ _ => rfl, fun r hr => absurd hr (Nat.not_lt_zero _)⟩
    (by
      rintro n k h' hk ⟨F, out, val⟩
      have C' := C.fr F (fun x q => q)
      have hk' : ¬ p.1 1 0 ≤ k := by omega
      simp (disch := omega) only [X7_addFacts_B30, X7_addFacts_B63, LT_e, G_T, BN_ok, if_true, if_false, nI_add, pk_mul, G_gx, nI_cl, nI_lI, nI_tI, nI_eI, C'.s.c180, C'.r2, C'.q.s.c, C'.q.r, hk', nI_z, b_test0n, u2 k (by omega), C'.s.r180_0, C'.s.c181, C'.s.z181]
      cases hf : factB p m k
      · refine ⟨h', ⟨F, fun i hi => out i (by omega), fun r hr => ?_⟩, by simp only [eq_self, Bool.true_eq_false, Bool.false_eq_true, if_true, if_false]⟩
        by_cases er : r = k
        · rw [er, hf, out _ (by omega)]; rfl
        · exact val r (by omega)
      · refine ⟨_, ⟨F.tr (Fr.l rfl), fun i hi => ?_, fun r hr => ?_⟩, by simp only [eq_self, Bool.true_eq_false, Bool.false_eq_true, if_true, if_false]; rfl⟩
        · rw [xL_pL, if_neg (by omega)]; exact out i (by omega)
        · rw [xL_pL]
          by_cases er : r = k
          · rw [if_pos ⟨rfl, by omega⟩, er, hf]; rfl
          · rw [if_neg (by omega)]; exact val r (by omega))
    (by
      rintro n h' ⟨F, out, val⟩
      have C' := C.fr F (fun x q => q)
      simp (disch := omega) only [X7_addFacts_B30, LT_e, G_T, BN_ok, if_true, if_false, nI_add, pk_mul, G_gx, nI_cl, nI_lI, nI_tI, nI_eI, C'.s.c180, C'.r2, C'.q.s.c, C'.q.r, Nat.le_refl])
  refine ⟨h', by rw [e0]; exact e, F, fun i hi => out i (by omega), fun r hr j hj => ?_⟩
  have e1 : (0 * 4 + m) * 10 + r = m * 10 + r := by omega
  unfold SVb
  rw [e1, val r hr]
  split <;> rfl
