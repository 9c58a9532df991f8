theorem any_upd {n s : Nat} {g g' : Nat → Bool} {x : Bool} (hs : s < n) (h1 : ∀ i, i < n → i ≠ s → g' i = g i) (h2 : g' s = (g s || x)) : (List.range n).any g' = ((List.range n).any g || x) := by
  rw [Bool.eq_iff_iff, Bool.or_eq_true, List.any_eq_true, List.any_eq_true]
  constructor
  · rintro ⟨i, hi, hg⟩
    by_cases e : i = s
    · subst e
      rw [h2, Bool.or_eq_true] at hg
      rcases hg with hg | hg
      · exact .inl ⟨i, hi, hg⟩
      · exact .inr hg
    · rw [h1 i (List.mem_range.mp hi) e] at hg
      exact .inl ⟨i, hi, hg⟩
  · rintro (⟨i, hi, hg⟩ | hx)
    · refine ⟨i, hi, ?_⟩
      by_cases e : i = s
      · subst e; rw [h2, hg]; rfl
      · rw [h1 i (List.mem_range.mp hi) e]; exact hg
    · exact ⟨s, List.mem_range.mpr hs, by rw [h2, hx, Bool.or_true]⟩
theorem hB_cg {p : PR} {f : FL} {T T' : Nat → Nat → Nat → Bool} {s u : Nat} (w : WC p.1 (10 + s)) (h : ∀ r, r < p.1 1 0 → T u (p.1 11 (10 + s) - 1) r = T' u (p.1 11 (10 + s) - 1) r) : hB p f T s u = hB p f T' s u := by
  unfold hB; rw [cH_congr w h]
theorem arrive_ok {h : AH} {wk b L t s : Nat} {p : PR} {l : Int64} (C : CoX h wk b L p) (hs : s < p.1 4 0) (ht : t < 100) : ∃ h', X2_arrive_f 174 (b + 38 + 3 * s) (nI t) l h = some ((), h') ∧ Fr (fun a => a = 176) h h' ∧ ∀ i, ∀ j, tl (xL h' 176 i) j = (tl (xL h 176 i) j || (decide (t ≤ pl p ∧ i = (t * 4 + p.1 12 (10 + s)) * 10 + p.1 10 (10 + s)) && tl l j)) := by
  have cl := C.q.se s hs
  have w := C.q.w.se s hs
  have w1 := w.row
  have w2 := C.q.w.st s hs
  have wr := C.q.w.r
  have wm := C.q.w.m
  have hx := C.x
  unfold X2_arrive_f
  simp (disch := omega) only [LT_e, G_T, BN_ok, if_true, if_false, C.s.c174, C.r7, C.w.c, C.w.l, nI_tI]
  by_cases h0 : pl p < t
  · refine ⟨h, by rw [if_pos h0], Fr.rf, fun i j => ?_⟩
    rw [decide_eq_false (by omega)]; simp
  · rw [if_neg h0]
    simp (disch := omega) only [LT_e, G_T, BN_ok, if_true, if_false, nI_add, pk_mul, G_gx, nI_cl, nI_lI, nI_tI, nI_eI, cl.s.c, cl.tg (by omega), cell_ok, cl.row, C.s.r174_1, C.s.c176, C.s.z176]
    refine ⟨_, rfl, Fr.l rfl, fun i j => ?_⟩
    rw [xL_pL]
    by_cases hi : i = (t * 4 + p.1 12 (10 + s)) * 10 + p.1 10 (10 + s)
    · rw [if_pos ⟨rfl, hi⟩, tl_or, decide_eq_true ⟨by omega, hi⟩, ← hi]; simp
    · rw [if_neg (fun q => hi q.2), decide_eq_false (fun q => hi q.2)]; simp
theorem sendWords_ok {h : AH} {wk b L t s : Nat} {p : PR} (C : CoX h wk b L p) (hs : s < p.1 4 0) (ht : t < pl p) : ∃ h', X2_sendWords_f 174 (nI s) (nI t) h = some ((), h') ∧ Fr (fun a => a = 176 ∨ a = 178 ∨ a = 179) h h' ∧ (∀ i, i ≠ s → xL h' 178 i = xL h 178 i) ∧ (∀ i, i ≠ s * 7 + t → xL h' 179 i = xL h 179 i) ∧ ∀ j, j < 64 → tl (xL h' 178 s) j = hB p (laf h L j) (TVb h j) s t ∧ tl (xL h' 179 (s * 7 + t)) j = (hB p (laf h L j) (TVb h j) s t || (bt (pA p) s && tl (xL h 178 s) j && !fD (laf h L j) (p.1 11 (10 + s) - 1) t)) ∧ ∀ i, tl (xL h' 176 i) j = (tl (xL h 176 i) j || (decide (t + (if fA (laf h L j) s t then 3 else 1) ≤ pl p ∧ i = ((t + (if fA (laf h L j) s t then 3 else 1)) * 4 + p.1 12 (10 + s)) * 10 + p.1 10 (10 + s)) && (hB p (laf h L j) (TVb h j) s t || (bt (pA p) s && tl (xL h 178 s) j && !fD (laf h L j) (p.1 11 (10 + s) - 1) t)) && !fO (laf h L j) s t)) := by
  have cl := C.q.se s hs
  have w := C.q.w.se s hs
  have w1 := w.row
  have wp := w.pl
  have w2 := C.q.w.st s hs
  have w3 := C.q.w.sp s hs
  have wr := C.q.w.r
  have wm := C.q.w.m
  have wse := C.q.w.s
  have hx := C.x
  have hL := C.l.w
  have e6 : nI (p.1 11 (10 + s)) - nI 1 = nI (p.1 11 (10 + s) - 1) := pk_sub w3
  -- B85
  have B85 : ∀ (v y : Int64), ∃ h', X2_sendWords_B85 174 (nI s) (nI t) (b + 38 + 3 * s) v y h = some ((), h') ∧ Fr (fun a => a = 176 ∨ a = 178 ∨ a = 179) h h' ∧ (∀ i, i ≠ s → xL h' 178 i = xL h 178 i) ∧ (∀ i, i ≠ s * 7 + t → xL h' 179 i = xL h 179 i) ∧ ∀ j, j < 64 → tl (xL h' 178 s) j = tl v j ∧ tl (xL h' 179 (s * 7 + t)) j = tl y j ∧ ∀ i, tl (xL h' 176 i) j = (tl (xL h 176 i) j || (decide (t + (if fA (laf h L j) s t then 3 else 1) ≤ pl p ∧ i = ((t + (if fA (laf h L j) s t then 3 else 1)) * 4 + p.1 12 (10 + s)) * 10 + p.1 10 (10 + s)) && tl y j && !fO (laf h L j) s t)) := by
    intro v y
    unfold X2_sendWords_B85
    simp (disch := omega) only [LT_e, G_T, BN_ok, if_true, if_false, nI_add, pk_mul, G_gx, nI_cl, nI_lI, nI_tI, nI_eI, xc_pI, xz_pI, xR_pI, xL_pI, xc_pL, xz_pL, xR_pL, xI_pL, xn_pI, xn_pL, C.s.c174, C.s.r174_3, C.s.c178, C.s.z178, C.s.r174_4, C.s.c179, C.s.z179, C.r9, C.l.c, C.l.r0, C.l.c1, C.l.z1, C.l.r1, C.l.c2, C.l.z2]
    have F0 : Fr (fun a => a = 178 ∨ a = 179) h (pL (pL h 178 s v) 179 (s * 7 + t) y) := (Fr.l (.inl rfl)).tr (Fr.l (.inr rfl))
    have C0 := C.fr F0 (by intro a q; omega)
    simp only [F0.L _ (by omega : ¬ (L + 1 = 178 ∨ L + 1 = 179)), F0.L _ (by omega : ¬ (L + 2 = 178 ∨ L + 2 = 179))]
    obtain ⟨h1, e1, F1, a1⟩ := arrive_ok (t := t + 1) (l := (y &&& (xL h (L + 1) (s * 7 + t) ^^^ -1)) &&& (xL h (L + 2) (s * 7 + t) ^^^ -1)) C0 hs (by omega)
    have C1 := C0.fr F1 (by intro a q; omega)
    rw [e1]
    simp (disch := omega) only [LT_e, G_T, BN_ok, if_true, if_false, nI_add, pk_mul, G_gx, nI_cl, nI_lI, nI_tI, nI_eI, C1.s.c174, C1.r9, C1.l.c, C1.l.r1, C1.l.c2, C1.l.z2, F1.L _ (by omega : ¬ L + 2 = 176), F0.L _ (by omega : ¬ (L + 2 = 178 ∨ L + 2 = 179))]
    obtain ⟨h2, e2, F2, a2⟩ := arrive_ok (t := t + 3) (l := (y &&& (xL h (L + 1) (s * 7 + t) ^^^ -1)) &&& xL h (L + 2) (s * 7 + t)) C1 hs (by omega)
    rw [show nI (t + 1 + 2) = nI (t + 3) from rfl, e2]
    refine ⟨h2, rfl, (F0.mo (fun a q => .inr q)).tr ((F1.tr F2).mo (fun a q => .inl q)), fun i hi => ?_, fun i hi => ?_, fun j hj => ⟨?_, ?_, fun i => ?_⟩⟩
    · rw [F2.L _ (by decide), F1.L _ (by decide), xL_pL, if_neg (by omega), xL_pL, if_neg (by omega)]
    · rw [F2.L _ (by decide), F1.L _ (by decide), xL_pL, if_neg (by omega), xL_pL, if_neg (by omega)]
    · rw [F2.L _ (by decide), F1.L _ (by decide), xL_pL, if_neg (by omega), xL_pL, if_pos ⟨rfl, rfl⟩]
    · rw [F2.L _ (by decide), F1.L _ (by decide), xL_pL, if_pos ⟨rfl, rfl⟩]
    · rw [a2, a1, F0.L _ (by decide), laf_A (by omega) (by omega), laf_O (by omega) (by omega)]
      simp only [tl_and, tl_not hj]
      cases tl (xL h (L + 2) (s * 7 + t)) j <;> simp [Bool.and_assoc]
  unfold X2_sendWords_f X10_isBare_f X10_isAgain_f
  simp (disch := omega) only [LT_e, G_T, BN_ok, if_true, if_false, nI_add, pk_mul, G_gx, nI_cl, nI_lI, nI_tI, nI_eI, C.s.c174, C.r8, C.q.s.c, C.q.s.r11, C.q.s.c5, C.q.s.z5, C.q.s.se, cl.s.c, C.r7, C.w.c, C.w.B, C.w.A, nI_z, b_test0n, cl.pl, e6, C.s.r174_3, C.s.c178, C.s.z178, C.r9, C.l.c, C.l.r2, C.l.c3, C.l.z3]
  have heldv : ∀ bare : Int32, (bare = nI 0 ↔ bt (pb p) s = false) → ∃ v, X2_held_f 174 (b + 38 + 3 * s) (nI (p.1 11 (10 + s) - 1)) (nI t) bare h = some (v, h) ∧ ∀ j, j < 64 → tl v j = hB p (laf h L j) (TVb h j) s t := by
    intro bare hb
    obtain ⟨v, e1, e2⟩ := held_ok C.s C.l C.r9 cl w wr (m := p.1 11 (10 + s) - 1) (t := t) (bare := bare) (by omega) (by omega)
    refine ⟨v, e1, fun j hj => ?_⟩
    rw [e2 j hj, ← laf_D (by omega) (by omega)]
    unfold hB
    congr 2
    cases hbb : bt (pb p) s
    · rw [decide_eq_true (hb.mpr hbb)]; rfl
    · rw [decide_eq_false (fun q => by rw [hb.mp q] at hbb; cases hbb)]; rfl
  obtain ⟨bare, hb, hbare⟩ : ∃ bare, (if bt (pb p) s = false then some (nI 0, h) else some (nI 1, h)) = some (bare, h) ∧ (bare = nI 0 ↔ bt (pb p) s = false) := by
    cases bt (pb p) s
    · exact ⟨nI 0, rfl, by simp⟩
    · exact ⟨nI 1, rfl, by decide⟩
  obtain ⟨v, e1, e2⟩ := heldv bare hbare
  rw [hb, BN_ok, e1, BN_ok]
  simp (disch := omega) only [LT_e, G_T, BN_ok, if_true, if_false, nI_add, pk_mul, G_gx, nI_cl, nI_lI, nI_tI, nI_eI, C.s.c174, cl.s.c, C.r7, C.w.c, C.w.A, nI_z, b_test0n, cl.pl, e6, C.s.r174_3, C.s.c178, C.s.z178, C.r9, C.l.c, C.l.r2, C.l.c3, C.l.z3]
  cases hA : bt (pA p) s
  · simp only [eq_self, Bool.true_eq_false, Bool.false_eq_true, if_true, if_false, BN_ok]
    obtain ⟨h', e3, F, o1, o2, val⟩ := B85 v v
    refine ⟨h', e3, F, o1, o2, fun j hj => ?_⟩
    obtain ⟨q1, q2, q3⟩ := val j hj
    refine ⟨by rw [q1, e2 j hj], by rw [q2, e2 j hj]; simp, fun i => ?_⟩
    rw [q3, e2 j hj]; simp
  · simp (disch := omega) only [eq_self, Bool.true_eq_false, Bool.false_eq_true, if_true, if_false, LT_e, G_T, BN_ok, if_true, if_false, nI_add, pk_mul, G_gx, nI_cl, nI_lI, nI_tI, nI_eI, show (1 = 0) = False from eq_false (by decide), C.s.c174, cl.s.c, cl.pl, e6, C.s.r174_3, C.s.c178, C.s.z178, C.r9, C.l.c, C.l.r2, C.l.c3, C.l.z3]
    obtain ⟨h', e3, F, o1, o2, val⟩ := B85 v (v ||| xL h 178 s &&& (v ^^^ -1) &&& (xL h (L + 3) ((p.1 11 (10 + s) - 1) * 7 + t) ^^^ -1))
    refine ⟨h', e3, F, o1, o2, fun j hj => ?_⟩
    obtain ⟨q1, q2, q3⟩ := val j hj
    have e4 : tl (v ||| xL h 178 s &&& (v ^^^ -1) &&& (xL h (L + 3) ((p.1 11 (10 + s) - 1) * 7 + t) ^^^ -1)) j = (hB p (laf h L j) (TVb h j) s t || (true && tl (xL h 178 s) j && !fD (laf h L j) (p.1 11 (10 + s) - 1) t)) := by
      rw [tl_or, tl_and, tl_and, tl_not hj, tl_not hj, e2 j hj, laf_D (by omega) (by omega)]
      cases hB p (laf h L j) (TVb h j) s t <;> simp
    refine ⟨by rw [q1, e2 j hj], by rw [q2, e4], fun i => ?_⟩
    rw [q3, e4]
def preP (p : PR) (T : Nat → Nat → Nat → Bool) : Bool := (List.range (p.1 60 0)).all fun i => T (pl p) (p.1 63 i) (p.1 62 i)
def posP (p : PR) (T : Nat → Nat → Nat → Bool) : Bool := (List.range (p.1 61 0)).any fun i => T (pl p) (p.1 65 i) (p.1 64 i)
theorem judge_post {h : AH} {wk b L : Nat} {p : PR} (C : CoX h wk b L p) {e : Nat} (he : e = pl p * 4 * 10) : ∀ n k (y x : Int64), k ≤ p.1 61 0 → p.1 61 0 - k < n → ∃ x', X2_judge_B66 n 174 (nI e) y x (nI k) h = X2_judge_B106 174 y x' h ∧ ∀ j, j < 64 → tl x' j = (tl x j || anyF (fun i => TVb h j (pl p) (p.1 65 i) (p.1 64 i)) k (p.1 61 0)) := by
  have w := C.q.w
  have w1 := w.ne
  have w2 := w.no
  have wr := w.r
  have wm := w.m
  have hx := C.x
  intro n
  induction n with
  | zero => intro k y x _ h; exact absurd h (Nat.not_lt_zero _)
  | succ n ih =>
    intro k y x hk hn
    rcases Nat.lt_or_ge k (p.1 61 0) with hk | hk
    · have h1 := w.or k hk
      have h2 := w.oa k hk
      have hk' : ¬ p.1 61 0 ≤ k := by omega
      obtain ⟨x', e1, e2⟩ := ih (k + 1) y (x ||| xL h 175 (e + (p.1 65 k * 10 + p.1 64 k))) (by omega) (by omega)
      refine ⟨x', ?_, fun j hj => ?_⟩
      · simp (disch := omega) only [X2_judge_B66, LT_e, G_T, BN_ok, if_true, if_false, nI_add, pk_mul, G_gx, nI_cl, nI_lI, nI_tI, nI_eI, C.s.c174, C.r8, C.q.s.c, C.q.no, hk', C.q.s.r13, C.q.s.c7, C.q.s.z7, C.q.be, C.s.r174_0, C.s.c175, C.s.z175, e1]
      · rw [e2 j hj, anyF_step hk, tl_or, ← Bool.or_assoc]
        congr 2
        unfold TVb
        rw [show e + (p.1 65 k * 10 + p.1 64 k) = (pl p * 4 + p.1 65 k) * 10 + p.1 64 k by omega]
    · have : k = p.1 61 0 := by omega
      subst this
      refine ⟨x, ?_, fun j hj => by rw [anyF_end (Nat.le_refl _), Bool.or_false]⟩
      simp (disch := omega) only [X2_judge_B66, LT_e, G_T, BN_ok, if_true, if_false, nI_add, pk_mul, G_gx, nI_cl, nI_lI, nI_tI, nI_eI, C.s.c174, C.r8, C.q.s.c, C.q.no, Nat.le_refl]
theorem judge_pre {h : AH} {wk b L : Nat} {p : PR} (C : CoX h wk b L p) {e : Nat} (he : e = pl p * 4 * 10) : ∀ n k (y : Int64), k ≤ p.1 60 0 → p.1 60 0 - k < n → ∃ y', X2_judge_B22 n 174 (nI e) y (nI k) h = X2_judge_B60 174 (nI e) y' h ∧ ∀ j, j < 64 → tl y' j = (tl y j && allF (fun i => TVb h j (pl p) (p.1 63 i) (p.1 62 i)) k (p.1 60 0)) := by
  have w := C.q.w
  have w1 := w.ne
  have w2 := w.no
  have wr := w.r
  have wm := w.m
  have hx := C.x
  intro n
  induction n with
  | zero => intro k y _ h; exact absurd h (Nat.not_lt_zero _)
  | succ n ih =>
    intro k y hk hn
    rcases Nat.lt_or_ge k (p.1 60 0) with hk | hk
    · have h1 := w.er k hk
      have h2 := w.ea k hk
      have hk' : ¬ p.1 60 0 ≤ k := by omega
      obtain ⟨x', e1, e2⟩ := ih (k + 1) (y &&& xL h 175 (e + (p.1 63 k * 10 + p.1 62 k))) (by omega) (by omega)
      refine ⟨x', ?_, fun j hj => ?_⟩
      · simp (disch := omega) only [X2_judge_B22, LT_e, G_T, BN_ok, if_true, if_false, nI_add, pk_mul, G_gx, nI_cl, nI_lI, nI_tI, nI_eI, C.s.c174, C.r8, C.q.s.c, C.q.ne, hk', C.q.s.r12, C.q.s.c6, C.q.s.z6, C.q.ah, C.s.r174_0, C.s.c175, C.s.z175, e1]
      · rw [e2 j hj, allF_step hk, tl_and, ← Bool.and_assoc]
        congr 2
        unfold TVb
        rw [show e + (p.1 63 k * 10 + p.1 62 k) = (pl p * 4 + p.1 63 k) * 10 + p.1 62 k by omega]
    · have : k = p.1 60 0 := by omega
      subst this
      refine ⟨y, ?_, fun j hj => by rw [allF_end (Nat.le_refl _), Bool.and_true]⟩
      simp (disch := omega) only [X2_judge_B22, LT_e, G_T, BN_ok, if_true, if_false, nI_add, pk_mul, G_gx, nI_cl, nI_lI, nI_tI, nI_eI, C.s.c174, C.r8, C.q.s.c, C.q.ne, Nat.le_refl]
theorem judge_ok {h : AH} {wk b L : Nat} {p : PR} (C : CoX h wk b L p) : ∃ h', X2_judge_f 174 h = some ((), h') ∧ Fr (fun a => a = 174) h h' ∧ ∀ j, j < 64 → tl (xL h' 174 5) j = (preP p (TVb h j) && !posP p (TVb h j)) ∧ tl (xL h' 174 6) j = (preP p (TVb h j) && posP p (TVb h j)) := by
  have w := C.q.w
  have w1 := w.ne
  have w2 := w.no
  have wr := w.r
  have wm := w.m
  have hx := C.x
  obtain ⟨y, e1, e2⟩ := judge_pre C (e := pl p * 4 * 10) (by omega) FU 0 (-1) (Nat.zero_le _) (FU_gt (by omega))
  obtain ⟨x, e3, e4⟩ := judge_post C (e := pl p * 4 * 10) (by omega) FU 0 y (lN 0) (Nat.zero_le _) (FU_gt (by omega))
  have e5 : X2_judge_B60 174 (nI (pl p * 4 * 10)) y h = X2_judge_B106 174 y x h := e3
  have e6 : X2_judge_f 174 h = X2_judge_B22 FU 174 (nI (pl p * 4 * 10)) (-1) (nI 0) h := by
    have hc : X11_cell_f (nI (pl p)) (nI 0) h = some (nI (pl p * 4), h) := by rw [cell_ok, Nat.add_zero]
    have hm : nI (pl p * 4) * nI 10 = nI (pl p * 4 * 10) := pk_mul _ _
    unfold X2_judge_f
    rw [C.s.c174, C.r7, C.w.c, C.w.l, hc, G_t rfl, G_t rfl, BN_ok, LT_e, hm]
  rw [e6, e1, e5]
  unfold X2_judge_B106
  simp only [LT_e, G_T, BN_ok, if_true, if_false, xc_pI, xz_pI, xR_pI, xL_pI, xc_pL, xz_pL, xR_pL, xI_pL, xn_pI, xn_pL, C.s.c174]
  refine ⟨_, rfl, Fr.tr (A := fun a => a = 174) (Fr.l rfl) (Fr.l rfl), fun j hj => ⟨?_, ?_⟩⟩
  · rw [xL_pL, if_neg (by omega), xL_pL, if_pos ⟨rfl, rfl⟩, tl_and, tl_not hj, e2 j hj, e4 j hj, tl_m1 j hj, tl_n0, anyF_0, allF_0, Bool.true_and, Bool.false_or]; unfold preP posP; exact rfl
  · rw [xL_pL, if_pos ⟨rfl, rfl⟩, tl_and, e2 j hj, e4 j hj, tl_m1 j hj, tl_n0, anyF_0, allF_0, Bool.true_and, Bool.false_or]; unfold preP posP; exact rfl
