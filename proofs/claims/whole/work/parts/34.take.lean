theorem xI_self {h : AH} {a k : Nat} {v : Int32} : xI (pI h a k v) a k = v := by rw [xI_pI, if_pos ⟨rfl, rfl⟩]
theorem xI_ne {h : AH} {a k b j : Nat} {v : Int32} (n : ¬ (b = a ∧ j = k)) : xI (pI h a k v) b j = xI h b j := by rw [xI_pI, if_neg n]
/-- rows and downs of machines ahead of m -/
def P1 (h h' : AH) (L a : Nat) (p : PR) (m : Nat) : Prop := ∀ n t, n < m → t ≤ pl p → (∀ r, r < 32 → bt (xI h' (a + 1) (t * 4 + n)) r = (decide (r < p.1 1 0) && TVb h 0 t n r)) ∧ bt (xI h' (a + 2) n) t = fD (laf h L 0) n t
theorem take_m {h : AH} {wk b L a m : Nat} {p : PR} (C : CoX h wk b L p) (q : TrS h a) (hm : m < p.1 0 0) {h1 : AH} (F1 : Fr (fun x => a ≤ x ∧ x ≤ a + 5) h h1) (g1 : P1 h h1 L a p m) (k3 : Nat → Nat → Nat → Nat → Int32 → AH → Option (Unit × AH)) : ∃ h2, X8_take_B26 k3 FU a wk L 174 (nI m) (nI 0) (pI h1 (a + 2) m (nI 0)) = k3 a wk L 174 (nI (m + 1)) h2 ∧ Fr (fun x => a ≤ x ∧ x ≤ a + 5) h h2 ∧ P1 h h2 L a p (m + 1) := by
  have hx := C.x
  have hL := C.l.w
  have ha := q.w
  have wm := C.q.w.m
  have wr := C.q.w.r
  obtain ⟨h2, ⟨F, g, gT, gD⟩, e⟩ := loopE (F := fun n k h' => X8_take_B26 k3 n a wk L 174 (nI m) (nI k) h') (E := fun h' => k3 a wk L 174 (nI (m + 1)) h') (pl p + 1) (fun t h' => Fr (fun x => a ≤ x ∧ x ≤ a + 5) h h' ∧ P1 h h' L a p m ∧ (∀ u, u < t → ∀ r, r < 32 → bt (xI h' (a + 1) (u * 4 + m)) r = (decide (r < p.1 1 0) && TVb h 0 u m r)) ∧ ∀ i, i < 32 → bt (xI h' (a + 2) m) i = (decide (i < t) && fD (laf h L 0) m i)) (Nat.zero_le _) (by omega) (h := pI h1 (a + 2) m (nI 0)) ⟨F1.tr (Fr.i (by omega)), fun n t hn ht => ⟨fun r hr => by rw [xI_ne (by omega)]; exact (g1 n t hn ht).1 r hr, by rw [xI_ne (by omega)]; exact (g1 n t hn ht).2⟩, fun u hu => absurd hu (Nat.not_lt_zero _), fun i hi => by rw [xI_self, b_n0]; simp⟩
    (by
      rintro n t h' ht ⟨F, g, gT, gD⟩
      have C' := C.fr F (by intro x q; omega)
      have q' := q.fr F
      have ht' : ¬ pl p < t := by omega
      have F2 : Fr (fun x => a ≤ x ∧ x ≤ a + 5) h' (pI h' (a + 2) m (xI h' (a + 2) m ||| (xL h (L + 3) (m * 7 + t) &&& lN 1).toInt32 <<< (nI t &&& 31))) := Fr.i (by omega)
      have C2 := C'.fr F2 (by intro x q; omega)
      have q2 := q'.fr F2
      obtain ⟨h3, e3, F3, o3, v3⟩ := takeRows_ok C2.s q2 (n := p.1 1 0) (e := t * 4 + m) wr (by omega)
      have F23 := F2.tr (F3.mo (fun x q => by omega))
      refine ⟨h3, ⟨F.tr F23, fun n u hn hu => ⟨fun r hr => ?_, ?_⟩, fun u hu r hr => ?_, fun i hi => ?_⟩, ?_⟩
      · rw [o3 _ (by omega), xI_ne (by omega)]; exact (g n u hn hu).1 r hr
      · rw [F3.I _ (by omega), xI_ne (by omega)]; exact (g n u hn hu).2
      · by_cases eu : u = t
        · subst eu
          rw [v3 r hr]
          unfold TVb
          rw [F2.L _ (by omega), F.L _ (by omega)]
        · rw [o3 _ (by omega), xI_ne (by omega)]; exact gT u (by omega) r hr
      · rw [F3.I _ (by omega), xI_self, b_or, gD i hi, b_shb (by omega) hi, ← laf_D (by omega) (by omega)]
        by_cases ei : i = t
        · subst ei; simp
        · rw [decide_eq_false ei, Bool.false_and, Bool.or_false]
          congr 1
          apply decide_eq_decide.mpr
          omega
      · simp (disch := omega) only [X8_take_B26, LT_e, G_T, BN_ok, if_true, if_false, nI_add, pk_mul, G_gx, nI_cl, nI_lI, nI_tI, nI_eI, C'.w.c, C'.w.l, ht', C'.l.c, C'.l.r2, C'.l.c3, C'.l.z3, q'.c, q'.r1, q'.c2, q'.z2, F.L _ (by omega : ¬ (a ≤ L + 3 ∧ L + 3 ≤ a + 5)), C2.w.c, C2.w.bk, C2.q.s.c, cell_ok, q2.c, C2.q.r, e3])
    (by
      rintro n h' ⟨F, g, gT, gD⟩
      have C' := C.fr F (by intro x q; omega)
      have ht' : pl p < pl p + 1 := by omega
      simp (disch := omega) only [X8_take_B26, X8_take_B93, LT_e, G_T, BN_ok, if_true, if_false, nI_add, pk_mul, G_gx, nI_cl, nI_lI, nI_tI, nI_eI, C'.w.c, C'.w.l, ht'])
  refine ⟨h2, e, F, fun n t hn ht => ?_⟩
  by_cases en : n = m
  · subst en
    exact ⟨fun r hr => gT t (by omega) r hr, by rw [gD t (by omega), decide_eq_true (by omega)]; rfl⟩
  · exact g n t (by omega) ht
theorem snt_up {p : PR} {f : FL} {T : Nat → Nat → Nat → Bool} {s u : Nat} (h : sntB p f T s u = true) : fD f (p.1 11 (10 + s) - 1) u = false := by
  unfold sntB hB at h
  cases hd : fD f (p.1 11 (10 + s) - 1) u
  · rfl
  · rw [hd] at h; simp at h
theorem isBare_ok {h : AH} {wk b s : Nat} {p : PR} (w : IsW h wk b p) (hs : s < 32) : X10_isBare_f wk (nI s) h = some (if bt (pb p) s = false then nI 0 else nI 1, h) := by
  unfold X10_isBare_f
  simp (disch := omega) only [LT_e, G_T, BN_ok, if_true, if_false, w.c, w.B, nI_z, b_test0n]
  cases bt (pb p) s <;> rfl
theorem takeWord_ok {h : AH} {wk b L a s t : Nat} {p : PR} {f : FL} (C : CoX h wk b L p) (q : TrS h a) (hs : s < p.1 4 0) (ht : t < pl p) (hf : laf h L 0 = f) (hT : ∀ n t, n < p.1 0 0 → t ≤ pl p → (∀ r, r < 32 → bt (xI h (a + 1) (t * 4 + n)) r = (decide (r < p.1 1 0) && Tz p f t n r)) ∧ bt (xI h (a + 2) n) t = fD f n t) (hS : tl (xL h 179 (s * 7 + t)) 0 = sntB p f (Tz p f) s t) : ∃ h', X8_takeWord_f a wk L 174 (nI s) (nI t) h = some ((), h') ∧ Fr (fun x => x = a + 3 ∨ x = a + 4) h h' ∧ (∀ i, i ≠ s * 7 + t → xI h' (a + 4) i = xI h (a + 4) i) ∧ xI h' (a + 4) (s * 7 + t) = nI (stB p f s t) ∧ (∀ i, i ≠ s → xI h' (a + 3) i = xI h (a + 3) i) ∧ ∀ i, i < 32 → bt (xI h' (a + 3) s) i = (bt (xI h (a + 3) s) i || (decide (i = t) && agB p f s t)) := by
  have hx := C.x
  have hL := C.l.w
  have ha := q.w
  have wm := C.q.w.m
  have wr := C.q.w.r
  have ws := C.q.w.s
  have w := C.q.w.se s hs
  have w1 := w.row
  have w2 := w.pl
  have w3 := C.q.w.sp s hs
  have w4 := C.q.w.st s hs
  have cl := C.q.se s hs
  have e6 : nI (p.1 11 (10 + s)) - nI 1 = nI (p.1 11 (10 + s) - 1) := pk_sub w3
  unfold X8_takeWord_f
  simp (disch := omega) only [LT_e, G_T, BN_ok, if_true, if_false, nI_add, pk_mul, G_gx, nI_cl, nI_lI, nI_tI, nI_eI, C.w.c, C.w.bk, C.q.s.c, C.q.s.r11, C.q.s.c5, C.q.s.z5, C.q.s.se, C.s.c174, C.s.r174_4, C.s.c179, C.s.z179, q.c, q.r3, q.c4, q.z4, nI_z, cmp_and1n, hS, cl.s.c, cl.pl, e6, cell_ok, q.r0, q.c1, q.z1]
  cases hsn : sntB p f (Tz p f) s t
  · simp only [eq_self, Bool.true_eq_false, Bool.false_eq_true, if_true, if_false]
    refine ⟨_, rfl, Fr.i (.inr rfl), fun i hi => xI_ne (by omega), ?_, fun i hi => xI_ne (by omega), fun i hi => ?_⟩
    · rw [xI_self]; unfold stB; rw [hsn]; rfl
    · rw [xI_ne (by omega)]; unfold agB; rw [hsn]; simp
  · have hup := snt_up hsn
    simp only [eq_self, Bool.true_eq_false, Bool.false_eq_true, if_true, if_false]
    -- B88
    have B88 : ∀ h1, Fr (fun x => x = a + 3) h h1 → ∃ h', X8_takeWord_B88 a wk L (nI t) (b + 38 + 3 * s) (nI (s * 7 + t)) h1 = some ((), h') ∧ Fr (fun x => x = a + 4) h1 h' ∧ (∀ i, i ≠ s * 7 + t → xI h' (a + 4) i = xI h1 (a + 4) i) ∧ xI h' (a + 4) (s * 7 + t) = nI (stB p f s t) := by
      intro h1 F
      have C1 := C.fr F (by intro x q; omega)
      have q1 := q.fr F
      have cl1 := C1.q.se s hs
      have lO : tl (xL h (L + 1) (s * 7 + t)) 0 = fO f s t := by rw [← hf, laf_O (by omega) (by omega)]
      have lA : tl (xL h (L + 2) (s * 7 + t)) 0 = fA f s t := by rw [← hf, laf_A (by omega) (by omega)]
      have Dn : ∀ c, c ≤ pl p → bt (xI h (a + 2) (p.1 12 (10 + s))) c = fD f (p.1 12 (10 + s)) c := fun c hc => (hT _ _ w4 hc).2
      have fin : ∀ c : Nat, nI c = nI (stB p f s t) → ∃ h', some ((), pI h1 (a + 4) (s * 7 + t) (nI c)) = some ((), h') ∧ Fr (fun x => x = a + 4) h1 h' ∧ (∀ i, i ≠ s * 7 + t → xI h' (a + 4) i = xI h1 (a + 4) i) ∧ xI h' (a + 4) (s * 7 + t) = nI (stB p f s t) := fun c hc => ⟨_, rfl, Fr.i rfl, fun i hi => xI_ne (by omega), by rw [xI_self, hc]⟩
      unfold X8_takeWord_B88 X8_takeWord_B107 X8_takeWord_B123 X8_takeWord_B174 X8_takeWord_B201 X8_isDown_f
      simp (disch := omega) only [LT_e, G_T, BN_ok, if_true, if_false, nI_add, pk_mul, G_gx, nI_cl, nI_lI, nI_tI, nI_eI, C1.l.c, C1.l.r1, C1.l.c2, C1.l.z2, C1.l.r0, C1.l.c1, C1.l.z1, nI_z, cmp_and1n, F.L _ (by omega : ¬ L + 1 = a + 3), F.L _ (by omega : ¬ L + 2 = a + 3), lO, lA, C1.w.c, C1.w.l, cl1.s.c, cl1.tg, q1.c, q1.r1, q1.c2, q1.z2, q1.r3, q1.c4, q1.z4, F.I _ (by omega : ¬ a + 2 = a + 3), b_test0n, show (1 = 0) = False from eq_false (by decide)]
      cases hA : fA f s t
      · cases hO : fO f s t
        · simp only [eq_self, Bool.true_eq_false, Bool.false_eq_true, if_true, if_false, Nat.add_zero]
          by_cases hc : pl p < t + 1
          · simp only [hc, if_true]
            apply fin
            unfold stB; simp [hsn, hA, hO, hc]
          · simp only [hc, if_false]
            rw [Dn _ (by omega)]
            cases hd : fD f (p.1 12 (10 + s)) (t + 1)
            · simp (disch := omega) only [eq_self, Bool.true_eq_false, Bool.false_eq_true, if_true, if_false, LT_e, G_T, BN_ok, if_true, if_false, nI_add, pk_mul, G_gx, nI_cl, nI_lI, nI_tI, nI_eI, q1.c, q1.r3, q1.c4, q1.z4]
              apply fin
              unfold stB; simp [hsn, hA, hO, hc, hd]
            · simp (disch := omega) only [eq_self, Bool.true_eq_false, Bool.false_eq_true, if_true, if_false, LT_e, G_T, BN_ok, if_true, if_false, nI_add, pk_mul, G_gx, nI_cl, nI_lI, nI_tI, nI_eI, show (1 = 0) = False from eq_false (by decide), q1.c, q1.r3, q1.c4, q1.z4]
              apply fin
              unfold stB; simp [hsn, hA, hO, hd]
        · simp only [eq_self, Bool.true_eq_false, Bool.false_eq_true, if_true, if_false]
          apply fin
          unfold stB; simp [hsn, hO]
      · cases hO : fO f s t
        · simp only [eq_self, Bool.true_eq_false, Bool.false_eq_true, if_true, if_false]
          by_cases hc : pl p < t + 3
          · simp only [show t + 1 + 2 = t + 3 from rfl, hc, if_true]
            apply fin
            unfold stB; simp [hsn, hA, hO, hc]
          · simp only [show t + 1 + 2 = t + 3 from rfl, hc, if_false]
            rw [Dn _ (by omega)]
            cases hd : fD f (p.1 12 (10 + s)) (t + 3)
            · simp (disch := omega) only [eq_self, Bool.true_eq_false, Bool.false_eq_true, if_true, if_false, LT_e, G_T, BN_ok, if_true, if_false, nI_add, pk_mul, G_gx, nI_cl, nI_lI, nI_tI, nI_eI, q1.c, q1.r3, q1.c4, q1.z4]
              apply fin
              unfold stB; simp [hsn, hA, hO, hc, hd]
            · simp (disch := omega) only [eq_self, Bool.true_eq_false, Bool.false_eq_true, if_true, if_false, LT_e, G_T, BN_ok, if_true, if_false, nI_add, pk_mul, G_gx, nI_cl, nI_lI, nI_tI, nI_eI, show (1 = 0) = False from eq_false (by decide), q1.c, q1.r3, q1.c4, q1.z4]
              apply fin
              unfold stB; simp [hsn, hA, hO, hd]
        · simp only [eq_self, Bool.true_eq_false, Bool.false_eq_true, if_true, if_false]
          apply fin
          unfold stB; simp [hsn, hO]
    have hmask : ∀ r, r < 32 → bt (xI h (a + 1) (t * 4 + (p.1 11 (10 + s) - 1))) r = (decide (r < p.1 1 0) && Tz p f t (p.1 11 (10 + s) - 1) r) := (hT _ _ (by omega) (by omega)).1
    have hbare : (!decide ((if bt (pb p) s = false then nI 0 else nI 1) = nI 0)) = bt (pb p) s := by cases bt (pb p) s <;> decide
    have hcH : cH p.1 (10 + s) (bt (pb p) s) (bt (xI h (a + 1) (t * 4 + (p.1 11 (10 + s) - 1)))) = hB p f (Tz p f) s t := by
      unfold hB
      rw [hup, Bool.not_false, Bool.true_and]
      apply cH_congr w
      intro r hr
      rw [hmask r (by omega), decide_eq_true hr, Bool.true_and]
    rw [isBare_ok C.w (by omega), BN_ok]
    simp (disch := omega) only [LT_e, G_T, BN_ok, if_true, if_false, cl.s.c, holdsAmong_ok cl w wr, hbare, hcH, q.c, q.r2, q.c3, q.z3, nI_add, pk_mul, G_gx, nI_cl, nI_lI, nI_tI, nI_eI]
    cases hh : hB p f (Tz p f) s t
    · simp only [eq_self, Bool.true_eq_false, Bool.false_eq_true, if_true, if_false]
      obtain ⟨h', e1, F, o1, v1⟩ := B88 (pI h (a + 3) s (xI h (a + 3) s ||| nI 1 <<< (nI t &&& 31))) (Fr.i rfl)
      refine ⟨h', e1, (Fr.i (.inl rfl)).tr (F.mo (fun x q => .inr q)), fun i hi => by rw [o1 i hi, xI_ne (by omega)], v1, fun i hi => by rw [F.I _ (by omega), xI_ne (by omega)], fun i hi => ?_⟩
      rw [F.I _ (by omega), xI_self, b_or, b_bit (by omega)]
      unfold agB; rw [hsn, hh]; simp
    · simp only [eq_self, Bool.true_eq_false, Bool.false_eq_true, if_true, if_false, show (nI 1 = nI 0) = False from eq_false (by decide)]
      obtain ⟨h', e1, F, o1, v1⟩ := B88 h Fr.rf
      refine ⟨h', e1, F.mo (fun x q => .inr q), fun i hi => by rw [o1 i hi], v1, fun i hi => by rw [F.I _ (by omega)], fun i hi => ?_⟩
      rw [F.I _ (by omega)]
      unfold agB; rw [hsn, hh]; simp
theorem take_ok {h : AH} {wk b L a : Nat} {p : PR} {f : FL} (C : CoX h wk b L p) (q : TrS h a) (hf : laf h L 0 = f) (hT : ∀ t m r, t ≤ pl p → m < p.1 0 0 → r < p.1 1 0 → TVb h 0 t m r = Tz p f t m r) (hS : ∀ s u, s < p.1 4 0 → u < pl p → tl (xL h 179 (s * 7 + u)) 0 = sntB p f (Tz p f) s u) (hb : tl (xL h 174 5) 0 = (preP p (Tz p f) && !posP p (Tz p f))) (hg : tl (xL h 174 6) 0 = (preP p (Tz p f) && posP p (Tz p f))) : ∃ h', X8_take_f a wk L 174 h = some ((), h') ∧ Fr (fun x => a ≤ x ∧ x ≤ a + 5) h h' ∧ IsTr h' a p f := by
  have hx := C.x
  have hL := C.l.w
  have ha := q.w
  have wm := C.q.w.m
  have wr := C.q.w.r
  have ws := C.q.w.s
  obtain ⟨h1, ⟨F1, g1⟩, e1⟩ := loopE (F := fun n k h' => X8_take_B3 n a wk L 174 (nI k) h') (E := fun h' => X8_take_B99 a wk L 174 h') (p.1 0 0) (fun m h' => Fr (fun x => a ≤ x ∧ x ≤ a + 5) h h' ∧ P1 h h' L a p m) (Nat.zero_le _) (by omega) (h := h) ⟨Fr.rf, fun n t hn => absurd hn (Nat.not_lt_zero _)⟩
    (by
      rintro n m h' hm ⟨F, g⟩
      have C' := C.fr F (by intro x q; omega)
      have q' := q.fr F
      have hm' : ¬ p.1 0 0 ≤ m := by omega
      obtain ⟨h2, e2, F2, g2⟩ := take_m C q hm F g (X8_take_B3 n)
      refine ⟨h2, ⟨F2, g2⟩, ?_⟩
      simp (disch := omega) only [X8_take_B3, LT_e, G_T, BN_ok, if_true, if_false, nI_add, pk_mul, G_gx, nI_cl, nI_lI, nI_tI, nI_eI, C'.w.c, C'.w.bk, C'.q.s.c, C'.q.m, hm', q'.c, q'.r1, q'.c2, q'.z2]
      exact e2)
    (by
      rintro n h' ⟨F, g⟩
      have C' := C.fr F (by intro x q; omega)
      simp (disch := omega) only [X8_take_B3, LT_e, G_T, BN_ok, if_true, if_false, nI_add, pk_mul, G_gx, nI_cl, nI_lI, nI_tI, nI_eI, C'.w.c, C'.w.bk, C'.q.s.c, C'.q.m, Nat.le_refl])
  have C1 := C.fr F1 (by intro x q; omega)
  have q1 := q.fr F1
  have hT1 : ∀ n t, n < p.1 0 0 → t ≤ pl p → (∀ r, r < 32 → bt (xI h1 (a + 1) (t * 4 + n)) r = (decide (r < p.1 1 0) && Tz p f t n r)) ∧ bt (xI h1 (a + 2) n) t = fD f n t := by
    intro n t hn ht
    refine ⟨fun r hr => ?_, by rw [(g1 n t hn ht).2, hf]⟩
    rw [(g1 n t hn ht).1 r hr]
    by_cases h0 : r < p.1 1 0
    · rw [hT t n r ht hn h0]
    · rw [decide_eq_false h0]; rfl
  obtain ⟨h2, ⟨F2, g2⟩, e2⟩ := loopE (F := fun n k h' => X8_take_B102 n a wk L 174 (nI k) h') (E := fun h' => X8_take_B157 a 174 h') (p.1 4 0) (fun s h' => Fr (fun x => x = a + 3 ∨ x = a + 4) h1 h' ∧ ∀ n t, n < s → t < pl p → bt (xI h' (a + 3) n) t = agB p f n t ∧ xI h' (a + 4) (n * 7 + t) = nI (stB p f n t)) (Nat.zero_le _) (by omega) (h := h1) ⟨Fr.rf, fun n t hn => absurd hn (Nat.not_lt_zero _)⟩
    (by
      rintro n s h' hs ⟨F, g⟩
      have C' := C1.fr F (by intro x q; omega)
      have q' := q1.fr F
      have hs' : ¬ p.1 4 0 ≤ s := by omega
      obtain ⟨h3, ⟨F3, g3, g4, g5⟩, e3⟩ := loopE (F := fun n' k h' => X8_take_B125 (X8_take_B102 n) n' a wk L 174 (nI s) (nI k) h') (E := fun h' => X8_take_B102 n a wk L 174 (nI (s + 1)) h') (pl p) (fun t h' => Fr (fun x => x = a + 3 ∨ x = a + 4) h1 h' ∧ (∀ n t, n < s → t < pl p → bt (xI h' (a + 3) n) t = agB p f n t ∧ xI h' (a + 4) (n * 7 + t) = nI (stB p f n t)) ∧ (∀ u, u < t → xI h' (a + 4) (s * 7 + u) = nI (stB p f s u)) ∧ ∀ i, i < 32 → bt (xI h' (a + 3) s) i = (decide (i < t) && agB p f s i)) (Nat.zero_le _) (by omega) (h := pI h' (a + 3) s (nI 0)) ⟨F.tr (Fr.i (.inl rfl)), fun n t hn ht => by rw [xI_ne (by omega), xI_ne (by omega)]; exact g n t hn ht, fun u hu => absurd hu (Nat.not_lt_zero _), fun i hi => by rw [xI_self, b_n0]; simp⟩
        (by
          rintro n' t h'' ht ⟨F, g, g4, g5⟩
          have C'' := C1.fr F (by intro x q; omega)
          have q'' := q1.fr F
          have ht' : ¬ pl p ≤ t := by omega
          have FF := F1.tr (F.mo (fun x q => by omega))
          obtain ⟨h3, e3, F3, o3, v3, o4, v4⟩ := takeWord_ok C'' q'' hs ht (f := f) (by rw [laf_fr FF (by omega) (by omega) (by omega), hf]) (fun n t hn ht => ⟨fun r hr => by rw [F.I _ (by omega)]; exact (hT1 n t hn ht).1 r hr, by rw [F.I _ (by omega)]; exact (hT1 n t hn ht).2⟩) (by rw [FF.L _ (by omega)]; exact hS s t hs ht)
          refine ⟨h3, ⟨F.tr F3, fun n u hn hu => ?_, fun u hu => ?_, fun i hi => ?_⟩, ?_⟩
          · rw [o4 _ (by omega), o3 _ (by omega)]; exact g n u hn hu
          · by_cases eu : u = t
            · subst eu; exact v3
            · rw [o3 _ (by omega)]; exact g4 u (by omega)
          · rw [v4 i hi, g5 i hi]
            by_cases ei : i = t
            · subst ei; simp
            · rw [decide_eq_false ei, Bool.false_and, Bool.or_false]
              congr 1
              apply decide_eq_decide.mpr
              omega
          · simp (disch := omega) only [X8_take_B125, LT_e, G_T, BN_ok, if_true, if_false, nI_add, pk_mul, G_gx, nI_cl, nI_lI, nI_tI, nI_eI, C''.w.c, C''.w.l, ht', q''.c, e3])
        (by
          rintro n' h'' ⟨F, g, g4, g5⟩
          have C'' := C1.fr F (by intro x q; omega)
          simp (disch := omega) only [X8_take_B125, X8_take_B151, LT_e, G_T, BN_ok, if_true, if_false, nI_add, pk_mul, G_gx, nI_cl, nI_lI, nI_tI, nI_eI, C''.w.c, C''.w.l, Nat.le_refl])
      refine ⟨h3, ⟨F3, fun n t hn ht => ?_⟩, ?_⟩
      · by_cases en : n = s
        · subst en
          exact ⟨by rw [g5 t (by omega), decide_eq_true ht]; rfl, g4 t ht⟩
        · exact g3 n t (by omega) ht
      · simp (disch := omega) only [X8_take_B102, LT_e, G_T, BN_ok, if_true, if_false, nI_add, pk_mul, G_gx, nI_cl, nI_lI, nI_tI, nI_eI, C'.w.c, C'.w.bk, C'.q.s.c, C'.q.sn, hs', q'.c, q'.r2, q'.c3, q'.z3]
        exact e3)
    (by
      rintro n h' ⟨F, g⟩
      have C' := C1.fr F (by intro x q; omega)
      simp (disch := omega) only [X8_take_B102, LT_e, G_T, BN_ok, if_true, if_false, nI_add, pk_mul, G_gx, nI_cl, nI_lI, nI_tI, nI_eI, C'.w.c, C'.w.bk, C'.q.s.c, C'.q.sn, Nat.le_refl])
  have C2 := C1.fr F2 (by intro x q; omega)
  have q2 := q1.fr F2
  have FF := F1.tr (F2.mo (fun x q => by omega))
  have e5 : X8_take_f a wk L 174 h = X8_take_B157 a 174 h2 := by
    have e3 : X8_take_f a wk L 174 h = X8_take_B102 FU a wk L 174 (nI 0) h1 := e1
    have e4 : X8_take_B102 FU a wk L 174 (nI 0) h1 = X8_take_B157 a 174 h2 := e2
    rw [e3, e4]
  have e6 : X8_take_B157 a 174 h2 = some ((), pI h2 a 6 (nI (outB p f))) := by
    unfold X8_take_B157 X8_take_B189
    simp (disch := omega) only [LT_e, G_T, BN_ok, if_true, if_false, C2.s.c174, nI_z, cmp_and1n, FF.L _ (by omega : ¬ (a ≤ 174 ∧ 174 ≤ a + 5)), hb, hg, q2.c]
    unfold outB
    cases preP p (Tz p f) <;> cases posP p (Tz p f) <;> rfl
  refine ⟨_, by rw [e5, e6], FF.tr (Fr.i (by omega)), q2.fr (Fr.i (A := fun _ => True) trivial), fun t m ht hm r hr => ?_, fun m t hm ht => ?_, fun s t hs ht => ?_, fun s t hs ht => ?_, xI_self⟩
  · rw [xI_ne (by omega), F2.I _ (by omega)]; exact (hT1 m t hm ht).1 r hr
  · rw [xI_ne (by omega), F2.I _ (by omega)]; exact (hT1 m t hm ht).2
  · rw [xI_ne (by omega)]; exact (g2 s t hs ht).1
  · rw [xI_ne (by omega)]; exact (g2 s t hs ht).2
theorem IsN.fq {A : Nat → Prop} {h h' : AH} {a z : Nat} {l : List Nat} (F : Fq A h h') (e : a ≠ 174 ∧ a ≠ 180) (n0 : ¬ A a) (n1 : ¬ A (a + 1)) (q : IsN h a z l) : IsN h' a z l := by
  unfold IsN at *; simp only [F.c, F.z, F.r _ e, F.I _ n0, F.I _ n1]; exact q
theorem CoX.fq {A : Nat → Prop} {h h' : AH} {wk b L : Nat} {p : PR} (F : Fq A h h') (n : ∀ a, A a → 120 ≤ a) (r7 : xR h' 174 7 = wk) (r8 : xR h' 174 8 = b) (r9 : xR h' 174 9 = L) (C : CoX h wk b L p) : CoX h' wk b L p := ⟨C.s.fq F, C.l.fq F, C.w.fq F (fun q => by have := n _ q; have := C.w.w; omega), C.q.fq F (fun a q => by have := n _ q; omega), r7, r8, r9, C.n, C.x⟩
/-- THE RUN of a set, into a Trace -/
theorem play_ok {h : AH} {wk b a na z : Nat} {p : PR} {l : List Nat} (s : SG h) (w : IsW h wk b p) (q : IsCB h b p.1) (n : 1 ≤ pl p) (x : pl p ≤ 6) (nu : IsN h na z l) (o : ∀ d, d ∈ l → OKf d) (hn : na + 1 < 151 ∨ (158 < na ∧ na + 1 < 174)) (t : TrS h a) : ∃ h', X9_play_f 145 wk na a h = some ((), h') ∧ Fq (fun x => (152 ≤ x ∧ x ≤ 154) ∨ (174 ≤ x ∧ x ≤ 179) ∨ (a ≤ x ∧ x ≤ a + 5)) h h' ∧ IsTr h' a p (flOf l) := by
  have hw := w.w
  have ha := t.w
  have l1 := s.l1
  obtain ⟨h1, e1, F1, v1⟩ := putAll_ok l1 nu o (by omega)
  have s1 := s.fr F1
  obtain ⟨h2, e2, F2, C2, lf2, v2⟩ := go_ok s1 s1.l1 (w.fr F1 (by omega)) (q.fr F1 (by intro a q; omega)) n x
  have s2 := s1.fq F2
  obtain ⟨vT, vS, vb, vg⟩ := v2 0 (by decide)
  rw [v1 0 (by decide)] at vT vS vb vg
  obtain ⟨h3, e3, F3, tr⟩ := take_ok C2 ((t.fr F1).fq F2) (by rw [lf2, v1 0 (by decide)]) vT vS vb vg
  refine ⟨h3, ?_, (F1.q.mo (fun x q => by omega)).tr ((F2.mo (fun x q => by omega)).tr (F3.q.mo (fun x q => by omega))), tr⟩
  unfold X9_play_f
  simp only [s.c145, s.r145_1, s.c151, LT_e, G_T, BN_ok, if_true, if_false, e1, s1.c145, s1.r145_8, s1.r145_1, s1.c174, e2, s2.c145, s2.r145_1, s2.r145_8, ((t.fr F1).fq F2).c, e3]
