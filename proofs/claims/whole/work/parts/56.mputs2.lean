theorem puts_k {h : AH} {b k t m : Nat} {p : PR} {f g : FL} {i4 i6 v : Int32} {S : Nat → Nat → Nat → Bool} (k2 : Nat → Int32 → Int32 → AH → Option (Unit × AH)) (k12 : Nat → Int32 → Int32 → Int32 → AH → Option (Unit × AH)) (C : MuX h b k p f g) (hm : m < p.1 0 0) (ht : t ≤ pl p) (hS : ∀ v n r, v < t → n < p.1 0 0 → r < 32 → bt (xI h 216 (4 * v + n)) r = S v n r) (sub : ∀ v n r, S v n r = true → Tz p f v n r = true) : ∃ v', X15_puts_B217 k2 k12 195 (nI k) (nI t) (nI m) i4 v i6 h = X15_puts_B262 k2 k12 195 (nI k) (nI t) (nI m) i4 v' i6 h ∧ ∀ r, r < 32 → bt v' r = (bt v r || skB p f S t m r) := by
  have M := C.m
  have w := M.q.w
  have wm := w.m
  have hx := M.x
  have hk := C.k
  have kl := kf_le (f := f) (m := m) t
  unfold X15_puts_B217
  rw [G_t M.s.c195, keptFrom_m M.s C.s.D hk (by omega) (by omega), BN_ok]
  by_cases h0 : kf f m t = 0
  · exact ⟨v, by rw [h0, if_pos (by decide)], fun r hr => by unfold skB; rw [h0]; simp⟩
  · have e1 : nI (kf f m t) - nI 1 = nI (kf f m t - 1) := pk_sub (by omega)
    have ne : ¬ nI (kf f m t - 1) = -1 := by
      have := nI_m1 (n := kf f m t - 1) (by omega)
      rw [this]; exact id
    rw [e1, if_neg ne, G_t M.s.c195, rowsAt_m M.s hk (by omega) (by omega), BN_ok, G_t M.s.c195, M.s.r195_35, G_t M.s.c216, pk_mul, nI_add, M.s.z216, G_gx (by omega) (by omega), M.K, nI_cl (by omega), LT_e]
    refine ⟨_, rfl, fun r hr => ?_⟩
    unfold skB
    rw [b_or, b_and, b_and, C.s.T _ _ (by omega) hm r hr, hS _ _ r (by omega) hm hr, decide_eq_true h0]
    cases hs : S (kf f m t - 1) m r
    · simp
    · rw [sub _ _ _ hs]; simp
theorem puts_n {h : AH} {b k t m : Nat} {p : PR} {f g : FL} {i4 i6 v : Int32} {S : Nat → Nat → Nat → Bool} (k2 : Nat → Int32 → Int32 → AH → Option (Unit × AH)) (k12 : Nat → Int32 → Int32 → Int32 → AH → Option (Unit × AH)) (C : MuX h b k p f g) (hm : m < p.1 0 0) (ht : t ≤ pl p) (hS : ∀ v n r, v < t → n < p.1 0 0 → r < p.1 1 0 → bt (xI h 216 (4 * v + n)) r = S v n r) : ∃ v', X15_puts_B262 k2 k12 195 (nI k) (nI t) (nI m) i4 v i6 h = X15_puts_B372 k2 k12 195 (nI k) (nI t) (nI m) i4 v' i6 h ∧ ∀ r, r < 32 → bt v' r = (bt v r || snB p f g S t m r) := by
  have M := C.m
  have w := M.q.w
  have wr := w.r
  have wm := w.m
  have wu := w.u
  have hx := M.x
  have hk := C.k
  by_cases h0 : t = 0
  · refine ⟨v, ?_, fun r hr => by unfold snB; rw [h0]; simp⟩
    have : ∀ n, X15_puts_B265 k2 k12 (n + 1) 195 (nI k) (nI t) (nI m) i4 v i6 (nI 0) h = X15_puts_B372 k2 k12 195 (nI k) (nI t) (nI m) i4 v i6 h := by
      intro n
      by_cases h1 : p.1 3 0 ≤ 0
      · simp (disch := omega) only [X15_puts_B265, LT_e, G_T, BN_ok, if_true, if_false, nI_add, pk_mul, G_gx, nI_cl, nI_lI, nI_tI, nI_eI, M.s.c195, M.r4, M.q.s.c, M.q.u, h1]
      · simp (disch := omega) only [X15_puts_B265, LT_e, G_T, BN_ok, if_true, if_false, nI_add, pk_mul, G_gx, nI_cl, nI_lI, nI_tI, nI_eI, M.s.c195, M.r4, M.q.s.c, M.q.u, h1, nI_z, h0, Nat.le_refl]
    exact this 3999999
  · obtain ⟨v4, h', ⟨f1, f2⟩, f3⟩ := loopEV (F := fun n i v h' => X15_puts_B265 k2 k12 n 195 (nI k) (nI t) (nI m) i4 v i6 (nI i) h') (E := fun v h' => X15_puts_B372 k2 k12 195 (nI k) (nI t) (nI m) i4 v i6 h') (p.1 3 0) (fun i v' h' => h' = h ∧ ∀ r, r < 32 → bt v' r = (bt v r || ((List.range i).any fun i => p.1 13 i == 0 && isF p.1 i m && p.1 10 i == r && (!fD f m (t - 1) && cH p.1 i false (Tz p f (t - 1) m)) && (!fD g m (t - 1) && cH p.1 i true (S (t - 1) m))))) (Nat.zero_le _) (by omega) (v := v) (h := h) ⟨rfl, fun r _ => by simp⟩
      (by
        rintro n i v1 h' hi ⟨rfl, e⟩
        have hi' : ¬ p.1 3 0 ≤ i := by omega
        have h0' : ¬ t ≤ 0 := by omega
        have w1 := w.ru i hi
        have w2 := w1.row
        have wn := w.nw i hi
        have e7 : nI t - nI 1 = nI (t - 1) := pk_sub (by omega)
        have hcc : cH p.1 i (decide (10 ≤ i) && bt (pb p) (i - 10)) (bt (xI h' 210 (28 * k + 4 * (t - 1) + m))) = cH p.1 i false (Tz p f (t - 1) m) := by
          rw [show (decide (10 ≤ i) && bt (pb p) (i - 10)) = false by rw [decide_eq_false (by omega)]; rfl]
          exact cH_congr w1 (fun r hr => C.s.T _ _ (by omega) hm r (by omega))
        have hcs : cH p.1 i true (bt (xI h' 216 (4 * (t - 1) + m))) = cH p.1 i true (S (t - 1) m) := cH_congr w1 (fun r hr => hS _ _ r (by omega) hm hr)
        simp (disch := omega) only [X15_puts_B265, X15_puts_B362, X15_puts_B363, LT_e, G_T, BN_ok, if_true, if_false, nI_add, pk_mul, G_gx, nI_cl, nI_lI, nI_tI, nI_eI, M.s.c195, M.r4, M.q.s.c, M.q.u, hi', nI_z, h0', M.q.s.r16, M.q.s.c9, M.q.s.z9, M.q.rn, isOf_m M hi (by omega : m < 4), bI_0, e7, holds_m M (.inl hi) hk (by omega : t - 1 < 7) (by omega : m < 4), C.s.D m (t - 1) (by omega) (by omega), hcc, M.s.r195_27, M.s.c206, isDownH_m C.h (by omega : t - 1 < 7) (by omega : m < 4), isStanding_m M (.inl hi) (by omega : t - 1 < 7) (by omega : m < 4), hcs, M.q.s.r14, M.q.s.c7, M.q.s.z7, M.q.rr]
        have nothing : (p.1 13 i == 0 && isF p.1 i m && (!fD f m (t - 1) && cH p.1 i false (Tz p f (t - 1) m)) && (!fD g m (t - 1) && cH p.1 i true (S (t - 1) m))) = false → ∀ r, r < 32 → bt (v1 ||| nI 0) r = (bt v r || ((List.range (i + 1)).any fun i => p.1 13 i == 0 && isF p.1 i m && p.1 10 i == r && (!fD f m (t - 1) && cH p.1 i false (Tz p f (t - 1) m)) && (!fD g m (t - 1) && cH p.1 i true (S (t - 1) m)))) := by
          intro q r hr
          rw [b_or, b_n0, Bool.or_false, e r hr, rany_succ]
          revert q
          cases (!fD f m (t - 1) && cH p.1 i false (Tz p f (t - 1) m)) <;> cases (!fD g m (t - 1) && cH p.1 i true (S (t - 1) m)) <;> cases (p.1 13 i == 0) <;> cases isF p.1 i m <;> simp
        by_cases e1 : p.1 13 i = 0
        · cases e2 : isF p.1 i m
          · exact ⟨_, h', ⟨rfl, nothing (by rw [e2]; simp)⟩, by simp only [e1, eq_self, Bool.true_eq_false, Bool.false_eq_true, if_true, if_false]⟩
          · cases e3 : (!fD f m (t - 1) && cH p.1 i false (Tz p f (t - 1) m))
            · exact ⟨_, h', ⟨rfl, nothing (by rw [e3]; simp)⟩, by simp only [e1, eq_self, Bool.true_eq_false, Bool.false_eq_true, if_true, if_false]⟩
            · by_cases e4 : fD g m (t - 1) = true
              · exact ⟨_, h', ⟨rfl, nothing (by rw [e4]; simp)⟩, by simp only [e1, e4, eq_self, Bool.true_eq_false, Bool.false_eq_true, if_true, if_false]⟩
              · have e4 : fD g m (t - 1) = false := by simpa using e4
                cases e5 : cH p.1 i true (S (t - 1) m)
                · exact ⟨_, h', ⟨rfl, nothing (by rw [e5]; simp)⟩, by simp only [e1, e4, eq_self, Bool.true_eq_false, Bool.false_eq_true, if_true, if_false]⟩
                · refine ⟨v1 ||| nI 1 <<< (nI (p.1 10 i) &&& 31), h', ⟨rfl, fun r hr => ?_⟩, by simp only [e1, e4, eq_self, Bool.true_eq_false, Bool.false_eq_true, if_true, if_false]⟩
                  rw [b_or, b_bit (by omega), e r hr, rany_succ, e1, e2, e3, e4, e5]
                  by_cases er : r = p.1 10 i
                  · rw [er]; simp
                  · have : (p.1 10 i == r) = false := by simp; omega
                    rw [this, decide_eq_false er]; simp
        · exact ⟨_, h', ⟨rfl, nothing (by have : (p.1 13 i == 0) = false := by simp [e1]
                                          rw [this]; simp)⟩, by rw [if_neg e1]⟩)
      (by
        rintro n v1 h' ⟨rfl, e⟩
        simp (disch := omega) only [X15_puts_B265, LT_e, G_T, BN_ok, if_true, if_false, nI_add, pk_mul, G_gx, nI_cl, nI_lI, nI_tI, nI_eI, M.s.c195, M.r4, M.q.s.c, M.q.u, Nat.le_refl])
    subst f1
    refine ⟨v4, f3, fun r hr => ?_⟩
    rw [f2 r hr]
    unfold snB
    rw [decide_eq_true (by omega : 0 < t), Bool.true_and]
/-- stand so far -/
def MSt (h h' : AH) (p : PR) (f g : FL) (t m : Nat) : Prop := Fr (fun x => x = 216) h h' ∧ ∀ u n r, ((u < t ∧ n < p.1 0 0) ∨ (u = t ∧ n < m)) → r < 32 → bt (xI h' 216 (4 * u + n)) r = Sz p f g u n r
theorem puts_cell {h h1 : AH} {b k t m n : Nat} {p : PR} {f g : FL} (k2 : Nat → Int32 → Int32 → AH → Option (Unit × AH)) (C : MuX h b k p f g) (hm : m < p.1 0 0) (ht : t ≤ pl p) (q : MSt h h1 p f g t m) : ∃ h2, X15_puts_B12 k2 (n + 1) 195 (nI k) (nI t) (nI m) h1 = X15_puts_B12 k2 n 195 (nI k) (nI t) (nI (m + 1)) h2 ∧ MSt h h2 p f g t (m + 1) := by
  have C1 := C.fr q.1 (fun x q => q)
  have M := C1.m
  have w := M.q.w
  have wr := w.r
  have wm := w.m
  have hx := M.x
  have hk := C.k
  have hm' : ¬ p.1 0 0 ≤ m := by omega
  have S1 : ∀ v n r, v < t → n < p.1 0 0 → r < 32 → bt (xI h1 216 (4 * v + n)) r = Sz p f g v n r := fun v n r hv hn hr => q.2 v n r (.inl ⟨hv, hn⟩) hr
  -- the four loops
  have up : ∀ i4 i6 : Int32, ∃ v, X15_puts_B62 k2 (X15_puts_B12 k2 n) 195 (nI k) (nI t) (nI m) i4 (nI 0) i6 h1 = X15_puts_B372 k2 (X15_puts_B12 k2 n) 195 (nI k) (nI t) (nI m) i4 v i6 h1 ∧ ∀ r, r < 32 → bt v r = spB p f g (Sz p f g) t m r := by
    intro i4 i6
    obtain ⟨v1, e1, b1⟩ := puts_f (i4 := i4) (i6 := i6) k2 (X15_puts_B12 k2 n) C1 hm (by omega : t ≤ 6)
    obtain ⟨v2, e2, b2⟩ := puts_w (i4 := i4) (i6 := i6) (v := v1) (S := Sz p f g) k2 (X15_puts_B12 k2 n) C1 hm ht (fun v n r hv hn hr => S1 v n r hv hn (by omega))
    obtain ⟨v3, e3, b3⟩ := puts_k (i4 := i4) (i6 := i6) (v := v2) (S := Sz p f g) k2 (X15_puts_B12 k2 n) C1 hm ht S1 (fun v n r => Sz_sub w v n r)
    obtain ⟨v4, e4, b4⟩ := puts_n (i4 := i4) (i6 := i6) (v := v3) (S := Sz p f g) k2 (X15_puts_B12 k2 n) C1 hm ht (fun v n r hv hn hr => S1 v n r hv hn (by omega))
    refine ⟨v4, by rw [e1, e2, e3, e4], fun r hr => ?_⟩
    rw [b4 r hr, b3 r hr, b2 r hr, b1 r hr]
    rfl
  have fin : ∀ v : Int32, (∀ r, r < 32 → bt v r = Sz p f g t m r) → MSt h (pI h1 216 (4 * t + m) v) p f g t (m + 1) := by
    intro v hv
    refine ⟨q.1.tr (Fr.i rfl), fun u n' r hu hr => ?_⟩
    by_cases e : u = t ∧ n' = m
    · rw [e.1, e.2, xI_self]; exact hv r hr
    · rw [xI_ne (by omega)]; exact q.2 u n' r (by omega) hr
  have e0 : X15_puts_B12 k2 (n + 1) 195 (nI k) (nI t) (nI m) h1 = (if bI (fD g m t) = 0 then (if bI (fD f m t) = 0 then X15_puts_B62 k2 (X15_puts_B12 k2 n) 195 (nI k) (nI t) (nI m) (xI h1 210 (28 * k + 4 * t + m)) (nI 0) (nI 0) h1 else X15_puts_B62 k2 (X15_puts_B12 k2 n) 195 (nI k) (nI t) (nI m) (xI h1 210 (28 * k + 4 * t + m)) (nI 0) (nI 1) h1) else X15_puts_B62 k2 (X15_puts_B12 k2 n) 195 (nI k) (nI t) (nI m) (xI h1 210 (28 * k + 4 * t + m)) (nI 0) (nI 1) h1) := by
    rw [X15_puts_B12, G_t M.s.c195, M.r4, G_t M.q.s.c, M.q.m, if_neg (by rw [nI_lI (by omega) (by omega)]; omega), G_t M.s.c195, rowsAt_m M.s hk (by omega) (by omega), BN_ok, G_t M.s.c195, M.s.r195_27, G_t M.s.c206, isDownH_m C1.h (by omega) (by omega), BN_ok, G_t M.s.c195, isDown_m M.s hk (by omega) (by omega), BN_ok, C1.s.D m t (by omega) (by omega)]
    rfl
  have dn : Sz p f g t m = (fun _ => false) → ∀ v : Int32, ∃ h2, X15_puts_B372 k2 (X15_puts_B12 k2 n) 195 (nI k) (nI t) (nI m) (xI h1 210 (28 * k + 4 * t + m)) v (nI 1) h1 = X15_puts_B12 k2 n 195 (nI k) (nI t) (nI (m + 1)) h2 ∧ MSt h h2 p f g t (m + 1) := by
    intro z v
    refine ⟨_, ?_, fin (nI 0) (fun r hr => by rw [z, b_n0])⟩
    unfold X15_puts_B372 X15_puts_B403
    rw [G_t M.s.c195, if_neg (by decide), M.s.r195_35, G_t M.s.c216, pk_mul, nI_add, M.s.z216, G_gx (by omega) (by omega), nI_cl (by omega), LT_e, LT_e, nI_add]
  rw [e0]
  cases hg : fD g m t
  · cases hf : fD f m t
    · rw [if_pos (by decide), if_pos (by decide)]
      obtain ⟨v, e1, b1⟩ := up (xI h1 210 (28 * k + 4 * t + m)) (nI 0)
      obtain ⟨u, e2, b2⟩ := closed_m (v := v &&& xI h1 210 (28 * k + 4 * t + m)) M (by omega : m < 4)
      refine ⟨_, ?_, fin (u &&& xI h1 210 (28 * k + 4 * t + m)) (fun r hr => ?_)⟩
      · rw [e1]
        unfold X15_puts_B372 X15_puts_B403
        rw [G_t M.s.c195, if_pos nI_0, G_t M.s.c195, e2, BN_ok, M.s.r195_35, G_t M.s.c216, pk_mul, nI_add, M.s.z216, G_gx (by omega) (by omega), nI_cl (by omega), LT_e, LT_e, nI_add]
      · have tT := C1.s.T t m ht hm
        have e3 : ∀ r, r < 32 → bt (v &&& xI h1 210 (28 * k + 4 * t + m)) r = spB p f g (Sz p f g) t m r := by
          intro r hr
          rw [b_and, b1 r hr, tT r hr]
          cases hs : spB p f g (Sz p f g) t m r
          · rfl
          · have : Tz p f t m r = true := by rw [Tz_eq, hf]; exact cl_sub _ _ r (sp_sub w hs)
            rw [this]; rfl
        have e4 : bt u r = clo p.1 m 10 (spB p f g (Sz p f g) t m) r := by
          rw [b2]
          by_cases hb : r < p.1 1 0
          · exact clo_congr (fun i hi => w.ru i hi) _ _ _ (fun r hr => e3 r (by omega)) r hb
          · rw [clo_big (fun i hi => (w.ru i hi).row) _ _ r (by omega), clo_big (fun i hi => (w.ru i hi).row) _ _ r (by omega)]
            exact e3 r hr
        have e5 : Sz p f g t m r = clo p.1 m 10 (spB p f g (Sz p f g) t m) r := by rw [Sz_eq, hf, hg]; rfl
        rw [b_and, e4, ← e5, tT r hr]
        cases hs : Sz p f g t m r
        · rfl
        · rw [Sz_sub w _ _ _ hs]; rfl
    · rw [if_pos (by decide), if_neg (by decide)]
      obtain ⟨v, e1, b1⟩ := up (xI h1 210 (28 * k + 4 * t + m)) (nI 1)
      rw [e1]
      exact dn (funext fun r => by rw [Sz_eq, hf]; rfl) v
  · rw [if_neg (by decide)]
    obtain ⟨v, e1, b1⟩ := up (xI h1 210 (28 * k + 4 * t + m)) (nI 1)
    rw [e1]
    exact dn (funext fun r => by rw [Sz_eq, hg]; simp) v
