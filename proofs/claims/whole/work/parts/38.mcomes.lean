theorem clo_big {B : BK} {m : Nat} (w : ∀ i, i < B 3 0 → B 10 i < B 1 0) : ∀ n (X : Nat → Bool) r, B 1 0 ≤ r → clo B m n X r = X r := by
  intro n
  induction n with
  | zero => intro X r _; rfl
  | succ n ih => intro X r hr; show clo B m n (pas B m X (B 3 0)) r = X r; rw [ih _ r hr, pas_big w _ (Nat.le_refl _) r hr]
theorem factB_big {p : PR} {m r : Nat} (w : WB p.1) (hr : p.1 1 0 ≤ r) : factB p m r = false := by
  unfold factB
  rw [Bool.eq_false_iff]
  intro q
  rw [List.any_eq_true] at q
  obtain ⟨i, hi, e⟩ := q
  have := w.fr i (List.mem_range.mp hi)
  simp at e
  omega
theorem comes_f {h : AH} {b k t m : Nat} {p : PR} (C : MoX h b p) (hm : m < p.1 0 0) (ht : t ≤ 6) : ∃ v, X15_comesAt_f 195 (nI k) (nI t) (nI m) h = X15_comesAt_B51 195 (nI k) (nI t) (nI m) v h ∧ ∀ r, r < 32 → bt v r = (decide (t = 0) && factB p m r) := by
  have w := C.q.w
  have wr := w.r
  have wm := w.m
  by_cases h0 : t = 0
  · obtain ⟨v, h', ⟨e1, e2⟩, e3⟩ := loopEV (F := fun n i v h' => X15_comesAt_B6 n 195 (nI k) (nI t) (nI m) v (nI i) h') (E := fun v h' => X15_comesAt_B51 195 (nI k) (nI t) (nI m) v h') (p.1 1 0) (fun i v h' => h' = h ∧ ∀ r, r < 32 → bt v r = (decide (r < i) && factB p m r)) (Nat.zero_le _) (by omega) (v := nI 0) (h := h) ⟨rfl, fun r _ => by rw [b_n0]; simp⟩
      (by
        rintro n i v h' hi ⟨rfl, e⟩
        have hi' : ¬ p.1 1 0 ≤ i := by omega
        simp (disch := omega) only [X15_comesAt_B6, X15_comesAt_B42, LT_e, G_T, BN_ok, if_true, if_false, nI_add, pk_mul, G_gx, nI_cl, nI_lI, nI_tI, nI_eI, C.s.c195, C.r4, C.q.s.c, C.q.r, hi', h0, nI_z, isFact_m C (by omega : i < 10) (by omega : m < 4), bI_0]
        cases hf : factB p m i
        · refine ⟨v ||| nI 0, h', ⟨rfl, fun r hr => ?_⟩, by simp only [eq_self, Bool.true_eq_false, Bool.false_eq_true, if_true, if_false]⟩
          rw [b_or, b_n0, Bool.or_false, e r hr]
          by_cases er : r = i
          · subst er; rw [hf]; simp
          · congr 1; apply decide_eq_decide.mpr; omega
        · refine ⟨v ||| nI 1 <<< (nI i &&& 31), h', ⟨rfl, fun r hr => ?_⟩, by simp only [eq_self, Bool.true_eq_false, Bool.false_eq_true, if_true, if_false]⟩
          rw [b_or, b_bit (by omega), e r hr]
          by_cases er : r = i
          · subst er; rw [hf]; simp
          · rw [decide_eq_false er, Bool.or_false]; congr 1; apply decide_eq_decide.mpr; omega)
      (by
        rintro n v h' ⟨rfl, e⟩
        simp (disch := omega) only [X15_comesAt_B6, LT_e, G_T, BN_ok, if_true, if_false, nI_add, pk_mul, G_gx, nI_cl, nI_lI, nI_tI, nI_eI, C.s.c195, C.r4, C.q.s.c, C.q.r, Nat.le_refl])
    subst e1
    refine ⟨v, e3, fun r hr => ?_⟩
    rw [e2 r hr, decide_eq_true h0]
    by_cases hb : r < p.1 1 0
    · rw [decide_eq_true hb]
    · rw [factB_big w (by omega)]; simp
  · refine ⟨nI 0, ?_, fun r _ => by rw [b_n0, decide_eq_false h0]; rfl⟩
    have : ∀ n, X15_comesAt_B6 (n + 1) 195 (nI k) (nI t) (nI m) (nI 0) (nI 0) h = X15_comesAt_B51 195 (nI k) (nI t) (nI m) (nI 0) h := by
      intro n
      by_cases h1 : p.1 1 0 ≤ 0
      · simp (disch := omega) only [X15_comesAt_B6, LT_e, G_T, BN_ok, if_true, if_false, nI_add, pk_mul, G_gx, nI_cl, nI_lI, nI_tI, nI_eI, C.s.c195, C.r4, C.q.s.c, C.q.r, h1]
      · simp (disch := omega) only [X15_comesAt_B6, LT_e, G_T, BN_ok, if_true, if_false, nI_add, pk_mul, G_gx, nI_cl, nI_lI, nI_tI, nI_eI, C.s.c195, C.r4, C.q.s.c, C.q.r, h1, nI_z, h0]
    exact this 3999999
theorem comes_s {h : AH} {b k t m : Nat} {p : PR} {v : Int32} {cm : Nat → Nat → Bool} (C : MoX h b p) (hk : k < 104) (hm : m < p.1 0 0) (ht : t ≤ 6) (hC : ∀ s u, s < p.1 4 0 → u < t → p.1 12 (10 + s) = m → (xI h 212 (42 * k + 7 * s + u) = nI t ↔ cm s u = true)) : ∃ v', X15_comesAt_B51 195 (nI k) (nI t) (nI m) v h = X15_comesAt_B144 195 (nI k) (nI t) (nI m) v' h ∧ ∀ r, r < 32 → bt v' r = (bt v r || (List.range (p.1 4 0)).any fun s => p.1 12 (10 + s) == m && p.1 10 (10 + s) == r && (List.range t).any fun u => cm s u) := by
  have w := C.q.w
  have wr := w.r
  have wm := w.m
  have ws := w.s
  obtain ⟨v', h', ⟨e1, e2⟩, e3⟩ := loopEV (F := fun n i v h' => X15_comesAt_B54 n 195 (nI k) (nI t) (nI m) v (nI i) h') (E := fun v h' => X15_comesAt_B144 195 (nI k) (nI t) (nI m) v h') (p.1 4 0) (fun i v' h' => h' = h ∧ ∀ r, r < 32 → bt v' r = (bt v r || (List.range i).any fun s => p.1 12 (10 + s) == m && p.1 10 (10 + s) == r && (List.range t).any fun u => cm s u)) (Nat.zero_le _) (by omega) (v := v) (h := h) ⟨rfl, fun r _ => by simp⟩
    (by
      rintro n s v1 h' hs ⟨rfl, e⟩
      have hs' : ¬ p.1 4 0 ≤ s := by omega
      have w1 := w.st s hs
      have w2 := (w.se s hs).row
      have step : ∃ v2, X15_comesAt_B69 (X15_comesAt_B54 n) FU 195 (nI k) (nI t) (nI m) v1 (nI s) (nI 0) h' = X15_comesAt_B54 n 195 (nI k) (nI t) (nI m) v2 (nI (s + 1)) h' ∧ ∀ r, r < 32 → bt v2 r = (bt v1 r || (p.1 12 (10 + s) == m && p.1 10 (10 + s) == r && (List.range t).any fun u => cm s u)) := by
        by_cases hg : p.1 12 (10 + s) = m
        · obtain ⟨v2, h2, ⟨f1, f2⟩, f3⟩ := loopEV (F := fun n' i v h' => X15_comesAt_B69 (X15_comesAt_B54 n) n' 195 (nI k) (nI t) (nI m) v (nI s) (nI i) h') (E := fun v h' => X15_comesAt_B54 n 195 (nI k) (nI t) (nI m) v (nI (s + 1)) h') t (fun i v' h2 => h2 = h' ∧ ∀ r, r < 32 → bt v' r = (bt v1 r || (p.1 10 (10 + s) == r && (List.range i).any fun u => cm s u))) (Nat.zero_le _) (by omega) (v := v1) (h := h') ⟨rfl, fun r _ => by simp⟩
            (by
              rintro n' u v3 h2 hu ⟨rfl, e⟩
              have hu' : ¬ t ≤ u := by omega
              simp (disch := omega) only [X15_comesAt_B69, X15_comesAt_B129, LT_e, G_T, BN_ok, if_true, if_false, nI_add, pk_mul, G_gx, nI_cl, nI_lI, nI_tI, nI_eI, hu', C.s.c195, C.r4, C.q.s.c, C.q.s.r18, C.q.s.c11, C.q.s.z11, C.q.st, hg, C.s.r195_30, C.s.c212, C.s.z212, C.q.s.r17, C.q.s.c10, C.q.s.z10, C.q.sr]
              by_cases hc : xI h2 212 (42 * k + 7 * s + u) = nI t
              · refine ⟨_, h2, ⟨rfl, fun r hr => ?_⟩, by rw [if_pos hc]⟩
                rw [b_or, b_bit (by omega), e r hr, rany_succ, (hC s u hs hu hg).mp hc]
                by_cases er : r = p.1 10 (10 + s)
                · rw [er]; simp
                · have : (p.1 10 (10 + s) == r) = false := by simp; omega
                  rw [this, decide_eq_false er]; simp
              · refine ⟨_, h2, ⟨rfl, fun r hr => ?_⟩, by rw [if_neg hc]⟩
                have : cm s u = false := by rw [Bool.eq_false_iff]; exact fun q => hc ((hC s u hs hu hg).mpr q)
                rw [b_or, b_n0, e r hr, rany_succ, this]; simp)
            (by
              rintro n' v3 h2 ⟨rfl, e⟩
              simp (disch := omega) only [X15_comesAt_B69, X15_comesAt_B138, LT_e, G_T, BN_ok, if_true, if_false, nI_add, pk_mul, G_gx, nI_cl, nI_lI, nI_tI, nI_eI, Nat.le_refl])
          subst f1
          refine ⟨v2, f3, fun r hr => ?_⟩
          rw [f2 r hr, hg]; simp
        · refine ⟨v1, ?_, fun r hr => by
            have : (p.1 12 (10 + s) == m) = false := by simp [hg]
            rw [this]; simp⟩
          have : ∀ n', X15_comesAt_B69 (X15_comesAt_B54 n) (n' + 1) 195 (nI k) (nI t) (nI m) v1 (nI s) (nI 0) h' = X15_comesAt_B54 n 195 (nI k) (nI t) (nI m) v1 (nI (s + 1)) h' := by
            intro n'
            by_cases h0 : t ≤ 0
            · simp (disch := omega) only [X15_comesAt_B69, X15_comesAt_B138, LT_e, G_T, BN_ok, if_true, if_false, nI_add, pk_mul, G_gx, nI_cl, nI_lI, nI_tI, nI_eI, h0]
            · simp (disch := omega) only [X15_comesAt_B69, X15_comesAt_B138, LT_e, G_T, BN_ok, if_true, if_false, nI_add, pk_mul, G_gx, nI_cl, nI_lI, nI_tI, nI_eI, h0, C.s.c195, C.r4, C.q.s.c, C.q.s.r18, C.q.s.c11, C.q.s.z11, C.q.st, hg]
          exact this 3999999
      obtain ⟨v2, g1, g2⟩ := step
      refine ⟨v2, h', ⟨rfl, fun r hr => ?_⟩, ?_⟩
      · rw [g2 r hr, e r hr, rany_succ, Bool.or_assoc]
      · simp (disch := omega) only [X15_comesAt_B54, LT_e, G_T, BN_ok, if_true, if_false, nI_add, pk_mul, G_gx, nI_cl, nI_lI, nI_tI, nI_eI, C.s.c195, C.r4, C.q.s.c, C.q.sn, hs']
        exact g1)
    (by
      rintro n v1 h' ⟨rfl, e⟩
      simp (disch := omega) only [X15_comesAt_B54, LT_e, G_T, BN_ok, if_true, if_false, nI_add, pk_mul, G_gx, nI_cl, nI_lI, nI_tI, nI_eI, C.s.c195, C.r4, C.q.s.c, C.q.sn, Nat.le_refl])
  subst e1
  exact ⟨v', e3, e2⟩
theorem comesAt_m {h : AH} {b k t m : Nat} {p : PR} {f : FL} {T : Nat → Nat → Nat → Bool} (C : MoX h b p) (d : SlD h k f) (hk : k < 104) (hm : m < p.1 0 0) (ht : t ≤ 6) (hT : ∀ u n, u < t → n < p.1 0 0 → ∀ r, r < 32 → bt (xI h 210 (28 * k + 4 * u + n)) r = T u n r) (hC : ∀ s u, s < p.1 4 0 → u < t → p.1 12 (10 + s) = m → (xI h 212 (42 * k + 7 * s + u) = nI t ↔ cmB p f T s u t = true)) : ∃ v, X15_comesAt_f 195 (nI k) (nI t) (nI m) h = some (v, h) ∧ ∀ r, r < 32 → bt v r = preB p f T t m r := by
  have w := C.q.w
  have wr := w.r
  have wm := w.m
  have wu := w.u
  obtain ⟨v1, e1, b1⟩ := comes_f (k := k) C hm ht
  obtain ⟨v2, e2, b2⟩ := comes_s (v := v1) (cm := fun s u => cmB p f T s u t) C hk hm ht hC
  have s3 : ∃ v3, X15_comesAt_B144 195 (nI k) (nI t) (nI m) v2 h = X15_comesAt_B177 195 (nI k) (nI t) (nI m) v3 h ∧ ∀ r, r < 32 → bt v3 r = (bt v2 r || (bt (pK p) r && kpB f T t m r)) := by
    unfold X15_comesAt_B144
    rw [G_t C.s.c195, keptFrom_m C.s d hk ht (by omega), BN_ok]
    have kl := kf_le (f := f) (m := m) t
    by_cases h0 : kf f m t = 0
    · refine ⟨v2, by rw [h0, if_pos (by decide)], fun r hr => ?_⟩
      unfold kpB; rw [h0]; simp
    · simp (disch := omega) only [nI_pm, nI_m1, if_false, LT_e, G_T, BN_ok, if_true, if_false, C.s.c195, rowsAt_m C.s hk (by omega : kf f m t - 1 < 7) (by omega : m < 4), C.K]
      refine ⟨_, rfl, fun r hr => ?_⟩
      unfold kpB
      rw [b_or, b_and, hT _ _ (by omega) hm r hr, decide_eq_true h0, Bool.true_and, Bool.and_comm (bt (pK p) r)]
  obtain ⟨v3, e3, b3⟩ := s3
  have s4 : ∃ v4, X15_comesAt_B177 195 (nI k) (nI t) (nI m) v3 h = some (v4, h) ∧ ∀ r, r < 32 → bt v4 r = (bt v3 r || nxB p f T t m r) := by
    by_cases h0 : t = 0
    · refine ⟨v3, ?_, fun r hr => by unfold nxB; rw [h0]; simp⟩
      have : ∀ n, X15_comesAt_B180 (n + 1) 195 (nI k) (nI t) (nI m) v3 (nI 0) h = some (v3, h) := by
        intro n
        by_cases h1 : p.1 3 0 ≤ 0
        · simp (disch := omega) only [X15_comesAt_B180, LT_e, G_T, BN_ok, if_true, if_false, nI_add, pk_mul, G_gx, nI_cl, nI_lI, nI_tI, nI_eI, C.s.c195, C.r4, C.q.s.c, C.q.u, h1]
        · simp (disch := omega) only [X15_comesAt_B180, LT_e, G_T, BN_ok, if_true, if_false, nI_add, pk_mul, G_gx, nI_cl, nI_lI, nI_tI, nI_eI, C.s.c195, C.r4, C.q.s.c, C.q.u, h1, nI_z, h0, Nat.le_refl]
      exact this 3999999
    · obtain ⟨v4, h', ⟨f1, f2⟩, f3⟩ := loopEV (F := fun n i v h' => X15_comesAt_B180 n 195 (nI k) (nI t) (nI m) v (nI i) h') (E := fun v h' => some (v, h')) (p.1 3 0) (fun i v' h' => h' = h ∧ ∀ r, r < 32 → bt v' r = (bt v3 r || (!fD f m (t - 1) && (List.range i).any fun i => p.1 13 i == 0 && isF p.1 i m && p.1 10 i == r && cH p.1 i false (T (t - 1) m)))) (Nat.zero_le _) (by omega) (v := v3) (h := h) ⟨rfl, fun r _ => by simp⟩
        (by
          rintro n i v h' hi ⟨rfl, e⟩
          have hi' : ¬ p.1 3 0 ≤ i := by omega
          have h0' : ¬ t ≤ 0 := by omega
          have w1 := w.ru i hi
          have w2 := w1.row
          have wn := w.nw i hi
          have e7 : nI t - nI 1 = nI (t - 1) := pk_sub (by omega)
          have hcc : cH p.1 i (decide (10 ≤ i) && bt (pb p) (i - 10)) (bt (xI h' 210 (28 * k + 4 * (t - 1) + m))) = cH p.1 i false (T (t - 1) m) := by
            rw [show (decide (10 ≤ i) && bt (pb p) (i - 10)) = false by rw [decide_eq_false (by omega)]; rfl]
            exact cH_congr w1 (fun r hr => hT _ _ (by omega) hm r (by omega))
          simp (disch := omega) only [X15_comesAt_B180, X15_comesAt_B250, X15_comesAt_B251, LT_e, G_T, BN_ok, if_true, if_false, nI_add, pk_mul, G_gx, nI_cl, nI_lI, nI_tI, nI_eI, C.s.c195, C.r4, C.q.s.c, C.q.u, hi', nI_z, h0', C.q.s.r16, C.q.s.c9, C.q.s.z9, C.q.rn, isOf_m C hi (by omega : m < 4), bI_0, e7, holds_m C (.inl hi) hk (by omega : t - 1 < 7) (by omega : m < 4), d m (t - 1) (by omega) (by omega), hcc, C.q.s.r14, C.q.s.c7, C.q.s.z7, C.q.rr]
          have nothing : (p.1 13 i == 0 && isF p.1 i m && (!fD f m (t - 1) && cH p.1 i false (T (t - 1) m))) = false → ∀ r, r < 32 → bt (v ||| nI 0) r = (bt v3 r || (!fD f m (t - 1) && (List.range (i + 1)).any fun i => p.1 13 i == 0 && isF p.1 i m && p.1 10 i == r && cH p.1 i false (T (t - 1) m))) := by
            intro q r hr
            rw [b_or, b_n0, Bool.or_false, e r hr, rany_succ]
            revert q
            cases fD f m (t - 1) <;> cases (p.1 13 i == 0) <;> cases isF p.1 i m <;> cases cH p.1 i false (T (t - 1) m) <;> simp
          by_cases e1 : p.1 13 i = 0
          · cases e2 : isF p.1 i m
            · exact ⟨_, h', ⟨rfl, nothing (by rw [e2]; simp)⟩, by simp only [e1, eq_self, Bool.true_eq_false, Bool.false_eq_true, if_true, if_false]⟩
            · cases e3 : (!fD f m (t - 1) && cH p.1 i false (T (t - 1) m))
              · exact ⟨_, h', ⟨rfl, nothing (by rw [e3]; simp)⟩, by simp only [e1, eq_self, Bool.true_eq_false, Bool.false_eq_true, if_true, if_false]⟩
              · refine ⟨v ||| nI 1 <<< (nI (p.1 10 i) &&& 31), h', ⟨rfl, fun r hr => ?_⟩, by simp only [e1, eq_self, Bool.true_eq_false, Bool.false_eq_true, if_true, if_false]⟩
                rw [b_or, b_bit (by omega), e r hr, rany_succ, e1, e2]
                rw [Bool.and_eq_true] at e3
                rw [e3.1, e3.2]
                by_cases er : r = p.1 10 i
                · rw [er]; simp
                · have : (p.1 10 i == r) = false := by simp; omega
                  rw [this, decide_eq_false er]; simp
          · exact ⟨_, h', ⟨rfl, nothing (by have : (p.1 13 i == 0) = false := by simp [e1]
                                            rw [this]; simp)⟩, by rw [if_neg e1]⟩)
        (by
          rintro n v h' ⟨rfl, e⟩
          simp (disch := omega) only [X15_comesAt_B180, LT_e, G_T, BN_ok, if_true, if_false, nI_add, pk_mul, G_gx, nI_cl, nI_lI, nI_tI, nI_eI, C.s.c195, C.r4, C.q.s.c, C.q.u, Nat.le_refl])
      subst f1
      refine ⟨v4, f3, fun r hr => ?_⟩
      rw [f2 r hr]
      unfold nxB
      rw [decide_eq_true (by omega : 0 < t), Bool.true_and]
  obtain ⟨v4, e4, b4⟩ := s4
  refine ⟨v4, by rw [e1, e2, e3, e4], fun r hr => ?_⟩
  rw [b4 r hr, b3 r hr, b2 r hr, b1 r hr]
  rfl
