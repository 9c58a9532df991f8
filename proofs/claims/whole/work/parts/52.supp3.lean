theorem addKept_s {h : AH} {wk b a L m t : Nat} {p : PR} {f : FL} {y : Int64} (C : SuX h wk b a L p f) (hm : m < p.1 0 0) (ht : t ≤ pl p) : ∃ h', X7_addKept_f 180 (nI m) (nI t) y h = some ((), h') ∧ Fr (fun x => x = 181) h h' ∧ (∀ i, ¬ ((t * 4 + m) * 10 ≤ i ∧ i < (t * 4 + m) * 10 + 10) → xL h' 181 i = xL h 181 i) ∧ ∀ r, r < p.1 1 0 → ∀ j, j < 64 → SVb h' j t m r = (SVb h j t m r || (skB p f (SVb h j) t m r && tl y j)) := by
  have w := C.q.w
  have wm := w.m
  have wr := w.r
  have hx := C.x
  have kl := kf_le (f := f) (m := m) t
  unfold X7_addKept_f
  rw [G_t C.s.c180, C.r3, G_t C.t.s.c, tickAhead_c C.t hm wm ht hx, BN_ok]
  by_cases h0 : kf f m t = 0
  · rw [h0, if_pos (by decide)]
    exact ⟨h, rfl, Fr.rf, fun _ _ => rfl, fun r hr j hj => by unfold skB; rw [h0]; simp⟩
  · have e1 : nI (kf f m t) - nI 1 = nI (kf f m t - 1) := pk_sub (by omega)
    have ne : ¬ nI (kf f m t - 1) = -1 := by
      have := nI_m1 (n := kf f m t - 1) (by omega)
      rw [this]; exact id
    rw [e1, if_neg ne, cell_ok, BN_ok, LT_e, pk_mul, cell_ok, BN_ok, LT_e, pk_mul]
    obtain ⟨h', ⟨F, out, val, rest⟩, e⟩ := loopE (F := fun n k h' => X7_addKept_B42 n 180 y (nI ((t * 4 + m) * 10)) (nI (((kf f m t - 1) * 4 + m) * 10)) (nI k) h') (E := fun h' => some ((), h')) (p.1 1 0) (fun k h' => Fr (fun x => x = 181) h h' ∧ (∀ i, ¬ ((t * 4 + m) * 10 ≤ i ∧ i < (t * 4 + m) * 10 + 10) → xL h' 181 i = xL h 181 i) ∧ (∀ r, r < k → ∀ j, j < 64 → SVb h' j t m r = (SVb h j t m r || (skB p f (SVb h j) t m r && tl y j))) ∧ ∀ r, k ≤ r → r < 10 → xL h' 181 ((t * 4 + m) * 10 + r) = xL h 181 ((t * 4 + m) * 10 + r)) (Nat.zero_le _) (by omega) (h := h) ⟨Fr.rf, fun _ _ => rfl, fun r hr => absurd hr (Nat.not_lt_zero _), fun _ _ _ => rfl⟩
      (by
        rintro n k h' hk ⟨F, out, val, rest⟩
        have C' := C.fr F (fun x q => q)
        have hk' : ¬ p.1 1 0 ≤ k := by omega
        simp (disch := omega) only [X7_addKept_B42, X7_addKept_B94, LT_e, G_T, BN_ok, if_true, if_false, nI_add, pk_mul, G_gx, nI_cl, nI_lI, nI_tI, nI_eI, C'.s.c180, C'.r2, C'.q.s.c, C'.q.r, hk', C'.r1, C'.w.c, C'.w.K, nI_z, b_test0n, C'.s.r180_0, C'.s.c181, C'.s.z181, rest k (Nat.le_refl k) (by omega), out (((kf f m t - 1) * 4 + m) * 10 + k) (by omega)]
        cases hK : bt (pK p) k
        · refine ⟨h', ⟨F, out, fun r hr j hj => ?_, fun r hr hr2 => rest r (by omega) hr2⟩, by simp only [eq_self, Bool.true_eq_false, Bool.false_eq_true, if_true, if_false]⟩
          by_cases er : r = k
          · subst er
            unfold SVb skB
            rw [rest r (Nat.le_refl r) (by omega), hK]; simp
          · exact val r (by omega) j hj
        · refine ⟨_, ⟨F.tr (Fr.l rfl), fun i hi => ?_, fun r hr j hj => ?_, fun r hr hr2 => ?_⟩, by simp only [eq_self, Bool.true_eq_false, Bool.false_eq_true, if_true, if_false]; rfl⟩
          · rw [xL_pL, if_neg (by omega)]; exact out i hi
          · by_cases er : r = k
            · subst er
              show tl (xL (pL h' 181 _ _) 181 ((t * 4 + m) * 10 + r)) j = _
              rw [xL_pL, if_pos ⟨rfl, by omega⟩, tl_or, tl_and]
              unfold skB
              rw [hK, decide_eq_true h0]
              rfl
            · show tl (xL (pL h' 181 _ _) 181 ((t * 4 + m) * 10 + r)) j = _
              rw [xL_pL, if_neg (by omega)]; exact val r (by omega) j hj
          · rw [xL_pL, if_neg (by omega)]; exact rest r (by omega) hr2)
      (by
        rintro n h' ⟨F, out, val, rest⟩
        have C' := C.fr F (fun x q => q)
        simp (disch := omega) only [X7_addKept_B42, LT_e, G_T, BN_ok, if_true, if_false, nI_add, pk_mul, G_gx, nI_cl, nI_lI, nI_tI, nI_eI, C'.s.c180, C'.r2, C'.q.s.c, C'.q.r, Nat.le_refl])
    exact ⟨h', e, F, out, val⟩
theorem addNext_s {h : AH} {wk b a L m t : Nat} {p : PR} {f : FL} {y : Int64} (C : SuX h wk b a L p f) (hm : m < p.1 0 0) (ht0 : 0 < t) (ht : t ≤ pl p) : ∃ h', X7_addNext_f 180 (nI m) (nI t) y h = some ((), h') ∧ Fr (fun x => x = 181) h h' ∧ (∀ i, ¬ ((t * 4 + m) * 10 ≤ i ∧ i < (t * 4 + m) * 10 + 10) → xL h' 181 i = xL h 181 i) ∧ ∀ r, r < 10 → ∀ j, j < 64 → SVb h' j t m r = (SVb h j t m r || (snB p f (laf h L j) (SVb h j) t m r && tl y j)) := by
  have w := C.q.w
  have wm := w.m
  have wr := w.r
  have wu := w.u
  have hx := C.x
  have hL := C.l.w
  have e7 : nI t - nI 1 = nI (t - 1) := pk_sub (by omega)
  have e8 : nI (m * 7 + t) - nI 1 = nI (m * 7 + (t - 1)) := by rw [pk_sub (by omega)]; congr 1; omega
  have e0 : X7_addNext_f 180 (nI m) (nI t) y h = X7_addNext_B37 FU 180 (nI m) (nI t) (nI ((t * 4 + m) * 10)) (y &&& (xL h (L + 3) (m * 7 + (t - 1)) ^^^ -1)) (nI 0) h := by
    unfold X7_addNext_f
    rw [cell_ok, BN_ok, LT_e, pk_mul, G_t C.s.c180, C.r4, G_t C.l.c, C.l.r2, G_t C.l.c3, pk_mul, nI_add, e8, C.l.z3, G_gx (by omega) (by omega), nI_cl (by omega), LT_e]
  obtain ⟨h', ⟨F, out, val⟩, e⟩ := loopE (F := fun n k h' => X7_addNext_B37 n 180 (nI m) (nI t) (nI ((t * 4 + m) * 10)) (y &&& (xL h (L + 3) (m * 7 + (t - 1)) ^^^ -1)) (nI k) h') (E := fun h' => some ((), h')) (p.1 3 0) (fun k h' => Fr (fun x => x = 181) h h' ∧ (∀ i, ¬ ((t * 4 + m) * 10 ≤ i ∧ i < (t * 4 + m) * 10 + 10) → xL h' 181 i = xL h 181 i) ∧ ∀ r, r < 10 → ∀ j, j < 64 → SVb h' j t m r = (SVb h j t m r || (((List.range k).any fun i => p.1 13 i == 0 && isF p.1 i m && p.1 10 i == r && (!fD f m (t - 1) && cH p.1 i false (Tz p f (t - 1) m)) && (!fD (laf h L j) m (t - 1) && cH p.1 i true (SVb h j (t - 1) m))) && tl y j))) (Nat.zero_le _) (by omega) (h := h) ⟨Fr.rf, fun _ _ => rfl, fun r _ j _ => by simp⟩
    (by
      rintro n k h' hk ⟨F, out, val⟩
      have C' := C.fr F (fun x q => q)
      have hk' : ¬ p.1 3 0 ≤ k := by omega
      have wc := w.ru k hk
      have w1 := wc.row
      have cl := C'.q.ru k hk
      obtain ⟨v, v1, v2⟩ := cases_ok C'.s cl wc wr (m := m) (t := t - 1) (by omega) (by omega)
      simp (disch := omega) only [X7_addNext_B37, X7_addNext_B104, LT_e, G_T, BN_ok, if_true, if_false, nI_add, pk_mul, G_gx, nI_cl, nI_lI, nI_tI, nI_eI, C'.s.c180, C'.r2, C'.q.s.c, C'.q.u, hk', C'.q.s.r10, C'.q.s.c4, C'.q.s.z4, C'.q.s.ru, C'.r3, C'.t.s.c, bringsNext_c C'.t C'.q hk hm ht hx, nI_z, bI_0, cl.s.c, cl.row, e7, v1, C'.s.r180_0, C'.s.c181, C'.s.z181]
      cases hbx : bxN p f k m t
      · refine ⟨h', ⟨F, out, fun r hr j hj => ?_⟩, by simp only [eq_self, Bool.true_eq_false, Bool.false_eq_true, if_true, if_false]⟩
        rw [rany_succ, val r hr j hj]
        have : (p.1 13 k == 0 && isF p.1 k m && (!fD f m (t - 1) && cH p.1 k false (Tz p f (t - 1) m))) = false := by
          have h9 := hbx
          unfold bxN at h9
          rw [decide_eq_true ht0, Bool.and_true] at h9
          exact h9
        revert this
        cases (p.1 13 k == 0) <;> cases isF p.1 k m <;> cases (!fD f m (t - 1) && cH p.1 k false (Tz p f (t - 1) m)) <;> simp
      · refine ⟨_, ⟨F.tr (Fr.l rfl), fun i hi => ?_, fun r hr j hj => ?_⟩, by simp only [eq_self, Bool.true_eq_false, Bool.false_eq_true, if_true, if_false]; rfl⟩
        · rw [xL_pL, if_neg (by omega)]; exact out i hi
        · have hb2 : (p.1 13 k == 0) = true ∧ isF p.1 k m = true ∧ (!fD f m (t - 1) && cH p.1 k false (Tz p f (t - 1) m)) = true := by
            unfold bxN at hbx
            simp only [Bool.and_eq_true] at hbx ⊢
            exact ⟨hbx.1.1.1, hbx.1.1.2, hbx.2⟩
          have a3 : tl (xL h' 181 ((t * 4 + m) * 10 + r)) j = _ := val r hr j hj
          show tl (xL (pL h' 181 _ _) 181 ((t * 4 + m) * 10 + r)) j = _
          rw [xL_pL, rany_succ, hb2.1, hb2.2.1, hb2.2.2]
          by_cases er : r = p.1 10 k
          · subst er
            have hv := v2 j hj
            rw [cH_congr wc (Y := SVb h j (t - 1) m) (fun r hr => by unfold SVb; rw [out _ (by omega)])] at hv
            rw [if_pos ⟨rfl, by omega⟩, tl_or, tl_and, tl_and, tl_not hj, ← laf_D (by omega) (by omega), hv, a3]
            cases tl y j <;> simp [Bool.or_assoc]
          · have : (p.1 10 k == r) = false := by simp; omega
            rw [if_neg (by omega), this, a3]; simp)
    (by
      rintro n h' ⟨F, out, val⟩
      have C' := C.fr F (fun x q => q)
      simp (disch := omega) only [X7_addNext_B37, LT_e, G_T, BN_ok, if_true, if_false, nI_add, pk_mul, G_gx, nI_cl, nI_lI, nI_tI, nI_eI, C'.s.c180, C'.r2, C'.q.s.c, C'.q.u, Nat.le_refl])
  refine ⟨h', by rw [e0]; exact e, F, out, fun r hr j hj => ?_⟩
  rw [val r hr j hj]
  unfold snB
  rw [decide_eq_true ht0, Bool.true_and]
theorem SVb_pL {h : AH} {j t m c : Nat} {y : Int64} : SVb (pL h 181 ((t * 4 + m) * 10 + c) y) j t m = fun r => if r = c then tl y j else SVb h j t m r := by
  funext r
  unfold SVb
  rw [xL_pL]
  by_cases e : r = c
  · rw [if_pos ⟨rfl, by omega⟩, if_pos e]
  · rw [if_neg (by omega), if_neg e]
theorem addNow_si {h : AH} {wk b a L m t rd : Nat} {p : PR} {f : FL} (k15 : Nat → Int32 → Int32 → Int32 → Int32 → Int32 → AH → Option (Unit × AH)) (C : SuX h wk b a L p f) (hm : m < p.1 0 0) (ht6 : t ≤ 6) (hrd : rd < 10) : ∃ g h', X7_addNow_B33 k15 FU 180 (nI m) (nI t) (nI ((t * 4 + m) * 10)) (nI 0) (nI rd) (nI 0) h = k15 180 (nI m) (nI t) (nI ((t * 4 + m) * 10)) g (nI (rd + 1)) h' ∧ Fr (fun x => x = 181) h h' ∧ (∀ i, ¬ ((t * 4 + m) * 10 ≤ i ∧ i < (t * 4 + m) * 10 + 10) → xL h' 181 i = xL h 181 i) ∧ (∀ j, j < 64 → SVb h' j t m = pas p.1 m (SVb h j t m) (p.1 3 0)) ∧ (g = nI 0 → ∀ j, j < 64 → SVb h' j t m = SVb h j t m) := by
  have w := C.q.w
  have wm := w.m
  have wr := w.r
  have wu := w.u
  obtain ⟨g, h', ⟨F, out, val, gz⟩, e⟩ := loopEV (F := fun n k g h' => X7_addNow_B33 k15 n 180 (nI m) (nI t) (nI ((t * 4 + m) * 10)) g (nI rd) (nI k) h') (E := fun g h' => k15 180 (nI m) (nI t) (nI ((t * 4 + m) * 10)) g (nI (rd + 1)) h') (p.1 3 0) (fun k g h' => Fr (fun x => x = 181) h h' ∧ (∀ i, ¬ ((t * 4 + m) * 10 ≤ i ∧ i < (t * 4 + m) * 10 + 10) → xL h' 181 i = xL h 181 i) ∧ (∀ j, j < 64 → SVb h' j t m = pas p.1 m (SVb h j t m) k) ∧ (g = nI 0 → ∀ j, j < 64 → SVb h' j t m = SVb h j t m)) (Nat.zero_le _) (by omega) (v := nI 0) (h := h) ⟨Fr.rf, fun _ _ => rfl, fun j _ => rfl, fun _ _ _ => rfl⟩
    (by
      rintro n k g h' hk ⟨F, out, val, gz⟩
      have C' := C.fr F (fun x q => q)
      have q := C'.q
      have wc := w.ru k hk
      have cl := q.ru k hk
      have wn := w.nw k hk
      have w1 := wc.row
      have w2 := wc.pl
      have hk' : ¬ p.1 3 0 ≤ k := by omega
      simp (disch := omega) only [X7_addNow_B33, X7_addNow_B135, X7_addNow_B132, LT_e, G_T, BN_ok, if_true, if_false, nI_add, pk_mul, G_gx, nI_cl, nI_lI, nI_tI, nI_eI, C'.s.c180, C'.s.r180_0, C'.s.c181, C'.s.z181, C'.r2, q.s.c, q.s.r10, q.s.c4, q.s.z4, q.u, hk', q.s.ru, cl.s.c, cl.now, nI_z, isFor_ok cl (by omega : p.1 11 k ≤ 4) (by omega : m < 4), cl.row]
      by_cases e1 : p.1 13 k = 0
      · exact ⟨g, h', ⟨F, out, fun j hj => by rw [val j hj, pas_skip (by omega)], gz⟩, by rw [if_pos e1]⟩
      · by_cases e2 : isF p.1 k m = true
        · have e3 : p.1 13 k = 1 := by omega
          obtain ⟨v, hv, vb⟩ := cases_ok C'.s cl wc wr (m := m) (t := t) (by omega) (by omega)
          rw [if_neg e1, if_pos e2, if_neg (by decide), hv]
          simp (disch := omega) only [LT_e, G_T, BN_ok, if_true, if_false, nI_add, pk_mul, G_gx, nI_cl, nI_lI, nI_tI, nI_eI, C'.s.c180, C'.s.r180_0, C'.s.c181, C'.s.z181, cl.s.c, cl.row, cmp0n]
          have tvj : ∀ j, j < 64 → SVb (pL h' 181 ((t * 4 + m) * 10 + p.1 10 k) (xL h' 181 ((t * 4 + m) * 10 + p.1 10 k) ||| v &&& (xL h' 181 ((t * 4 + m) * 10 + p.1 10 k) ^^^ -1))) j t m = pas p.1 m (SVb h j t m) (k + 1) := by
            intro j hj
            have vb := vb j hj
            rw [cH_now (b' := false) (w.nn k hk e3)] at vb
            rw [SVb_pL]
            funext r
            have e4 : tl (xL h' 181 ((t * 4 + m) * 10 + p.1 10 k)) j = SVb h' j t m (p.1 10 k) := rfl
            rw [tl_or, tl_and, tl_not hj, vb, e4, val j hj, pas]
            simp only [e2, e3, true_and]
            by_cases er : r = p.1 10 k
            · subst er
              cases hc : cH p.1 k false (pas p.1 m (SVb h j t m) k) <;> simp
            · have er' : (r == p.1 10 k) = false := by simp [er]
              cases hc : cH p.1 k false (pas p.1 m (SVb h j t m) k) <;> simp [er, er']
          by_cases hz : v &&& (xL h' 181 ((t * 4 + m) * 10 + p.1 10 k) ^^^ -1) = lN 0
          · refine ⟨g ||| nI 0, _, ⟨F.tr (Fr.l rfl), fun i hi => ?_, tvj, fun hg j hj => ?_⟩, by rw [if_pos hz]⟩
            · rw [xL_pL, if_neg (by omega)]; exact out i hi
            · rw [← gz (or_n0.mp hg) j hj, SVb_pL]
              funext r
              rw [tl_or, hz, tl_n0, Bool.or_false]
              by_cases er : r = p.1 10 k
              · rw [if_pos er, er]; rfl
              · rw [if_neg er]
          · refine ⟨g ||| nI 1, _, ⟨F.tr (Fr.l rfl), fun i hi => ?_, tvj, fun hg j hj => ?_⟩, by rw [if_neg hz]⟩
            · rw [xL_pL, if_neg (by omega)]; exact out i hi
            · exact (or_n1.mp hg).elim
        · exact ⟨g, h', ⟨F, out, fun j hj => by rw [val j hj, pas_skip (fun q => e2 q.2)], gz⟩, by rw [if_neg e1, if_neg e2, if_pos rfl]⟩)
    (by
      rintro n g h' ⟨F, out, val, gz⟩
      have C' := C.fr F (fun x q => q)
      have q := C'.q
      simp (disch := omega) only [X7_addNow_B33, X7_addNow_B141, LT_e, G_T, BN_ok, if_true, if_false, nI_add, pk_mul, G_gx, nI_cl, nI_lI, nI_tI, nI_eI, C'.s.c180, C'.r2, q.s.c, q.u, Nat.le_refl])
  exact ⟨g, h', e, F, out, val, gz⟩
theorem addNow_s {h : AH} {wk b a L m t : Nat} {p : PR} {f : FL} (C : SuX h wk b a L p f) (hm : m < p.1 0 0) (ht6 : t ≤ 6) : ∃ h', X7_addNow_f 180 (nI m) (nI t) h = some ((), h') ∧ Fr (fun x => x = 181) h h' ∧ (∀ i, ¬ ((t * 4 + m) * 10 ≤ i ∧ i < (t * 4 + m) * 10 + 10) → xL h' 181 i = xL h 181 i) ∧ ∀ j, j < 64 → SVb h' j t m = clo p.1 m 10 (SVb h j t m) := by
  unfold X7_addNow_f
  simp only [cell_ok, LT_e, G_T, BN_ok, if_true, if_false, nI_add, pk_mul, G_gx, nI_cl, nI_lI, nI_tI, nI_eI]
  refine loopV (F := fun n k g h' => X7_addNow_B15 n 180 (nI m) (nI t) (nI ((t * 4 + m) * 10)) g (nI k) h') 10 (fun k g h' => Fr (fun x => x = 181) h h' ∧ (∀ i, ¬ ((t * 4 + m) * 10 ≤ i ∧ i < (t * 4 + m) * 10 + 10) → xL h' 181 i = xL h 181 i) ∧ (∀ j, j < 64 → clo p.1 m (10 - k) (SVb h' j t m) = clo p.1 m 10 (SVb h j t m)) ∧ (g = nI 0 → ∀ j, j < 64 → pas p.1 m (SVb h' j t m) (p.1 3 0) = SVb h' j t m)) (fun o => ∃ h', o = some ((), h') ∧ Fr (fun x => x = 181) h h' ∧ (∀ i, ¬ ((t * 4 + m) * 10 ≤ i ∧ i < (t * 4 + m) * 10 + 10) → xL h' 181 i = xL h 181 i) ∧ ∀ j, j < 64 → SVb h' j t m = clo p.1 m 10 (SVb h j t m)) ?_ ?_ (Nat.zero_le _) (FU_gt (by omega)) ⟨Fr.rf, fun _ _ => rfl, fun j _ => rfl, fun hg => absurd hg (by decide)⟩
  · rintro n k g h' hk ⟨F, out, val, gz⟩
    have C' := C.fr F (fun x q => q)
    have hk' : ¬ 10 ≤ k := by omega
    by_cases hg : g = nI 0
    · right
      refine ⟨h', ?_, F, out, fun j hj => ?_⟩
      · simp (disch := omega) only [X7_addNow_B15, LT_e, G_T, BN_ok, if_true, if_false, nI_add, pk_mul, G_gx, nI_cl, nI_lI, nI_tI, nI_eI, hk', hg, nI_z]
      · rw [← val j hj, clo_stop (gz hg j hj)]
    · left
      obtain ⟨g2, h2, e2, F2, out2, val2, gz2⟩ := addNow_si (X7_addNow_B15 n) C' hm ht6 hk
      refine ⟨g2, h2, ⟨F.tr F2, fun i hi => by rw [out2 i hi, out i hi], fun j hj => ?_, fun hg2 j hj => ?_⟩, ?_⟩
      · rw [val2 j hj, ← val j hj, show 10 - k = (10 - (k + 1)) + 1 by omega]
        rfl
      · have v2 := val2 j hj
        rw [gz2 hg2 j hj] at v2 ⊢
        exact v2.symm
      · simp (disch := omega) only [X7_addNow_B15, LT_e, G_T, BN_ok, if_true, if_false, nI_add, pk_mul, G_gx, nI_cl, nI_lI, nI_tI, nI_eI, hk', hg, nI_z]
        exact e2
  · rintro n g h' ⟨F, out, val, gz⟩
    refine ⟨h', ?_, F, out, fun j hj => ?_⟩
    · simp (disch := omega) only [X7_addNow_B15, LT_e, G_T, BN_ok, if_true, if_false, nI_add, pk_mul, G_gx, nI_cl, nI_lI, nI_tI, nI_eI, Nat.le_refl]
    · rw [← val j hj]; rfl
