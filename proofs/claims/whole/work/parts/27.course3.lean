theorem fill_a {h : AH} {wk b L m t : Nat} {p : PR} {up : Int64} {fa : Int32} (C : CoX h wk b L p) (hm : m < p.1 0 0) (ht6 : t ≤ 6) : ∃ h', X2_fill_B57 FU 174 (nI m) (nI t) up (nI ((t * 4 + m) * 10)) fa (nI 0) h = X2_fill_B148 174 (nI m) (nI t) up (nI ((t * 4 + m) * 10)) h' ∧ Fr (fun a => a = 175) h h' ∧ (∀ i, ¬ ((t * 4 + m) * 10 ≤ i ∧ i < (t * 4 + m) * 10 + 10) → xL h' 175 i = xL h 175 i) ∧ ∀ r, r < p.1 1 0 → ∀ j, j < 64 → tl (xL h' 175 ((t * 4 + m) * 10 + r)) j = ((bt fa r || tl (xL h 176 ((t * 4 + m) * 10 + r)) j || (bt (pK p) r && tl (xL h 177 (m * 10 + r)) j)) && tl up j) := by
  have wm := C.q.w.m
  have wr := C.q.w.r
  have hL := C.l.w
  obtain ⟨h', ⟨F, out, val⟩, e⟩ := loopE (F := fun n k h' => X2_fill_B57 n 174 (nI m) (nI t) up (nI ((t * 4 + m) * 10)) fa (nI k) h') (E := fun h' => X2_fill_B148 174 (nI m) (nI t) up (nI ((t * 4 + m) * 10)) h') (p.1 1 0) (fun k h' => Fr (fun a => a = 175) h h' ∧ (∀ i, ¬ ((t * 4 + m) * 10 ≤ i ∧ i < (t * 4 + m) * 10 + 10) → xL h' 175 i = xL h 175 i) ∧ ∀ r, r < k → ∀ j, j < 64 → tl (xL h' 175 ((t * 4 + m) * 10 + r)) j = ((bt fa r || tl (xL h 176 ((t * 4 + m) * 10 + r)) j || (bt (pK p) r && tl (xL h 177 (m * 10 + r)) j)) && tl up j)) (Nat.zero_le _) (by omega) (h := h) ⟨Fr.rf, fun _ _ => rfl, fun r hr => absurd hr (Nat.not_lt_zero _)⟩
    (by
      rintro n k h' hk ⟨F, out, val⟩
      have C' := C.fr F (by intro a q; omega)
      have q := C'.q
      have hk' : ¬ p.1 1 0 ≤ k := by omega
      simp (disch := omega) only [X2_fill_B57, X2_fill_B96, X2_fill_B128, LT_e, G_T, BN_ok, if_true, if_false, nI_add, pk_mul, G_gx, nI_cl, nI_lI, nI_tI, nI_eI, C'.s.c174, C'.s.r174_0, C'.s.c175, C'.s.z175, C'.s.r174_1, C'.s.c176, C'.s.z176, C'.s.r174_2, C'.s.c177, C'.s.z177, C'.r8, C'.r7, C'.w.c, C'.w.K, q.s.c, q.r, hk', nI_z, b_test0n, F.L _ (by decide : ¬ 176 = 175), F.L _ (by decide : ¬ 177 = 175)]
      have key : ∀ y : Int64, (∀ j, j < 64 → tl y j = (bt fa k || tl (xL h 176 ((t * 4 + m) * 10 + k)) j || (bt (pK p) k && tl (xL h 177 (m * 10 + k)) j))) → Fr (fun a => a = 175) h (pL h' 175 ((t * 4 + m) * 10 + k) (y &&& up)) ∧ (∀ i, ¬ ((t * 4 + m) * 10 ≤ i ∧ i < (t * 4 + m) * 10 + 10) → xL (pL h' 175 ((t * 4 + m) * 10 + k) (y &&& up)) 175 i = xL h 175 i) ∧ ∀ r, r < k + 1 → ∀ j, j < 64 → tl (xL (pL h' 175 ((t * 4 + m) * 10 + k) (y &&& up)) 175 ((t * 4 + m) * 10 + r)) j = ((bt fa r || tl (xL h 176 ((t * 4 + m) * 10 + r)) j || (bt (pK p) r && tl (xL h 177 (m * 10 + r)) j)) && tl up j) := by
        intro y hy
        refine ⟨F.tr (Fr.l rfl), fun i hi => ?_, fun r hr j hj => ?_⟩
        · rw [xL_pL, if_neg (by omega)]; exact out i hi
        · rw [xL_pL]
          by_cases er : r = k
          · rw [if_pos ⟨rfl, by omega⟩, tl_and, hy j hj, er]
          · rw [if_neg (by omega)]; exact val r (by omega) j hj
      cases hf : bt fa k
      · cases hK : bt (pK p) k
        · exact ⟨_, key (xL h 176 ((t * 4 + m) * 10 + k)) (fun j hj => by rw [hf, hK]; simp), by simp only [hf, hK, eq_self, Bool.true_eq_false, Bool.false_eq_true, if_true, if_false]⟩
        · exact ⟨_, key (xL h 176 ((t * 4 + m) * 10 + k) ||| xL h 177 (m * 10 + k)) (fun j hj => by rw [hf, hK, tl_or]; simp), by simp only [hf, hK, eq_self, Bool.true_eq_false, Bool.false_eq_true, if_true, if_false]⟩
      · cases hK : bt (pK p) k
        · exact ⟨_, key (-1) (fun j hj => by rw [hf, hK, tl_m1 j hj]; simp), by simp only [hf, hK, eq_self, Bool.true_eq_false, Bool.false_eq_true, if_true, if_false]⟩
        · exact ⟨_, key (-1 ||| xL h 177 (m * 10 + k)) (fun j hj => by rw [hf, hK, tl_or, tl_m1 j hj]; simp), by simp only [hf, hK, eq_self, Bool.true_eq_false, Bool.false_eq_true, if_true, if_false]⟩)
    (by
      rintro n h' ⟨F, out, val⟩
      have C' := C.fr F (by intro a q; omega)
      have q := C'.q
      simp (disch := omega) only [X2_fill_B57, LT_e, G_T, BN_ok, if_true, if_false, nI_add, pk_mul, G_gx, nI_cl, nI_lI, nI_tI, nI_eI, C'.s.c174, C'.r8, q.s.c, q.r, Nat.le_refl])
  exact ⟨h', e, F, out, val⟩
theorem fill_c {h : AH} {wk b L m t : Nat} {p : PR} {up : Int64} (C : CoX h wk b L p) (hm : m < p.1 0 0) (ht6 : t ≤ 6) : ∃ h', X2_fill_B168 FU 174 (nI m) up (nI ((t * 4 + m) * 10)) (nI 0) h = some ((), h') ∧ Fr (fun a => a = 177) h h' ∧ (∀ i, ¬ (m * 10 ≤ i ∧ i < m * 10 + 10) → xL h' 177 i = xL h 177 i) ∧ ∀ r, r < p.1 1 0 → ∀ j, j < 64 → tl (xL h' 177 (m * 10 + r)) j = ((tl (xL h 177 (m * 10 + r)) j && !tl up j) || tl (xL h 175 ((t * 4 + m) * 10 + r)) j) := by
  have wm := C.q.w.m
  have wr := C.q.w.r
  obtain ⟨h', ⟨F, out, val, rest⟩, e⟩ := loopE (F := fun n k h' => X2_fill_B168 n 174 (nI m) up (nI ((t * 4 + m) * 10)) (nI k) h') (E := fun h' => some ((), h')) (p.1 1 0) (fun k h' => Fr (fun a => a = 177) h h' ∧ (∀ i, ¬ (m * 10 ≤ i ∧ i < m * 10 + 10) → xL h' 177 i = xL h 177 i) ∧ (∀ r, r < k → ∀ j, j < 64 → tl (xL h' 177 (m * 10 + r)) j = ((tl (xL h 177 (m * 10 + r)) j && !tl up j) || tl (xL h 175 ((t * 4 + m) * 10 + r)) j)) ∧ ∀ r, k ≤ r → xL h' 177 (m * 10 + r) = xL h 177 (m * 10 + r)) (Nat.zero_le _) (by omega) (h := h) ⟨Fr.rf, fun _ _ => rfl, fun r hr => absurd hr (Nat.not_lt_zero _), fun _ _ => rfl⟩
    (by
      rintro n k h' hk ⟨F, out, val, rest⟩
      have C' := C.fr F (by intro a q; omega)
      have q := C'.q
      have hk' : ¬ p.1 1 0 ≤ k := by omega
      simp (disch := omega) only [X2_fill_B168, LT_e, G_T, BN_ok, if_true, if_false, nI_add, pk_mul, G_gx, nI_cl, nI_lI, nI_tI, nI_eI, C'.s.c174, C'.s.r174_0, C'.s.c175, C'.s.z175, C'.s.r174_2, C'.s.c177, C'.s.z177, C'.r8, q.s.c, q.r, hk', F.L _ (by decide : ¬ 175 = 177), rest k (Nat.le_refl k)]
      refine ⟨_, ⟨F.tr (Fr.l rfl), fun i hi => ?_, fun r hr j hj => ?_, fun r hr => ?_⟩, rfl⟩
      · rw [xL_pL, if_neg (by omega)]; exact out i hi
      · rw [xL_pL]
        by_cases er : r = k
        · rw [if_pos ⟨rfl, by omega⟩, tl_or, tl_and, tl_not hj, er]
        · rw [if_neg (by omega)]; exact val r (by omega) j hj
      · rw [xL_pL, if_neg (by omega)]; exact rest r (by omega))
    (by
      rintro n h' ⟨F, out, val, rest⟩
      have C' := C.fr F (by intro a q; omega)
      have q := C'.q
      simp (disch := omega) only [X2_fill_B168, LT_e, G_T, BN_ok, if_true, if_false, nI_add, pk_mul, G_gx, nI_cl, nI_lI, nI_tI, nI_eI, C'.s.c174, C'.r8, q.s.c, q.r, Nat.le_refl])
  exact ⟨h', e, F, out, val⟩
theorem fill_ok {h : AH} {wk b L m t : Nat} {p : PR} (C : CoX h wk b L p) (hm : m < p.1 0 0) (ht6 : t ≤ 6) : ∃ h', X2_fill_f 174 (nI m) (nI t) h = some ((), h') ∧ Fr (fun a => a = 175 ∨ a = 177) h h' ∧ (∀ i, ¬ ((t * 4 + m) * 10 ≤ i ∧ i < (t * 4 + m) * 10 + 10) → xL h' 175 i = xL h 175 i) ∧ (∀ i, ¬ (m * 10 ≤ i ∧ i < m * 10 + 10) → xL h' 177 i = xL h 177 i) ∧ ∀ j, j < 64 → ∀ r, r < p.1 1 0 → TVb h' j t m r = (!fD (laf h L j) m t && clo p.1 m 10 (fun r => (decide (t = 0) && factB p m r) || tl (xL h 176 ((t * 4 + m) * 10 + r)) j || (bt (pK p) r && tl (xL h 177 (m * 10 + r)) j) || nxB p (laf h L j) (TVb h j) t m r) r) ∧ tl (xL h' 177 (m * 10 + r)) j = if fD (laf h L j) m t then tl (xL h 177 (m * 10 + r)) j else TVb h' j t m r := by
  have wm := C.q.w.m
  have wr := C.q.w.r
  have hL := C.l.w
  have hup : ∀ j, j < 64 → tl (xL h (L + 3) (m * 7 + t) ^^^ -1) j = !fD (laf h L j) m t := fun j hj => by rw [tl_not hj, laf_D (by omega) (by omega)]
  -- the facts
  have hfa : ∃ fa, X2_fill_f 174 (nI m) (nI t) h = X2_fill_B57 FU 174 (nI m) (nI t) (xL h (L + 3) (m * 7 + t) ^^^ -1) (nI ((t * 4 + m) * 10)) fa (nI 0) h ∧ ∀ r, r < 32 → bt fa r = (decide (t = 0) && factB p m r) := by
    unfold X2_fill_f X2_fill_B52
    simp (disch := omega) only [LT_e, G_T, BN_ok, if_true, if_false, nI_add, pk_mul, G_gx, nI_cl, nI_lI, nI_tI, nI_eI, C.s.c174, C.r9, C.l.c, C.l.r2, C.l.c3, C.l.z3, cell_ok, nI_z, C.r7, C.r8, C.w.c, C.q.s.c, C.w.S]
    by_cases h0 : t = 0
    · obtain ⟨u, u1, u2⟩ := factsAt_ok C.q (m := m) (by omega)
      refine ⟨u, ?_, fun r hr => by rw [u2 r hr, decide_eq_true h0]; rfl⟩
      rw [if_pos h0, u1]
      rfl
    · refine ⟨nI 0, ?_, fun r hr => by rw [b_n0, decide_eq_false h0]; rfl⟩
      rw [if_neg h0]
  obtain ⟨fa, e0, fb⟩ := hfa
  obtain ⟨h1, e1, F1, out1, val1⟩ := fill_a (up := xL h (L + 3) (m * 7 + t) ^^^ -1) (fa := fa) C hm ht6
  have C1 := C.fr F1 (by intro a q; omega)
  have L1 : ∀ j, laf h1 L j = laf h L j := laf_fr F1 (by omega) (by omega) (by omega)
  -- next
  have h2 : ∃ h2, X2_fill_B148 174 (nI m) (nI t) (xL h (L + 3) (m * 7 + t) ^^^ -1) (nI ((t * 4 + m) * 10)) h1 = X2_fill_B159 174 (nI m) (nI t) (xL h (L + 3) (m * 7 + t) ^^^ -1) (nI ((t * 4 + m) * 10)) h2 ∧ Fr (fun a => a = 175) h1 h2 ∧ (∀ i, ¬ ((t * 4 + m) * 10 ≤ i ∧ i < (t * 4 + m) * 10 + 10) → xL h2 175 i = xL h1 175 i) ∧ ∀ j, j < 64 → ∀ r, r < p.1 1 0 → TVb h2 j t m r = (!fD (laf h L j) m t && ((decide (t = 0) && factB p m r) || tl (xL h 176 ((t * 4 + m) * 10 + r)) j || (bt (pK p) r && tl (xL h 177 (m * 10 + r)) j) || nxB p (laf h L j) (TVb h j) t m r)) := by
    unfold X2_fill_B148
    by_cases h0 : t = 0
    · subst h0
      refine ⟨h1, ?_, Fr.rf, fun _ _ => rfl, fun j hj r hr => ?_⟩
      · simp only [nI_z, Int32.le_refl, if_true]
      · have : nxB p (laf h L j) (TVb h j) 0 m r = false := by unfold nxB; rfl
        rw [this, Bool.or_false]
        unfold TVb
        rw [val1 r hr j hj, hup j hj, fb r (by omega), Bool.and_comm]
    · obtain ⟨h2, e2, F2, out2, val2⟩ := addNext_ok (l3 := xL h (L + 3) (m * 7 + t) ^^^ -1) C1 hm (by omega : 0 < t) ht6
      refine ⟨h2, ?_, F2, out2, fun j hj r hr => ?_⟩
      · have : ¬ t ≤ 0 := by omega
        simp (disch := omega) only [nI_z, nI_add, pk_mul, G_gx, nI_cl, nI_lI, nI_tI, nI_eI, this, LT_e, G_T, BN_ok, if_true, if_false, C1.s.c174, e2]
      · have e5 : nxB p (laf h1 L j) (TVb h1 j) t m r = nxB p (laf h L j) (TVb h j) t m r := by
          unfold nxB
          rw [L1]
          congr 1
          apply any_congr
          intro i hi
          have hi := List.mem_range.mp hi
          rw [cH_congr (C.q.w.ru i hi) (Y := TVb h j (t - 1) m) (fun r hr => by unfold TVb; rw [out1 _ (by omega)])]
        show tl (xL h2 175 ((t * 4 + m) * 10 + r)) j = _
        rw [val2 r (by omega) j hj, val1 r hr j hj, hup j hj, fb r (by omega), e5]
        cases fD (laf h L j) m t <;> simp
  obtain ⟨h2, e2, F2, out2, val2⟩ := h2
  have C2 := C1.fr F2 (by intro a q; omega)
  have L2 : ∀ j, laf h2 L j = laf h L j := fun j => (laf_fr F2 (by omega) (by omega) (by omega) j).trans (L1 j)
  obtain ⟨h3, e3, F3, out3, val3⟩ := addNow_ok C2 hm ht6
  have C3 := C2.fr F3 (by intro a q; omega)
  obtain ⟨h4, e4, F4, out4, val4⟩ := fill_c (up := xL h (L + 3) (m * 7 + t) ^^^ -1) C3 hm ht6
  have T43 : ∀ j r, TVb h4 j t m r = TVb h3 j t m r := fun j r => by unfold TVb; rw [F4.L _ (by decide)]
  have c3 : ∀ i, xL h3 177 i = xL h 177 i := fun i => by rw [F3.L _ (by decide), F2.L _ (by decide), F1.L _ (by decide)]
  have V3 : ∀ j, j < 64 → ∀ r, r < p.1 1 0 → TVb h3 j t m r = (!fD (laf h L j) m t && clo p.1 m 10 (fun r => (decide (t = 0) && factB p m r) || tl (xL h 176 ((t * 4 + m) * 10 + r)) j || (bt (pK p) r && tl (xL h 177 (m * 10 + r)) j) || nxB p (laf h L j) (TVb h j) t m r) r) := by
    intro j hj r hr
    rw [val3 j hj, L2]
    cases hd : fD (laf h L j) m t
    · rw [if_neg (by decide)]
      show _ = clo _ _ _ _ _
      apply clo_congr (fun i hi => C.q.w.ru i hi) _ _ _ _ r hr
      intro r hr
      rw [val2 j hj r hr, hd]; rfl
    · rw [if_pos rfl, val2 j hj r hr, hd]; rfl
  refine ⟨h4, ?_, (F1.tr (F2.tr F3)).mo (fun a q => Or.inl q) |>.tr (F4.mo (fun a q => Or.inr q)), fun i hi => ?_, fun i hi => ?_, fun j hj r hr => ⟨?_, ?_⟩⟩
  · rw [e0, e1, e2]
    unfold X2_fill_B159
    simp only [LT_e, G_T, BN_ok, if_true, if_false, C2.s.c174, e3]
    exact e4
  · rw [F4.L _ (by decide), out3 i hi, out2 i hi, out1 i hi]
  · rw [out4 i hi, c3]
  · rw [T43, V3 j hj r hr]
  · have e6 : tl (xL h3 175 ((t * 4 + m) * 10 + r)) j = TVb h3 j t m r := rfl
    rw [val4 r hr j hj, T43, c3, hup j hj, e6, V3 j hj r hr]
    cases hd : fD (laf h L j) m t <;> simp
