theorem zfill_ok {h : AH} {a n : Nat} (c : xc h a = 17) (z : xz h a = n) (hn : n < 1000) : ∃ h', J7_fill_d0a16_f a (lN 0) h = some ((), h') ∧ Fr (fun x => x = a) h h' ∧ ∀ i, i < n → xL h' a i = lN 0 := by
  unfold J7_fill_d0a16_f
  simp only [LT_e, G_T, BN_ok, if_true, if_false, c, z]
  obtain ⟨h', ⟨F, v⟩, e⟩ := loopE (F := fun n' k h' => J7_fill_d0a16_B6 n' a (lN 0) (nI k) (nI n) h') (E := fun h' => some ((), h')) n (fun k h' => Fr (fun x => x = a) h h' ∧ ∀ i, i < k → xL h' a i = lN 0) (Nat.zero_le _) (by omega) (h := h) ⟨Fr.rf, fun i hi => absurd hi (Nat.not_lt_zero _)⟩
    (by
      rintro n' k h' hk ⟨F, v⟩
      have hk' : ¬ n ≤ k := by omega
      simp (disch := omega) only [J7_fill_d0a16_B6, LT_e, G_T, BN_ok, if_true, if_false, nI_add, pk_mul, G_gx, nI_cl, nI_lI, nI_tI, nI_eI, hk', F.c, F.z, c, z]
      refine ⟨_, ⟨F.tr (Fr.l rfl), fun i hi => ?_⟩, rfl⟩
      rw [xL_pL]
      by_cases e : i = k
      · rw [if_pos ⟨rfl, e⟩]
      · rw [if_neg (fun q => e q.2)]; exact v i (by omega))
    (by
      rintro n' h' ⟨F, v⟩
      simp (disch := omega) only [J7_fill_d0a16_B6, LT_e, G_T, BN_ok, if_true, if_false, nI_add, pk_mul, G_gx, nI_cl, nI_lI, nI_tI, nI_eI, Nat.le_refl])
  exact ⟨h', e, F, v⟩
theorem go_tick {h h' : AH} {wk b L t : Nat} {p : PR} (k44 : Nat → Int32 → AH → Option (Unit × AH)) (C : CoX h wk b L p) (ht : t ≤ pl p) (g : GI h h' L p t 0) : ∃ h2, X2_go_B58 k44 FU 174 (nI t) (nI 0) h' = k44 174 (nI (t + 1)) h2 ∧ if t < pl p then GI h h2 L p (t + 1) 0 else SI h h2 L p t 0 := by
  have wm := C.q.w.m
  have ws := C.q.w.s
  have hx := C.x
  obtain ⟨h1, g1, e1⟩ := loopE (F := fun n k h' => X2_go_B58 k44 n 174 (nI t) (nI k) h') (E := fun h' => X2_go_B83 k44 174 (nI t) h') (p.1 0 0) (fun k h' => GI h h' L p t k) (Nat.zero_le _) (by omega) (h := h') g
    (by
      intro n k h' hk g
      have C' := C.fr g.F (by intro a q; omega)
      obtain ⟨h2, e, g2⟩ := GI_fill C ht hk g
      have hk' : ¬ p.1 0 0 ≤ k := by omega
      refine ⟨h2, g2, ?_⟩
      simp (disch := omega) only [X2_go_B58, LT_e, G_T, BN_ok, if_true, if_false, nI_add, pk_mul, G_gx, nI_cl, nI_lI, nI_tI, nI_eI, C'.s.c174, C'.r8, C'.q.s.c, C'.q.m, hk', e])
    (by
      intro n h' g
      have C' := C.fr g.F (by intro a q; omega)
      simp (disch := omega) only [X2_go_B58, LT_e, G_T, BN_ok, if_true, if_false, nI_add, pk_mul, G_gx, nI_cl, nI_lI, nI_tI, nI_eI, C'.s.c174, C'.r8, C'.q.s.c, C'.q.m, Nat.le_refl])
  have s1 := GI_SI (Nat.le_refl _) g1
  have e2 : X2_go_B58 k44 FU 174 (nI t) (nI 0) h' = X2_go_B86 k44 FU 174 (nI t) (nI 0) h1 := e1
  rw [e2]
  by_cases hl : t < pl p
  · simp only [hl, if_true]
    obtain ⟨h2, g2, e2⟩ := loopE (F := fun n k h' => X2_go_B86 k44 n 174 (nI t) (nI k) h') (E := fun h' => X2_go_B122 k44 174 (nI t) h') (p.1 4 0) (fun k h' => SI h h' L p t k) (Nat.zero_le _) (by omega) (h := h1) s1
      (by
        intro n k h' hk g
        have C' := C.fr g.F (by intro a q; omega)
        obtain ⟨h2, e, g2⟩ := SI_send C hl hk g
        have hk' : ¬ p.1 4 0 ≤ k := by omega
        have hl' : ¬ pl p ≤ t := by omega
        refine ⟨h2, g2, ?_⟩
        simp (disch := omega) only [X2_go_B86, LT_e, G_T, BN_ok, if_true, if_false, nI_add, pk_mul, G_gx, nI_cl, nI_lI, nI_tI, nI_eI, C'.s.c174, C'.r8, C'.q.s.c, C'.q.sn, hk', C'.r7, C'.w.c, C'.w.l, hl', e])
      (by
        intro n h' g
        have C' := C.fr g.F (by intro a q; omega)
        simp (disch := omega) only [X2_go_B86, LT_e, G_T, BN_ok, if_true, if_false, nI_add, pk_mul, G_gx, nI_cl, nI_lI, nI_tI, nI_eI, C'.s.c174, C'.r8, C'.q.s.c, C'.q.sn, Nat.le_refl])
    refine ⟨h2, ?_, SI_GI g2⟩
    have e3 : X2_go_B86 k44 FU 174 (nI t) (nI 0) h1 = X2_go_B122 k44 174 (nI t) h2 := e2
    rw [e3]
    unfold X2_go_B122
    rw [LT_e, nI_add]
  · simp only [hl, if_false]
    refine ⟨h1, ?_, s1⟩
    have C' := C.fr s1.F (by intro a q; omega)
    have hl' : pl p ≤ t := by omega
    have : ∀ n, X2_go_B86 k44 (n + 1) 174 (nI t) (nI 0) h1 = k44 174 (nI (t + 1)) h1 := by
      intro n
      by_cases h0 : p.1 4 0 ≤ 0
      · simp (disch := omega) only [X2_go_B86, X2_go_B122, LT_e, G_T, BN_ok, if_true, if_false, nI_add, pk_mul, G_gx, nI_cl, nI_lI, nI_tI, nI_eI, C'.s.c174, C'.r8, C'.q.s.c, C'.q.sn, h0]
      · simp (disch := omega) only [X2_go_B86, X2_go_B122, LT_e, G_T, BN_ok, if_true, if_false, nI_add, pk_mul, G_gx, nI_cl, nI_lI, nI_tI, nI_eI, C'.s.c174, C'.r8, C'.q.s.c, C'.q.sn, h0, C'.r7, C'.w.c, C'.w.l, hl']
    exact this 3999999
theorem go_ok {h : AH} {wk b L : Nat} {p : PR} (s : SG h) (l : LaS h L) (w : IsW h wk b p) (q : IsCB h b p.1) (n : 1 ≤ pl p) (x : pl p ≤ 6) : ∃ h', X2_go_f 174 wk L h = some ((), h') ∧ Fq (fun a => 174 ≤ a ∧ a ≤ 179) h h' ∧ CoX h' wk b L p ∧ (∀ j, laf h' L j = laf h L j) ∧ ∀ j, j < 64 → (∀ t m r, t ≤ pl p → m < p.1 0 0 → r < p.1 1 0 → TVb h' j t m r = Tz p (laf h L j) t m r) ∧ (∀ s u, s < p.1 4 0 → u < pl p → tl (xL h' 179 (s * 7 + u)) j = sntB p (laf h L j) (Tz p (laf h L j)) s u) ∧ tl (xL h' 174 5) j = (preP p (Tz p (laf h L j)) && !posP p (Tz p (laf h L j))) ∧ tl (xL h' 174 6) j = (preP p (Tz p (laf h L j)) && posP p (Tz p (laf h L j))) := by
  have hL := l.w
  have hw := w.w
  have hb1 := q.s.hi
  have wm := q.w.m
  have wr := q.w.r
  have ws := q.w.s
  have hwa : wk ≠ 174 ∧ wk ≠ 180 := by omega
  have hne : ¬ (wk = 174) := by omega
  -- the three references
  have F0 : Fq (fun a => 174 ≤ a ∧ a ≤ 179) h (pR (pR (pR h 174 7 wk) 174 8 b) 174 9 L) := ((Fq.R (.inl ⟨rfl, by decide⟩)).tr (Fq.R (.inl ⟨rfl, by decide⟩))).tr (Fq.R (.inl ⟨rfl, by decide⟩))
  generalize hk : pR (pR (pR h 174 7 wk) 174 8 b) 174 9 L = k at F0
  have s0 := s.fq F0
  have l0 := l.fq F0
  have w0 := w.fq F0 (by omega)
  have q0 := q.fq F0 (by intro a q; omega)
  have C0 : CoX k wk b L p := ⟨s0, l0, w0, q0, by rw [← hk]; rfl, by rw [← hk]; rfl, by rw [← hk]; rfl, n, x⟩
  have lf0 : ∀ j, laf k L j = laf h L j := fun j => by unfold laf; simp only [F0.L _ (by omega : ¬ (174 ≤ L + 1 ∧ L + 1 ≤ 179)), F0.L _ (by omega : ¬ (174 ≤ L + 2 ∧ L + 2 ≤ 179)), F0.L _ (by omega : ¬ (174 ≤ L + 3 ∧ L + 3 ≤ 179))]
  -- the rows are wiped
  obtain ⟨k1, e1, F1, v1⟩ := zfill_ok s0.c176 s0.z176 (by decide)
  have s1 := s0.fr F1
  obtain ⟨k2, e2, F2, v2⟩ := zfill_ok s1.c177 s1.z177 (by decide)
  have s2 := s1.fr F2
  obtain ⟨k3, e3, F3, v3⟩ := zfill_ok s2.c178 s2.z178 (by decide)
  have G1 : Fr (fun a => 174 ≤ a ∧ a ≤ 179) k k3 := ((F1.mo (fun a q => by omega)).tr (F2.mo (fun a q => by omega))).tr (F3.mo (fun a q => by omega))
  have C3 := C0.fr G1 (by intro a q; omega)
  have lf3 : ∀ j, laf k3 L j = laf h L j := fun j => (laf_fr G1 (by omega) (by omega) (by omega) j).trans (lf0 j)
  have e0 : X2_go_f 174 wk L h = X2_go_B44 FU 174 (nI 0) k3 := by
    unfold X2_go_f
    have hr : xR (pR h 174 7 wk) wk 0 = b := by rw [xR_pR, if_neg (by omega)]; exact w.bk
    have c1 : xc (pR h 174 7 wk) wk = 10 := w.c
    have c2 : xc (pR h 174 7 wk) 174 = 2 := s.c174
    have c3 : xc (pR (pR h 174 7 wk) 174 8 b) 174 = 2 := s.c174
    simp only [LT_e, s.c174, c1, c2, hr, c3, G_T, hk, s0.c174, s0.r174_1, e1, BN_ok, s1.c174, s1.r174_2, e2, s2.c174, s2.r174_3, e3]
  -- the ticks
  have init : GI k3 k3 L p 0 0 := by
    refine ⟨Fr.rf, fun j _ u n r h => by omega, fun j hj u n r hu hn hr => ?_, fun j hj n r hn hr => ?_, fun j hj s hs => ?_, fun j hj s u _ h => absurd h (Nat.not_lt_zero _)⟩
    · rw [F3.L _ (by decide), F2.L _ (by decide), v1 _ (by omega), tl_n0]
      simp
    · rw [F3.L _ (by decide), v2 _ (by omega), tl_n0, if_neg (by omega), kpB_0]
    · rw [v3 _ (by omega), tl_n0]; rfl
  obtain ⟨k4, g4, e4⟩ := loopE (F := fun n k h' => X2_go_B44 n 174 (nI k) h') (E := fun h' => X2_go_B128 174 h') (pl p + 1) (fun t h' => if t ≤ pl p then GI k3 h' L p t 0 else SI k3 h' L p (pl p) 0) (Nat.zero_le _) (by omega) (h := k3) (by rw [if_pos (by omega)]; exact init)
    (by
      intro n t h' ht g
      rw [if_pos (by omega)] at g
      have C' := C3.fr g.F (by intro a q; omega)
      obtain ⟨h2, e, g2⟩ := go_tick (X2_go_B44 n) C3 (by omega) g
      refine ⟨h2, ?_, ?_⟩
      · by_cases h1 : t < pl p
        · rw [if_pos h1] at g2; rw [if_pos (by omega)]; exact g2
        · rw [if_neg h1] at g2; rw [if_neg (by omega)]
          have : t = pl p := by omega
          subst this; exact g2
      · have hk' : ¬ pl p < t := by omega
        simp (disch := omega) only [X2_go_B44, LT_e, G_T, BN_ok, if_true, if_false, nI_add, pk_mul, G_gx, nI_cl, nI_lI, nI_tI, nI_eI, C'.s.c174, C'.r7, C'.w.c, C'.w.l, hk']
        exact e)
    (by
      intro n h' g
      rw [if_neg (by omega)] at g
      have C' := C3.fr g.F (by intro a q; omega)
      have hk' : pl p < pl p + 1 := by omega
      simp (disch := omega) only [X2_go_B44, LT_e, G_T, BN_ok, if_true, if_false, nI_add, pk_mul, G_gx, nI_cl, nI_lI, nI_tI, nI_eI, C'.s.c174, C'.r7, C'.w.c, C'.w.l, hk'])
  rw [if_neg (by omega)] at g4
  have C4 := C3.fr g4.F (by intro a q; omega)
  obtain ⟨k5, e5, F5, v5⟩ := judge_ok C4
  have FF : Fr (fun a => 174 ≤ a ∧ a ≤ 179) k k5 := (G1.tr g4.F).tr (F5.mo (fun a q => by omega))
  have lf5 : ∀ j, laf k5 L j = laf h L j := fun j => (laf_fr FF (by omega) (by omega) (by omega) j).trans (lf0 j)
  refine ⟨k5, ?_, F0.tr FF.q, C0.fr FF (by intro a q; omega), lf5, fun j hj => ?_⟩
  · have e6 : X2_go_B44 FU 174 (nI 0) k3 = X2_go_B128 174 k4 := e4
    rw [e0, e6]
    unfold X2_go_B128
    rw [G_t C4.s.c174, e5, BN_ok]
  · have tv : ∀ t m r, t ≤ pl p → m < p.1 0 0 → r < p.1 1 0 → TVb k4 j t m r = Tz p (laf h L j) t m r := fun t m r ht hm hr => by rw [← lf3]; exact g4.T j hj t m r ht hm hr
    have hpre : preP p (TVb k4 j) = preP p (Tz p (laf h L j)) := by
      unfold preP
      apply all_congr
      intro i hi
      have hi := List.mem_range.mp hi
      exact tv _ _ _ (Nat.le_refl _) (q.w.ea i hi) (q.w.er i hi)
    have hpos : posP p (TVb k4 j) = posP p (Tz p (laf h L j)) := by
      unfold posP
      apply any_congr
      intro i hi
      have hi := List.mem_range.mp hi
      exact tv _ _ _ (Nat.le_refl _) (q.w.oa i hi) (q.w.or i hi)
    refine ⟨fun t m r ht hm hr => ?_, fun s u hs hu => ?_, ?_, ?_⟩
    · rw [← tv t m r ht hm hr]; unfold TVb; rw [F5.L _ (by decide)]
    · rw [F5.L _ (by decide), ← lf3]; exact g4.s j hj s u hs (.inl hu) hu
    · rw [(v5 j hj).1, hpre, hpos]
    · rw [(v5 j hj).2, hpre, hpos]
