/-- one run, as a slot of the reference has it -/
def IsSl (h : AH) (k : Nat) (p : PR) (f : FL) : Prop := (∀ t m, t ≤ pl p → m < p.1 0 0 → ∀ r, r < 32 → bt (xI h 210 (28 * k + 4 * t + m)) r = Tz p f t m r) ∧ (SlD h k f) ∧ (∀ s u, s < p.1 4 0 → u < pl p → xI h 213 (42 * k + 7 * s + u) = nI (stB p f s u) ∧ xI h 212 (42 * k + 7 * s + u) = cmV p f s u ∧ xI h 214 (42 * k + 7 * s + u) = bI (agB p f s u))
theorem IsSl.T {h : AH} {k : Nat} {p : PR} {f : FL} (q_ : IsSl h k p f) : ∀ t m, t ≤ pl p → m < p.1 0 0 → ∀ r, r < 32 → bt (xI h 210 (28 * k + 4 * t + m)) r = Tz p f t m r := q_.1
theorem IsSl.D {h : AH} {k : Nat} {p : PR} {f : FL} (q_ : IsSl h k p f) : SlD h k f := q_.2.1
theorem IsSl.W {h : AH} {k : Nat} {p : PR} {f : FL} (q_ : IsSl h k p f) : ∀ s u, s < p.1 4 0 → u < pl p → xI h 213 (42 * k + 7 * s + u) = nI (stB p f s u) ∧ xI h 212 (42 * k + 7 * s + u) = cmV p f s u ∧ xI h 214 (42 * k + 7 * s + u) = bI (agB p f s u) := q_.2.2
theorem IsSl.fr {A : Nat → Prop} {h h' : AH} {k : Nat} {p : PR} {f : FL} (F : Fr A h h') (n : ∀ a, 210 ≤ a → a ≤ 214 → ¬ A a) (q : IsSl h k p f) : IsSl h' k p f := by
  have := q
  unfold IsSl SlD at *
  simp only [F.I _ (n 210 (by decide) (by decide)), F.I _ (n 211 (by decide) (by decide)), F.I _ (n 212 (by decide) (by decide)), F.I _ (n 213 (by decide) (by decide)), F.I _ (n 214 (by decide) (by decide))]
  exact this
theorem IsSl.fq {A : Nat → Prop} {h h' : AH} {k : Nat} {p : PR} {f : FL} (F : Fq A h h') (n : ∀ a, 210 ≤ a → a ≤ 214 → ¬ A a) (q : IsSl h k p f) : IsSl h' k p f := by
  have := q
  unfold IsSl SlD at *
  simp only [F.I _ (n 210 (by decide) (by decide)), F.I _ (n 211 (by decide) (by decide)), F.I _ (n 212 (by decide) (by decide)), F.I _ (n 213 (by decide) (by decide)), F.I _ (n 214 (by decide) (by decide))]
  exact this
theorem IsSl.fs {h h' : AH} {k k' : Nat} {p : PR} {f : FL} (F : FrS k' h h') (n : k ≠ k') (wm : p.1 0 0 ≤ 4) (ws : p.1 4 0 ≤ 6) (hx : pl p ≤ 6) (q : IsSl h k p f) : IsSl h' k p f := by
  refine ⟨fun t m ht hm r hr => ?_, fun m t hm ht => ?_, fun s u hs hu => ?_⟩
  · rw [F.o0 _ (by omega)]; exact q.T t m ht hm r hr
  · rw [F.o1 _ (by omega)]; exact q.D m t hm ht
  · rw [F.o3 _ (by omega), F.o2 _ (by omega), F.o4 _ (by omega)]; exact q.W s u hs hu
theorem goes_m {h : AH} {b k : Nat} {p : PR} {f : FL} (C : MoX h b p) (i : IsH h 202 f) (hk : k < 104) : ∃ h', X15_goes_f 195 (nI k) h = some ((), h') ∧ FrS k h h' ∧ IsSl h' k p f := by
  have w := C.q.w
  have wm := w.m
  have ws := w.s
  have hx := C.x
  -- downs, nothing there
  obtain ⟨h1, ⟨F1, d1, z1⟩, e1⟩ := loopE (F := fun n t h' => X15_goes_B2 n 195 (nI k) (nI t) h') (E := fun h' => X15_goes_B63 195 (nI k) h') 7 (fun t h' => FrS k h h' ∧ (∀ u m, u < t → m < 4 → bt (xI h' 211 (7 * k + u)) m = fD f m u) ∧ ∀ u m, u < t → m < 4 → xI h' 210 (28 * k + 4 * u + m) = nI 0) (Nat.zero_le _) (by omega) (h := h) ⟨FrS.rf, fun u m hu => absurd hu (Nat.not_lt_zero _), fun u m hu => absurd hu (Nat.not_lt_zero _)⟩
    (by
      rintro n t h' ht ⟨F, d, z⟩
      have C' := C.fr F.F (by intro a q; omega)
      have i' := i.fr F.F (by intro k _ _; omega)
      have ht' : ¬ 7 ≤ t := by omega
      have hd := fun m hm => i'.D m t hm ht
      obtain ⟨h2, ⟨F2, z2⟩, e2⟩ := loopE (F := fun n' m h' => X15_goes_B30 (X15_goes_B2 n) n' 195 (nI k) (nI t) (nI m) h') (E := fun h' => X15_goes_B2 n 195 (nI k) (nI (t + 1)) h') 4 (fun m h2 => (FrS k (pI h' 211 (7 * k + t) (xI h' 205 t)) h2 ∧ Fr (fun x => x = 210) (pI h' 211 (7 * k + t) (xI h' 205 t)) h2) ∧ (∀ i, ¬ (28 * k + 4 * t ≤ i ∧ i < 28 * k + 4 * t + 4) → xI h2 210 i = xI h' 210 i) ∧ ∀ n, n < m → xI h2 210 (28 * k + 4 * t + n) = nI 0) (Nat.zero_le _) (by omega) (h := pI h' 211 (7 * k + t) (xI h' 205 t)) ⟨⟨FrS.rf, Fr.rf⟩, fun i hi => xI_ne (by omega), fun n hn => absurd hn (Nat.not_lt_zero _)⟩
        (by
          rintro n' m h2 hm ⟨⟨F2, F3⟩, o2, z2⟩
          have s2 := (C'.s.fr (Fr.i (A := fun x => x = 211) rfl)).fr F3
          have hm' : ¬ 4 ≤ m := by omega
          simp (disch := omega) only [X15_goes_B30, LT_e, G_T, BN_ok, if_true, if_false, nI_add, pk_mul, G_gx, nI_cl, nI_lI, nI_tI, nI_eI, hm', s2.c195, s2.r195_28, s2.c210, s2.z210]
          refine ⟨_, ⟨⟨F2.tr (FrS.w (by omega)), F3.tr (Fr.i rfl)⟩, fun i hi => ?_, fun n hn => ?_⟩, rfl⟩
          · rw [xI_ne (by omega)]; exact o2 i hi
          · by_cases e : n = m
            · rw [e, xI_self]
            · rw [xI_ne (by omega)]; exact z2 n (by omega))
        (by
          rintro n' h2 ⟨F2, z2⟩
          simp (disch := omega) only [X15_goes_B30, X15_goes_B57, LT_e, G_T, BN_ok, if_true, if_false, nI_add, pk_mul, G_gx, nI_cl, nI_lI, nI_tI, nI_eI, Nat.le_refl])
      refine ⟨h2, ⟨(F.tr (FrS.w (by omega))).tr F2.1, fun u m hu hm => ?_, fun u m hu hm => ?_⟩, ?_⟩
      · rw [F2.2.I _ (by decide)]
        by_cases e : u = t
        · rw [e, xI_self]; exact hd m hm
        · rw [xI_ne (by omega)]; exact d u m (by omega) hm
      · by_cases e : u = t
        · rw [e]; exact z2.2 m hm
        · rw [z2.1 _ (by omega)]; exact z u m (by omega) hm
      · simp (disch := omega) only [X15_goes_B2, LT_e, G_T, BN_ok, if_true, if_false, nI_add, pk_mul, G_gx, nI_cl, nI_lI, nI_tI, nI_eI, ht', C'.s.c195, C'.s.r195_26, C'.s.c202, C'.s.r202_2, C'.s.c205, C'.s.z205, C'.s.r195_29, C'.s.c211, C'.s.z211]
        exact e2)
    (by
      rintro n h' ⟨F, d, z⟩
      simp (disch := omega) only [X15_goes_B2, LT_e, G_T, BN_ok, if_true, if_false, nI_add, pk_mul, G_gx, nI_cl, nI_lI, nI_tI, nI_eI, Nat.le_refl])
  -- no words
  obtain ⟨h2, ⟨⟨F2, G2⟩, y2⟩, e2⟩ := loopE (F := fun n t h' => X15_goes_B65 n 195 (nI k) (nI t) h') (E := fun h' => X15_goes_B113 195 (nI k) h') 42 (fun t h' => (FrS k h1 h' ∧ Fr (fun x => 212 ≤ x ∧ x ≤ 214) h1 h') ∧ ∀ i, i < t → xI h' 213 (42 * k + i) = nI 0 ∧ xI h' 212 (42 * k + i) = -1 ∧ xI h' 214 (42 * k + i) = nI 0) (Nat.zero_le _) (by omega) (h := h1) ⟨⟨FrS.rf, Fr.rf⟩, fun i hi => absurd hi (Nat.not_lt_zero _)⟩
    (by
      rintro n t h' ht ⟨⟨F, G⟩, y⟩
      have C' := C.fr (F1.tr F).F (by intro a q; omega)
      have ht' : ¬ 42 ≤ t := by omega
      simp (disch := omega) only [X15_goes_B65, LT_e, G_T, BN_ok, if_true, if_false, nI_add, pk_mul, G_gx, nI_cl, nI_lI, nI_tI, nI_eI, xc_pI, xz_pI, xR_pI, xL_pI, xc_pL, xz_pL, xR_pL, xI_pL, xn_pI, xn_pL, ht', C'.s.c195, C'.s.r195_30, C'.s.c212, C'.s.z212, C'.s.r195_31, C'.s.c213, C'.s.z213, C'.s.r195_32, C'.s.c214, C'.s.z214, nar0]
      refine ⟨_, ⟨⟨F.tr (((FrS.w (by omega)).tr (FrS.w (by omega))).tr (FrS.w (by omega))), G.tr (((Fr.i (by omega)).tr (Fr.i (by omega))).tr (Fr.i (by omega)))⟩, fun i hi => ?_⟩, rfl⟩
      by_cases e : i = t
      · subst e
        refine ⟨?_, ?_, xI_self⟩
        · rw [xI_ne (by omega), xI_self]
        · rw [xI_ne (by omega), xI_ne (by omega), xI_self]
      · rw [xI_ne (by omega), xI_ne (by omega), xI_ne (by omega), xI_ne (by omega), xI_ne (by omega), xI_ne (by omega), xI_ne (by omega), xI_ne (by omega), xI_ne (by omega)]
        exact y i (by omega))
    (by
      rintro n h' ⟨F, d⟩
      simp (disch := omega) only [X15_goes_B65, LT_e, G_T, BN_ok, if_true, if_false, nI_add, pk_mul, G_gx, nI_cl, nI_lI, nI_tI, nI_eI, Nat.le_refl])
  have F12 := F1.tr F2
  have C2 := C.fr F12.F (by intro a q; omega)
  have init : MI h2 k p f 0 0 := by
    refine ⟨fun m t hm ht => by rw [G2.I _ (by decide)]; exact d1 t m ht hm, i.fr F12.F (by intro k _ _; omega), fun u n hu => by omega, fun u n hu hn _ => by rw [G2.I _ (by decide)]; exact z1 u n hu hn, fun s u _ hu => absurd hu (Nat.not_lt_zero _), fun s u hs hu _ => ?_⟩
    have := y2 (7 * s + u) (by omega)
    rw [← Nat.add_assoc] at this
    exact this
  -- the ticks
  obtain ⟨h3, ⟨F3, g3⟩, e3⟩ := loopE (F := fun n t h' => X15_goes_B115 n 195 (nI k) (nI t) h') (E := fun h' => some ((), h')) (pl p + 1) (fun t h' => FrS k h2 h' ∧ if t ≤ pl p then MI h' k p f t 0 else MS h' k p f (pl p) 0) (Nat.zero_le _) (by omega) (h := h2) ⟨FrS.rf, by rw [if_pos (by omega)]; exact init⟩
    (by
      rintro n t h' ht ⟨F, g⟩
      rw [if_pos (by omega)] at g
      have C' := C2.fr F.F (by intro a q; omega)
      have ht' : ¬ pl p < t := by omega
      obtain ⟨h3, ⟨F3, g3⟩, e3⟩ := loopE (F := fun n' m h' => X15_goes_B125 (X15_goes_B115 n) n' 195 (nI k) (nI t) (nI m) h') (E := fun h' => X15_goes_B179 (X15_goes_B115 n) 195 (nI k) (nI t) h') (p.1 0 0) (fun m h3 => FrS k h' h3 ∧ MI h3 k p f t m) (Nat.zero_le _) (by omega) (h := h') ⟨FrS.rf, g⟩
        (by
          rintro n' m h3 hm ⟨F3, g3⟩
          obtain ⟨h4, e4, F4, g4⟩ := MI_fill (n := n') (C'.fr F3.F (by intro a q; omega)) hk (by omega) hm g3 (X15_goes_B115 n)
          exact ⟨h4, ⟨F3.tr F4, g4⟩, e4⟩)
        (by
          rintro n' h3 ⟨F3, g3⟩
          have C3 := C'.fr F3.F (by intro a q; omega)
          simp (disch := omega) only [X15_goes_B125, LT_e, G_T, BN_ok, if_true, if_false, nI_add, pk_mul, G_gx, nI_cl, nI_lI, nI_tI, nI_eI, C3.s.c195, C3.r4, C3.q.s.c, C3.q.m, Nat.le_refl])
      have C3 := C'.fr F3.F (by intro a q; omega)
      have s3 := MI_MS (Nat.le_refl _) g3
      have e4 : X15_goes_B125 (X15_goes_B115 n) FU 195 (nI k) (nI t) (nI 0) h' = X15_goes_B181 (X15_goes_B115 n) FU 195 (nI k) (nI t) (nI 0) h3 := e3
      have e5 : X15_goes_B115 (n + 1) 195 (nI k) (nI t) h' = X15_goes_B125 (X15_goes_B115 n) FU 195 (nI k) (nI t) (nI 0) h' := by
        simp (disch := omega) only [X15_goes_B115, LT_e, G_T, BN_ok, if_true, if_false, nI_add, pk_mul, G_gx, nI_cl, nI_lI, nI_tI, nI_eI, C'.s.c195, C'.l, ht']
      by_cases hl : t < pl p
      · obtain ⟨h5, ⟨F5, g5⟩, e6⟩ := loopE (F := fun n' q h' => X15_goes_B181 (X15_goes_B115 n) n' 195 (nI k) (nI t) (nI q) h') (E := fun h' => X15_goes_B115 n 195 (nI k) (nI (t + 1)) h') (p.1 4 0) (fun q h5 => FrS k h3 h5 ∧ MS h5 k p f t q) (Nat.zero_le _) (by omega) (h := h3) ⟨FrS.rf, s3⟩
          (by
            rintro n' q h5 hq ⟨F5, g5⟩
            have C5 := C3.fr F5.F (by intro a q; omega)
            obtain ⟨h6, e6, F6, g6⟩ := MS_send C5 hk hl hq g5
            have hq' : ¬ p.1 4 0 ≤ q := by omega
            have hl' : ¬ pl p ≤ t := by omega
            refine ⟨h6, ⟨F5.tr F6, g6⟩, ?_⟩
            simp (disch := omega) only [X15_goes_B181, LT_e, G_T, BN_ok, if_true, if_false, nI_add, pk_mul, G_gx, nI_cl, nI_lI, nI_tI, nI_eI, C5.s.c195, C5.r4, C5.q.s.c, C5.q.sn, hq', C5.l, hl', e6])
          (by
            rintro n' h5 ⟨F5, g5⟩
            have C5 := C3.fr F5.F (by intro a q; omega)
            simp (disch := omega) only [X15_goes_B181, X15_goes_B213, LT_e, G_T, BN_ok, if_true, if_false, nI_add, pk_mul, G_gx, nI_cl, nI_lI, nI_tI, nI_eI, C5.s.c195, C5.r4, C5.q.s.c, C5.q.sn, Nat.le_refl])
        refine ⟨h5, ⟨(F.tr F3).tr F5, ?_⟩, ?_⟩
        · rw [if_pos (by omega)]; exact MS_MI g5 ws
        · rw [e5, e4]; exact e6
      · refine ⟨h3, ⟨F.tr F3, ?_⟩, ?_⟩
        · rw [if_neg (by omega)]
          have : t = pl p := by omega
          subst this; exact s3
        · rw [e5, e4]
          have hl' : pl p ≤ t := by omega
          have : ∀ n', X15_goes_B181 (X15_goes_B115 n) (n' + 1) 195 (nI k) (nI t) (nI 0) h3 = X15_goes_B115 n 195 (nI k) (nI (t + 1)) h3 := by
            intro n'
            by_cases h0 : p.1 4 0 ≤ 0
            · simp (disch := omega) only [X15_goes_B181, X15_goes_B213, LT_e, G_T, BN_ok, if_true, if_false, nI_add, pk_mul, G_gx, nI_cl, nI_lI, nI_tI, nI_eI, C3.s.c195, C3.r4, C3.q.s.c, C3.q.sn, h0]
            · simp (disch := omega) only [X15_goes_B181, X15_goes_B213, LT_e, G_T, BN_ok, if_true, if_false, nI_add, pk_mul, G_gx, nI_cl, nI_lI, nI_tI, nI_eI, C3.s.c195, C3.r4, C3.q.s.c, C3.q.sn, h0, C3.l, hl']
          exact this 3999999)
    (by
      rintro n h' ⟨F, g⟩
      have C' := C2.fr F.F (by intro a q; omega)
      have ht' : pl p < pl p + 1 := by omega
      simp (disch := omega) only [X15_goes_B115, LT_e, G_T, BN_ok, if_true, if_false, nI_add, pk_mul, G_gx, nI_cl, nI_lI, nI_tI, nI_eI, C'.s.c195, C'.l, ht'])
  rw [if_neg (by omega)] at g3
  refine ⟨h3, ?_, F12.tr F3, fun t m ht hm => g3.T t m ht hm, g3.D, fun s u hs hu => g3.W s u hs (.inl hu) hu⟩
  have a1 : X15_goes_f 195 (nI k) h = X15_goes_B65 FU 195 (nI k) (nI 0) h1 := e1
  have a2 : X15_goes_B65 FU 195 (nI k) (nI 0) h1 = X15_goes_B115 FU 195 (nI k) (nI 0) h2 := e2
  rw [a1, a2]
  exact e3
