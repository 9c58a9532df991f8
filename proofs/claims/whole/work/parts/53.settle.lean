theorem Tz_all0 {h : AH} {a t m : Nat} {p : PR} {f : FL} (i : IsTr h a p f) (w : WB p.1) (ht : t ≤ pl p) (hm : m < p.1 0 0) (z : xI h (a + 1) (t * 4 + m) = nI 0) : ∀ r, r < p.1 1 0 → Tz p f t m r = false := by
  intro r hr
  have wr := w.r
  have := i.T t m ht hm r (by omega)
  rw [z, b_n0, decide_eq_true hr, Bool.true_and] at this
  exact this.symm
theorem Tz_up {h : AH} {a t m : Nat} {p : PR} {f : FL} (i : IsTr h a p f) (ht : t ≤ pl p) (hm : m < p.1 0 0) (z : ¬ xI h (a + 1) (t * 4 + m) = nI 0) : fD f m t = false := by
  cases hd : fD f m t
  · rfl
  · exfalso
    apply z
    apply b_ext
    intro r hr
    rw [i.T t m ht hm r hr, Tz_down hd, b_n0, Bool.and_false]
/-- one machine in one tick settled, those ahead being so -/
theorem settle_ok {h : AH} {wk b a L m t : Nat} {p : PR} {f : FL} (C : SuX h wk b a L p f) (hm : m < p.1 0 0) (ht : t ≤ pl p) (hS : ∀ j, j < 64 → ∀ u n r, u < t → n < p.1 0 0 → r < p.1 1 0 → SVb h j u n r = Sz p f (laf h L j) u n r) : ∃ h', X7_settle_f 180 (nI m) (nI t) h = some ((), h') ∧ Fr (fun x => x = 181) h h' ∧ (∀ i, ¬ ((t * 4 + m) * 10 ≤ i ∧ i < (t * 4 + m) * 10 + 10) → xL h' 181 i = xL h 181 i) ∧ ∀ j, j < 64 → ∀ r, r < p.1 1 0 → SVb h' j t m r = Sz p f (laf h L j) t m r := by
  have w := C.q.w
  have wm := w.m
  have wr := w.r
  have hx := C.x
  have hL := C.l.w
  -- wiped
  obtain ⟨h1, ⟨F1, o1, z1⟩, e1⟩ := loopE (F := fun n k h' => X7_settle_B12 n 180 (nI m) (nI t) (nI ((t * 4 + m) * 10)) (nI k) h') (E := fun h' => X7_settle_B40 180 (nI m) (nI t) h') (p.1 1 0) (fun k h' => Fr (fun x => x = 181) h h' ∧ (∀ i, ¬ ((t * 4 + m) * 10 ≤ i ∧ i < (t * 4 + m) * 10 + 10) → xL h' 181 i = xL h 181 i) ∧ ∀ r, r < k → xL h' 181 ((t * 4 + m) * 10 + r) = lN 0) (Nat.zero_le _) (by omega) (h := h) ⟨Fr.rf, fun _ _ => rfl, fun r hr => absurd hr (Nat.not_lt_zero _)⟩
    (by
      rintro n k h' hk ⟨F, out, val⟩
      have C' := C.fr F (fun x q => q)
      have hk' : ¬ p.1 1 0 ≤ k := by omega
      simp (disch := omega) only [X7_settle_B12, LT_e, G_T, BN_ok, if_true, if_false, nI_add, pk_mul, G_gx, nI_cl, nI_lI, nI_tI, nI_eI, C'.s.c180, C'.r2, C'.q.s.c, C'.q.r, hk', C'.s.r180_0, C'.s.c181, C'.s.z181]
      refine ⟨_, ⟨F.tr (Fr.l rfl), fun i hi => ?_, fun r hr => ?_⟩, rfl⟩
      · rw [xL_pL, if_neg (by omega)]; exact out i hi
      · rw [xL_pL]
        by_cases er : r = k
        · rw [if_pos ⟨rfl, by omega⟩]
        · rw [if_neg (by omega)]; exact val r (by omega))
    (by
      rintro n h' ⟨F, out, val⟩
      have C' := C.fr F (fun x q => q)
      simp (disch := omega) only [X7_settle_B12, LT_e, G_T, BN_ok, if_true, if_false, nI_add, pk_mul, G_gx, nI_cl, nI_lI, nI_tI, nI_eI, C'.s.c180, C'.r2, C'.q.s.c, C'.q.r, Nat.le_refl])
  have C1 := C.fr F1 (fun x q => q)
  have L1 : ∀ j, laf h1 L j = laf h L j := laf_fr F1 (by omega) (by omega) (by omega)
  have e0 : X7_settle_f 180 (nI m) (nI t) h = X7_settle_B40 180 (nI m) (nI t) h1 := by
    unfold X7_settle_f
    rw [cell_ok, BN_ok, LT_e, pk_mul]
    exact e1
  have S1 : ∀ j, j < 64 → ∀ u n r, u < t → n < p.1 0 0 → r < p.1 1 0 → SVb h1 j u n r = Sz p f (laf h L j) u n r := by
    intro j hj u n r hu hn hr
    rw [← hS j hj u n r hu hn hr]
    unfold SVb
    rw [o1 _ (by omega)]
  have Z1 : ∀ j, ∀ r, r < p.1 1 0 → SVb h1 j t m r = false := fun j r hr => by unfold SVb; rw [z1 r hr, tl_n0]
  rw [e0]
  unfold X7_settle_B40
  rw [G_t C1.s.c180, C1.r3, G_t C1.t.s.c, cell_ok, BN_ok, C1.t.s.r0, G_t C1.t.s.c1, C1.t.s.z1, G_gx (by omega) (by omega), nI_cl (by omega)]
  by_cases hz : xI h1 (a + 1) (t * 4 + m) = 0
  · rw [if_pos hz]
    refine ⟨h1, rfl, F1, o1, fun j hj r hr => ?_⟩
    rw [Z1 j r hr]
    have t0 := Tz_all0 C1.t w ht hm hz r hr
    cases hs : Sz p f (laf h L j) t m r
    · rfl
    · rw [Sz_sub w t m r hs] at t0; cases t0
  · have hup := Tz_up C1.t ht hm hz
    rw [if_neg hz, G_t C1.s.c180, C1.r4, G_t C1.l.c, C1.l.r2, G_t C1.l.c3, pk_mul, nI_add, C1.l.z3, G_gx (by omega) (by omega), nI_cl (by omega), LT_e]
    have fr : ∀ j, j < 64 → tl (xL h1 (L + 3) (m * 7 + t) ^^^ -1) j = !fD (laf h L j) m t := fun j hj => by rw [tl_not hj, ← laf_D (by omega) (by omega), L1]
    generalize xL h1 (L + 3) (m * 7 + t) ^^^ -1 = y at *
    -- ahead of now
    have mid : ∃ h2, (if nI t = 0 then (G (xc h1 180 = 7) <| BN (X7_addFacts_f 180 (nI m) y h1) fun _ h19 => X7_settle_B115 180 (nI m) (nI t) h19) else (G (xc h1 180 = 7) <| BN (X7_addWords_f 180 (nI m) (nI t) y h1) fun _ h13 => G (xc h13 180 = 7) <| BN (X7_addKept_f 180 (nI m) (nI t) y h13) fun _ h15 => G (xc h15 180 = 7) <| BN (X7_addNext_f 180 (nI m) (nI t) y h15) fun _ h17 => X7_settle_B115 180 (nI m) (nI t) h17)) = X7_settle_B115 180 (nI m) (nI t) h2 ∧ Fr (fun x => x = 181) h1 h2 ∧ (∀ i, ¬ ((t * 4 + m) * 10 ≤ i ∧ i < (t * 4 + m) * 10 + 10) → xL h2 181 i = xL h1 181 i) ∧ ∀ j, j < 64 → ∀ r, r < p.1 1 0 → SVb h2 j t m r = (spB p f (laf h L j) (Sz p f (laf h L j)) t m r && tl y j) := by
      by_cases ht0 : t = 0
      · subst ht0
        obtain ⟨h2, e2, F2, o2, v2⟩ := addFacts_ok (y := y) C1 hm
        refine ⟨h2, by rw [if_pos nI_0, G_t C1.s.c180, e2, BN_ok], F2, fun i hi => o2 i (by omega), fun j hj r hr => ?_⟩
        have e5 : swB p f (laf h L j) (Sz p f (laf h L j)) 0 m r = false := by
          unfold swB
          rw [Bool.eq_false_iff]
          intro q
          rw [List.any_eq_true] at q
          obtain ⟨s, _, q⟩ := q
          simp at q
        have e6 : skB p f (Sz p f (laf h L j)) 0 m r = false := by unfold skB kf; simp
        have e7 : snB p f (laf h L j) (Sz p f (laf h L j)) 0 m r = false := by unfold snB; rfl
        unfold spB
        rw [v2 r hr j hj, Z1 j r hr, e5, e6, e7]
        cases factB p m r <;> simp
      · obtain ⟨h2, e2, F2, o2, v2⟩ := addWords_ok (y := y) C1 hm (by omega : 0 < t) ht
        have C2 := C1.fr F2 (fun x q => q)
        obtain ⟨h3, e3, F3, o3, v3⟩ := addKept_s (y := y) C2 hm ht
        have C3 := C2.fr F3 (fun x q => q)
        obtain ⟨h4, e4, F4, o4, v4⟩ := addNext_s (y := y) C3 hm (by omega : 0 < t) ht
        have L2 : ∀ j, laf h3 L j = laf h L j := fun j => ((laf_fr F3 (by omega) (by omega) (by omega) j).trans (laf_fr F2 (by omega) (by omega) (by omega) j)).trans (L1 j)
        have nz : ¬ nI t = 0 := nI_ne0 (by omega) (by omega)
        refine ⟨h4, by rw [if_neg nz, G_t C1.s.c180, e2, BN_ok, G_t C2.s.c180, e3, BN_ok, G_t C3.s.c180, e4, BN_ok], (F2.tr F3).tr F4, fun i hi => by rw [o4 i hi, o3 i hi, o2 i hi], fun j hj r hr => ?_⟩
        -- the older ticks are the same
        have S2 : ∀ u n r, u < t → n < p.1 0 0 → r < p.1 1 0 → SVb h2 j u n r = Sz p f (laf h L j) u n r := fun u n r hu hn hr => by
          rw [← S1 j hj u n r hu hn hr]; unfold SVb; rw [o2 _ (by omega)]
        have S3 : ∀ u n r, u < t → n < p.1 0 0 → r < p.1 1 0 → SVb h3 j u n r = Sz p f (laf h L j) u n r := fun u n r hu hn hr => by
          rw [← S2 u n r hu hn hr]; unfold SVb; rw [o3 _ (by omega)]
        have a1 : swB p f (laf h1 L j) (SVb h1 j) t m r = swB p f (laf h L j) (Sz p f (laf h L j)) t m r := by
          unfold swB
          rw [L1]
          apply any_congr
          intro s hs
          have hs := List.mem_range.mp hs
          congr 1
          apply any_congr
          intro u hu
          have hu := List.mem_range.mp hu
          have w2 := (w.se s hs).pl
          have w3 := w.sp s hs
          rw [wsB_cg (w.se s hs) (S' := Sz p f (laf h L j)) (fun r hr => S1 j hj _ _ r (by unfold ctK; split <;> omega) (by omega) hr)]
        have a2 : skB p f (SVb h2 j) t m r = skB p f (Sz p f (laf h L j)) t m r := by
          unfold skB
          by_cases q : kf f m t = 0
          · simp [q]
          · rw [S2 _ _ _ (by have := kf_le (f := f) (m := m) t; omega) hm hr]
        have a3 : snB p f (laf h3 L j) (SVb h3 j) t m r = snB p f (laf h L j) (Sz p f (laf h L j)) t m r := by
          unfold snB
          rw [L2]
          congr 1
          apply any_congr
          intro i hi
          have hi := List.mem_range.mp hi
          rw [cH_congr (w.ru i hi) (Y := Sz p f (laf h L j) (t - 1) m) (fun r hr => S3 _ _ r (by omega) hm hr)]
        rw [v4 r (by omega) j hj, v3 r hr j hj, v2 r (by omega) j hj, Z1 j r hr, a1, a2, a3]
        unfold spB
        rw [decide_eq_false ht0]
        cases tl y j <;> simp
    obtain ⟨h2, e2, F2, o2, v2⟩ := mid
    have C2 := C1.fr F2 (fun x q => q)
    obtain ⟨h3, e3, F3, o3, v3⟩ := addNow_s C2 hm (by omega : t ≤ 6)
    refine ⟨h3, ?_, (F1.tr F2).tr F3, fun i hi => by rw [o3 i hi, o2 i hi, o1 i hi], fun j hj r hr => ?_⟩
    · rw [e2]
      unfold X7_settle_B115
      rw [G_t C2.s.c180, e3, BN_ok]
    · rw [v3 j hj, Sz_eq, hup, Bool.not_false, Bool.true_and]
      have fy := fr j hj
      cases hd : fD (laf h L j) m t
      · rw [hd] at fy
        rw [Bool.not_false, Bool.true_and]
        apply clo_congr (fun i hi => w.ru i hi) _ _ _ _ r hr
        intro r hr
        rw [v2 j hj r hr, fy]; simp
      · rw [hd] at fy
        -- nothing to begin with: nothing
        have z : ∀ r, r < p.1 1 0 → SVb h2 j t m r = false := fun r hr => by rw [v2 j hj r hr, fy]; simp
        have pz : ∀ (X : Nat → Bool), (∀ r, r < p.1 1 0 → X r = false) → ∀ k, k ≤ p.1 3 0 → ∀ r, r < p.1 1 0 → pas p.1 m X k r = false := by
          intro X hX k
          induction k with
          | zero => intro _ r hr; exact hX r hr
          | succ k ih =>
            intro hk r hr
            have ih := ih (by omega)
            rw [pas]
            by_cases c : p.1 13 k = 1 ∧ isF p.1 k m = true ∧ cH p.1 k false (pas p.1 m X k) = true
            · exfalso
              have c3 := c.2.2
              have wc := w.ru k (by omega)
              have n1 := wc.p1
              unfold cH cHf at c3
              rw [List.all_eq_true] at c3
              have := c3 0 (List.mem_range.mpr (by omega))
              rw [w.nn k (by omega) c.1 (0 + 0) (by omega), if_pos rfl, ih _ (wc.cr _ (by omega))] at this
              cases this
            · rw [if_neg c]; exact ih r hr
        have cz : ∀ n (X : Nat → Bool), (∀ r, r < p.1 1 0 → X r = false) → ∀ r, r < p.1 1 0 → clo p.1 m n X r = false := by
          intro n
          induction n with
          | zero => intro X hX; exact hX
          | succ n ih => intro X hX; exact ih _ (pz X hX _ (Nat.le_refl _))
        rw [cz _ _ z r hr]; rfl
