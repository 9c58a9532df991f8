theorem addWord_ok {h : AH} {wk b a L m t s u : Nat} {p : PR} {f : FL} {y : Int64} (C : SuX h wk b a L p f) (hs : s < p.1 4 0) (hu : u < t) (ht : t ≤ pl p) : ∃ h', X7_addWord_f 180 (nI s) (nI u) (nI t) y h = some ((), h') ∧ Fr (fun x => x = 181) h h' ∧ (∀ i, i ≠ (t * 4 + p.1 12 (10 + s)) * 10 + p.1 10 (10 + s) → xL h' 181 i = xL h 181 i) ∧ ∀ j, j < 64 → tl (xL h' 181 ((t * 4 + p.1 12 (10 + s)) * 10 + p.1 10 (10 + s))) j = (tl (xL h 181 ((t * 4 + p.1 12 (10 + s)) * 10 + p.1 10 (10 + s))) j || (cbB p f s u t && wsB p f (laf h L j) (SVb h j) s u && tl y j)) := by
  have w := C.q.w
  have ws := w.s
  have wm := w.m
  have wr := w.r
  have hx := C.x
  have wc := w.se s hs
  have w1 := wc.row
  have w2 := wc.pl
  have w3 := w.sp s hs
  have w4 := w.st s hs
  have cl := C.q.se s hs
  have hL := C.l.w
  have e6 : nI (p.1 11 (10 + s)) - nI 1 = nI (p.1 11 (10 + s) - 1) := pk_sub w3
  have hct : ctK p f s u ≤ 6 := by unfold ctK; split <;> omega
  unfold X7_addWord_f
  rw [if_neg (nI_pos (by omega)), G_t C.s.c180, C.r3, G_t C.t.s.c, comesIn_c C.t hs ws (by omega) hx (by omega), BN_ok]
  cases hc : cbB p f s u t
  · rw [if_pos (by decide)]
    exact ⟨h, rfl, Fr.rf, fun _ _ => rfl, fun j hj => by simp⟩
  · rw [if_neg (by decide)]
    obtain ⟨v, v1, v2⟩ := cases_ok C.s cl wc wr (m := p.1 11 (10 + s) - 1) (t := ctK p f s u) (by omega) hct
    simp (disch := omega) only [LT_e, G_T, BN_ok, if_true, if_false, nI_add, pk_mul, G_gx, nI_cl, nI_lI, nI_tI, nI_eI, C.s.c180, C.r2, C.q.s.c, C.q.s.r11, C.q.s.c5, C.q.s.z5, C.q.s.se, C.r4, C.l.c, C.l.r0, C.l.c1, C.l.z1, C.l.r1, C.l.c2, C.l.z2, C.l.r2, C.l.c3, C.l.z3, cl.s.c, cl.pl, e6, C.r3, C.t.s.c, caseTick_c C.t hs ws (by omega : u < pl p) hx, v1, cl.tg, cell_ok, cl.row, C.s.r180_0, C.s.c181, C.s.z181]
    refine ⟨_, rfl, Fr.l rfl, fun i hi => ?_, fun j hj => ?_⟩
    · rw [xL_pL, if_neg (fun q => hi q.2)]
    · rw [xL_pL, if_pos ⟨rfl, rfl⟩]
      unfold wsB
      simp only [tl_or, tl_and, tl_not hj, v2 j hj]
      rw [laf_O (by omega) (by omega), laf_A (by omega) (by omega), laf_D (by omega) (by omega)]
      simp [Bool.and_assoc]
/-- the words of one send that come in t -/
theorem cb_two {p : PR} {f : FL} {s t : Nat} (g : Nat → Bool) : ((List.range t).any fun u => cbB p f s u t && g u) = ((decide (1 ≤ t) && (cbB p f s (t - 1) t && g (t - 1))) || (decide (3 ≤ t) && (cbB p f s (t - 3) t && g (t - 3)))) := by
  rw [Bool.eq_iff_iff, List.any_eq_true]
  constructor
  · rintro ⟨u, hu, q⟩
    have hu := List.mem_range.mp hu
    have q1 := q
    simp only [Bool.and_eq_true] at q1
    have q2 := q1.1
    unfold cbB at q2
    simp only [Bool.or_eq_true, Bool.and_eq_true, beq_iff_eq] at q2
    rw [Bool.or_eq_true]
    rcases q2 with q2 | q2
    · left
      rw [show t - 1 = u by omega, q, decide_eq_true (by omega)]; rfl
    · right
      rw [show t - 3 = u by omega, q, decide_eq_true (by omega)]; rfl
  · intro q
    simp only [Bool.or_eq_true, Bool.and_eq_true] at q
    rcases q with ⟨q1, q, q2⟩ | ⟨q1, q, q2⟩
    · exact ⟨t - 1, List.mem_range.mpr (by have := of_decide_eq_true q1; omega), by rw [q, q2]; rfl⟩
    · exact ⟨t - 3, List.mem_range.mpr (by have := of_decide_eq_true q1; omega), by rw [q, q2]; rfl⟩
theorem wsB_cg {p : PR} {f g : FL} {S S' : Nat → Nat → Nat → Bool} {s u : Nat} (w : WC p.1 (10 + s)) (h : ∀ r, r < p.1 1 0 → S (ctK p f s u) (p.1 11 (10 + s) - 1) r = S' (ctK p f s u) (p.1 11 (10 + s) - 1) r) : wsB p f g S s u = wsB p f g S' s u := by
  unfold wsB; rw [cH_congr w h]
theorem addWords_ok {h : AH} {wk b a L m t : Nat} {p : PR} {f : FL} {y : Int64} (C : SuX h wk b a L p f) (hm : m < p.1 0 0) (ht0 : 0 < t) (ht : t ≤ pl p) : ∃ h', X7_addWords_f 180 (nI m) (nI t) y h = some ((), h') ∧ Fr (fun x => x = 181) h h' ∧ (∀ i, ¬ ((t * 4 + m) * 10 ≤ i ∧ i < (t * 4 + m) * 10 + 10) → xL h' 181 i = xL h 181 i) ∧ ∀ r, r < 10 → ∀ j, j < 64 → SVb h' j t m r = (SVb h j t m r || (swB p f (laf h L j) (SVb h j) t m r && tl y j)) := by
  have w := C.q.w
  have ws := w.s
  have wm := w.m
  have wr := w.r
  have hx := C.x
  have hL := C.l.w
  obtain ⟨h', ⟨F, out, val⟩, e⟩ := loopE (F := fun n k h' => X7_addWords_B3 n 180 (nI m) (nI t) y (nI k) h') (E := fun h' => some ((), h')) (p.1 4 0) (fun k h' => Fr (fun x => x = 181) h h' ∧ (∀ i, ¬ ((t * 4 + m) * 10 ≤ i ∧ i < (t * 4 + m) * 10 + 10) → xL h' 181 i = xL h 181 i) ∧ ∀ r, r < 10 → ∀ j, j < 64 → SVb h' j t m r = (SVb h j t m r || (((List.range k).any fun s => p.1 12 (10 + s) == m && p.1 10 (10 + s) == r && (List.range t).any fun u => cbB p f s u t && wsB p f (laf h L j) (SVb h j) s u) && tl y j))) (Nat.zero_le _) (by omega) (h := h) ⟨Fr.rf, fun _ _ => rfl, fun r _ j _ => by simp⟩
    (by
      rintro n s h' hs ⟨F, out, val⟩
      have C' := C.fr F (fun x q => q)
      have hs' : ¬ p.1 4 0 ≤ s := by omega
      have wc := w.se s hs
      have w1 := wc.row
      have w2 := wc.pl
      have w3 := w.sp s hs
      have w4 := w.st s hs
      have cl := C'.q.se s hs
      have e7 : nI t - nI 1 = nI (t - 1) := pk_sub (by omega)
      -- the same cases, ahead of t
      have cg : ∀ h2, (∀ i, ¬ ((t * 4 + m) * 10 ≤ i ∧ i < (t * 4 + m) * 10 + 10) → xL h2 181 i = xL h 181 i) → ∀ j u, u < t → wsB p f (laf h L j) (SVb h2 j) s u = wsB p f (laf h L j) (SVb h j) s u := by
        intro h2 o j u hu
        apply wsB_cg wc
        intro r hr
        have hct : ctK p f s u ≤ u := by unfold ctK; split <;> omega
        unfold SVb
        rw [o _ (by omega)]
      by_cases hg : p.1 12 (10 + s) = m
      · obtain ⟨h2, e2, F2, o2, v2⟩ := addWord_ok (y := y) (m := m) C' hs (u := t - 1) (t := t) (by omega) ht
        have C2 := C'.fr F2 (fun x q => q)
        have F12 := F.tr F2
        have out2 : ∀ i, ¬ ((t * 4 + m) * 10 ≤ i ∧ i < (t * 4 + m) * 10 + 10) → xL h2 181 i = xL h 181 i := fun i hi => by rw [o2 i (by omega), out i hi]
        have third : ∃ h3, X7_addWord_f 180 (nI s) (nI (t - 1) - nI 2) (nI t) y h2 = some ((), h3) ∧ Fr (fun x => x = 181) h2 h3 ∧ (∀ i, i ≠ (t * 4 + p.1 12 (10 + s)) * 10 + p.1 10 (10 + s) → xL h3 181 i = xL h2 181 i) ∧ ∀ j, j < 64 → tl (xL h3 181 ((t * 4 + p.1 12 (10 + s)) * 10 + p.1 10 (10 + s))) j = (tl (xL h2 181 ((t * 4 + p.1 12 (10 + s)) * 10 + p.1 10 (10 + s))) j || (decide (3 ≤ t) && (cbB p f s (t - 3) t && wsB p f (laf h L j) (SVb h j) s (t - 3)) && tl y j)) := by
          by_cases h3 : 3 ≤ t
          · have e8 : nI (t - 1) - nI 2 = nI (t - 3) := by rw [pk_sub (by omega)]; rfl
            obtain ⟨h3', e3, F3, o3, v3⟩ := addWord_ok (y := y) (m := m) C2 hs (u := t - 3) (t := t) (by omega) ht
            refine ⟨h3', by rw [e8]; exact e3, F3, o3, fun j hj => ?_⟩
            rw [v3 j hj, decide_eq_true h3, laf_fr F12 (by omega) (by omega) (by omega), cg h2 out2 j (t - 3) (by omega)]
            simp
          · have neg : nI (t - 1) - nI 2 < 0 := pk_sneg (by omega) (by omega)
            refine ⟨h2, ?_, Fr.rf, fun _ _ => rfl, fun j hj => by rw [decide_eq_false h3]; simp⟩
            unfold X7_addWord_f
            rw [if_pos neg]
        obtain ⟨h3, e3, F3, o3, v3⟩ := third
        refine ⟨h3, ⟨F12.tr F3, fun i hi => by rw [o3 i (by omega), out2 i hi], fun r hr j hj => ?_⟩, ?_⟩
        · rw [rany_succ, cb_two, hg, beq_self_eq_true, Bool.true_and]
          by_cases er : r = p.1 10 (10 + s)
          · subst er
            have a1 := v3 j hj
            have a2 := v2 j hj
            have a3 : tl (xL h' 181 ((t * 4 + m) * 10 + p.1 10 (10 + s))) j = _ := val _ hr j hj
            rw [hg] at a1 a2
            show tl (xL h3 181 ((t * 4 + m) * 10 + p.1 10 (10 + s))) j = _
            rw [laf_fr F (by omega) (by omega) (by omega), cg h' out j (t - 1) (by omega)] at a2
            rw [a1, a2, a3, decide_eq_true (by omega : 1 ≤ t), beq_self_eq_true]
            cases tl y j <;> simp [Bool.or_assoc]
          · have : (p.1 10 (10 + s) == r) = false := by simp; omega
            rw [this]
            have a3 : tl (xL h' 181 ((t * 4 + m) * 10 + r)) j = _ := val _ hr j hj
            show tl (xL h3 181 ((t * 4 + m) * 10 + r)) j = _
            rw [o3 _ (by omega), o2 _ (by omega), a3]
            simp
        · simp (disch := omega) only [X7_addWords_B3, X7_addWords_B56, LT_e, G_T, BN_ok, if_true, if_false, nI_add, pk_mul, G_gx, nI_cl, nI_lI, nI_tI, nI_eI, C'.s.c180, C'.r2, C'.q.s.c, C'.q.sn, hs', C'.q.s.r11, C'.q.s.c5, C'.q.s.z5, C'.q.s.se, cl.s.c, cl.tg, hg, e7, e2, C2.s.c180, e3]
      · refine ⟨h', ⟨F, out, fun r hr j hj => ?_⟩, ?_⟩
        · have : (p.1 12 (10 + s) == m) = false := by simp [hg]
          rw [rany_succ, this, val r hr j hj]; simp
        · simp (disch := omega) only [X7_addWords_B3, X7_addWords_B56, LT_e, G_T, BN_ok, if_true, if_false, nI_add, pk_mul, G_gx, nI_cl, nI_lI, nI_tI, nI_eI, C'.s.c180, C'.r2, C'.q.s.c, C'.q.sn, hs', C'.q.s.r11, C'.q.s.c5, C'.q.s.z5, C'.q.s.se, cl.s.c, cl.tg, hg])
    (by
      rintro n h' ⟨F, out, val⟩
      have C' := C.fr F (fun x q => q)
      simp (disch := omega) only [X7_addWords_B3, LT_e, G_T, BN_ok, if_true, if_false, nI_add, pk_mul, G_gx, nI_cl, nI_lI, nI_tI, nI_eI, C'.s.c180, C'.r2, C'.q.s.c, C'.q.sn, Nat.le_refl])
  exact ⟨h', e, F, out, val⟩
