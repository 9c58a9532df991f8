theorem place_chk {h : AH} {bo : Bool} {p : PR} {b m z : Nat} {l lm : List Nat} {s : LLn} {r : NN_} {lo lx : List Nat} (i : INV h bo p b m z l lm s r lo lx) (x y t : Int32) : (∃ r n u, bo = true ∧ r < p.1 1 0 ∧ n < p.1 0 0 ∧ u ≤ pl p ∧ x = nI r ∧ y = nI n ∧ t = nI u ∧ X11_wrongPlace_f 1 x y t h = some (nI 0, h) ∧ ∀ k, Fz (SCR m) h k → X15_isRow_f 195 x k = some (nI 1, k) ∧ X15_isMachine_f 195 y k = some (nI 1, k) ∧ X15_in_f t (nI 0) (xI k 195 14) k = some (nI 1, k)) ∨ (X11_wrongPlace_f 1 x y t h = some (nI 1, h) ∧ ((∀ k, Fz (SCR m) h k → X15_isRow_f 195 x k = some (nI 0, k)) ∨ (∀ k, Fz (SCR m) h k → X15_isRow_f 195 x k = some (nI 1, k) ∧ X15_isMachine_f 195 y k = some (nI 0, k)))) ∨ (X11_wrongPlace_f 1 x y t h = some (nI 2, h) ∧ ∀ k, Fz (SCR m) h k → X15_isRow_f 195 x k = some (nI 1, k) ∧ X15_isMachine_f 195 y k = some (nI 1, k) ∧ X15_in_f t (nI 0) (xI k 195 14) k = some (nI 0, k)) := by
  have hs := bs_c i
  have gw : G (xc h 1 = 11) (G (xc h 62 = 10) (G (xc h b = 0) (some (nI 1, h)))) = some (nI 1, h) := by rw [G_t i.g.c1, G_t i.g.c62, G_t hs.c]
  unfold X11_wrongPlace_f X11_wrongPlace_B53
  simp only [LT_e, G_T, BN_ok, if_true, if_false, i.g.c1, i.g.r1_1, i.g.c62, i.q.wb, hs.c]
  rcases chk_row i x with ⟨r', hb, hr, rfl, er⟩ | ⟨q, er⟩
  · subst hb
    have B := i.b.b1 rfl
    have w := B.q.w
    have wr := w.r
    have wm := w.m
    have hx := B.x
    have q1 : ¬ nI r' < 0 := nI_pos (by omega)
    have q2 : ¬ nI (p.1 1 0) ≤ nI r' := by rw [nI_lI (by omega) (by omega)]; omega
    rw [if_neg q1, B.q.r, if_neg q2]
    rcases chk_mach i y with ⟨n', _, hn, rfl, en⟩ | ⟨q, en⟩
    · have q3 : ¬ nI n' < 0 := nI_pos (by omega)
      have q4 : nI n' < nI (p.1 0 0) := by rw [nI_tI (by omega) (by omega)]; omega
      rw [if_neg q3, B.q.m, if_pos q4, B.w.l]
      have kl : ∀ k, Fz (SCR m) h k → xI k 195 14 = nI (pl p) := fun k F => ((i.b.fz F (fun a k q => sB_ q) i.bb).b1 rfl).l
      rcases pk_ix t (n := pl p + 1) (by omega) with q | q | ⟨u, hu, rfl⟩
      · right; right
        rw [if_pos q]
        refine ⟨rfl, fun k F => ⟨er k F, en k F, ?_⟩⟩
        unfold X15_in_f; rw [if_pos (show t < nI 0 from q)]
      · right; right
        by_cases q0 : t < 0
        · rw [if_pos q0]
          refine ⟨rfl, fun k F => ⟨er k F, en k F, ?_⟩⟩
          unfold X15_in_f; rw [if_pos (show t < nI 0 from q0)]
        · obtain ⟨j, hj, rfl⟩ := nI_of q0
          rw [nI_lI (by omega) hj] at q
          have q5 : ¬ nI j ≤ nI (pl p) := by rw [nI_lI hj (by omega)]; omega
          rw [if_neg q0, if_neg q5]
          refine ⟨rfl, fun k F => ⟨er k F, en k F, ?_⟩⟩
          unfold X15_in_f
          rw [kl k F, if_neg (by rw [nI_tI hj (by omega)]; omega), if_pos (by rw [nI_tI (by omega) hj]; omega)]
      · left
        have q5 : nI u ≤ nI (pl p) := by rw [nI_lI (by omega) (by omega)]; omega
        rw [if_neg (nI_pos (by omega)), if_pos q5]
        refine ⟨r', n', u, rfl, hr, hn, by omega, rfl, rfl, rfl, rfl, fun k F => ⟨er k F, en k F, ?_⟩⟩
        unfold X15_in_f
        rw [kl k F, if_neg (by rw [nI_tI (by omega) (by omega)]; omega), if_neg (by rw [nI_tI (by omega) (by omega)]; omega)]
    · right; left
      refine ⟨?_, .inr (fun k F => ⟨er k F, en k F⟩)⟩
      by_cases q0 : y < 0
      · rw [if_pos q0]
      · have q5 : ¬ y < xI h b 0 := Int32.not_lt.mpr (q.resolve_left q0)
        rw [if_neg q0, if_neg q5]
  · right; left
    refine ⟨?_, .inl er⟩
    by_cases q0 : x < 0
    · rw [if_pos q0]
    · rw [if_neg q0, if_pos (q.resolve_left q0)]
theorem isThere_c {h : AH} {a t n r : Nat} {p : PR} {f : FL} (i : IsTr h a p f) (ht : t ≤ pl p) (hx : pl p ≤ 6) (hn : n < p.1 0 0) (wm : p.1 0 0 ≤ 4) (hr : r < p.1 1 0) (wr : p.1 1 0 ≤ 10) : X8_isThere_f a (nI r) (nI n) (nI t) h = some (bI (Tz p f t n r), h) := by
  unfold X8_isThere_f
  simp (disch := omega) only [LT_e, G_T, BN_ok, if_true, if_false, i.s.c, cell_ok, i.s.r0, i.s.c1, i.s.z1, nI_add, pk_mul, G_gx, nI_cl, nI_lI, nI_tI, nI_eI, nI_z, b_test0n]
  rw [i.T t n ht hn r (by omega), decide_eq_true hr, Bool.true_and]
  cases Tz p f t n r <;> rfl
theorem pr_there {h : AH} {bo : Bool} {p : PR} {b m z : Nat} {l lm : List Nat} {s : LLn} {r : NN_} {lo lx : List Nat} (i : INV h bo p b m z l lm s r lo lx) (x y t : Int32) : Pair (X11_there_f 1 x y t) (X15_there_f 195 x y t) h := by
  have gi := fun (v : Int32) => (i.g.i (a := 1) (k := 15) (v := v))
  have Fi : ∀ v : Int32, Fz (SCR m) h (pI (pI h 1 15 v) 195 0 (nI 0)) := fun v => (Fz.i scA).tr (Fz.i sc0)
  rcases place_chk i x y t with ⟨r', n', u, rfl, hr, hn, hu, rfl, rfl, rfl, ew, em⟩ | ⟨ew, em⟩ | ⟨ew, em⟩
  · have B := i.b.b1 rfl
    have wm := B.q.w.m
    have wr := B.q.w.r
    have hx := B.x
    obtain ⟨h1, e1, F1, t1⟩ := q_play i rfl
    have g1 := i.g.fq F1
    have FF : Fz (SCR m) h (pI (pI h1 1 15 (nI 0)) 195 0 (nI 0)) := ((F1.scr (by intro a q; omega)).tr (Fz.i scA)).tr (Fz.i sc0)
    have gg := i.g.fz FF
    obtain ⟨k2, e2, F2, s2⟩ := q_runs i rfl FF
    have g2 := gg.fr F2
    obtain ⟨em1, em2, em3⟩ := em _ FF
    have ml : xI (pI (pI h1 1 15 (nI 0)) 195 0 (nI 0)) 195 16 = nI l.length := (i.f.fz FF (fun a k q => sF_ q)).m
    refine ⟨bI (Tz p (flOf l) u n' r'), pI h1 1 15 (nI 0), pI (pI k2 195 1 (nI 0)) 195 2 (-1), ?_, g1.i.c195, ?_, ⟨_, _, _, _, _, _, _, _, _, _, _, i.fin (FF.tr (F2.q.scr (by intro a q; omega))) n4_0 (by rw [F2.I _ (by decide), xI_ne (by omega), xI_self])⟩, by show xn k2 ≤ _; rw [F2.n, FF.n]; omega, by show xs k2 ≤ _; rw [F2.s, FF.s]; omega⟩
    · unfold X11_there_f X11_there_B59
      rw [G_t i.g.c1, ew, BN_ok, if_pos nI_0, G_t i.g.c1, i.g.r1_8, G_t i.g.c145, i.g.r1_1, i.g.r1_3, i.g.r1_9, e1, BN_ok, G_t g1.c1, g1.r1_9, G_t g1.c182, isThere_c t1 hu hx hn wm hr wr, BN_ok, G_t g1.c1, G_t g1.c1, grant_c g1, grant_c g1, BN_ok, BN_ok]
      cases Tz p (flOf l) u n' r' <;> rfl
    · unfold X15_there_f X15_there_B78
      rw [G_t g1.i.c195, LT_e, G_t gg.c195, em1, BN_ok, if_neg (by decide), G_t gg.c195, em2, BN_ok, if_neg (by decide), G_t gg.c195, em3, BN_ok, if_neg (by decide), G_t gg.c195, gg.r195_20, ml, e2, BN_ok, G_t g2.c195, show nI 0 = nI 0 from rfl, isThere_m g2 (by decide) (by omega) (by omega) (by omega), BN_ok, s2.T u n' hu hn r' (by omega), G_t g2.c195, G_t g2.c195, done_m g2, done_m g2, BN_ok, BN_ok]
      cases Tz p (flOf l) u n' r' <;> rfl
  · refine Pair.no i (nI 1) (-1) n4_1 ?_ ?_
    · unfold X11_there_f
      rw [G_t i.g.c1, ew, BN_ok, if_neg (by decide), G_t i.g.c1, refuse_c i.g, BN_ok]
    · unfold X15_there_f X15_there_B21
      rcases em with em | em
      · rw [G_t (gi _).c195, LT_e, G_t (gi _).i.c195, em _ (Fi _), BN_ok, if_pos nI_0, G_t (gi _).i.c195, refused_m (gi _).i, BN_ok]
      · rw [G_t (gi _).c195, LT_e, G_t (gi _).i.c195, (em _ (Fi _)).1, BN_ok, if_neg (by decide), G_t (gi _).i.c195, (em _ (Fi _)).2, BN_ok, if_pos nI_0, G_t (gi _).i.c195, refused_m (gi _).i, BN_ok]
  · refine Pair.no i (nI 2) (-1) n4_2 ?_ ?_
    · unfold X11_there_f
      rw [G_t i.g.c1, ew, BN_ok, if_neg (by decide), G_t i.g.c1, refuse_c i.g, BN_ok]
    · unfold X15_there_f
      rw [G_t (gi _).c195, LT_e, G_t (gi _).i.c195, (em _ (Fi _)).1, BN_ok, if_neg (by decide), G_t (gi _).i.c195, (em _ (Fi _)).2.1, BN_ok, if_neg (by decide), G_t (gi _).i.c195, (em _ (Fi _)).2.2, BN_ok, if_pos nI_0, G_t (gi _).i.c195, refused_m (gi _).i, BN_ok]
theorem pr_word {h : AH} {bo : Bool} {p : PR} {b m z : Nat} {l lm : List Nat} {s : LLn} {r : NN_} {lo lx : List Nat} (i : INV h bo p b m z l lm s r lo lx) (x t : Int32) : Pair (X11_word_f 1 x t) (X15_word_f 195 x t) h := by
  have gi := fun (v : Int32) => (i.g.i (a := 1) (k := 15) (v := v))
  have Fi : ∀ v : Int32, Fz (SCR m) h (pI (pI h 1 15 v) 195 0 (nI 0)) := fun v => (Fz.i scA).tr (Fz.i sc0)
  have hs := bs_c i
  rcases chk_send i x with ⟨c, rfl, hc, rfl, er⟩ | ⟨q, er⟩
  · have B := i.b.b1 rfl
    have ws := B.q.w.s
    have hx := B.x
    have hn1 := B.n
    have q1 : ¬ nI c < 0 := nI_pos (by omega)
    have q2 : nI c < nI (p.1 4 0) := by rw [nI_tI (by omega) (by omega)]; omega
    have kl : ∀ k, Fz (SCR m) h k → xI k 195 14 - nI 1 = nI (pl p - 1) := fun k F => by rw [((i.b.fz F (fun a k q => sB_ q) i.bb).b1 rfl).l, pk_sub (by omega)]
    by_cases hu : ∃ u, u < pl p ∧ t = nI u
    · obtain ⟨u, hu, rfl⟩ := hu
      obtain ⟨h1, e1, F1, t1⟩ := q_play i rfl
      have g1 := i.g.fq F1
      have FF : Fz (SCR m) h (pI (pI h1 1 15 (nI 0)) 195 0 (nI 0)) := ((F1.scr (by intro a q; omega)).tr (Fz.i scA)).tr (Fz.i sc0)
      have gg := i.g.fz FF
      obtain ⟨k2, e2, F2, s2⟩ := q_runs i rfl FF
      have g2 := gg.fr F2
      have ml : xI (pI (pI h1 1 15 (nI 0)) 195 0 (nI 0)) 195 16 = nI l.length := (i.f.fz FF (fun a k q => sF_ q)).m
      have ein : X15_in_f (nI u) (nI 0) (nI (pl p - 1)) (pI (pI h1 1 15 (nI 0)) 195 0 (nI 0)) = some (nI 1, pI (pI h1 1 15 (nI 0)) 195 0 (nI 0)) := by
        unfold X15_in_f
        rw [if_neg (by rw [nI_tI (by omega) (by omega)]; omega), if_neg (by rw [nI_tI (by omega) (by omega)]; omega)]
      refine ⟨nI (stB p (flOf l) c u), pI h1 1 15 (nI 0), pI (pI k2 195 1 (nI 0)) 195 2 (-1), ?_, g1.i.c195, ?_, ⟨_, _, _, _, _, _, _, _, _, _, _, i.fin (FF.tr (F2.q.scr (by intro a q; omega))) n4_0 (by rw [F2.I _ (by decide), xI_ne (by omega), xI_self])⟩, by show xn k2 ≤ _; rw [F2.n, FF.n]; omega, by show xs k2 ≤ _; rw [F2.s, FF.s]; omega⟩
      · unfold X11_word_f
        rw [if_neg q1, G_t i.g.c1, i.g.r1_1, G_t i.g.c62, i.q.wb, G_t hs.c, B.q.sn, if_pos q2, if_neg (nI_pos (by omega)), G_t i.g.c1, G_t i.g.c62, B.w.l, if_pos (by rw [nI_tI (by omega) (by omega)]; omega), G_t i.g.c1, i.g.r1_8, G_t i.g.c145, i.g.r1_3, i.g.r1_9, e1, BN_ok, G_t g1.c1, g1.r1_9, G_t g1.c182, g1.r182_3, G_t g1.c186, pk_mul, nI_add, g1.z186, G_gx (by omega) (by omega), nI_cl (by omega), t1.W c u hc hu, grant_c g1, BN_ok]
      · have sw := (s2.W c u hc hu).1
        rw [Nat.mul_zero, Nat.zero_add] at sw
        unfold X15_word_f
        rw [G_t g1.i.c195, LT_e, G_t gg.c195, er _ FF, BN_ok, if_neg (by decide), G_t gg.c195, kl _ FF, ein, BN_ok, if_neg (by decide), G_t gg.c195, gg.r195_20, ml, e2, BN_ok, G_t g2.c195, g2.r195_31, G_t g2.c213, pk_mul, nI_add, nI_add, Nat.zero_add, g2.z213, G_gx (by omega) (by omega), nI_cl (by omega), sw, done_m g2, BN_ok]
    · have bad : (t < 0 ∨ ¬ t < nI (pl p)) := by
        rcases pk_ix t (n := pl p) (by omega) with q | q | ⟨u, hu', rfl⟩
        · exact .inl q
        · exact .inr (Int32.not_lt.mpr q)
        · exact absurd ⟨u, hu', rfl⟩ hu
      refine Pair.no i (nI 2) (-1) n4_2 ?_ ?_
      · unfold X11_word_f X11_word_B39
        rw [if_neg q1, G_t i.g.c1, i.g.r1_1, G_t i.g.c62, i.q.wb, G_t hs.c, B.q.sn, if_pos q2, G_t i.g.c1, G_t i.g.c62, B.w.l, refuse_c i.g, BN_ok]
        by_cases q0 : t < 0
        · rw [if_pos q0]
        · rw [if_neg q0, if_neg (bad.resolve_left q0), G_t i.g.c1]
      · have ein : ∀ k, X15_in_f t (nI 0) (nI (pl p - 1)) k = some (nI 0, k) := by
          intro k
          unfold X15_in_f
          by_cases q0 : t < 0
          · rw [if_pos (show t < nI 0 from q0)]
          · obtain ⟨j, hj, rfl⟩ := nI_of q0
            have := bad.resolve_left q0
            rw [nI_tI hj (by omega)] at this
            rw [if_neg (show ¬ nI j < nI 0 from q0), if_pos (by rw [nI_tI (by omega) hj]; omega)]
        unfold X15_word_f
        rw [G_t (gi _).c195, LT_e, G_t (gi _).i.c195, er _ (Fi _), BN_ok, if_neg (by decide), G_t (gi _).i.c195, kl _ (Fi _), ein, BN_ok, if_pos nI_0, G_t (gi _).i.c195, refused_m (gi _).i, BN_ok]
  · refine Pair.no i (nI 1) (-1) n4_1 ?_ ?_
    · unfold X11_word_f X11_word_B18
      rw [G_t i.g.c1, i.g.r1_1, G_t i.g.c62, i.q.wb, G_t hs.c, refuse_c i.g, BN_ok]
      by_cases q0 : x < 0
      · rw [if_pos q0]
      · rw [if_neg q0, G_t i.g.c1, if_neg (Int32.not_lt.mpr (q.resolve_left q0))]
    · unfold X15_word_f
      rw [G_t (gi _).c195, LT_e, G_t (gi _).i.c195, er _ (Fi _), BN_ok, if_pos nI_0, G_t (gi _).i.c195, refused_m (gi _).i, BN_ok]
