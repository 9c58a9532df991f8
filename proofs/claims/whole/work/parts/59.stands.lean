theorem pr_stands {h : AH} {bo : Bool} {p : PR} {b m z : Nat} {l lm : List Nat} {s : LLn} {r : NN_} {lo lx : List Nat} (i : INV h bo p b m z l lm s r lo lx) (x y t : Int32) : Pair (X11_stands_f 1 x y t) (X15_stands_f 195 x y t) h := by
  have gi := fun (v : Int32) => (i.g.i (a := 1) (k := 15) (v := v))
  have Fi : ∀ v : Int32, Fz (SCR m) h (pI (pI h 1 15 v) 195 0 (nI 0)) := fun v => (Fz.i scA).tr (Fz.i sc0)
  rcases place_chk i x y t with ⟨r', n', u, rfl, hr, hn, hu, rfl, rfl, rfl, ew, em⟩ | ⟨ew, em⟩ | ⟨ew, em⟩
  · have B := i.b.b1 rfl
    have wm := B.q.w.m
    have wr := B.q.w.r
    have hx := B.x
    obtain ⟨h1, e1, F1, t1⟩ := q_play0 i rfl Fz.rf
    have g1 := i.g.fq F1
    have Z1 : Fz (SCR m) h h1 := F1.scr (by intro a q; omega)
    have ref : ∀ k, Fz (SCR m) h k → ∃ k2, X15_runs_f 195 (nI 1) 199 (nI 0) (nI 0) k = some (nI (outB p (flOf [])), k2) ∧ Fz (SCR m) h k2 ∧ xI k2 1 15 = xI k 1 15 ∧ IsSl k2 1 p (flOf []) := by
      intro k F
      obtain ⟨k2, e2, F2, _, s2⟩ := q_runs0 i rfl F 1 (by decide)
      exact ⟨k2, e2, F.tr (F2.q.scr (by intro a q; omega)), F2.I _ (by decide), s2⟩
    cases ht : Tz p (flOf []) u n' r'
    · have FF : Fz (SCR m) h (pI (pI h1 1 15 (nI 5)) 195 0 (nI 0)) := (Z1.tr (Fz.i scA)).tr (Fz.i sc0)
      obtain ⟨k2, e2, F2, e3, s2⟩ := ref _ FF
      have gg := i.g.fz FF
      have g2 := i.g.fz F2
      obtain ⟨em1, em2, em3⟩ := em _ FF
      refine ⟨-1, pI h1 1 15 (nI 5), pI (pI k2 195 1 (nI 5)) 195 2 (-1), ?_, g1.i.c195, ?_, ⟨_, _, _, _, _, _, _, _, _, _, _, i.fin F2 n4_5 (by rw [e3, xI_ne (by omega), xI_self])⟩, by show xn k2 ≤ _; rw [F2.n]; omega, by show xs k2 ≤ _; rw [F2.s]; omega⟩
      · unfold X11_stands_f
        rw [G_t i.g.c1, ew, BN_ok, if_pos nI_0, G_t i.g.c1, i.g.r1_8, G_t i.g.c145, i.g.r1_1, i.g.r1_4, i.g.r1_10, e1, BN_ok, G_t g1.c1, g1.r1_10, G_t g1.c188, isThere_c t1 hu hx hn wm hr wr, BN_ok, ht, if_pos (by decide), G_t g1.c1, refuse_c g1, BN_ok]
      · unfold X15_stands_f
        rw [G_t g1.i.c195, LT_e, G_t gg.c195, em1, BN_ok, if_neg (by decide), G_t gg.c195, em2, BN_ok, if_neg (by decide), G_t gg.c195, em3, BN_ok, if_neg (by decide), G_t gg.c195, gg.r195_20, e2, BN_ok, G_t g2.c195, isThere_m g2 (by decide) (by omega) (by omega) (by omega), BN_ok, s2.T u n' hu hn r' (by omega), ht, if_pos (by decide), G_t g2.c195, refused_m g2, BN_ok]
    · have B1 := (i.b.fz Z1 (fun a k q => sB_ q) i.bb).b1 rfl
      have f1 := i.f.fz Z1 (fun a k q => sF_ q)
      obtain ⟨v, h2, e2, F2, v2, _⟩ := spoiledBy_ok g1 B1.w B1.q B1.n B1.x f1.n f1.o (.inl (by decide)) t1
      have g2 := g1.fq F2
      have FF : Fz (SCR m) h (pI (pI h2 1 15 (nI 0)) 195 0 (nI 0)) := ((Z1.tr (F2.scr (by intro a q; omega))).tr (Fz.i scA)).tr (Fz.i sc0)
      have gg := i.g.fz FF
      obtain ⟨em1, em2, em3⟩ := em _ FF
      obtain ⟨k2, e3, F3, e4, s3⟩ := ref _ FF
      have g3 := i.g.fz F3
      obtain ⟨k3, e5, F5, i5⟩ := q_lay i F3
      have Z3 : Fz (SCR m) h k3 := F3.tr (F5.q.scr (by intro a q; omega))
      have g5 := i.g.fz Z3
      have B5 := (i.b.fz Z3 (fun a k q => sB_ q) i.bb).b1 rfl
      obtain ⟨k4, e6, F6, q6⟩ := puts_m ⟨B5.mox g5, s3.fr F5 (by intro a q1 q2; omega), i5, (by decide : 1 < 104)⟩
      have Z4 : Fz (SCR m) h k4 := Z3.tr (F6.q.scr (by intro a q; omega))
      have g6 := i.g.fz Z4
      have ml : xI k2 195 16 = nI l.length := (i.f.fz F3 (fun a k q => sF_ q)).m
      have q7 := q6 u n' r' (.inl ⟨by omega, hn⟩) (by omega)
      have v3 : tl (xL h2 181 ((u * 4 + n') * 10 + r')) 0 = Sz p (flOf []) (flOf l) u n' r' := v2 u n' r' hu hn hr
      refine ⟨bI (Sz p (flOf []) (flOf l) u n' r'), pI h2 1 15 (nI 0), pI (pI k4 195 1 (nI 0)) 195 2 (-1), ?_, g2.i.c195, ?_, ⟨_, _, _, _, _, _, _, _, _, _, _, i.fin Z4 n4_0 (by rw [F6.I _ (by decide), F5.I _ (by decide), e4, xI_ne (by omega), xI_self])⟩, by show xn k4 ≤ _; rw [Z4.n]; omega, by show xs k4 ≤ _; rw [Z4.s]; omega⟩
      · unfold X11_stands_f
        rw [G_t i.g.c1, ew, BN_ok, if_pos nI_0, G_t i.g.c1, i.g.r1_8, G_t i.g.c145, i.g.r1_1, i.g.r1_4, i.g.r1_10, e1, BN_ok, G_t g1.c1, g1.r1_10, G_t g1.c188, isThere_c t1 hu hx hn wm hr wr, BN_ok, ht, if_neg (by decide), G_t g1.c1, g1.r1_8, G_t g1.c145, g1.r1_1, g1.r1_10, g1.r1_3, e2, BN_ok, G_t g2.c1, g2.r1_8, G_t g2.c145, g2.r145_9, G_t g2.c180, cell_ok, BN_ok, g2.r180_0, G_t g2.c181, pk_mul, nI_add, g2.z181, G_gx (by omega) (by omega), G_t g2.c1, nI_cl (by omega), tl_and1i, v3, grant_c g2, BN_ok]
        cases Sz p (flOf []) (flOf l) u n' r' <;> rfl
      · unfold X15_stands_f X15_stands_B119
        rw [G_t g2.i.c195, LT_e, G_t gg.c195, em1, BN_ok, if_neg (by decide), G_t gg.c195, em2, BN_ok, if_neg (by decide), G_t gg.c195, em3, BN_ok, if_neg (by decide), G_t gg.c195, gg.r195_20, e3, BN_ok, G_t g3.c195, isThere_m g3 (by decide) (by omega) (by omega) (by omega), BN_ok, s3.T u n' hu hn r' (by omega), ht, if_neg (by decide), G_t g3.c195, g3.r195_27, G_t g3.c206, g3.r195_20, ml, e5, BN_ok, G_t g5.c195, e6, BN_ok, G_t g6.c195, g6.r195_35, G_t g6.c216, pk_mul, nI_add, g6.z216, G_gx (by omega) (by omega), nI_cl (by omega), has_m (by omega), BN_ok, q7, G_t g6.c195, G_t g6.c195, done_m g6, done_m g6, BN_ok, BN_ok]
        cases Sz p (flOf []) (flOf l) u n' r' <;> rfl
  · refine Pair.no i (nI 1) (-1) n4_1 ?_ ?_
    · unfold X11_stands_f
      rw [G_t i.g.c1, ew, BN_ok, if_neg (by decide), G_t i.g.c1, refuse_c i.g, BN_ok]
    · unfold X15_stands_f X15_stands_B21
      rcases em with em | em
      · rw [G_t (gi _).c195, LT_e, G_t (gi _).i.c195, em _ (Fi _), BN_ok, if_pos nI_0, G_t (gi _).i.c195, refused_m (gi _).i, BN_ok]
      · rw [G_t (gi _).c195, LT_e, G_t (gi _).i.c195, (em _ (Fi _)).1, BN_ok, if_neg (by decide), G_t (gi _).i.c195, (em _ (Fi _)).2, BN_ok, if_pos nI_0, G_t (gi _).i.c195, refused_m (gi _).i, BN_ok]
  · refine Pair.no i (nI 2) (-1) n4_2 ?_ ?_
    · unfold X11_stands_f
      rw [G_t i.g.c1, ew, BN_ok, if_neg (by decide), G_t i.g.c1, refuse_c i.g, BN_ok]
    · unfold X15_stands_f
      rw [G_t (gi _).c195, LT_e, G_t (gi _).i.c195, (em _ (Fi _)).1, BN_ok, if_neg (by decide), G_t (gi _).i.c195, (em _ (Fi _)).2.1, BN_ok, if_neg (by decide), G_t (gi _).i.c195, (em _ (Fi _)).2.2, BN_ok, if_pos nI_0, G_t (gi _).i.c195, refused_m (gi _).i, BN_ok]
