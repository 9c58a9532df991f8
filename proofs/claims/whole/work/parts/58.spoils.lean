theorem spoiledBy_ok {h : AH} {wk b a na z : Nat} {p : PR} {f : FL} {l : List Nat} (s : SG h) (w : IsW h wk b p) (q : IsCB h b p.1) (n : 1 ≤ pl p) (x : pl p ≤ 6) (nu : IsN h na z l) (o : ∀ d, d ∈ l → OKf d) (hn : na + 1 < 151 ∨ (158 < na ∧ na + 1 < 174)) (t : IsTr h a p f) : ∃ v h', X9_spoiledBy_f 145 wk a na h = some (v, h') ∧ Fq (fun x => (152 ≤ x ∧ x ≤ 154) ∨ x = 181) h h' ∧ (∀ t m r, t ≤ pl p → m < p.1 0 0 → r < p.1 1 0 → SVb h' 0 t m r = Sz p f (flOf l) t m r) ∧ tl v 0 = spo p f (flOf l) := by
  have hw := w.w
  have ha := t.s.w
  obtain ⟨h1, e1, F1, v1⟩ := putAll_ok s.l1 nu o (by omega)
  have s1 := s.fr F1
  obtain ⟨v, h2, e2, F2, v2⟩ := spoiled_ok s1 s1.l1 (w.fr F1 (by omega)) (q.fr F1 (by intro a q; omega)) (t.fr F1 (by intro k hk; omega)) n x
  obtain ⟨v3, v4⟩ := v2 0 (by decide)
  rw [v1 0 (by decide)] at v3 v4
  refine ⟨v, h2, ?_, (F1.q.mo (fun x q => by omega)).tr (F2.mo (fun x q => by omega)), v3, v4⟩
  unfold X9_spoiledBy_f
  rw [G_t s.c145, s.r145_1, G_t s.c151, e1, BN_ok, G_t s1.c145, s1.r145_9, G_t s1.c180, s1.r145_1, e2, BN_ok]
theorem nothing_c {h : AH} (g : SG h) (z : gZ_ h) : IsN h 122 0 [] := ⟨g.c122, g.r122_0, g.c123, g.z123, Nat.zero_le _, by decide, z.a, fun i hi => absurd hi (Nat.not_lt_zero _)⟩
theorem empty_c {h : AH} (g : SG h) (z : gZ_ h) : IsN h 166 0 [] := ⟨g.c166, g.r166_0, g.c167, g.z167, Nat.zero_le _, by decide, z.b, fun i hi => absurd hi (Nat.not_lt_zero _)⟩
theorem q_play0 {h : AH} {bo : Bool} {p : PR} {b m z : Nat} {l lm : List Nat} {s : LLn} {r : NN_} {lo lx : List Nat} (i : INV h bo p b m z l lm s r lo lx) (hb : bo = true) {k : AH} (F : Fz (SCR m) h k) : ∃ h1, X9_play_f 145 62 122 188 k = some ((), h1) ∧ Fq (fun x => (152 ≤ x ∧ x ≤ 154) ∨ (174 ≤ x ∧ x ≤ 179) ∨ (188 ≤ x ∧ x ≤ 188 + 5)) k h1 ∧ IsTr h1 188 p (flOf []) := by
  have gk := i.g.fz F
  have B := (i.b.fz F (fun a k q => sB_ q) i.bb).b1 hb
  exact play_ok gk B.w B.q B.n B.x (nothing_c gk (i.z.fz F (fun a k q => sZ_ q))) (fun d hd => absurd hd List.not_mem_nil) (.inl (by decide)) gk.t2
theorem q_runs0 {h k : AH} {bo : Bool} {p : PR} {b m z : Nat} {l lm : List Nat} {s : LLn} {r : NN_} {lo lx : List Nat} (i : INV h bo p b m z l lm s r lo lx) (hb : bo = true) (F : Fz (SCR m) h k) (c : Nat) (hc : c < 104) : ∃ k2, X15_runs_f 195 (nI c) 199 (nI 0) (nI 0) k = some (nI (outB p (flOf [])), k2) ∧ Fr (fun x => (203 ≤ x ∧ x ≤ 205) ∨ (210 ≤ x ∧ x ≤ 214)) k k2 ∧ (∀ k' (p' : PR) f', k' ≠ c → p'.1 0 0 ≤ 4 → p'.1 4 0 ≤ 6 → pl p' ≤ 6 → IsSl k k' p' f' → IsSl k2 k' p' f') ∧ IsSl k2 c p (flOf []) := by
  have gk := i.g.fz F
  have Bk := (i.b.fz F (fun a k q => sB_ q) i.bb).b1 hb
  exact runs_m (k := c) (i0 := 0) (l := []) (Bk.mox gk) hc gk.c199 (Nat.zero_le _) (by decide) (fun i hi => absurd hi (Nat.not_lt_zero _)) (fun d hd => absurd hd List.not_mem_nil) (by decide)
/-- the falls told, put -/
theorem q_lay {h k : AH} {bo : Bool} {p : PR} {b m z : Nat} {l lm : List Nat} {s : LLn} {r : NN_} {lo lx : List Nat} (i : INV h bo p b m z l lm s r lo lx) (F : Fz (SCR m) h k) : ∃ k2, X13_lay_f 206 199 (nI 0) (nI l.length) k = some ((), k2) ∧ Fr (fun x => 207 ≤ x ∧ x ≤ 209) k k2 ∧ IsH k2 206 (flOf l) := by
  have gk := i.g.fz F
  have f := i.f.fz F (fun a k q => sF_ q)
  have hn := f.n.n
  have hz := gk.z199
  exact lay_ok (i0 := 0) gk.h2 gk.c199 (by omega) (by omega) f.f f.o (by decide)
theorem outB_le {p : PR} {f : FL} : outB p f ≤ 2 := by
  unfold outB
  repeat' split
  all_goals omega
theorem pr_spoils {h : AH} {bo : Bool} {p : PR} {b m z : Nat} {l lm : List Nat} {s : LLn} {r : NN_} {lo lx : List Nat} (i : INV h bo p b m z l lm s r lo lx) : Pair (X11_spoils_f 1) (X15_spoils_f 195) h := by
  have gi := fun (v : Int32) => (i.g.i (a := 1) (k := 15) (v := v))
  cases bo
  · have hr := (i.b.b0 rfl).mr
    refine Pair.no i (nI 1) (-1) n4_1 ?_ ?_
    · unfold X11_spoils_f
      rw [G_t i.g.c1, i.q.hb, if_pos (by decide), G_t i.g.c1, refuse_c i.g, BN_ok]
    · unfold X15_spoils_f
      rw [G_t (gi _).c195, LT_e, G_t (gi _).i.c195, xR_pI, xR_pI, if_pos hr, G_t (gi _).i.c195, refused_m (gi _).i, BN_ok]
  · have hr := mr_ne i rfl
    have hle := outB_le (p := p) (f := flOf [])
    obtain ⟨h1, e1, F1, t1⟩ := q_play0 i rfl Fz.rf
    have g1 := i.g.fq F1
    have Z1 : Fz (SCR m) h h1 := F1.scr (by intro a q; omega)
    -- the reference's side, for any heap of the class's
    have ref : ∀ k, Fz (SCR m) h k → ∃ k2, X15_runs_f 195 (nI 1) 199 (nI 0) (nI 0) k = some (nI (outB p (flOf [])), k2) ∧ Fz (SCR m) h k2 ∧ xI k2 1 15 = xI k 1 15 ∧ IsSl k2 1 p (flOf []) := by
      intro k F
      obtain ⟨k2, e2, F2, _, s2⟩ := q_runs0 i rfl F 1 (by decide)
      exact ⟨k2, e2, F.tr (F2.q.scr (by intro a q; omega)), F2.I _ (by decide), s2⟩
    by_cases hb : outB p (flOf []) = 2
    · have FF : Fz (SCR m) h (pI (pI h1 1 15 (nI 5)) 195 0 (nI 0)) := (Z1.tr (Fz.i scA)).tr (Fz.i sc0)
      obtain ⟨k2, e2, F2, e3, s2⟩ := ref _ FF
      have gg := i.g.fz FF
      have g2 := i.g.fz F2
      refine ⟨-1, pI h1 1 15 (nI 5), pI (pI k2 195 1 (nI 5)) 195 2 (-1), ?_, g1.i.c195, ?_, ⟨_, _, _, _, _, _, _, _, _, _, _, i.fin F2 n4_5 (by rw [e3, xI_ne (by omega), xI_self])⟩, by show xn k2 ≤ _; rw [F2.n]; omega, by show xs k2 ≤ _; rw [F2.s]; omega⟩
      · unfold X11_spoils_f
        rw [G_t i.g.c1, i.q.hb, if_neg (by decide), G_t i.g.c1, i.g.r1_8, G_t i.g.c145, i.g.r1_1, i.g.r1_4, i.g.r1_10, e1, BN_ok, G_t g1.c1, g1.r1_10, G_t g1.c188, t1.V, hb, if_pos rfl, G_t g1.c1, refuse_c g1, BN_ok]
      · have hr2 : ¬ xR (pI (pI h1 1 15 (nI 5)) 195 0 (nI 0)) 195 4 = 0 := by rw [FF.r _ (by decide)]; exact hr
        unfold X15_spoils_f
        rw [G_t g1.i.c195, LT_e, G_t gg.c195, if_neg hr2, G_t gg.c195, gg.r195_20, e2, BN_ok, hb, if_pos rfl, G_t g2.c195, refused_m g2, BN_ok]
    · have hb2 : ¬ nI (outB p (flOf [])) = nI 2 := by rw [nI_eI (by omega) (by omega)]; exact hb
      have B1 := (i.b.fz Z1 (fun a k q => sB_ q) i.bb).b1 rfl
      have f1 := i.f.fz Z1 (fun a k q => sF_ q)
      obtain ⟨v, h2, e2, F2, _, v2⟩ := spoiledBy_ok g1 B1.w B1.q B1.n B1.x f1.n f1.o (.inl (by decide)) t1
      have g2 := g1.fq F2
      have FF : Fz (SCR m) h (pI (pI h2 1 15 (nI 0)) 195 0 (nI 0)) := ((Z1.tr (F2.scr (by intro a q; omega))).tr (Fz.i scA)).tr (Fz.i sc0)
      have gg := i.g.fz FF
      obtain ⟨k2, e3, F3, e4, s3⟩ := ref _ FF
      have g3 := i.g.fz F3
      obtain ⟨k3, e5, F5, i5⟩ := q_lay i F3
      have Z3 : Fz (SCR m) h k3 := F3.tr (F5.q.scr (by intro a q; omega))
      have g5 := i.g.fz Z3
      have B5 := (i.b.fz Z3 (fun a k q => sB_ q) i.bb).b1 rfl
      obtain ⟨k4, e6, F6⟩ := isSpoilt_m ⟨B5.mox g5, s3.fr F5 (by intro a q1 q2; omega), i5, (by decide : 1 < 104)⟩
      have Z4 : Fz (SCR m) h k4 := Z3.tr (F6.q.scr (by intro a q; omega))
      have g6 := i.g.fz Z4
      have ml : xI k2 195 16 = nI l.length := (i.f.fz F3 (fun a k q => sF_ q)).m
      refine ⟨bI (spo p (flOf []) (flOf l)), pI h2 1 15 (nI 0), pI (pI k4 195 1 (nI 0)) 195 2 (-1), ?_, g2.i.c195, ?_, ⟨_, _, _, _, _, _, _, _, _, _, _, i.fin Z4 n4_0 (by rw [F6.I _ (by decide), F5.I _ (by decide), e4, xI_ne (by omega), xI_self])⟩, by show xn k4 ≤ _; rw [Z4.n]; omega, by show xs k4 ≤ _; rw [Z4.s]; omega⟩
      · unfold X11_spoils_f
        rw [G_t i.g.c1, i.q.hb, if_neg (by decide), G_t i.g.c1, i.g.r1_8, G_t i.g.c145, i.g.r1_1, i.g.r1_4, i.g.r1_10, e1, BN_ok, G_t g1.c1, g1.r1_10, G_t g1.c188, t1.V, if_neg hb2, G_t g1.c1, g1.r1_8, G_t g1.c145, g1.r1_1, g1.r1_3, e2, BN_ok, G_t g2.c1, tl_and1i, v2, grant_c g2, BN_ok]
        cases spo p (flOf []) (flOf l) <;> rfl
      · have hr2 : ¬ xR (pI (pI h2 1 15 (nI 0)) 195 0 (nI 0)) 195 4 = 0 := by rw [FF.r _ (by decide)]; exact hr
        unfold X15_spoils_f X15_spoils_B69
        rw [G_t g2.i.c195, LT_e, G_t gg.c195, if_neg hr2, G_t gg.c195, gg.r195_20, e3, BN_ok, if_neg hb2, G_t g3.c195, g3.r195_27, G_t g3.c206, g3.r195_20, ml, e5, BN_ok, G_t g5.c195, e6, BN_ok, G_t g6.c195, G_t g6.c195, done_m g6, done_m g6, BN_ok, BN_ok]
        cases spo p (flOf []) (flOf l) <;> rfl
