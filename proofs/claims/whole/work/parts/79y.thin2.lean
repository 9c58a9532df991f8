/-- the class's half: where it ends -/
theorem thin_c {h : AH} {bo : Bool} {p : PR} {b m z : Nat} {l lm : List Nat} {s : LLn} {r : NN_} {lo lx : List Nat} (i : INV h bo p b m z l lm s r lo lx) (hb : bo = true) : ∃ h', X11_thin_f 1 h = (if tooB p r = true then some (-1, pI h 1 15 (nI 5)) else match thO p r (r 0 + r 1 + r 2 + r 3) (2 ^ p.1 5 0) with
    | none => some (-1, pI h' 1 15 (nI 6))
    | some y => some (nI y.1, pI (pI h' 145 12 (nI y.2)) 1 15 (nI 0))) ∧ Fz (SCR m) h h' := by
  have B := i.b.b1 hb
  have C := i.cax hb Fz.rf
  obtain ⟨h1, e1, F1, w1⟩ := copy_ok i.g B.w
  have g1 := i.g.fz F1
  have Fs1 : Fz (SCR m) h h1 := F1.mo (fun a k q => by unfold SCR; omega)
  have B1 := (i.b.fz Fs1 (fun a k q => sB_ q) i.bb).b1 hb
  have u1 := i.u.fz Fs1 (fun a k q => sU_ q)
  have z1 := i.z.fz Fs1 (fun a k q => sZ_ q)
  have wy := B.q.w.y
  have p10 : 2 ^ p.1 5 0 ≤ 2 ^ 10 := Nat.pow_le_pow_right (by decide) wy
  obtain ⟨h2, e2, F2⟩ := thin_lp (p := p) (r := r) g1 B1.q u1.a i.u.x B.n B.x (i.fm.fz F1).z (empty_c g1 z1) (2 ^ p.1 5 0) 0 FU (pS p) h1 (by omega) (FU_gt (by omega)) ⟨rfl, rfl, rfl, rfl, fun _ _ _ => rfl, fun _ _ => ⟨rfl, rfl⟩⟩ w1
  have g2 := g1.fq F2
  have tb := thO_b (p := p) (r := r) i.u.x (2 ^ p.1 5 0)
  refine ⟨h2, ?_, Fs1.tr (F2.f.mo (fun a k q => by unfold ThG ThA at q; unfold SCR; omega))⟩
  unfold X11_thin_f
  rw [G_t i.g.c1, i.q.hb, hb, if_neg (by decide), G_t i.g.c1, i.g.r1_8, G_t i.g.c145, i.g.r145_0, G_t i.g.c146, i.g.r1_1, isTooMuch_c C, BN_ok]
  cases too : tooB p r
  · have y1 : xI h1 b 5 = nI (p.1 5 0) := B1.q.y
    have e2 : X9_thinnest_B18 FU 145 119 (-1) (nI 4) (nI (2 ^ p.1 5 0)) (nI 0) h1 = _ := e2
    have thn : X9_thinnest_f 145 119 h1 = X9_thinnest_B94 145 (leV ((thO p r (r 0 + r 1 + r 2 + r 3) (2 ^ p.1 5 0)).map Prod.fst)) (nI (bsO (thO p r (r 0 + r 1 + r 2 + r 3) (2 ^ p.1 5 0)))) h2 := by
      unfold X9_thinnest_f
      rw [G_t w1.c, w1.bk, G_t B1.q.s.c, y1, shl1 _ (by omega), LT_e]; exact e2
    rw [if_pos (by decide), G_t i.g.c1, i.g.r1_2, G_t i.g.c119, i.g.r1_1, e1, BN_ok, G_t g1.c1, g1.r1_8, G_t g1.c145, g1.r1_2, thn]
    unfold X9_thinnest_B94
    have yb : ∀ n y, thO p r (r 0 + r 1 + r 2 + r 3) n = some y → y.1 < n := by
      intro n
      induction n with
      | zero => intro y h; exact nomatch h
      | succ n ih =>
        intro y h
        rw [thO] at h
        unfold thS at h
        split at h
        · split at h
          · injection h with h; rw [← h]; exact Nat.lt_succ_self _
          · exact Nat.lt_succ_of_lt (ih y h)
        · exact Nat.lt_succ_of_lt (ih y h)
    cases ho : thO p r (r 0 + r 1 + r 2 + r 3) (2 ^ p.1 5 0) with
    | none =>
      show BN (if (-1 : Int32) = (-1) then some ((-1 : Int32), h2) else _) _ = _
      rw [if_pos rfl, BN_ok, if_pos rfl, G_t g2.c1, refuse_c g2, BN_ok]; rfl
    | some y =>
      have y10 := yb _ y ho
      show BN (if nI y.1 = (-1) then some (nI y.1, h2) else (G (xc h2 145 = 9) <| LT (pI h2 145 12 (nI y.2)) fun h2 => some (nI y.1, h2))) _ = _
      rw [if_neg (by rw [nI_m1 (by omega)]; exact id), G_t g2.c145, LT_e, BN_ok, if_neg (by rw [nI_m1 (by omega)]; exact id), G_t g2.i.c1, grant_c g2.i, BN_ok]; rfl
  · rw [if_neg (by decide), G_t i.g.c1, refuse_c i.g, BN_ok]; rfl
theorem pr_thin {h : AH} {bo : Bool} {p : PR} {b m z : Nat} {l lm : List Nat} {s : LLn} {r : NN_} {lo lx : List Nat} (i : INV h bo p b m z l lm s r lo lx) : Pair (X11_thin_f 1) (X15_thin_f 195) h := by
  have gi := fun (v : Int32) => (i.g.i (a := 1) (k := 15) (v := v))
  cases bo
  · have hr := (i.b.b0 rfl).mr
    refine Pair.no i (nI 1) (-1) n4_1 ?_ ?_
    · unfold X11_thin_f
      rw [G_t i.g.c1, i.q.hb, if_pos (by decide), G_t i.g.c1, refuse_c i.g, BN_ok]
    · unfold X15_thin_f
      rw [G_t (gi _).c195, LT_e, G_t (gi _).i.c195, xR_pI, xR_pI, if_pos hr, G_t (gi _).i.c195, refused_m (gi _).i, BN_ok]
  · have hr := mr_ne i rfl
    have B := i.b.b1 rfl
    have N120 := alF_len (r := r) B.q.w B.x
    have ao : ∀ y, y ∈ alF p r → OKf y := fun y hy => (alF_ok B.q.w B.x hy).1
    obtain ⟨h1, e1, F1⟩ := thin_c i rfl
    have g1 := i.g.fz F1
    have wy := B.q.w.y
    have x := i.u.x
    cases too : tooB p r
    · rw [too, if_neg (by decide)] at e1
      -- the reference, from any heap where only the class has written
      have ref : ∀ k, Fz (fun a j => SCR m a j ∨ a = 145 ∧ j = 12) h k → ∃ k3, X15_thin_f 195 k = X15_thin_B113 195 (pS p) (leV ((thO p r (r 0 + r 1 + r 2 + r 3) (2 ^ p.1 5 0)).map Prod.fst)) (nI (lsO (r 0 + r 1 + r 2 + r 3) (thO p r (r 0 + r 1 + r 2 + r 3) (2 ^ p.1 5 0)))) k3 ∧ Fz (fun a j => AlA a j ∨ ThR a j ∨ a = 195 ∧ j = 0) k k3 := fun k Fk => by
        have gk := i.g.fz Fk
        have Bk := B.fz Fk (fun a k q c => c.elim (sB_ (by have := B.mq.s.lo; omega)) (by have := B.mq.s.lo; omega)) i.bb
        have uk := i.u.fz Fk (fun a k q c => c.elim (sU_ q) (by omega))
        have F0 : Fz (fun a j => AlA a j ∨ ThR a j ∨ a = 195 ∧ j = 0) k (pI k 195 0 (nI 0)) := Fz.i (by omega)
        have Mk : MaX k m p r := ⟨Bk.mox gk, uk.b, uk.x⟩
        have M0 : MaX (pI k 195 0 (nI 0)) m p r := Mk.fz (A := fun a j => a = 195 ∧ j = 0) (Fz.i (by omega)) (fun a k c => by omega)
        have hr2 : ¬ xR (pI k 195 0 (nI 0)) 195 4 = 0 := by
          rw [xR_pI, Fk.r _ (by decide)]; exact hr
        obtain ⟨k2, e2, F2, q2⟩ := isTooMany_m M0
        rw [too] at e2
        have M2 := M0.fz F2 (fun a k c => AlA_n c)
        obtain ⟨k3, e3, F3⟩ := thm_st (was := pS p) N120 ao M2 q2 (2 ^ p.1 5 0) 0 FU k2 (by omega) (FU_gt (by have : 2 ^ p.1 5 0 ≤ 2 ^ 10 := Nat.pow_le_pow_right (by decide) wy; omega)) Fz.rf
        refine ⟨k3, ?_, (F0.tr (F2.mo (fun a k q => .inl q))).tr (F3.mo (fun a k q => .inr (.inl q)))⟩
        unfold X15_thin_f
        rw [G_t gk.c195, LT_e, G_t gk.i.c195, if_neg hr2, G_t gk.i.c195, e2, BN_ok, if_pos (by decide), G_t M2.c.s.c195, M2.c.S, LT_e, inPu_m M2, BN_ok, nI_add, LT_e]
        exact e3
      have nB : ∀ {a k}, (2 ≤ a ∧ a ≤ 57 ∨ a = 62 ∨ 63 ≤ a ∧ a ≤ 118 ∨ a = 195 ∧ (k = 14 ∨ k = 23 ∨ k = 24 ∨ k = 25) ∨ 227 ≤ a ∧ m ≤ a ∧ a ≤ m + 18) → ¬ (SCR m a k ∨ a = 145 ∧ k = 12 ∨ a = 195 ∧ (k = 15 ∨ k = 47)) := fun q c => c.elim (sB_ (by omega)) (fun c => by omega)
      have hm := B.mq.s.lo
      have hbb := i.bb
      have mkB : ∀ h5, Fz (fun a k => SCR m a k ∨ a = 145 ∧ k = 12 ∨ a = 195 ∧ (k = 15 ∨ k = 47)) h h5 → xI h5 195 15 = pS p → Bk1 h5 p b m := fun h5 F e => ⟨B.w.fz F rfl (fun k => nB (by omega)), B.q.mv (fun k hk => ⟨F.c _, F.z _, funext fun j => F.r _ (by omega), funext fun j => F.I (nB (by omega))⟩), B.mq.fz F (fun k j hk => nB (by omega)), by rw [F.r _ (by decide)]; exact B.mr, by rw [F.I (nB (by omega))]; exact B.l, e, by rw [F.I (nB (by omega))]; exact B.K, by rw [F.I (nB (by omega))]; exact B.A, by rw [F.I (nB (by omega))]; exact B.B, B.n, B.x, by rw [F.n]; exact B.mx⟩
      have nR : ∀ {k}, k = 40 ∨ k = 41 → ¬ (SCR m 195 k ∨ 195 = 145 ∧ k = 12 ∨ 195 = 195 ∧ (k = 15 ∨ k = 47)) := fun q c => c.elim (sR_ (by omega)) (fun c => by omega)
      have nT : ∀ {k}, k = 10 ∨ k = 11 → ¬ (SCR m 145 k ∨ 145 = 145 ∧ k = 12 ∨ 145 = 195 ∧ (k = 15 ∨ k = 47)) := fun q c => c.elim (sR_ (by omega)) (fun c => by omega)
      have mk : ∀ h5 (F : Fz (fun a k => SCR m a k ∨ a = 145 ∧ k = 12 ∨ a = 195 ∧ (k = 15 ∨ k = 47)) h h5), xI h5 195 15 = pS p → xI h5 145 12 = xI h5 195 47 → Sts h5 → INV h5 true p b m z l lm s r lo lx := fun h5 F e et st => ⟨i.g.fz F, i.t.fz F (fun a k q c => c.elim (sT_ q) (fun c => by omega)), i.q.fz F (fun a k q c => c.elim (sG_ q) (fun c => by omega)), ⟨fun _ => mkB h5 F e, fun e => nomatch e⟩, i.f.fz F (fun a k q c => c.elim (sF_ q) (fun c => by omega)), i.m.fz F (fun a k q c => c.elim (sM_ q) (fun c => by omega)), i.k.fz F (fun a k q c => c.elim (sK_ q) (fun c => by omega)), i.u.fz F (fun a k q c => c.elim (sU_ q) (fun c => by omega)), ⟨by rw [F.I (nT (by omega)), F.I (nR (by omega))]; exact i.r.a, by rw [F.I (nT (by omega)), F.I (nR (by omega))]; exact i.r.b, et⟩, i.o.fz F (fun a k q c => c.elim (sO_ q) (fun c => by omega)), i.e.fz F (fun a k q c => c.elim (sE_ q) (fun c => by omega)), i.z.fz F (fun a k q c => c.elim (sZ_ q) (fun c => by omega)), (fun e => nomatch e), i.fm.fz F, st⟩
      cases ho : thO p r (r 0 + r 1 + r 2 + r 3) (2 ^ p.1 5 0) with
      | none =>
        rw [ho] at e1
        have Fk : Fz (fun a j => SCR m a j ∨ a = 145 ∧ j = 12) h (pI h1 1 15 (nI 6)) := (F1.mo (fun a k q => .inl q)).tr (Fz.i (.inl scA))
        obtain ⟨k3, e3, F3⟩ := ref _ Fk
        rw [ho] at e3
        have g3 := (i.g.fz Fk).fz F3
        obtain ⟨h5, h5e⟩ : ∃ h5, h5 = pI (pI (pI k3 195 15 (pS p)) 195 1 (nI 6)) 195 2 (-1) := ⟨_, rfl⟩
        have F : Fz (fun a k => SCR m a k ∨ a = 145 ∧ k = 12 ∨ a = 195 ∧ (k = 15 ∨ k = 47)) h h5 := by
          rw [h5e]
          exact ((((Fk.mo (fun a k q => by rcases q with q | q; exact .inl q; exact .inr (.inl q))).tr (F3.mo (fun a k q => by unfold AlA ThR ThF at q; unfold SCR; omega))).tr (Fz.i (by omega))).tr (Fz.i (.inl sc1))).tr (Fz.i (.inl sc2))
        have x12 : xI h5 145 12 = xI h 145 12 := by rw [h5e, xI_ne (by omega), xI_ne (by omega), xI_ne (by omega), F3.I (by unfold AlA ThR ThF; omega), xI_ne (by omega), F1.I (sR_ (by omega))]
        have x47 : xI h5 195 47 = xI h 195 47 := by rw [h5e, xI_ne (by omega), xI_ne (by omega), xI_ne (by omega), F3.I (by unfold AlA ThR ThF; omega), xI_ne (by omega), F1.I (sR_ (by omega))]
        refine ⟨-1, pI h1 1 15 (nI 6), h5, e1, g1.i.c195, ?_, ⟨_, _, _, _, _, _, _, _, _, _, _, mk h5 F (by rw [h5e, xI_ne (by omega), xI_ne (by omega), xI_self]) (by rw [x12, x47]; exact i.r.c) ?_⟩, by rw [F.n]; omega, by rw [F.s]; omega⟩
        · rw [e3]
          unfold X15_thin_B113
          show (G (xc k3 195 = 15) <| LT (pI k3 195 15 (pS p)) fun h2 => if (-1 : Int32) = (-1) then _ else _) = _
          rw [G_t g3.c195, LT_e, if_pos rfl, G_t g3.i.c195, refused_m g3.i, BN_ok, h5e]
        · rw [h5e]
          refine Sts_fin n4_6 ?_
          rw [xI_ne (by omega), F3.I (by unfold AlA ThR ThF; omega), xI_self]
      | some y =>
        rw [ho] at e1
        have Fk : Fz (fun a j => SCR m a j ∨ a = 145 ∧ j = 12) h (pI (pI h1 145 12 (nI y.2)) 1 15 (nI 0)) := ((F1.mo (fun a k q => .inl q)).tr (Fz.i (.inr ⟨rfl, rfl⟩))).tr (Fz.i (.inl scA))
        obtain ⟨k3, e3, F3⟩ := ref _ Fk
        rw [ho] at e3
        have g3 := (i.g.fz Fk).fz F3
        obtain ⟨h5, h5e⟩ : ∃ h5, h5 = pI (pI (pI (pI k3 195 15 (pS p)) 195 47 (nI y.2)) 195 1 (nI 0)) 195 2 (-1) := ⟨_, rfl⟩
        have F : Fz (fun a k => SCR m a k ∨ a = 145 ∧ k = 12 ∨ a = 195 ∧ (k = 15 ∨ k = 47)) h h5 := by
          rw [h5e]
          exact (((((Fk.mo (fun a k q => by rcases q with q | q; exact .inl q; exact .inr (.inl q))).tr (F3.mo (fun a k q => by unfold AlA ThR ThF at q; unfold SCR; omega))).tr (Fz.i (by omega))).tr (Fz.i (by omega))).tr (Fz.i (.inl sc1))).tr (Fz.i (.inl sc2))
        have x12 : xI h5 145 12 = nI y.2 := by rw [h5e, xI_ne (by omega), xI_ne (by omega), xI_ne (by omega), xI_ne (by omega), F3.I (by unfold AlA ThR ThF; omega), xI_ne (by omega), xI_self]
        have x47 : xI h5 195 47 = nI y.2 := by rw [h5e, xI_ne (by omega), xI_ne (by omega), xI_self]
        have y1000 : y.1 < 1024 := by
          have yb : ∀ n y, thO p r (r 0 + r 1 + r 2 + r 3) n = some y → y.1 < n := by
            intro n
            induction n with
            | zero => intro y h; exact nomatch h
            | succ n ih =>
              intro y h
              rw [thO] at h
              unfold thS at h
              split at h
              · split at h
                · injection h with h; rw [← h]; exact Nat.lt_succ_self _
                · exact Nat.lt_succ_of_lt (ih y h)
              · exact Nat.lt_succ_of_lt (ih y h)
          have := yb _ y ho
          have : 2 ^ p.1 5 0 ≤ 2 ^ 10 := Nat.pow_le_pow_right (by decide) wy
          omega
        refine ⟨nI y.1, pI (pI h1 145 12 (nI y.2)) 1 15 (nI 0), h5, e1, g1.i.i.c195, ?_, ⟨_, _, _, _, _, _, _, _, _, _, _, mk h5 F (by rw [h5e, xI_ne (by omega), xI_ne (by omega), xI_ne (by omega), xI_self]) (by rw [x12, x47]) ?_⟩, by rw [F.n]; omega, by rw [F.s]; omega⟩
        · rw [e3]
          unfold X15_thin_B113
          show (G (xc k3 195 = 15) <| LT (pI k3 195 15 (pS p)) fun h2 => if nI y.1 = (-1) then _ else (G (xc h2 195 = 15) <| LT (pI h2 195 47 (nI y.2)) fun h4 => G (xc h4 195 = 15) <| BN (X15_done_f 195 (nI y.1) h4) fun v7 h6 => some (v7, h6))) = _
          rw [G_t g3.c195, LT_e, if_neg (by rw [nI_m1 (by omega)]; exact id), G_t g3.i.c195, LT_e, G_t g3.i.i.c195, done_m g3.i.i, BN_ok, h5e]
        · rw [h5e]
          refine Sts_fin n4_0 ?_
          rw [xI_ne (by omega), xI_ne (by omega), F3.I (by unfold AlA ThR ThF; omega), xI_self]
    · rw [too, if_pos rfl] at e1
      have FF : Fz (SCR m) h (pI (pI h 1 15 (nI 5)) 195 0 (nI 0)) := (Fz.i scA).tr (Fz.i sc0)
      obtain ⟨k2, e2, F2, q2⟩ := isTooMany_m (i.max rfl FF)
      rw [too] at e2
      have g2 := (gi (nI 5)).i (a := 195) (k := 0) (v := nI 0) |>.fz F2
      have Fs2 : Fz (SCR m) h k2 := FF.tr (F2.mo (fun a k q => AlA_scr q))
      refine ⟨-1, pI h 1 15 (nI 5), pI (pI k2 195 1 (nI 5)) 195 2 (-1), e1, (gi _).c195, ?_, ⟨_, _, _, _, _, _, _, _, _, _, _, i.fin Fs2 n4_5 (by rw [F2.I (by unfold AlA; omega), xI_ne (by omega), xI_self])⟩, by show xn k2 ≤ _; rw [Fs2.n]; omega, by show xs k2 ≤ _; rw [Fs2.s]; omega⟩
      unfold X15_thin_f
      rw [G_t (gi _).c195, LT_e, G_t (gi _).i.c195, xR_pI, xR_pI, if_neg hr, G_t (gi _).i.c195, e2, BN_ok, if_neg (by decide), G_t g2.c195, refused_m g2, BN_ok]
