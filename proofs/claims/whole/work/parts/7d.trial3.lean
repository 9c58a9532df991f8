theorem Fz.sy {A : Nat → Nat → Prop} {h h' : AH} (F : Fz A h h') : Fz A h' h := ⟨F.1.symm, F.2.1.symm, F.2.2.1.symm, F.2.2.2.1.symm, fun a k n => (F.2.2.2.2.1 a k n).symm, fun a k n => ⟨(F.2.2.2.2.2 a k n).1.symm, (F.2.2.2.2.2 a k n).2.symm⟩⟩
/-- a heap between: grown, but nothing written -/
theorem Fg.sp {A : Nat → Nat → Prop} {h h' : AH} (F : Fg A h h') : ∃ hm, Gp h hm ∧ Fz A hm h' := by
  have go : ∀ a k, Decidable (a < xn h ∧ (a = 174 ∧ 7 ≤ k ∨ a = 180 ∧ 1 ≤ k ∨ a = 119)) := fun a k => inferInstance
  refine ⟨(xn h', xs h', xc h', xz h', fun a k => if a < xn h then xI h a k else xI h' a k, fun a k => if a < xn h then xL h a k else xL h' a k, fun a k => if a < xn h ∧ (a = 174 ∧ 7 ≤ k ∨ a = 180 ∧ 1 ≤ k ∨ a = 119) then xR h a k else xR h' a k), ⟨F.1, fun a n => ?_⟩, rfl, rfl, rfl, rfl, fun a k n => ?_, fun a k n => ?_⟩
  · have F2 := F.2 a n
    refine ⟨F2.1, F2.2.1, fun f => funext fun k => ?_, funext fun k => if_pos n, funext fun k => if_pos n⟩
    show (if a < xn h ∧ (a = 174 ∧ 7 ≤ k ∨ a = 180 ∧ 1 ≤ k ∨ a = 119) then xR h a k else xR h' a k) = xR h a k
    by_cases c : a < xn h ∧ (a = 174 ∧ 7 ≤ k ∨ a = 180 ∧ 1 ≤ k ∨ a = 119)
    · rw [if_pos c]
    · rw [if_neg c]; exact F2.2.2.1 k (by omega)
  · show xR h' a k = (if a < xn h ∧ (a = 174 ∧ 7 ≤ k ∨ a = 180 ∧ 1 ≤ k ∨ a = 119) then xR h a k else xR h' a k)
    rw [if_neg (by omega)]
  · show xI h' a k = (if a < xn h then xI h a k else xI h' a k) ∧ xL h' a k = (if a < xn h then xL h a k else xL h' a k)
    by_cases c : a < xn h
    · rw [if_pos c, if_pos c]; exact (F.2 a c).2.2.2 k n
    · rw [if_neg c, if_neg c]; exact ⟨rfl, rfl⟩
section
variable {h h' : AH} {a k : Nat}
theorem IsMB.gp {b : Nat} {B : BK} (E : Gp h h') (n : b + 19 ≤ xn h) (q : IsMB h b B) : IsMB h' b B := by
  have nk : ∀ k, k ≤ 18 → b + k < xn h := fun k hk => by omega
  have n0 : b < xn h := by omega
  have lo := q.s.lo
  have f0 : b ≠ 159 := by omega
  have fk : ∀ k, b + k ≠ 159 := fun k => by omega
  have s := q.s
  refine ⟨?_, q.w, ?_⟩
  · unfold MBS at *; simp (disch := decide) only [E.c (nk _ _), E.z (nk _ _), E.c n0, E.r n0 f0]; exact s
  · simp (disch := decide) only [E.I (nk _ _), E.I n0]
    exact q.2.2
theorem mL.gp {i0 : Nat} {l : List Nat} (E : Gp h h') (n : a < xn h) (q : mL h a i0 l) : mL h' a i0 l := fun i hi => by rw [E.I n]; exact q i hi
theorem Bk1.gp {p : PR} {b m : Nat} (E : Gp h h') (g : SG h) (hb : b = 2 ∨ b = 63) (c : Bk1 h p b m) : Bk1 h' p b m := by
  have g1 := g.1
  have mx := c.mx
  refine ⟨?_, c.q.mv (fun k hk => ⟨E.c (by omega), E.z (by omega), (E.2 _ (by omega)).2.2.1 (by omega), (E.2 _ (by omega)).2.2.2.1⟩), c.mq.gp E c.mx, by rw [E.r (by omega) (by decide)]; exact c.mr, by rw [E.I (by omega)]; exact c.l, by rw [E.I (by omega)]; exact c.S, by rw [E.I (by omega)]; exact c.K, by rw [E.I (by omega)]; exact c.A, by rw [E.I (by omega)]; exact c.B, c.n, c.x, Nat.le_trans c.mx E.1⟩
  have w := c.w
  exact ⟨w.w, by rw [E.c (by omega)]; exact w.c, by rw [E.r (by omega) (by decide)]; exact w.bk, by rw [E.I (by omega)]; exact w.l, by rw [E.I (by omega)]; exact w.S, by rw [E.I (by omega)]; exact w.K, by rw [E.I (by omega)]; exact w.A, by rw [E.I (by omega)]; exact w.B⟩
theorem INV.gp {p : PR} {b m z : Nat} {l lm : List Nat} {s : LLn} {r : NN_} {lo lx : List Nat} (E : Gp h h') (fm : Fm h' true m) (i : INV h true p b m z l lm s r lo lx) : INV h' true p b m z l lm s r lo lx := by
  have g1 := i.g.1
  have e : ∀ {a k : Nat}, a < 227 → xI h' a k = xI h a k := fun n => E.I (by omega)
  have kx := i.k.x
  exact ⟨i.g.gp E, ⟨by rw [e (by decide)]; exact i.t.f1, by rw [e (by decide)]; exact i.t.f2, i.t.x, fun j hj => by rw [e (by decide), e (by decide)]; exact i.t.e j hj, fun j hj => by rw [e (by decide)]; exact i.t.b j hj⟩, ⟨by rw [e (by decide)]; exact i.q.hb, by rw [e (by decide), e (by decide)]; exact i.q.fl, by rw [E.r (by omega) (by decide)]; exact i.q.bk, by rw [E.r (by omega) (by decide)]; exact i.q.wb⟩, ⟨fun q => (i.b.b1 q).gp E i.g i.bb, fun q => nomatch q⟩, ⟨i.f.n.gp E (by omega) (by decide), by rw [e (by decide)]; exact i.f.m, i.f.f.gp E (by omega), i.f.o⟩, ⟨i.m.n.gp E (by omega) (by decide), by rw [e (by decide)]; exact i.m.m, fun j hj => by rw [e (by decide)]; exact i.m.f j hj, fun j hj => by rw [e (by decide)]; exact i.m.g j hj, i.m.o⟩, ⟨by rw [e (by decide)]; exact i.k.c, by rw [e (by decide)]; exact i.k.m, i.k.x, fun j hj => (i.k.n j hj).gp E (by omega) (by omega), fun j hj => by rw [e (by decide)]; exact i.k.k j hj, fun j hj => (i.k.f j hj).gp E (by omega), i.k.o⟩, ⟨fun k hk => by rw [e (by decide)]; exact i.u.a k hk, fun k hk => by rw [e (by decide)]; exact i.u.b k hk, i.u.x⟩, ⟨by rw [e (by decide), e (by decide)]; exact i.r.a, by rw [e (by decide), e (by decide)]; exact i.r.b, by rw [e (by decide), e (by decide)]; exact i.r.c⟩, ⟨i.o.n.gp E (by omega) (by decide), by rw [e (by decide)]; exact i.o.m, i.o.f.gp E (by omega)⟩, ⟨i.e.n.gp E (by omega) (by decide), by rw [e (by decide)]; exact i.e.m, i.e.f.gp E (by omega)⟩, ⟨by rw [e (by decide)]; exact i.z.a, by rw [e (by decide)]; exact i.z.b⟩, i.n, fm, ⟨by rw [e (by decide), e (by decide)]; exact i.st.1, by rw [e (by decide), e (by decide), e (by decide)]; exact i.st.2⟩⟩
end
theorem TgA_s {m a k : Nat} (q : TgA m a k) : SCR m a k ∨ a = 145 ∧ (k = 10 ∨ k = 11) ∨ a = 162 ∨ a = 163 ∨ a = 220 ∨ a = 195 ∧ (k = 40 ∨ k = 41 ∨ k = 42) := by unfold TgA at q; unfold SCR; omega
theorem TmF_s {m a k : Nat} (q : AlA a k ∨ TmF a k) : SCR m a k ∨ a = 145 ∧ (k = 10 ∨ k = 11) ∨ a = 162 ∨ a = 163 ∨ a = 220 ∨ a = 195 ∧ (k = 40 ∨ k = 41 ∨ k = 42) := by unfold AlA TmF at q; unfold SCR; omega
theorem tr_ok {h : AH} {p : PR} {b m z : Nat} {l lm : List Nat} {s : LLn} {r : NN_} {lo lx : List Nat} {runs : Nat} (i : INV h true p b m z l lm s r lo lx) (r1 : 1 ≤ runs) (r100 : runs ≤ 100) (ok : outB p (flOf []) = 0 ∧ tooB p r = false) : Pair (X11_trial_f 1 (nI runs)) (X15_trial_f 195 (nI runs)) h := by
  have gi := fun (v : Int32) => (i.g.i (a := 1) (k := 15) (v := v))
  have hr := mr_ne i rfl
  have B := i.b.b1 rfl
  have iny : ∀ k, X15_in_f (nI runs) (nI 1) (nI 100) k = some (nI 1, k) := fun k => by
    unfold X15_in_f
    rw [if_neg (by rw [nI_tI (by omega) (by omega)]; omega), if_neg (by rw [nI_tI (by omega) (by omega)]; omega)]
  have N120 := alF_len (r := r) B.q.w B.x
  have ao : ∀ y, y ∈ alF p r → OKf y := fun y hy => (alF_ok B.q.w B.x hy).1
  have xu := i.u.x
  obtain ⟨h1, e1, F1, t1⟩ := q_play0 i rfl Fz.rf
  have Fs1 : Fz (SCR m) h h1 := F1.scr (by intro a q; omega)
  have st1 : Sts h1 := F1.f.st (fun a k q => by omega) i.st
  have i1 : INV h1 true p b m z l lm s r lo lx := i.fz Fs1 st1
  have g1 := i1.g
  have B1 := i1.b.b1 rfl
  have ob := outB_le (p := p) (f := flOf [])
  have C1 := i1.cax rfl Fz.rf
  have hdc : X11_trial_f 1 (nI runs) h = if nI (outB p (flOf [])) = 0 then (if bI (tooB p r) = 0 then (G (xc h1 1 = 11) <| G (xc h1 145 = 9) <| BN (X9_search_f 145 62 (nI runs) h1) fun v15 h14 => G (xc h14 1 = 11) <| BN (X11_grant_f 1 v15 h14) fun v18 h17 => some (v18, h17)) else X11_trial_B76 1 h1) else X11_trial_B76 1 h1 := by
    unfold X11_trial_f
    rw [G_t i.g.c1, i.q.hb, if_neg (by decide), if_neg (by rw [nI_tI (by omega) (by omega)]; omega), if_pos (by rw [nI_lI (by omega) (by omega)]; exact r100), G_t i.g.c1, i.g.r1_8, G_t i.g.c145, i.g.r1_1, i.g.r1_4, i.g.r1_10, e1, BN_ok, G_t g1.c1, g1.r1_10, G_t g1.c188, t1.V, G_t g1.c1, g1.r1_8, G_t g1.c145, g1.r145_0, G_t g1.c146, g1.r1_1, isTooMuch_c C1, BN_ok, g1.r1_8, g1.r1_1]
  obtain ⟨h2, e2, X2⟩ := search_c (runs := runs) C1 i1.fm B1.mx B1.mq.s.lo r100 i1.o.n.nus (empty_c g1 i1.z)
  have tb := trL_b (p := p) (runs := runs) (ups (alF p r) r 1 (r 0 + r 1 + r 2 + r 3)) [[]] 0 (Nat.zero_le _)
  have g2 := X2.c.g
  obtain ⟨hm, Em, Fm2⟩ := X2.g.sp
  have fmm : Fm hm true m := X2.m.fz Fm2.sy
  have im : INV hm true p b m z l lm s r lo lx := i1.gp Em fmm
  obtain ⟨hc, hce⟩ : ∃ hc, hc = pI h2 1 15 (nI 0) := ⟨_, rfl⟩
  have gc : SG hc := by rw [hce]; exact g2.i
  have Fc : Fz (fun a k => SCR m a k ∨ a = 145 ∧ (k = 10 ∨ k = 11) ∨ a = 162 ∨ a = 163 ∨ a = 220 ∨ a = 195 ∧ (k = 40 ∨ k = 41 ∨ k = 42)) hm (pI hc 195 0 (nI 0)) := by
    rw [hce]
    exact ((Fm2.mo (fun a k q => TgA_s q)).tr (Fz.i (.inl scA))).tr (Fz.i (.inl sc0))
  have Bm := im.b.b1 rfl
  have lom := Bm.mq.s.lo
  have Bc := Bm.fz Fc (fun a k q c => c.elim (sB_ (by omega)) (by omega)) i.bb
  have uc := im.u.fz Fc (fun a k q c => c.elim (sU_ q) (by omega))
  have Mc : MaX (pI hc 195 0 (nI 0)) m p r := ⟨Bc.mox gc.i, uc.b, uc.x⟩
  obtain ⟨k2, e3, F3, q3⟩ := isTooMany_m Mc
  rw [ok.2] at e3
  have M3 := Mc.fz F3 (fun a k c => AlA_n c)
  obtain ⟨k4, e4, F4, _, s4⟩ := runs_m (k := 3) (i0 := 0) (l := []) M3.c (by decide) M3.c.s.c199 (Nat.zero_le _) (by decide) (fun i hi => absurd hi (Nat.not_lt_zero _)) (fun d hd => absurd hd List.not_mem_nil) (by decide)
  have e4 : X15_runs_f 195 (nI 3) 199 (nI 0) (nI 0) k2 = some (nI (outB p (flOf [])), k4) := e4
  have F4t : Fz TmF k2 k4 := F4.q.f.mo (fun a k q => by unfold TmF; omega)
  have F5 : Fz TmF k2 (pI k4 195 42 (nI 0)) := F4t.tr (Fz.i (by unfold TmF; omega))
  have M5 := M3.fz F5 (fun a k c => TmF_n c)
  have q5 := q3.fz F5 (fun a k c => TmF_a c)
  have T5 : TmX (pI k4 195 42 (nI 0)) p [[]] [] := ⟨fun i hi => by
    have hi : i < 1 := hi
    have : i = 0 := by omega
    subst this
    exact s4.fr (Fr.i (A := fun x => x = 195) rfl) (fun a c1 c2 => by omega), xI_self, fun i hi => absurd hi (Nat.not_lt_zero _)⟩
  obtain ⟨k6, e6, F6, T6⟩ := tm_out (runs := runs) N120 ao r100 (r 0 + r 1 + r 2 + r 3) 1 FU [[]] 0 (pI k4 195 42 (nI 0)) (by omega) (by omega) (FU_gt (by omega)) (Nat.zero_le _) (by decide) M5 q5 T5
  generalize hR : trL p runs [[]] 0 (ups (alF p r) r 1 (r 0 + r 1 + r 2 + r 3)) = R at *
  have g4 := M3.c.s.fr F4
  have g6 := (g4.i (a := 195) (k := 42) (v := nI 0)).fz F6
  obtain ⟨h7, h7e⟩ : ∃ h7, h7 = pI (pI (pI (pI k6 195 40 (nI R.2.1)) 195 41 (nI R.1.length)) 195 1 (nI 0)) 195 2 (-1) := ⟨_, rfl⟩
  have F36 : Fz (fun a k => AlA a k ∨ TmF a k) (pI hc 195 0 (nI 0)) k6 := ((F3.mo (fun a k q => .inl q)).tr (F5.mo (fun a k q => .inr q))).tr (F6.mo (fun a k q => .inr q))
  have F : Fz (fun a k => SCR m a k ∨ a = 145 ∧ (k = 10 ∨ k = 11) ∨ a = 162 ∨ a = 163 ∨ a = 220 ∨ a = 195 ∧ (k = 40 ∨ k = 41 ∨ k = 42)) hm h7 := by
    rw [h7e]
    exact ((((Fc.tr (F36.mo (fun a k q => TmF_s q))).tr (Fz.i (by omega))).tr (Fz.i (by omega))).tr (Fz.i (.inl sc1))).tr (Fz.i (.inl sc2))
  have Fx : Fz (fun a k => a = 1 ∨ a = 195 ∨ AlA a k ∨ TmF a k) h2 h7 := by
    rw [h7e]
    refine ((((Fz.tr ?_ (F36.mo (fun a k q => .inr (.inr q)))).tr (Fz.i (by omega))).tr (Fz.i (by omega))).tr (Fz.i (by omega))).tr (Fz.i (by omega))
    rw [hce]
    exact (Fz.i (by omega)).tr (Fz.i (by omega))
  have n7 : xn h7 = xn h2 := Fx.n
  have s7 : xs h7 = xs h2 := Fx.s
  have xn2 := X2.xn
  have xs2 := X2.xs
  have xn1 := Fs1.n
  have xs1 := Fs1.s
  refine ⟨nI R.2.2.1, hc, h7, ?_, gc.c195, ?_, ⟨true, p, b, m, z, l, lm, s, r, R.2.2.2, lx, ?_⟩, by omega, by omega⟩
  · rw [hdc, if_pos (by rw [ok.1]; exact nI_0), ok.2, if_pos (by decide), G_t g1.c1, G_t g1.c145, e2, BN_ok, G_t g2.c1, grant_c g2, BN_ok, hce]
  · have hr2 : ¬ xR (pI hc 195 0 (nI 0)) 195 4 = 0 := by rw [Bc.mr]; omega
    unfold X15_trial_f
    rw [G_t gc.c195, LT_e, G_t gc.i.c195, if_neg hr2, iny, BN_ok, if_neg (by decide), G_t gc.i.c195, e3, BN_ok, if_pos (by decide), G_t M3.c.s.c195, M3.c.s.r195_20, e4, BN_ok, if_pos (by rw [ok.1]; exact nI_0), G_t g4.c195, LT_e]
    have e6 : X15_trial_B76 FU 195 (nI runs) (nI 1) (nI 0) (nI 0) (nI 1) (pI k4 195 42 (nI 0)) = X15_trial_B281 195 (nI R.1.length) (nI R.2.1) (nI R.2.2.1) k6 := e6
    rw [e6]
    unfold X15_trial_B281
    rw [G_t g6.c195, LT_e, G_t g6.i.c195, LT_e, G_t g6.i.i.c195, done_m g6.i.i, BN_ok, h7e]
  · have fin : ∀ i : INV hm true p b m z l lm s r lo lx, INV h7 true p b m z l lm s r R.2.2.2 lx := fun i => by
      have a40 : xI h7 195 40 = nI R.2.1 := by rw [h7e, xI_ne (by omega), xI_ne (by omega), xI_ne (by omega), xI_self]
      have a41 : xI h7 195 41 = nI R.1.length := by rw [h7e, xI_ne (by omega), xI_ne (by omega), xI_self]
      have t10 : xI h7 145 10 = nI R.2.1 := by rw [Fx.I (by unfold AlA TmF; omega)]; exact X2.t
      have t11 : xI h7 145 11 = nI R.1.length := by rw [Fx.I (by unfold AlA TmF; omega)]; exact X2.k
      have r12 : xI h7 145 12 = xI h7 195 47 := by rw [F.I (fun c => c.elim (sR_ (by omega)) (by omega)), F.I (fun c => c.elim (sR_ (by omega)) (by omega))]; exact i.r.c
      refine ⟨i.g.fz F, i.t.fz F (fun a k q c => c.elim (sT_ q) (fun c => by omega)), i.q.fz F (fun a k q c => c.elim (sG_ q) (fun c => by omega)), i.b.fz F (fun a k q c => c.elim (sB_ q) (fun c => by omega)) i.bb, i.f.fz F (fun a k q c => c.elim (sF_ q) (fun c => by omega)), i.m.fz F (fun a k q c => c.elim (sM_ q) (fun c => by omega)), i.k.fz F (fun a k q c => c.elim (sK_ q) (fun c => by omega)), i.u.fz F (fun a k q c => c.elim (sU_ q) (fun c => by omega)), ⟨by rw [t10, a40], by rw [t11, a41], r12⟩, ⟨X2.s.fz Fx (by decide) (by unfold AlA TmF; omega) (fun k => by unfold AlA TmF; omega), ?_, fun j hj => ?_⟩, i.e.fz F (fun a k q c => c.elim (sE_ q) (fun c => by omega)), i.z.fz F (fun a k q c => c.elim (sZ_ q) (fun c => by omega)), (fun e => nomatch e), i.fm.fz F, ?_⟩
      · rw [h7e, xI_ne (by omega), xI_ne (by omega), xI_ne (by omega), xI_ne (by omega)]; exact T6.2.1
      · rw [h7e, xI_ne (by omega), xI_ne (by omega), xI_ne (by omega), xI_ne (by omega)]; exact T6.2.2 j hj
      · rw [h7e]
        refine Sts_fin n4_0 ?_
        rw [xI_ne (by omega), xI_ne (by omega), F36.I (by unfold AlA TmF; omega), xI_ne (by omega), hce, xI_self]
    exact fin im

theorem tr_bad {h : AH} {p : PR} {b m z : Nat} {l lm : List Nat} {s : LLn} {r : NN_} {lo lx : List Nat} {runs : Nat} (i : INV h true p b m z l lm s r lo lx) (r1 : 1 ≤ runs) (r100 : runs ≤ 100) (ok : ¬ (outB p (flOf []) = 0 ∧ tooB p r = false)) : Pair (X11_trial_f 1 (nI runs)) (X15_trial_f 195 (nI runs)) h := by
  have gi := fun (v : Int32) => (i.g.i (a := 1) (k := 15) (v := v))
  have hr := mr_ne i rfl
  have B := i.b.b1 rfl
  have iny : ∀ k, X15_in_f (nI runs) (nI 1) (nI 100) k = some (nI 1, k) := fun k => by
    unfold X15_in_f
    rw [if_neg (by rw [nI_tI (by omega) (by omega)]; omega), if_neg (by rw [nI_tI (by omega) (by omega)]; omega)]
  have N120 := alF_len (r := r) B.q.w B.x
  have ao : ∀ y, y ∈ alF p r → OKf y := fun y hy => (alF_ok B.q.w B.x hy).1
  have xu := i.u.x
  obtain ⟨h1, e1, F1, t1⟩ := q_play0 i rfl Fz.rf
  have Fs1 : Fz (SCR m) h h1 := F1.scr (by intro a q; omega)
  have st1 : Sts h1 := F1.f.st (fun a k q => by omega) i.st
  have i1 : INV h1 true p b m z l lm s r lo lx := i.fz Fs1 st1
  have g1 := i1.g
  have B1 := i1.b.b1 rfl
  have ob := outB_le (p := p) (f := flOf [])
  have C1 := i1.cax rfl Fz.rf
  have hdc : X11_trial_f 1 (nI runs) h = if nI (outB p (flOf [])) = 0 then (if bI (tooB p r) = 0 then (G (xc h1 1 = 11) <| G (xc h1 145 = 9) <| BN (X9_search_f 145 62 (nI runs) h1) fun v15 h14 => G (xc h14 1 = 11) <| BN (X11_grant_f 1 v15 h14) fun v18 h17 => some (v18, h17)) else X11_trial_B76 1 h1) else X11_trial_B76 1 h1 := by
    unfold X11_trial_f
    rw [G_t i.g.c1, i.q.hb, if_neg (by decide), if_neg (by rw [nI_tI (by omega) (by omega)]; omega), if_pos (by rw [nI_lI (by omega) (by omega)]; exact r100), G_t i.g.c1, i.g.r1_8, G_t i.g.c145, i.g.r1_1, i.g.r1_4, i.g.r1_10, e1, BN_ok, G_t g1.c1, g1.r1_10, G_t g1.c188, t1.V, G_t g1.c1, g1.r1_8, G_t g1.c145, g1.r145_0, G_t g1.c146, g1.r1_1, isTooMuch_c C1, BN_ok, g1.r1_8, g1.r1_1]
  have b76 : X11_trial_B76 1 h1 = some (-1, pI h1 1 15 (nI 5)) := by
    unfold X11_trial_B76
    rw [G_t g1.c1, refuse_c g1, BN_ok]
  have cl : X11_trial_f 1 (nI runs) h = some (-1, pI h1 1 15 (nI 5)) := by
    rw [hdc, b76]
    by_cases o0 : outB p (flOf []) = 0
    · have : tooB p r = true := by
        cases q : tooB p r
        · exact absurd ⟨o0, q⟩ ok
        · rfl
      rw [if_pos (by rw [o0]; exact nI_0), this, if_neg (by decide)]
    · rw [if_neg (nI_ne0 (by omega) (by omega))]
  have FF : Fz (SCR m) h (pI (pI h1 1 15 (nI 5)) 195 0 (nI 0)) := (Fs1.tr (Fz.i scA)).tr (Fz.i sc0)
  have gg := i.g.fz FF
  have Mc := i.max rfl FF
  have hr2 : ¬ xR (pI (pI h1 1 15 (nI 5)) 195 0 (nI 0)) 195 4 = 0 := by rw [FF.r _ (by decide)]; exact hr
  obtain ⟨k2, e3, F3, q3⟩ := isTooMany_m Mc
  have M3 := Mc.fz F3 (fun a k c => AlA_n c)
  have Fs3 : Fz (SCR m) h k2 := FF.tr (F3.mo (fun a k q => AlA_scr q))
  have ft3 : xI k2 1 15 = nI 5 := by rw [F3.I (by unfold AlA; omega), xI_ne (by omega), xI_self]
  cases too : tooB p r
  · rw [too] at e3
    obtain ⟨k4, e4, F4, _, s4⟩ := runs_m (k := 3) (i0 := 0) (l := []) M3.c (by decide) M3.c.s.c199 (Nat.zero_le _) (by decide) (fun i hi => absurd hi (Nat.not_lt_zero _)) (fun d hd => absurd hd List.not_mem_nil) (by decide)
    have e4 : X15_runs_f 195 (nI 3) 199 (nI 0) (nI 0) k2 = some (nI (outB p (flOf [])), k4) := e4
    have g4 := M3.c.s.fr F4
    have Fs4 : Fz (SCR m) h k4 := Fs3.tr (F4.q.scr (by intro a q; omega))
    have o0 : ¬ outB p (flOf []) = 0 := fun c => ok ⟨c, too⟩
    refine ⟨-1, pI h1 1 15 (nI 5), pI (pI k4 195 1 (nI 5)) 195 2 (-1), cl, g1.i.c195, ?_, ⟨_, _, _, _, _, _, _, _, _, _, _, i.fin Fs4 n4_5 (by rw [F4.I _ (by decide)]; exact ft3)⟩, by show xn k4 ≤ _; rw [Fs4.n]; omega, by show xs k4 ≤ _; rw [Fs4.s]; omega⟩
    unfold X15_trial_f X15_trial_B55
    rw [G_t g1.i.c195, LT_e, G_t gg.c195, if_neg hr2, iny, BN_ok, if_neg (by decide), G_t gg.c195, e3, BN_ok, if_pos (by decide), G_t M3.c.s.c195, M3.c.s.r195_20, e4, BN_ok, if_neg (nI_ne0 (by omega) (by omega)), G_t g4.c195, refused_m g4, BN_ok]
  · rw [too] at e3
    refine ⟨-1, pI h1 1 15 (nI 5), pI (pI k2 195 1 (nI 5)) 195 2 (-1), cl, g1.i.c195, ?_, ⟨_, _, _, _, _, _, _, _, _, _, _, i.fin Fs3 n4_5 ft3⟩, by show xn k2 ≤ _; rw [Fs3.n]; omega, by show xs k2 ≤ _; rw [Fs3.s]; omega⟩
    unfold X15_trial_f X15_trial_B55
    rw [G_t g1.i.c195, LT_e, G_t gg.c195, if_neg hr2, iny, BN_ok, if_neg (by decide), G_t gg.c195, e3, BN_ok, if_neg (by decide), G_t M3.c.s.c195, refused_m M3.c.s, BN_ok]

theorem pr_trial {h : AH} {bo : Bool} {p : PR} {b m z : Nat} {l lm : List Nat} {s : LLn} {r : NN_} {lo lx : List Nat} (i : INV h bo p b m z l lm s r lo lx) (x : Int32) : Pair (X11_trial_f 1 x) (X15_trial_f 195 x) h := by
  have gi := fun (v : Int32) => (i.g.i (a := 1) (k := 15) (v := v))
  cases bo
  · have hr := (i.b.b0 rfl).mr
    refine Pair.no i (nI 1) (-1) n4_1 ?_ ?_
    · unfold X11_trial_f
      rw [G_t i.g.c1, i.q.hb, if_pos (by decide), G_t i.g.c1, refuse_c i.g, BN_ok]
    · unfold X15_trial_f
      rw [G_t (gi _).c195, LT_e, G_t (gi _).i.c195, xR_pI, xR_pI, if_pos hr, G_t (gi _).i.c195, refused_m (gi _).i, BN_ok]
  · have hr := mr_ne i rfl
    have B := i.b.b1 rfl
    rcases in_m (x := x) (a := 1) (c := 100) (h := pI (pI h 1 15 (nI 2)) 195 0 (nI 0)) (by decide) (by decide) with ⟨runs, r1, r100, rfl, _⟩ | ⟨bad, em⟩
    · by_cases ok : outB p (flOf []) = 0 ∧ tooB p r = false
      · exact tr_ok i r1 r100 ok
      · exact tr_bad i r1 r100 ok
    · refine Pair.no i (nI 2) (-1) n4_2 ?_ ?_
      · have b24 : X11_trial_B24 1 h = some (-1, pI h 1 15 (nI 2)) := by
          unfold X11_trial_B24
          rw [G_t i.g.c1, refuse_c i.g, BN_ok]
        unfold X11_trial_f
        rw [G_t i.g.c1, i.q.hb, if_neg (by decide), b24]
        by_cases q0 : x < nI 1
        · rw [if_pos q0]
        · rw [if_neg q0, if_neg (fun c => by
            rcases bad with q | q
            · exact q0 q
            · exact absurd c (Int32.not_le.mpr q))]
      · unfold X15_trial_f
        rw [G_t (gi _).c195, LT_e, G_t (gi _).i.c195, xR_pI, xR_pI, if_neg hr, em, BN_ok, if_pos nI_0, G_t (gi _).i.c195, refused_m (gi _).i, BN_ok]
