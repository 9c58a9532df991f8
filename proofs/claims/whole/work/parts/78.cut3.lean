theorem pr_cut {h : AH} {bo : Bool} {p : PR} {b m z : Nat} {l lm : List Nat} {s : LLn} {r : NN_} {lo lx : List Nat} (i : INV h bo p b m z l lm s r lo lx) : Pair (X11_cut_f 1) (X15_cut_f 195) h := by
  have gi := fun (v : Int32) => (i.g.i (a := 1) (k := 15) (v := v))
  have l6 := i.f.n.n
  cases bo
  · have hr := (i.b.b0 rfl).mr
    refine Pair.no i (nI 1) (-1) n4_1 ?_ ?_
    · unfold X11_cut_f
      rw [G_t i.g.c1, i.q.hb, if_pos (by decide), G_t i.g.c1, refuse_c i.g, BN_ok]
    · unfold X15_cut_f
      rw [G_t (gi _).c195, LT_e, G_t (gi _).i.c195, xR_pI, xR_pI, if_pos hr, G_t (gi _).i.c195, refused_m (gi _).i, BN_ok]
  · have hr := mr_ne i rfl
    have B := i.b.b1 rfl
    have ob := outB_le (p := p) (f := flOf l)
    obtain ⟨h1, e1, F1⟩ := isBroken_c i.g B.w B.q B.n B.x i.f.n i.f.o (.inl (by decide))
    have g1 := i.g.fq F1
    have Fs1 : Fz (SCR m) h h1 := F1.scr (by intro a q; omega)
    by_cases eb : outB p (flOf l) = 2
    · have f1 := i.f.fz Fs1 (fun a k q => sF_ q)
      have B1 := (i.b.fz Fs1 (fun a k q => sB_ q) i.bb).b1 rfl
      obtain ⟨h2, e2, F2, n2⟩ := cut_c B.n B.x l.length l FU h1 (Nat.le_refl _) (FU_gt (by omega)) g1 B1.w B1.q f1.n i.f.o
      have g2 := g1.fz F2
      have F2' : Fz (fun a k => SCR m a k ∨ a = 120 ∨ a = 121 ∨ a = 199 ∨ a = 195 ∧ k = 16) h1 h2 := F2.mo (fun a k q => by unfold CuA at q; unfold SCR; omega)
      obtain ⟨hc, hce⟩ : ∃ hc, hc = pI h2 1 15 (nI 0) := ⟨_, rfl⟩
      have gc : SG hc := by rw [hce]; exact g2.i
      have Fc : Fz (fun a k => SCR m a k ∨ a = 120 ∨ a = 121 ∨ a = 199 ∨ a = 195 ∧ k = 16) h (pI hc 195 0 (nI 0)) := by
        rw [hce]
        exact (((Fs1.mo (fun a k q => .inl q)).tr F2').tr (Fz.i (.inl scA))).tr (Fz.i (.inl sc0))
      have Bc := B.fz Fc (fun a k q c => c.elim (sB_ (by have := B.mq.s.lo; omega)) (by have := B.mq.s.lo; omega)) i.bb
      have om : xI (pI hc 195 0 (nI 0)) 195 16 = nI l.length := by rw [xI_ne (by omega), hce, xI_ne (by omega), F2.I (by unfold CuA; omega)]; exact f1.m
      have ofl : mL (pI hc 195 0 (nI 0)) 199 0 l := fun j hj => by rw [xI_ne (by omega), hce, xI_ne (by omega), F2.I (by unfold CuA; omega)]; exact f1.f j hj
      have z9 := gc.i (a := 195) (k := 0) (v := nI 0) |>.z199
      obtain ⟨k2, e3, F3, _, _⟩ := runs_m (k := 0) (i0 := 0) (Bc.mox gc.i) (by decide) gc.i.c199 (by omega) (by omega) ofl i.f.o (by decide)
      have g3 := gc.i.fr F3
      have om3 : xI k2 195 16 = nI l.length := by rw [F3.I _ (by decide)]; exact om
      have of3 : mL k2 199 0 l := fun j hj => by rw [F3.I _ (by decide)]; exact ofl j hj
      have Fm : Fz CmA (pI hc 195 0 (nI 0)) k2 := F3.q.f.mo (fun a k q => by unfold CmA; omega)
      obtain ⟨k4, e4, F4, m4, f4⟩ := cut_m l.length l FU k2 (Nat.le_refl _) (FU_gt (by omega)) ((Bc.mox gc.i).fz Fm (fun a k c => CmA_n c)) om3 of3 l6 i.f.o
      have g4 := g3.fz F4
      obtain ⟨h5, h5e⟩ : ∃ h5, h5 = pI (pI k4 195 1 (nI 0)) 195 2 (-1) := ⟨_, rfl⟩
      have cm : ∀ a k, CmA a k → SCR m a k ∨ a = 120 ∨ a = 121 ∨ a = 199 ∨ a = 195 ∧ k = 16 := fun a k q => by unfold CmA at q; unfold SCR; omega
      have F : Fz (fun a k => SCR m a k ∨ a = 120 ∨ a = 121 ∨ a = 199 ∨ a = 195 ∧ k = 16) h h5 := by
        rw [h5e]
        exact (((Fc.tr (Fm.mo cm)).tr (F4.mo cm)).tr (Fz.i (.inl sc1))).tr (Fz.i (.inl sc2))
      have Fx : Fz (fun a k => a = 1 ∨ a = 195 ∨ CmA a k) h2 h5 := by
        rw [h5e]
        refine ((Fz.tr (Fz.tr ?_ (Fm.mo (fun a k q => .inr (.inr q)))) (F4.mo (fun a k q => .inr (.inr q)))).tr (Fz.i (by omega))).tr (Fz.i (by omega))
        rw [hce]
        exact (Fz.i (by omega)).tr (Fz.i (by omega))
      have lt : nI l.length - nI 1 = nI l.length - nI 1 := rfl
      refine ⟨nI (cutL p l.length l).length, hc, h5, ?_, gc.c195, ?_, ⟨true, p, b, m, z, cutL p l.length l, lm, s, r, lo, lx, ?_⟩, by rw [F.n]; omega, by rw [F.s]; omega⟩
      · unfold X11_cut_f
        rw [G_t i.g.c1, i.q.hb, if_neg (by decide), G_t i.g.c1, i.g.r1_1, i.g.r1_3, e1, BN_ok, eb, if_neg (by decide), G_t g1.c1, g1.r1_3, G_t g1.c120, f1.n.s, LT_e, e2]
        unfold X11_cut_B99
        rw [G_t g2.c1, g2.r1_3, G_t g2.c120, n2.s, grant_c g2, BN_ok, hce]
      · have hr2 : ¬ xR (pI hc 195 0 (nI 0)) 195 4 = 0 := by rw [Fc.r _ (by decide)]; exact hr
        unfold X15_cut_f
        rw [G_t gc.c195, LT_e, G_t gc.i.c195, if_neg hr2, G_t gc.i.c195, gc.i.r195_20, om, e3, BN_ok, eb, if_pos rfl, G_t g3.c195, om3, LT_e, e4]
        unfold X15_cut_B148
        rw [G_t g4.c195, m4, done_m g4, BN_ok, h5e]
      · refine ⟨i.g.fz F, i.t.fz F (fun a k q c => c.elim (sT_ q) (fun c => by omega)), i.q.fz F (fun a k q c => c.elim (sG_ q) (fun c => by omega)), i.b.fz F (fun a k q c => c.elim (sB_ q) (fun c => by omega)) i.bb, ⟨n2.fz Fx (by decide) (by unfold CmA; omega) (fun k => by unfold CmA; omega), ?_, fun j hj => ?_, fun d hd => i.f.o d (cutL_sub _ _ _ hd)⟩, i.m.fz F (fun a k q c => c.elim (sM_ q) (fun c => by omega)), i.k.fz F (fun a k q c => c.elim (sK_ q) (fun c => by omega)), i.u.fz F (fun a k q c => c.elim (sU_ q) (fun c => by omega)), i.r.fz F (fun a k q c => c.elim (sR_ q) (fun c => by omega)), i.o.fz F (fun a k q c => c.elim (sO_ q) (fun c => by omega)), i.e.fz F (fun a k q c => c.elim (sE_ q) (fun c => by omega)), i.z.fz F (fun a k q c => c.elim (sZ_ q) (fun c => by omega)), (fun e => nomatch e), i.fm.fz F, ?_⟩
        · rw [h5e, xI_ne (by omega), xI_ne (by omega)]; exact m4
        · rw [h5e, xI_ne (by omega), xI_ne (by omega)]; exact f4 j hj
        · rw [h5e]
          refine Sts_fin n4_0 ?_
          rw [F4.I (by unfold CmA; omega), F3.I _ (by decide), xI_ne (by omega), hce, xI_self]
    · have ef : (outB p (flOf l) == 2) = false := by simpa using eb
      have FF : Fz (SCR m) h (pI (pI h1 1 15 (nI 5)) 195 0 (nI 0)) := (Fs1.tr (Fz.i scA)).tr (Fz.i sc0)
      have gg := i.g.fz FF
      obtain ⟨k2, e2, F2, s2⟩ := q_runs i rfl FF
      have g2 := gg.fr F2
      have ml : xI (pI (pI h1 1 15 (nI 5)) 195 0 (nI 0)) 195 16 = nI l.length := (i.f.fz FF (fun a k q => sF_ q)).m
      have hr2 : ¬ xR (pI (pI h1 1 15 (nI 5)) 195 0 (nI 0)) 195 4 = 0 := by rw [FF.r _ (by decide)]; exact hr
      refine ⟨-1, pI h1 1 15 (nI 5), pI (pI k2 195 1 (nI 5)) 195 2 (-1), ?_, g1.i.c195, ?_, ⟨_, _, _, _, _, _, _, _, _, _, _, i.fin (FF.tr (F2.q.scr (by intro a q; omega))) n4_5 (by rw [F2.I _ (by decide), xI_ne (by omega), xI_self])⟩, by show xn k2 ≤ _; rw [F2.n, FF.n]; omega, by show xs k2 ≤ _; rw [F2.s, FF.s]; omega⟩
      · unfold X11_cut_f
        rw [G_t i.g.c1, i.q.hb, if_neg (by decide), G_t i.g.c1, i.g.r1_1, i.g.r1_3, e1, BN_ok, ef, if_pos (by decide), G_t g1.c1, refuse_c g1, BN_ok]
      · unfold X15_cut_f
        rw [G_t g1.i.c195, LT_e, G_t gg.c195, if_neg hr2, G_t gg.c195, gg.r195_20, ml, e2, BN_ok, if_neg (by rw [nI_eI (by omega) (by omega)]; exact eb), G_t g2.c195, refused_m g2, BN_ok]
