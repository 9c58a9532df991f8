theorem pr_make {h : AH} {bo : Bool} {p : PR} {b m z : Nat} {l lm : List Nat} {s : LLn} {r : NN_} {lo lx : List Nat} (i : INV h bo p b m z l lm s r lo lx) (x : Int32) : Pair (X11_make_f 1 x) (X15_make_f 195 x) h := by
  have gi := fun (v : Int32) => (i.g.i (a := 1) (k := 15) (v := v))
  have l6 := i.m.n.n
  have p6 : 2 ^ lm.length ≤ 2 ^ 6 := Nat.pow_le_pow_right (by decide) l6
  cases bo
  · have hr := (i.b.b0 rfl).mr
    refine Pair.no i (nI 1) (-1) n4_1 ?_ ?_
    · unfold X11_make_f
      rw [G_t i.g.c1, i.q.hb, if_pos (by decide), G_t i.g.c1, refuse_c i.g, BN_ok]
    · unfold X15_make_f
      rw [G_t (gi _).c195, LT_e, G_t (gi _).i.c195, xR_pI, xR_pI, if_pos hr, G_t (gi _).i.c195, refused_m (gi _).i, BN_ok]
  · have hr := mr_ne i rfl
    have B := i.b.b1 rfl
    rcases areMends_c i.g i.m.n x with ⟨j, hj, j64, rfl, e0⟩ | ⟨bad, e0⟩
    · obtain ⟨h1, e1, F1, w1⟩ := mendAll_ok (nI j) i.g i.m.n i.m.o B.w
      have g1 := i.g.fr F1
      have n1 : IsN h1 126 6 lm := i.m.n.fr F1 (by decide) (by decide)
      obtain ⟨hc, hce⟩ : ∃ hc, hc = pI (pI h1 126 1 (nI 0)) 1 15 (nI 0) := ⟨_, rfl⟩
      have gc : SG hc := by rw [hce]; exact g1.i.i
      have Fc : Fz (fun a k => SCR m a k ∨ a = 62 ∨ a = 126 ∨ a = 195 ∧ (k = 17 ∨ k = 23 ∨ k = 24 ∨ k = 25)) h (pI hc 195 0 (nI 0)) := by
        rw [hce]
        exact (((F1.q.f.mo (fun a k q => .inr (.inl q))).tr (Fz.i (.inr (by omega)))).tr (Fz.i (.inl scA))).tr (Fz.i (.inl sc0))
      have nM : ∀ {a k}, (a = 224 ∨ a = 225 ∨ a = 195 ∧ k = 17) → ¬ SCR m a k := fun q => sM_ (by omega)
      have om : xI (pI hc 195 0 (nI 0)) 195 17 = nI lm.length := by rw [xI_ne (by omega), hce, xI_ne (by omega), xI_ne (by omega), F1.I _ (by decide)]; exact i.m.m
      have of1 : ∀ q, q < lm.length → xI (pI hc 195 0 (nI 0)) 224 q = nI (lm.getD q 0 / 10) := fun q hq => by rw [Fc.I (fun c => c.elim (nM (by omega)) (by omega))]; exact i.m.f q hq
      have of2 : ∀ q, q < lm.length → xI (pI hc 195 0 (nI 0)) 225 q = nI (lm.getD q 0 % 10) := fun q hq => by rw [Fc.I (fun c => c.elim (nM (by omega)) (by omega))]; exact i.m.g q hq
      have r0 : R3 (pI hc 195 0 (nI 0)) p.2.2.2 := by
        refine ⟨?_, ?_, ?_⟩
        · rw [xI_ne (by omega), hce, xI_ne (by omega), xI_ne (by omega), F1.I _ (by decide)]; exact B.K
        · rw [xI_ne (by omega), hce, xI_ne (by omega), xI_ne (by omega), F1.I _ (by decide)]; exact B.A
        · rw [xI_ne (by omega), hce, xI_ne (by omega), xI_ne (by omega), F1.I _ (by decide)]; exact B.B
      obtain ⟨k1, e3, F3, _, r3⟩ := makes_m (nI j) gc.i om of1 of2 i.m.o l6 r0
      have g3 := gc.i.fz F3
      obtain ⟨h5, h5e⟩ : ∃ h5, h5 = pI (pI (pI k1 195 17 (nI 0)) 195 1 (nI 0)) 195 2 (-1) := ⟨_, rfl⟩
      have F : Fz (fun a k => SCR m a k ∨ a = 62 ∨ a = 126 ∨ a = 195 ∧ (k = 17 ∨ k = 23 ∨ k = 24 ∨ k = 25)) h h5 := by
        rw [h5e]
        exact (((Fc.tr (F3.mo (fun a k q => by unfold MkA at q; omega))).tr (Fz.i (.inr (by omega)))).tr (Fz.i (.inl sc1))).tr (Fz.i (.inl sc2))
      have Fx : Fz (fun a k => a = 1 ∨ a = 195 ∨ a = 126) h1 h5 := by
        rw [h5e]
        refine (((Fz.tr ?_ (F3.mo (fun a k q => by unfold MkA at q; omega))).tr (Fz.i (by omega))).tr (Fz.i (by omega))).tr (Fz.i (by omega))
        rw [hce]
        exact ((Fz.i (by omega)).tr (Fz.i (by omega))).tr (Fz.i (by omega))
      refine ⟨nI (bcN j), hc, h5, ?_, gc.c195, ?_, ⟨true, mdQ lm (nI j) lm.length p, b, m, z, l, [], s, r, lo, lx, ?_⟩, by rw [F.n]; omega, by rw [F.s]; omega⟩
      · unfold X11_make_f
        rw [G_t i.g.c1, i.q.hb, if_neg (by decide), G_t i.g.c1, e0, BN_ok, if_neg (by decide), G_t i.g.c1, i.g.r1_1, e1, BN_ok, G_t g1.c1, g1.r1_6, G_t n1.c, nw_wipe n1.c, BN_ok, bitCount_c j j64, BN_ok, G_t g1.i.c1, grant_c g1.i, BN_ok, hce]
      · have hr2 : ¬ xR (pI hc 195 0 (nI 0)) 195 4 = 0 := by rw [Fc.r _ (by decide)]; exact hr
        unfold X15_make_f
        rw [G_t gc.c195, LT_e, G_t gc.i.c195, if_neg hr2, if_neg (nI_pos (by omega)), G_t gc.i.c195, om, shl1 _ (by omega), if_pos (by rw [nI_tI (by omega) (by omega)]; exact hj), G_t gc.i.c195, e3, BN_ok, G_t g3.c195, LT_e, bits_m j j64, BN_ok, G_t g3.i.c195, done_m g3.i, BN_ok, h5e]
      · have hm := B.mq.s.lo
        have hb := i.bb
        have nB : ∀ {a k}, (2 ≤ a ∧ a ≤ 57 ∨ 63 ≤ a ∧ a ≤ 118 ∨ a = 195 ∧ (k = 14 ∨ k = 15) ∨ 227 ≤ a ∧ m ≤ a ∧ a ≤ m + 18) → ¬ (SCR m a k ∨ a = 62 ∨ a = 126 ∨ a = 195 ∧ (k = 17 ∨ k = 23 ∨ k = 24 ∨ k = 25)) := fun q c => c.elim (sB_ (by omega)) (fun c => by omega)
        have B2 : Bk1 h5 (mdQ lm (nI j) lm.length p) b m := by
          refine ⟨w1.fz Fx rfl (fun k => by decide), B.q.mv (fun k hk => ⟨F.c _, F.z _, funext fun j => F.r _ (by omega), funext fun j => F.I (nB (by omega))⟩), B.mq.fz F (fun k j hk => nB (by omega)), by rw [F.r _ (by decide)]; exact B.mr, by rw [F.I (nB (by omega))]; exact B.l, by rw [F.I (nB (by omega))]; exact B.S, ?_, ?_, ?_, B.n, B.x, by rw [F.n]; exact B.mx⟩
          · rw [h5e, xI_ne (by omega), xI_ne (by omega), xI_ne (by omega)]; exact r3.1
          · rw [h5e, xI_ne (by omega), xI_ne (by omega), xI_ne (by omega)]; exact r3.2.1
          · rw [h5e, xI_ne (by omega), xI_ne (by omega), xI_ne (by omega)]; exact r3.2.2
        refine ⟨i.g.fz F, i.t.fz F (fun a k q c => c.elim (sT_ q) (fun c => by omega)), i.q.fz F (fun a k q c => c.elim (sG_ q) (fun c => by omega)), ⟨fun _ => B2, fun e => nomatch e⟩, i.f.fz F (fun a k q c => c.elim (sF_ q) (fun c => by omega)), gM_nil (i.g.fz F) ?_ ?_, i.k.fz F (fun a k q c => c.elim (sK_ q) (fun c => by omega)), i.u.fz F (fun a k q c => c.elim (sU_ q) (fun c => by omega)), i.r.fz F (fun a k q c => c.elim (sR_ q) (fun c => by omega)), i.o.fz F (fun a k q c => c.elim (sO_ q) (fun c => by omega)), i.e.fz F (fun a k q c => c.elim (sE_ q) (fun c => by omega)), i.z.fz F (fun a k q c => c.elim (sZ_ q) (fun c => by omega)), (fun e => nomatch e), i.fm.fz F, ?_⟩
        · rw [h5e, xI_ne (by omega), xI_ne (by omega), xI_ne (by omega), F3.I (by unfold MkA; omega), xI_ne (by omega), hce, xI_ne (by omega), xI_self]
        · rw [h5e, xI_ne (by omega), xI_ne (by omega), xI_self]
        · rw [h5e]
          refine Sts_fin n4_0 ?_
          rw [xI_ne (by omega), F3.I (by unfold MkA; omega), xI_ne (by omega), hce, xI_self]
    · refine Pair.no i (nI 2) (-1) n4_2 ?_ ?_
      · unfold X11_make_f
        rw [G_t i.g.c1, i.q.hb, if_neg (by decide), G_t i.g.c1, e0, BN_ok, if_pos nI_0, G_t i.g.c1, refuse_c i.g, BN_ok]
      · have M := (i.m.fz ((Fz.i scA).tr (Fz.i sc0) : Fz (SCR m) h (pI (pI h 1 15 (nI 2)) 195 0 (nI 0))) (fun a k q => sM_ q)).m
        have b32 : X15_make_B32 195 (pI (pI h 1 15 (nI 2)) 195 0 (nI 0)) = some (-1, pI (pI (pI (pI h 1 15 (nI 2)) 195 0 (nI 0)) 195 1 (nI 2)) 195 2 (-1)) := by
          unfold X15_make_B32
          rw [G_t (gi _).i.c195, refused_m (gi _).i, BN_ok]
        unfold X15_make_f
        rw [G_t (gi _).c195, LT_e, G_t (gi _).i.c195, xR_pI, xR_pI, if_neg hr, b32]
        by_cases q0 : x < 0
        · rw [if_pos q0]
        · rw [if_neg q0, G_t (gi _).i.c195, M, shl1 _ (by omega), if_neg (Int32.not_lt.mpr (bad.resolve_left q0))]
