theorem FmA_scr {m : Nat} {a k : Nat} (q : (203 ≤ a ∧ a ≤ 205) ∨ (210 ≤ a ∧ a ≤ 214)) : SCR m a k := by unfold SCR; omega
theorem pr_fit {h : AH} {bo : Bool} {p : PR} {b m z : Nat} {l lm : List Nat} {s : LLn} {r : NN_} {lo lx : List Nat} (i : INV h bo p b m z l lm s r lo lx) (x : Int32) : Pair (X11_fit_f 1 x) (X15_fit_f 195 x) h := by
  have gi := fun (v : Int32) => (i.g.i (a := 1) (k := 15) (v := v))
  have l6 := i.m.n.n
  have p6 : 2 ^ lm.length ≤ 2 ^ 6 := Nat.pow_le_pow_right (by decide) l6
  cases bo
  · have hr := (i.b.b0 rfl).mr
    refine Pair.no i (nI 1) (-1) n4_1 ?_ ?_
    · unfold X11_fit_f
      rw [G_t i.g.c1, i.q.hb, if_pos (by decide), G_t i.g.c1, refuse_c i.g, BN_ok]
    · unfold X15_fit_f
      rw [G_t (gi _).c195, LT_e, G_t (gi _).i.c195, xR_pI, xR_pI, if_pos hr, G_t (gi _).i.c195, refused_m (gi _).i, BN_ok]
  · have hr := mr_ne i rfl
    have B := i.b.b1 rfl
    rcases areMends_c i.g i.m.n x with ⟨j, hj, j64, rfl, e0⟩ | ⟨bad, e0⟩
    · obtain ⟨h1, e1, F1⟩ := isFit_c i rfl Fz.rf (nI j)
      have g1 := i.g.fz F1
      have FF : Fz (SCR m) h (pI (pI h1 1 15 (nI 0)) 195 0 (nI 0)) := (F1.tr (Fz.i scA)).tr (Fz.i sc0)
      have gg := i.g.fz FF
      have M := (i.m.fz FF (fun a k q => sM_ q)).m
      obtain ⟨k2, e2, F2⟩ := isFit_m i rfl FF (nI j)
      have g2 := gg.fz F2
      have hr2 : ¬ xR (pI (pI h1 1 15 (nI 0)) 195 0 (nI 0)) 195 4 = 0 := by rw [FF.r _ (by decide)]; exact hr
      refine ⟨bI (fitB (mdQ lm (nI j) lm.length p) s), pI h1 1 15 (nI 0), pI (pI k2 195 1 (nI 0)) 195 2 (-1), ?_, g1.i.c195, ?_, ⟨_, _, _, _, _, _, _, _, _, _, _, i.fin (FF.tr (F2.mo (fun a k q => FmA_scr q))) n4_0 (by rw [F2.I (by decide), xI_ne (by omega), xI_self])⟩, by show xn k2 ≤ _; rw [F2.n, FF.n]; omega, by show xs k2 ≤ _; rw [F2.s, FF.s]; omega⟩
      · unfold X11_fit_f
        rw [G_t i.g.c1, i.q.hb, if_neg (by decide), G_t i.g.c1, e0, BN_ok, if_neg (by decide), G_t i.g.c1, e1, BN_ok]
        unfold X11_fit_B41
        cases fitB (mdQ lm (nI j) lm.length p) s
        · rw [if_pos (by decide), G_t g1.c1, grant_c g1, BN_ok]; rfl
        · rw [if_neg (by decide), G_t g1.c1, grant_c g1, BN_ok]; rfl
      · unfold X15_fit_f
        rw [G_t g1.i.c195, LT_e, G_t gg.c195, if_neg hr2, if_neg (nI_pos (by omega)), G_t gg.c195, M, shl1 _ (by omega), if_pos (by rw [nI_tI (by omega) (by omega)]; exact hj), G_t gg.c195, e2, BN_ok]
        unfold X15_fit_B52
        cases fitB (mdQ lm (nI j) lm.length p) s
        · rw [if_pos (by decide), G_t g2.c195, done_m g2, BN_ok]; rfl
        · rw [if_neg (by decide), G_t g2.c195, done_m g2, BN_ok]; rfl
    · refine Pair.no i (nI 2) (-1) n4_2 ?_ ?_
      · unfold X11_fit_f
        rw [G_t i.g.c1, i.q.hb, if_neg (by decide), G_t i.g.c1, e0, BN_ok, if_pos nI_0, G_t i.g.c1, refuse_c i.g, BN_ok]
      · have M := (i.m.fz ((Fz.i scA).tr (Fz.i sc0) : Fz (SCR m) h (pI (pI h 1 15 (nI 2)) 195 0 (nI 0))) (fun a k q => sM_ q)).m
        have b32 : X15_fit_B32 195 (pI (pI h 1 15 (nI 2)) 195 0 (nI 0)) = some (-1, pI (pI (pI (pI h 1 15 (nI 2)) 195 0 (nI 0)) 195 1 (nI 2)) 195 2 (-1)) := by
          unfold X15_fit_B32
          rw [G_t (gi _).i.c195, refused_m (gi _).i, BN_ok]
        unfold X15_fit_f
        rw [G_t (gi _).c195, LT_e, G_t (gi _).i.c195, xR_pI, xR_pI, if_neg hr, b32]
        by_cases q0 : x < 0
        · rw [if_pos q0]
        · rw [if_neg q0, G_t (gi _).i.c195, M, shl1 _ (by omega), if_neg (Int32.not_lt.mpr (bad.resolve_left q0))]
