theorem total_c {h : AH} {r : NN_} (g : SG h) (u : gU_ h r) : X5_total_f 146 h = some (nI (r 0 + r 1 + r 2 + r 3), h) := by
  unfold X5_total_f
  simp (disch := omega) only [LT_e, G_T, BN_ok, if_true, if_false, nI_add, pk_mul, G_gx, nI_cl, nI_lI, nI_tI, nI_eI, g.c146, g.r146_0, g.c147, g.z147, u.a 0 (by decide), u.a 1 (by decide), u.a 2 (by decide), u.a 3 (by decide)]
theorem inPurse_m {h : AH} {r : NN_} (g : SG h) (u : gU_ h r) : X15_inPurse_f 195 h = some (nI (r 0 + r 1 + r 2 + r 3), h) := by
  unfold X15_inPurse_f
  simp (disch := omega) only [LT_e, G_T, BN_ok, if_true, if_false, nI_add, pk_mul, G_gx, nI_cl, nI_lI, nI_tI, nI_eI, g.c195, g.r195_19, g.c198, g.z198, u.b 0 (by decide), u.b 1 (by decide), u.b 2 (by decide), u.b 3 (by decide)]
theorem pr_purse {h : AH} {bo : Bool} {p : PR} {b m z : Nat} {l lm : List Nat} {s : LLn} {r : NN_} {lo lx : List Nat} (i : INV h bo p b m z l lm s r lo lx) (x y : Int32) : Pair (X11_purse_f 1 x y) (X15_purse_f 195 x y) h := by
  have gi := fun (v : Int32) => (i.g.i (a := 1) (k := 15) (v := v))
  have r1 : X11_purse_B16 1 h = some (nI 0, pI h 1 15 (nI 1)) := by
    unfold X11_purse_B16
    rw [G_t i.g.c1, refuse_c i.g, BN_ok, if_pos rfl]
  have r2 : X11_purse_B69 1 h = some (nI 0, pI h 1 15 (nI 2)) := by
    unfold X11_purse_B69
    rw [G_t i.g.c1, refuse_c i.g, BN_ok, if_pos rfl]
  have rm1 : X15_purse_B21 195 (pI (pI h 1 15 (nI 1)) 195 0 (nI 0)) = some (nI 0, pI (pI (pI (pI h 1 15 (nI 1)) 195 0 (nI 0)) 195 1 (nI 1)) 195 2 (-1)) := by
    unfold X15_purse_B21
    rw [G_t (gi _).i.c195, denied_m (gi _).i, BN_ok, Gbz0]
  have rm2 : X15_purse_B53 195 (pI (pI h 1 15 (nI 2)) 195 0 (nI 0)) = some (nI 0, pI (pI (pI (pI h 1 15 (nI 2)) 195 0 (nI 0)) 195 1 (nI 2)) 195 2 (-1)) := by
    unfold X15_purse_B53
    rw [G_t (gi _).i.c195, denied_m (gi _).i, BN_ok, Gbz0]
  have inn : ∀ (x : Int32) k, (¬ ∃ c, c < 4 ∧ x = nI c) → X15_in_f x (nI 0) (nI 3) k = some (nI 0, k) ∧ (x < 0 ∨ ¬ x < nI 4) ∧ (x < 0 ∨ nI 3 < x) := by
    intro x k hk
    rcases pk_ix x (n := 4) (by omega) with q | q | ⟨u, hu', rfl⟩
    · refine ⟨?_, .inl q, .inl q⟩
      unfold X15_in_f; rw [if_pos (show x < nI 0 from q)]
    · by_cases q0 : x < 0
      · refine ⟨?_, .inl q0, .inl q0⟩
        unfold X15_in_f; rw [if_pos (show x < nI 0 from q0)]
      · obtain ⟨j, hj, rfl⟩ := nI_of q0
        rw [nI_lI (by omega) hj] at q
        have q3 : nI 3 < nI j := by rw [nI_tI (by omega) hj]; omega
        refine ⟨?_, .inr (by rw [nI_tI hj (by omega)]; omega), .inr q3⟩
        unfold X15_in_f; rw [if_neg (show ¬ nI j < nI 0 from q0), if_pos q3]
    · exact absurd ⟨u, hu', rfl⟩ hk
  have iny : ∀ c k, c < 4 → X15_in_f (nI c) (nI 0) (nI 3) k = some (nI 1, k) := fun c k hc => by
    unfold X15_in_f
    rw [if_neg (by rw [nI_tI (by omega) (by omega)]; omega), if_neg (by rw [nI_tI (by omega) (by omega)]; omega)]
  cases bo
  · have hr := (i.b.b0 rfl).mr
    refine Pair.no i (nI 1) (nI 0) n4_1 ?_ ?_
    · unfold X11_purse_f
      rw [G_t i.g.c1, i.q.hb, if_pos (by decide), r1]
    · unfold X15_purse_f
      rw [G_t (gi _).c195, LT_e, G_t (gi _).i.c195, xR_pI, xR_pI, if_pos hr, rm1]
  · have hr := mr_ne i rfl
    have ux := i.u.x
    by_cases hk : ∃ c, c < 4 ∧ x = nI c
    · obtain ⟨c, hc, rfl⟩ := hk
      have k1 : ¬ nI c < 0 := nI_pos (by omega)
      have cl : (nI c).toNatClampNeg = c := nI_cl (by omega)
      have k2 : nI c < nI 4 := by rw [nI_tI (by omega) (by omega)]; omega
      have rc : r c ≤ r 0 + r 1 + r 2 + r 3 := by
        have : c = 0 ∨ c = 1 ∨ c = 2 ∨ c = 3 := by omega
        rcases this with rfl | rfl | rfl | rfl <;> omega
      by_cases hn : ∃ n, n < 4 ∧ y = nI n
      · obtain ⟨n, hn, rfl⟩ := hn
        have n1 : ¬ nI n < 0 := nI_pos (by omega)
        have n2 : ¬ nI 3 < nI n := by rw [nI_tI (by omega) (by omega)]; omega
        have sum : nI (r 0 + r 1 + r 2 + r 3) - nI (r c) + nI n = nI (r 0 + r 1 + r 2 + r 3 - r c + n) := by rw [pk_sub rc, nI_add]
        by_cases h3 : r 0 + r 1 + r 2 + r 3 - r c + n ≤ 3
        · have q3 : nI (r 0 + r 1 + r 2 + r 3 - r c + n) ≤ nI 3 := by rw [nI_lI (by omega) (by omega)]; exact h3
          obtain ⟨hc1, hce⟩ : ∃ hc, hc = pI (pI h 147 c (nI n)) 1 15 (nI 0) := ⟨_, rfl⟩
          have gc : SG hc1 := by rw [hce]; exact i.g.i.i
          obtain ⟨h2, h2e⟩ : ∃ h2, h2 = pI (pI (pI (pI hc1 195 0 (nI 0)) 198 c (nI n)) 195 1 (nI 0)) 195 2 (-1) := ⟨_, rfl⟩
          have F : Fz (fun a k => SCR m a k ∨ a = 147 ∨ a = 198) h h2 := by
            rw [h2e, hce]
            exact (((((Fz.i (.inr (.inl rfl))).tr (Fz.i (.inl scA))).tr (Fz.i (.inl sc0))).tr (Fz.i (.inr (.inr rfl)))).tr (Fz.i (.inl sc1))).tr (Fz.i (.inl sc2))
          refine ⟨nI 1, hc1, h2, ?_, gc.c195, ?_, ⟨true, p, b, m, z, l, lm, s, (fun k => if k = c then n else r k), lo, lx, ?_⟩, by rw [F.n]; omega, by rw [F.s]; omega⟩
          · unfold X11_purse_f
            rw [G_t i.g.c1, i.q.hb, if_neg (by decide), if_neg k1, if_pos k2, if_neg n1, if_neg n2, G_t i.g.c1, i.g.r1_8, G_t i.g.c145, i.g.r145_0, G_t i.g.c146, total_c i.g i.u, BN_ok, G_t i.g.c1, i.g.r1_8, G_t i.g.c145, i.g.r145_0, G_t i.g.c146, i.g.r146_0, G_t i.g.c147, i.g.z147, G_gx (by omega) (by omega), if_pos (by rw [cl, i.u.a c hc, sum]; exact q3), G_t i.g.c1, G_t i.g.c145, G_t i.g.c146, G_t i.g.c147, G_gx (by omega) (by omega), LT_e, cl, G_t i.g.i.c1, grant_c i.g.i, BN_ok, if_pos rfl, hce]
          · have hr2 : ¬ xR (pI hc1 195 0 (nI 0)) 195 4 = 0 := by rw [hce]; exact hr
            have u2 : ∀ k, k < 4 → xI (pI hc1 195 0 (nI 0)) 198 k = nI (r k) := fun k hk => by rw [xI_ne (by omega), hce, xI_ne (by omega), xI_ne (by omega)]; exact i.u.b k hk
            have e5 : X15_inPurse_f 195 (pI hc1 195 0 (nI 0)) = some (nI (r 0 + r 1 + r 2 + r 3), pI hc1 195 0 (nI 0)) := by
              unfold X15_inPurse_f
              simp (disch := omega) only [LT_e, G_T, BN_ok, if_true, if_false, nI_add, pk_mul, G_gx, nI_cl, nI_lI, nI_tI, nI_eI, gc.i.c195, gc.i.r195_19, gc.i.c198, gc.i.z198, u2 0 (by decide), u2 1 (by decide), u2 2 (by decide), u2 3 (by decide)]
            unfold X15_purse_f
            rw [G_t gc.c195, LT_e, G_t gc.i.c195, if_neg hr2, iny c _ hc, BN_ok, if_neg (by decide), iny n _ hn, BN_ok, if_neg (by decide), G_t gc.i.c195, e5, BN_ok, G_t gc.i.c195, gc.i.r195_19, G_t gc.i.c198, gc.i.z198, G_gx (by omega) (by omega), if_pos (by rw [cl, u2 c hc, sum]; exact q3), G_t gc.i.c195, G_t gc.i.c198, G_gx (by omega) (by omega), LT_e, cl, G_t gc.i.i.c195, granted_m gc.i.i, BN_ok, Gbz1, h2e]
          · refine ⟨i.g.fz F, i.t.fz F (fun a k q c => c.elim (sT_ q) (fun c => by omega)), i.q.fz F (fun a k q c => c.elim (sG_ q) (fun c => by omega)), i.b.fz F (fun a k q c => c.elim (sB_ q) (fun c => by omega)) i.bb, i.f.fz F (fun a k q c => c.elim (sF_ q) (fun c => by omega)), i.m.fz F (fun a k q c => c.elim (sM_ q) (fun c => by omega)), i.k.fz F (fun a k q c => c.elim (sK_ q) (fun c => by omega)), ⟨fun k hk => ?_, fun k hk => ?_, ?_⟩, i.r.fz F (fun a k q c => c.elim (sR_ q) (fun c => by omega)), i.o.fz F (fun a k q c => c.elim (sO_ q) (fun c => by omega)), i.e.fz F (fun a k q c => c.elim (sE_ q) (fun c => by omega)), i.z.fz F (fun a k q c => c.elim (sZ_ q) (fun c => by omega)), (fun e => nomatch e), i.fm.fz F, ?_⟩
            · rw [h2e, xI_ne (by omega), xI_ne (by omega), xI_ne (by omega), xI_ne (by omega), hce, xI_ne (by omega)]
              show _ = nI (if k = c then n else r k)
              by_cases e : k = c
              · rw [if_pos e, e, xI_self]
              · rw [if_neg e, xI_ne (by omega)]; exact i.u.a k hk
            · rw [h2e, xI_ne (by omega), xI_ne (by omega)]
              show _ = nI (if k = c then n else r k)
              by_cases e : k = c
              · rw [if_pos e, e, xI_self]
              · rw [if_neg e, xI_ne (by omega), xI_ne (by omega), hce, xI_ne (by omega), xI_ne (by omega)]; exact i.u.b k hk
            · have : c = 0 ∨ c = 1 ∨ c = 2 ∨ c = 3 := by omega
              rcases this with rfl | rfl | rfl | rfl
              · show n + r 1 + r 2 + r 3 ≤ 3; omega
              · show r 0 + n + r 2 + r 3 ≤ 3; omega
              · show r 0 + r 1 + n + r 3 ≤ 3; omega
              · show r 0 + r 1 + r 2 + n ≤ 3; omega
            · rw [h2e]
              refine Sts_fin n4_0 ?_
              rw [xI_ne (by omega), xI_ne (by omega), hce, xI_self]
        · have q3 : ¬ nI (r 0 + r 1 + r 2 + r 3 - r c + n) ≤ nI 3 := by rw [nI_lI (by omega) (by omega)]; exact h3
          refine Pair.no i (nI 2) (nI 0) n4_2 ?_ ?_
          · unfold X11_purse_f
            rw [G_t i.g.c1, i.q.hb, if_neg (by decide), if_neg k1, if_pos k2, if_neg n1, if_neg n2, G_t i.g.c1, i.g.r1_8, G_t i.g.c145, i.g.r145_0, G_t i.g.c146, total_c i.g i.u, BN_ok, G_t i.g.c1, i.g.r1_8, G_t i.g.c145, i.g.r145_0, G_t i.g.c146, i.g.r146_0, G_t i.g.c147, i.g.z147, G_gx (by omega) (by omega), if_neg (by rw [cl, i.u.a c hc, sum]; exact q3), r2]
          · have F := ((Fz.i scA).tr (Fz.i sc0) : Fz (SCR m) h (pI (pI h 1 15 (nI 2)) 195 0 (nI 0)))
            have u2 := i.u.fz F (fun a k q => sU_ q)
            unfold X15_purse_f
            rw [G_t (gi _).c195, LT_e, G_t (gi _).i.c195, xR_pI, xR_pI, if_neg hr, iny c _ hc, BN_ok, if_neg (by decide), iny n _ hn, BN_ok, if_neg (by decide), G_t (gi _).i.c195, inPurse_m (gi _).i u2, BN_ok, G_t (gi _).i.c195, (gi _).i.r195_19, G_t (gi _).i.c198, (gi _).i.z198, G_gx (by omega) (by omega), if_neg (by rw [cl, u2.b c hc, sum]; exact q3), rm2]
      · obtain ⟨_, _, b2⟩ := inn y h hn
        refine Pair.no i (nI 2) (nI 0) n4_2 ?_ ?_
        · unfold X11_purse_f
          rw [G_t i.g.c1, i.q.hb, if_neg (by decide), if_neg k1, if_pos k2, r2]
          by_cases q0 : y < 0
          · rw [if_pos q0]
          · rw [if_neg q0, if_pos (b2.resolve_left q0)]
        · unfold X15_purse_f
          rw [G_t (gi _).c195, LT_e, G_t (gi _).i.c195, xR_pI, xR_pI, if_neg hr, iny c _ hc, BN_ok, if_neg (by decide), (inn y _ hn).1, BN_ok, if_pos nI_0, rm2]
    · obtain ⟨_, b1, _⟩ := inn x h hk
      refine Pair.no i (nI 1) (nI 0) n4_1 ?_ ?_
      · unfold X11_purse_f
        rw [G_t i.g.c1, i.q.hb, if_neg (by decide), r1]
        by_cases q0 : x < 0
        · rw [if_pos q0]
        · rw [if_neg q0, if_neg (b1.resolve_left q0)]
      · unfold X15_purse_f
        rw [G_t (gi _).c195, LT_e, G_t (gi _).i.c195, xR_pI, xR_pI, if_neg hr, (inn x _ hk).1, BN_ok, if_pos nI_0, rm1]
theorem pr_start {h : AH} {bo : Bool} {p : PR} {b m z : Nat} {l lm : List Nat} {s : LLn} {r : NN_} {lo lx : List Nat} (i : INV h bo p b m z l lm s r lo lx) (x : Int32) : Pair (X11_start_f 1 x) (X15_start_f 195 x) h := by
  have gi := fun (v : Int32) => (i.g.i (a := 1) (k := 15) (v := v))
  have hs := bs_c i
  have r2 : X11_start_B42 1 h = some (nI 0, pI h 1 15 (nI 2)) := by
    unfold X11_start_B42
    rw [G_t i.g.c1, refuse_c i.g, BN_ok, if_pos rfl]
  have rm2 : X15_start_B35 195 (pI (pI h 1 15 (nI 2)) 195 0 (nI 0)) = some (nI 0, pI (pI (pI (pI h 1 15 (nI 2)) 195 0 (nI 0)) 195 1 (nI 2)) 195 2 (-1)) := by
    unfold X15_start_B35
    rw [G_t (gi _).i.c195, denied_m (gi _).i, BN_ok, Gbz0]
  cases bo
  · have hr := (i.b.b0 rfl).mr
    refine Pair.no i (nI 1) (nI 0) n4_1 ?_ ?_
    · unfold X11_start_f
      rw [G_t i.g.c1, i.q.hb, if_pos (by decide), G_t i.g.c1, refuse_c i.g, BN_ok, if_pos rfl]
    · unfold X15_start_f
      rw [G_t (gi _).c195, LT_e, G_t (gi _).i.c195, xR_pI, xR_pI, if_pos hr, G_t (gi _).i.c195, denied_m (gi _).i, BN_ok, Gbz0]
  · have hr := mr_ne i rfl
    have B := i.b.b1 rfl
    by_cases q0 : x < 0
    · refine Pair.no i (nI 2) (nI 0) n4_2 ?_ ?_
      · unfold X11_start_f
        rw [G_t i.g.c1, i.q.hb, if_neg (by decide), if_pos q0, r2]
      · unfold X15_start_f
        rw [G_t (gi _).c195, LT_e, G_t (gi _).i.c195, xR_pI, xR_pI, if_neg hr, if_pos q0, rm2]
    · by_cases q1 : x < nI 1 <<< (nI (p.1 5 0) &&& 31)
      · obtain ⟨hc1, hce⟩ : ∃ hc, hc = pI (pI h 62 2 x) 1 15 (nI 0) := ⟨_, rfl⟩
        have gc : SG hc1 := by rw [hce]; exact i.g.i.i
        obtain ⟨h2, h2e⟩ : ∃ h2, h2 = pI (pI (pI (pI hc1 195 0 (nI 0)) 195 15 x) 195 1 (nI 0)) 195 2 (-1) := ⟨_, rfl⟩
        have F : Fz (fun a k => SCR m a k ∨ a = 62 ∧ k = 2 ∨ a = 195 ∧ k = 15) h h2 := by
          rw [h2e, hce]
          exact (((((Fz.i (.inr (by omega))).tr (Fz.i (.inl scA))).tr (Fz.i (.inl sc0))).tr (Fz.i (.inr (by omega)))).tr (Fz.i (.inl sc1))).tr (Fz.i (.inl sc2))
        refine ⟨nI 1, hc1, h2, ?_, gc.c195, ?_, ⟨true, (p.1, p.2.1, x, p.2.2.2), b, m, z, l, lm, s, r, lo, lx, ?_⟩, by rw [F.n]; omega, by rw [F.s]; omega⟩
        · unfold X11_start_f
          rw [G_t i.g.c1, i.q.hb, if_neg (by decide), if_neg q0, G_t i.g.c1, i.g.r1_1, G_t i.g.c62, i.q.wb, G_t hs.c, B.q.y, if_pos q1, G_t i.g.c1, G_t i.g.c62, LT_e, G_t i.g.i.c1, grant_c i.g.i, BN_ok, if_pos rfl, hce]
        · have hr2 : ¬ xR (pI hc1 195 0 (nI 0)) 195 4 = 0 := by rw [hce]; exact hr
          have mr2 : xR (pI hc1 195 0 (nI 0)) 195 4 = m := by rw [hce]; exact B.mr
          have lo' := B.mq.s.lo
          have my : xI (pI hc1 195 0 (nI 0)) m 4 = nI (p.1 5 0) := by rw [xI_ne (by omega), hce, xI_ne (by omega), xI_ne (by omega)]; exact B.mq.y
          have mc : xc (pI hc1 195 0 (nI 0)) m = 12 := by rw [hce]; exact B.mq.s.c
          unfold X15_start_f
          rw [G_t gc.c195, LT_e, G_t gc.i.c195, if_neg hr2, if_neg q0, G_t gc.i.c195, mr2, G_t mc, my, if_pos q1, G_t gc.i.c195, LT_e, G_t gc.i.i.c195, granted_m gc.i.i, BN_ok, Gbz1, h2e]
        · have w := B.w
          have hm := B.mq.s.lo
          have hb := i.bb
          have B2 : Bk1 h2 (p.1, p.2.1, x, p.2.2.2) b m := ⟨⟨w.w, by rw [F.c]; exact w.c, by rw [F.r _ (by decide)]; exact w.bk, by rw [F.I (fun c => c.elim (sB_ (by omega)) (fun c => by omega))]; exact w.l, by rw [h2e, xI_ne (by omega), xI_ne (by omega), xI_ne (by omega), xI_ne (by omega), hce, xI_ne (by omega), xI_self]; rfl, by rw [F.I (fun c => c.elim (sB_ (by omega)) (fun c => by omega))]; exact w.K, by rw [F.I (fun c => c.elim (sB_ (by omega)) (fun c => by omega))]; exact w.A, by rw [F.I (fun c => c.elim (sB_ (by omega)) (fun c => by omega))]; exact w.B⟩, B.q.mv (fun k hk => ⟨F.c _, F.z _, funext fun j => F.r _ (by omega), funext fun j => F.I (fun c => c.elim (sB_ (by omega)) (fun c => by omega))⟩), B.mq.fz F (fun k j hk c => c.elim (sB_ (by omega)) (fun c => by omega)), by rw [F.r _ (by decide)]; exact B.mr, by rw [F.I (fun c => c.elim (sB_ (by omega)) (fun c => by omega))]; exact B.l, by rw [h2e, xI_ne (by omega), xI_ne (by omega), xI_self]; rfl, by rw [F.I (fun c => c.elim (sB_ (by omega)) (fun c => by omega))]; exact B.K, by rw [F.I (fun c => c.elim (sB_ (by omega)) (fun c => by omega))]; exact B.A, by rw [F.I (fun c => c.elim (sB_ (by omega)) (fun c => by omega))]; exact B.B, B.n, B.x, by rw [F.n]; exact B.mx⟩
          refine ⟨i.g.fz F, i.t.fz F (fun a k q c => c.elim (sT_ q) (fun c => by omega)), i.q.fz F (fun a k q c => c.elim (sG_ q) (fun c => by omega)), ⟨fun _ => B2, fun e => nomatch e⟩, i.f.fz F (fun a k q c => c.elim (sF_ q) (fun c => by omega)), i.m.fz F (fun a k q c => c.elim (sM_ q) (fun c => by omega)), i.k.fz F (fun a k q c => c.elim (sK_ q) (fun c => by omega)), i.u.fz F (fun a k q c => c.elim (sU_ q) (fun c => by omega)), i.r.fz F (fun a k q c => c.elim (sR_ q) (fun c => by omega)), i.o.fz F (fun a k q c => c.elim (sO_ q) (fun c => by omega)), i.e.fz F (fun a k q c => c.elim (sE_ q) (fun c => by omega)), i.z.fz F (fun a k q c => c.elim (sZ_ q) (fun c => by omega)), (fun e => nomatch e), i.fm.fz F, ?_⟩
          rw [h2e]
          refine Sts_fin n4_0 ?_
          rw [xI_ne (by omega), xI_ne (by omega), hce, xI_self]
      · refine Pair.no i (nI 2) (nI 0) n4_2 ?_ ?_
        · unfold X11_start_f
          rw [G_t i.g.c1, i.q.hb, if_neg (by decide), if_neg q0, G_t i.g.c1, i.g.r1_1, G_t i.g.c62, i.q.wb, G_t hs.c, B.q.y, if_neg q1, r2]
        · have F := ((Fz.i scA).tr (Fz.i sc0) : Fz (SCR m) h (pI (pI h 1 15 (nI 2)) 195 0 (nI 0)))
          have Bk := (i.b.fz F (fun a k q => sB_ q) i.bb).b1 rfl
          unfold X15_start_f
          rw [G_t (gi _).c195, LT_e, G_t (gi _).i.c195, if_neg (by rw [xR_pI, xR_pI]; exact hr), if_neg q0, G_t (gi _).i.c195, Bk.mr, G_t Bk.mq.s.c, Bk.mq.y, if_neg q1, rm2]
