theorem gF_nil {h : AH} (g : SG h) (e1 : xI h 120 1 = nI 0) (e2 : xI h 195 16 = nI 0) : gF_ h [] := ⟨⟨g.c120, g.r120_0, g.c121, g.z121, Nat.zero_le _, by decide, e1, fun i hi => absurd hi (Nat.not_lt_zero _)⟩, e2, fun i hi => absurd hi (Nat.not_lt_zero _), fun d hd => absurd hd List.not_mem_nil⟩
theorem gM_nil {h : AH} (g : SG h) (e1 : xI h 126 1 = nI 0) (e2 : xI h 195 17 = nI 0) : gM_ h [] := ⟨⟨g.c126, g.r126_0, g.c127, g.z127, Nat.zero_le _, by decide, e1, fun i hi => absurd hi (Nat.not_lt_zero _)⟩, e2, fun i hi => absurd hi (Nat.not_lt_zero _), fun i hi => absurd hi (Nat.not_lt_zero _), fun d hd => absurd hd List.not_mem_nil⟩
theorem gK_nil {h : AH} (e1 : xI h 1 14 = nI 0) (e2 : xI h 195 18 = nI 0) : gK_ h [] := ⟨e1, e2, Nat.zero_le _, fun i hi => absurd hi (Nat.not_lt_zero _), fun i hi => absurd hi (Nat.not_lt_zero _), fun i hi => absurd hi (Nat.not_lt_zero _), fun d hd => absurd hd List.not_mem_nil⟩
theorem gO_nil {h : AH} (g : SG h) (e1 : xI h 162 1 = nI 0) (e2 : xI h 195 42 = nI 0) : gO_ h [] := ⟨⟨g.c162, g.r162_0, g.c163, g.z163, Nat.zero_le _, by decide, e1, fun i hi => absurd hi (Nat.not_lt_zero _)⟩, e2, fun i hi => absurd hi (Nat.not_lt_zero _)⟩
theorem gE_nil {h : AH} (g : SG h) (e1 : xI h 164 1 = nI 0) (e2 : xI h 195 43 = nI 0) : gE_ h [] := ⟨⟨g.c164, g.r164_0, g.c165, g.z165, Nat.zero_le _, by decide, e1, fun i hi => absurd hi (Nat.not_lt_zero _)⟩, e2, fun i hi => absurd hi (Nat.not_lt_zero _)⟩
theorem nw_wipe {h : AH} {a : Nat} (hc : xc h a = 4) : X4_wipe_f a h = some ((), pI h a 1 (nI 0)) := by
  unfold X4_wipe_f; simp only [LT_e, G_T, BN_ok, if_true, if_false, hc]
theorem pr_clear {h : AH} {bo : Bool} {p : PR} {b m z : Nat} {l lm : List Nat} {s : LLn} {r : NN_} {lo lx : List Nat} (i : INV h bo p b m z l lm s r lo lx) : Pair (X11_clear_f 1) (X15_clear_f 195) h := by
  refine ⟨nI l.length, pI h 120 1 (nI 0), pI (pI (pI h 120 1 (nI 0)) 195 0 (nI 0)) 195 16 (nI 0), ?_, i.g.c195, ?_, ⟨bo, p, b, m, z, [], lm, s, r, lo, lx, ?_⟩, Nat.le_add_right _ _, Nat.le_add_right _ _⟩
  · unfold X11_clear_f; simp only [LT_e, G_T, BN_ok, if_true, if_false, i.g.c1, i.g.r1_3, i.g.c120, nw_wipe, i.f.n.s]
  · unfold X15_clear_f; simp only [LT_e, G_T, BN_ok, if_true, if_false, xc_pI, xz_pI, xR_pI, xL_pI, xc_pL, xz_pL, xR_pL, xI_pL, xn_pI, xn_pL, i.g.c195]
    rw [xI_ne (by omega), xI_ne (by omega), i.f.m]
  · have F : Fz (fun a k => SCR m a k ∨ a = 120 ∧ k = 1 ∨ a = 195 ∧ k = 16) h (pI (pI (pI h 120 1 (nI 0)) 195 0 (nI 0)) 195 16 (nI 0)) := ((Fz.i (.inr (by omega))).tr (Fz.i (.inl sc0))).tr (Fz.i (.inr (by omega)))
    refine ⟨i.g.fz F, i.t.fz F (fun a k q c => c.elim (sT_ q) (fun c => by omega)), i.q.fz F (fun a k q c => c.elim (sG_ q) (fun c => by omega)), i.b.fz F (fun a k q c => c.elim (sB_ q) (fun c => by omega)) i.bb, gF_nil (i.g.fz F) (by rw [xI_ne (by omega), xI_ne (by omega), xI_self]) xI_self, i.m.fz F (fun a k q c => c.elim (sM_ q) (fun c => by omega)), i.k.fz F (fun a k q c => c.elim (sK_ q) (fun c => by omega)), i.u.fz F (fun a k q c => c.elim (sU_ q) (fun c => by omega)), i.r.fz F (fun a k q c => c.elim (sR_ q) (fun c => by omega)), i.o.fz F (fun a k q c => c.elim (sO_ q) (fun c => by omega)), i.e.fz F (fun a k q c => c.elim (sE_ q) (fun c => by omega)), i.z.fz F (fun a k q c => c.elim (sZ_ q) (fun c => by omega)), fun e => ⟨rfl, (i.n e).2⟩, i.fm.fz F, ?_, ?_⟩
    · rw [xI_ne (by omega), xI_ne (by omega), xI_ne (by omega), xI_ne (by omega), xI_ne (by omega), xI_ne (by omega)]; exact i.st.1
    · rw [xI_ne (by omega), xI_ne (by omega), xI_ne (by omega), xI_ne (by omega), xI_ne (by omega), xI_ne (by omega), xI_ne (by omega), xI_ne (by omega), xI_ne (by omega)]; exact i.st.2
/-- both refuse -/
theorem INV.no {h : AH} {bo : Bool} {p : PR} {b m z : Nat} {l lm : List Nat} {s : LLn} {r : NN_} {lo lx : List Nat} (i : INV h bo p b m z l lm s r lo lx) {v : Int32} (hv : v ≠ nI 4) : INV (pI (pI (pI (pI h 1 15 v) 195 0 (nI 0)) 195 1 v) 195 2 (-1)) bo p b m z l lm s r lo lx := i.fin ((Fz.i scA).tr (Fz.i sc0)) hv (by rw [xI_ne (by omega), xI_self])
theorem Pair.no {cl mo : AH → Option (Int32 × AH)} {h : AH} {bo : Bool} {p : PR} {b m z : Nat} {l lm : List Nat} {s : LLn} {r : NN_} {lo lx : List Nat} (i : INV h bo p b m z l lm s r lo lx) (v w : Int32) (hv : v ≠ nI 4) (e1 : cl h = some (w, pI h 1 15 v)) (e2 : mo (pI h 1 15 v) = some (w, pI (pI (pI (pI h 1 15 v) 195 0 (nI 0)) 195 1 v) 195 2 (-1))) : Pair cl mo h := ⟨w, _, _, e1, i.g.c195, e2, ⟨bo, p, b, m, z, l, lm, s, r, lo, lx, i.no hv⟩, Nat.le_add_right _ _, Nat.le_add_right _ _⟩
theorem mr_ne {h : AH} {bo : Bool} {p : PR} {b m z : Nat} {l lm : List Nat} {s : LLn} {r : NN_} {lo lx : List Nat} (i : INV h bo p b m z l lm s r lo lx) (hb : bo = true) : xR h 195 4 ≠ 0 := by
  have := (i.b.b1 hb).mr
  have := (i.b.b1 hb).mq.s.lo
  omega
theorem in_m {x : Int32} {a c : Nat} {h : AH} (ha : a ≤ c) (hc : c < 1000) : (∃ j, a ≤ j ∧ j ≤ c ∧ x = nI j ∧ X15_in_f x (nI a) (nI c) h = some (nI 1, h)) ∨ ((x < nI a ∨ nI c < x) ∧ X15_in_f x (nI a) (nI c) h = some (nI 0, h)) := by
  unfold X15_in_f
  by_cases h1 : x < nI a
  · right; exact ⟨.inl h1, by rw [if_pos h1]⟩
  · by_cases h2 : nI c < x
    · right; exact ⟨.inr h2, by rw [if_neg h1, if_pos h2]⟩
    · left
      have h0 : ¬ x < 0 := fun q => h1 (Int32.lt_of_lt_of_le q (nI_pos' (by omega)))
      obtain ⟨j, hj, rfl⟩ := nI_of h0
      rw [nI_tI (by omega) (by omega)] at h1 h2
      exact ⟨j, by omega, by omega, rfl, by rw [if_neg (by rw [nI_tI (by omega) (by omega)]; omega), if_neg (by rw [nI_tI (by omega) (by omega)]; omega)]⟩
theorem n4_1 : nI 1 ≠ nI 4 := by decide
theorem n4_2 : nI 2 ≠ nI 4 := by decide
theorem n4_3 : nI 3 ≠ nI 4 := by decide
theorem n4_5 : nI 5 ≠ nI 4 := by decide
theorem n4_6 : nI 6 ≠ nI 4 := by decide
theorem n4_0 : nI 0 ≠ nI 4 := by decide
theorem pr_last {h : AH} {bo : Bool} {p : PR} {b m z : Nat} {l lm : List Nat} {s : LLn} {r : NN_} {lo lx : List Nat} (i : INV h bo p b m z l lm s r lo lx) (x : Int32) : Pair (X11_last_f 1 x) (X15_last_f 195 x) h := by
  have gi := fun (v : Int32) => (i.g.i (a := 1) (k := 15) (v := v))
  cases bo
  · have hr := (i.b.b0 rfl).mr
    refine Pair.no i (nI 1) (nI 0) n4_1 ?_ ?_
    · unfold X11_last_f
      simp only [LT_e, G_T, BN_ok, if_true, if_false, i.g.c1, i.q.hb, bI_0, nI_z, refuse_c i.g, eq_self, Bool.true_eq_false, Bool.false_eq_true, if_true, if_false]
    · unfold X15_last_f
      simp only [LT_e, G_T, BN_ok, if_true, if_false, xc_pI, xz_pI, xR_pI, xL_pI, xc_pL, xz_pL, xR_pL, xI_pL, xn_pI, xn_pL, i.g.c195, hr, denied_m (gi _).i, Gbz0]
  · have hr := mr_ne i rfl
    have bad : ((x < nI 1 ∨ nI 6 < x) ∧ X15_in_f x (nI 1) (nI 6) (pI (pI h 1 15 (nI 2)) 195 0 (nI 0)) = some (nI 0, pI (pI h 1 15 (nI 2)) 195 0 (nI 0))) → Pair (X11_last_f 1 x) (X15_last_f 195 x) h := by
      rintro ⟨q, e⟩
      refine Pair.no i (nI 2) (nI 0) n4_2 ?_ ?_
      · unfold X11_last_f X11_last_B33
        simp only [LT_e, G_T, BN_ok, if_true, if_false, i.g.c1, i.q.hb, bI_0, nI_z, refuse_c i.g, eq_self, Bool.true_eq_false, Bool.false_eq_true, if_true, if_false]
        by_cases q1 : x < nI 1
        · simp only [q1, if_true]
        · have q2 : ¬ x ≤ nI 6 := Int32.not_le.mpr (q.resolve_left q1)
          simp only [q1, q2, if_false]
      · unfold X15_last_f
        rw [G_t (gi _).c195, LT_e, G_t (gi _).i.c195, xR_pI, xR_pI, if_neg hr, e, BN_ok, if_pos nI_0, G_t (gi _).i.c195, denied_m (gi _).i, BN_ok, Gbz0]
    rcases in_m (x := x) (a := 1) (c := 6) (h := pI (pI h 1 15 (nI 2)) 195 0 (nI 0)) (by decide) (by decide) with ⟨t, t1, t6, rfl, _⟩ | q
    · have B := i.b.b1 rfl
      have q1 : ¬ t < 1 := by omega
      have q2 : ¬ 6 < t := by omega
      obtain ⟨hh, hhe⟩ : ∃ hh, hh = pI (pI (pI (pI h 62 1 (nI t)) 120 1 (nI 0)) 1 14 (nI 0)) 1 15 (nI 0) := ⟨_, rfl⟩
      obtain ⟨h2, h2e⟩ : ∃ h2, h2 = pI (pI (pI (pI (pI (pI hh 195 0 (nI 0)) 195 14 (nI t)) 195 16 (nI 0)) 195 18 (nI 0)) 195 1 (nI 0)) 195 2 (-1) := ⟨_, rfl⟩
      have F : Fz (fun a k => SCR m a k ∨ a = 62 ∧ k = 1 ∨ a = 120 ∧ k = 1 ∨ a = 1 ∧ k = 14 ∨ a = 195 ∧ (k = 14 ∨ k = 16 ∨ k = 18)) h h2 := by
        rw [h2e, hhe]
        exact (((((((((Fz.i (.inr (by omega))).tr (Fz.i (.inr (by omega)))).tr (Fz.i (.inr (by omega)))).tr (Fz.i (.inl scA))).tr (Fz.i (.inl sc0))).tr (Fz.i (.inr (by omega)))).tr (Fz.i (.inr (by omega)))).tr (Fz.i (.inr (by omega)))).tr (Fz.i (.inl sc1))).tr (Fz.i (.inl sc2))
      have gh : SG hh := by rw [hhe]; exact i.g.i.i.i.i
      refine ⟨nI 1, hh, h2, ?_, gh.c195, ?_, ⟨true, (p.1, t, p.2.2), b, m, z, [], lm, [], r, lo, lx, ?_⟩, by rw [F.n]; omega, by rw [F.s]; omega⟩
      · unfold X11_last_f
        have q3 : t ≤ 6 := t6
        simp (disch := omega) only [LT_e, G_T, BN_ok, if_true, if_false, i.g.c1, i.q.hb, bI_0, nI_z, eq_self, Bool.true_eq_false, Bool.false_eq_true, if_true, if_false, nI_tI, nI_lI, q1, q3, i.g.r1_1, i.g.c62, xc_pI, xz_pI, xR_pI, xL_pI, xc_pL, xz_pL, xR_pL, xI_pL, xn_pI, xn_pL, i.g.r1_3, i.g.c120, nw_wipe (h := pI h 62 1 (nI t)) (a := 120) i.g.c120, grant_c i.g.i.i.i, hhe]
      · unfold X15_last_f
        have e : ∀ k, X15_in_f (nI t) (nI 1) (nI 6) k = some (nI 1, k) := fun k => by
          unfold X15_in_f
          rw [if_neg (by rw [nI_tI (by omega) (by omega)]; omega), if_neg (by rw [nI_tI (by omega) (by omega)]; omega)]
        have hr2 : ¬ xR hh 195 4 = 0 := by rw [hhe]; exact hr
        rw [G_t gh.c195, LT_e, G_t gh.i.c195, xR_pI, if_neg hr2, e, BN_ok, if_neg (by decide : ¬ nI 1 = 0), G_t gh.i.c195, LT_e, G_t gh.i.i.c195, LT_e, G_t gh.i.i.i.c195, LT_e, G_t gh.i.i.i.i.c195, granted_m gh.i.i.i.i, BN_ok, Gbz1, h2e]
      · have B2 : Bk1 h2 (p.1, t, p.2.2) b m := by
          have w := B.w
          have hm := B.mq.s.lo
          have hb := i.bb
          refine ⟨⟨w.w, by rw [F.c]; exact w.c, by rw [F.r _ (by decide)]; exact w.bk, by rw [h2e, hhe, xI_ne (by omega), xI_ne (by omega), xI_ne (by omega), xI_ne (by omega), xI_ne (by omega), xI_ne (by omega), xI_ne (by omega), xI_ne (by omega), xI_ne (by omega), xI_self]; rfl, by rw [F.I (fun c => c.elim (sB_ (by omega)) (fun c => by omega))]; exact w.S, by rw [F.I (fun c => c.elim (sB_ (by omega)) (fun c => by omega))]; exact w.K, by rw [F.I (fun c => c.elim (sB_ (by omega)) (fun c => by omega))]; exact w.A, by rw [F.I (fun c => c.elim (sB_ (by omega)) (fun c => by omega))]; exact w.B⟩, B.q.mv (fun k hk => ⟨F.c _, F.z _, funext fun j => F.r _ (by omega), funext fun j => F.I (fun c => c.elim (sB_ (by omega)) (fun c => by omega))⟩), B.mq.fz F (fun k j hk c => c.elim (sB_ (by omega)) (fun c => by omega)), by rw [F.r _ (by decide)]; exact B.mr, by rw [h2e, xI_ne (by omega), xI_ne (by omega), xI_ne (by omega), xI_ne (by omega), xI_self]; rfl, by rw [F.I (fun c => c.elim (sB_ (by omega)) (fun c => by omega))]; exact B.S, by rw [F.I (fun c => c.elim (sB_ (by omega)) (fun c => by omega))]; exact B.K, by rw [F.I (fun c => c.elim (sB_ (by omega)) (fun c => by omega))]; exact B.A, by rw [F.I (fun c => c.elim (sB_ (by omega)) (fun c => by omega))]; exact B.B, t1, t6, by rw [F.n]; exact B.mx⟩
        refine ⟨i.g.fz F, i.t.fz F (fun a k q c => c.elim (sT_ q) (fun c => by omega)), i.q.fz F (fun a k q c => c.elim (sG_ q) (fun c => by omega)), ⟨fun _ => B2, fun e => nomatch e⟩, gF_nil (i.g.fz F) (by rw [h2e, hhe, xI_ne (by omega), xI_ne (by omega), xI_ne (by omega), xI_ne (by omega), xI_ne (by omega), xI_ne (by omega), xI_ne (by omega), xI_ne (by omega), xI_self]) (by rw [h2e, xI_ne (by omega), xI_ne (by omega), xI_ne (by omega), xI_self]), i.m.fz F (fun a k q c => c.elim (sM_ q) (fun c => by omega)), gK_nil (by rw [h2e, hhe, xI_ne (by omega), xI_ne (by omega), xI_ne (by omega), xI_ne (by omega), xI_ne (by omega), xI_ne (by omega), xI_ne (by omega), xI_self]) (by rw [h2e, xI_ne (by omega), xI_ne (by omega), xI_self]), i.u.fz F (fun a k q c => c.elim (sU_ q) (fun c => by omega)), i.r.fz F (fun a k q c => c.elim (sR_ q) (fun c => by omega)), i.o.fz F (fun a k q c => c.elim (sO_ q) (fun c => by omega)), i.e.fz F (fun a k q c => c.elim (sE_ q) (fun c => by omega)), i.z.fz F (fun a k q c => c.elim (sZ_ q) (fun c => by omega)), (fun e => nomatch e), i.fm.fz F, ?_⟩
        rw [h2e]
        refine Sts_fin n4_0 ?_
        rw [hhe, xI_ne (by omega), xI_ne (by omega), xI_ne (by omega), xI_ne (by omega), xI_self]
    · exact bad q
