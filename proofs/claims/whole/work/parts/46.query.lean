theorem Bk1.mox {h : AH} {p : PR} {b m : Nat} (g : SG h) (B : Bk1 h p b m) : MoX h m p := ⟨g, B.mq, B.mr, B.l, B.S, B.K, B.A, B.B, B.n, B.x⟩
/-- how many of a sort: 0 machines 1 rows 2 facts 3 rules 4 sends 5 maybes -/
theorem cnt_c {h : AH} {bo : Bool} {p : PR} {b m z : Nat} {l lm : List Nat} {s : LLn} {r : NN_} {lo lx : List Nat} (i : INV h bo p b m z l lm s r lo lx) : ∀ k, k ≤ 5 → xI h b k = nI (if bo then p.1 k 0 else 0) := by
  intro k hk
  cases bo
  · rw [(i.b.b0 rfl).z k (by omega)]; rfl
  · have q := (i.b.b1 rfl).q
    have : k = 0 ∨ k = 1 ∨ k = 2 ∨ k = 3 ∨ k = 4 ∨ k = 5 := by omega
    rcases this with rfl | rfl | rfl | rfl | rfl | rfl
    · exact q.m
    · exact q.r
    · exact q.f
    · exact q.u
    · exact q.sn
    · exact q.y
theorem last_c {h : AH} {bo : Bool} {p : PR} {b m z : Nat} {l lm : List Nat} {s : LLn} {r : NN_} {lo lx : List Nat} (i : INV h bo p b m z l lm s r lo lx) : xI h 62 1 = nI (if bo then pl p else 0) := by
  cases bo
  · exact (i.b.b0 rfl).l
  · exact (i.b.b1 rfl).w.l
theorem bs_c {h : AH} {bo : Bool} {p : PR} {b m z : Nat} {l lm : List Nat} {s : LLn} {r : NN_} {lo lx : List Nat} (i : INV h bo p b m z l lm s r lo lx) : BS h b := by
  rcases i.bb with rfl | rfl
  · exact i.g.b1
  · exact i.g.b2
/-- a check of the reference: isRow, isMachine, isSend -/
theorem chk {h : AH} {bo : Bool} {p : PR} {b m z : Nat} {l lm : List Nat} {s : LLn} {r : NN_} {lo lx : List Nat} (i : INV h bo p b m z l lm s r lo lx) (x : Int32) (c e : Nat) (hc : c ≤ 5) (f : Nat → Int32 → AH → Option (Int32 × AH)) (hf : ∀ x h, f 195 x h = G (xc h 195 = 15) (if (xR h 195 4) = 0 then some (nI 0, h) else if x < 0 then some (nI 0, h) else G (xc h 195 = 15) (G (xc h (xR h 195 4) = 12) (if xI h (xR h 195 4) e ≤ x then some (nI 0, h) else some (nI 1, h))))) (he : bo = true → ∀ k, IsMB k m p.1 → xI k m e = nI (p.1 c 0)) (hb : bo = true → p.1 c 0 < 1000) : (∃ j, bo = true ∧ j < p.1 c 0 ∧ x = nI j ∧ ∀ k, Fz (SCR m) h k → f 195 x k = some (nI 1, k)) ∨ ((x < 0 ∨ xI h b c ≤ x) ∧ ∀ k, Fz (SCR m) h k → f 195 x k = some (nI 0, k)) := by
  rw [cnt_c i c hc]
  cases bo
  · right
    refine ⟨?_, fun k F => ?_⟩
    · by_cases h0 : x < 0
      · exact .inl h0
      · right
        obtain ⟨j, hj, rfl⟩ := nI_of h0
        exact nI_le (Nat.zero_le _) hj
    · have hr := (i.b.b0 rfl).mr
      have gk := i.g.fz F
      rw [hf, G_t gk.c195, if_pos (by rw [F.r _ (by decide)]; exact hr)]
  · have B := i.b.b1 rfl
    have hb := hb rfl
    have hr := mr_ne i rfl
    rcases pk_ix x (n := p.1 c 0) (by omega) with q | q | ⟨j, hj, rfl⟩
    · right
      refine ⟨.inl q, fun k F => ?_⟩
      have gk := i.g.fz F
      rw [hf, G_t gk.c195, if_neg (by rw [F.r _ (by decide)]; exact hr), if_pos q]
    · right
      refine ⟨.inr q, fun k F => ?_⟩
      have gk := i.g.fz F
      have Bk := (i.b.fz F (fun a k q => sB_ q) i.bb).b1 rfl
      rw [hf, G_t gk.c195, if_neg (by rw [F.r _ (by decide)]; exact hr)]
      by_cases q0 : x < 0
      · rw [if_pos q0]
      · rw [if_neg q0, G_t gk.c195, Bk.mr, G_t Bk.mq.s.c, he rfl k Bk.mq, if_pos q]
    · left
      refine ⟨j, rfl, hj, rfl, fun k F => ?_⟩
      have gk := i.g.fz F
      have Bk := (i.b.fz F (fun a k q => sB_ q) i.bb).b1 rfl
      rw [hf, G_t gk.c195, if_neg (by rw [F.r _ (by decide)]; exact hr), if_neg (nI_pos (by omega)), G_t gk.c195, Bk.mr, G_t Bk.mq.s.c, he rfl k Bk.mq, if_neg (by rw [nI_lI (by omega) (by omega)]; omega)]
theorem chk_row {h : AH} {bo : Bool} {p : PR} {b m z : Nat} {l lm : List Nat} {s : LLn} {r : NN_} {lo lx : List Nat} (i : INV h bo p b m z l lm s r lo lx) (x : Int32) : (∃ j, bo = true ∧ j < p.1 1 0 ∧ x = nI j ∧ ∀ k, Fz (SCR m) h k → X15_isRow_f 195 x k = some (nI 1, k)) ∨ ((x < 0 ∨ xI h b 1 ≤ x) ∧ ∀ k, Fz (SCR m) h k → X15_isRow_f 195 x k = some (nI 0, k)) := chk i x 1 2 (by decide) X15_isRow_f (fun _ _ => rfl) (fun _ k q => q.r) (fun e => by have := (i.b.b1 e).q.w.r; omega)
theorem chk_mach {h : AH} {bo : Bool} {p : PR} {b m z : Nat} {l lm : List Nat} {s : LLn} {r : NN_} {lo lx : List Nat} (i : INV h bo p b m z l lm s r lo lx) (x : Int32) : (∃ j, bo = true ∧ j < p.1 0 0 ∧ x = nI j ∧ ∀ k, Fz (SCR m) h k → X15_isMachine_f 195 x k = some (nI 1, k)) ∨ ((x < 0 ∨ xI h b 0 ≤ x) ∧ ∀ k, Fz (SCR m) h k → X15_isMachine_f 195 x k = some (nI 0, k)) := chk i x 0 1 (by decide) X15_isMachine_f (fun _ _ => rfl) (fun _ k q => q.m) (fun e => by have := (i.b.b1 e).q.w.m; omega)
theorem chk_send {h : AH} {bo : Bool} {p : PR} {b m z : Nat} {l lm : List Nat} {s : LLn} {r : NN_} {lo lx : List Nat} (i : INV h bo p b m z l lm s r lo lx) (x : Int32) : (∃ j, bo = true ∧ j < p.1 4 0 ∧ x = nI j ∧ ∀ k, Fz (SCR m) h k → X15_isSend_f 195 x k = some (nI 1, k)) ∨ ((x < 0 ∨ xI h b 4 ≤ x) ∧ ∀ k, Fz (SCR m) h k → X15_isSend_f 195 x k = some (nI 0, k)) := chk i x 4 6 (by decide) X15_isSend_f (fun _ _ => rfl) (fun _ k q => q.sn) (fun e => by have := (i.b.b1 e).q.w.s; omega)
/-- THE RUN of the falls told, both ways -/
theorem q_play {h : AH} {bo : Bool} {p : PR} {b m z : Nat} {l lm : List Nat} {s : LLn} {r : NN_} {lo lx : List Nat} (i : INV h bo p b m z l lm s r lo lx) (hb : bo = true) : ∃ h1, X9_play_f 145 62 120 182 h = some ((), h1) ∧ Fq (fun x => (152 ≤ x ∧ x ≤ 154) ∨ (174 ≤ x ∧ x ≤ 179) ∨ (182 ≤ x ∧ x ≤ 182 + 5)) h h1 ∧ IsTr h1 182 p (flOf l) := by
  have B := i.b.b1 hb
  exact play_ok i.g B.w B.q B.n B.x i.f.n i.f.o (.inl (by decide)) i.g.t1
theorem Fq.scr {A : Nat → Prop} {h h' : AH} {m : Nat} (F : Fq A h h') (n : ∀ a, A a → a = 124 ∨ a = 125 ∨ (148 ≤ a ∧ a ≤ 158) ∨ a = 160 ∨ a = 161 ∨ (168 ≤ a ∧ a ≤ 194) ∨ (202 ≤ a ∧ a ≤ 219) ∨ a = 222 ∨ a = 223) : Fz (SCR m) h h' := F.f.mo (fun a k q => by have := n a q; unfold SCR; omega)
theorem q_runs {h k : AH} {bo : Bool} {p : PR} {b m z : Nat} {l lm : List Nat} {s : LLn} {r : NN_} {lo lx : List Nat} (i : INV h bo p b m z l lm s r lo lx) (hb : bo = true) (F : Fz (SCR m) h k) : ∃ k2, X15_runs_f 195 (nI 0) 199 (nI 0) (nI l.length) k = some (nI (outB p (flOf l)), k2) ∧ Fr (fun x => (203 ≤ x ∧ x ≤ 205) ∨ (210 ≤ x ∧ x ≤ 214)) k k2 ∧ IsSl k2 0 p (flOf l) := by
  have gk := i.g.fz F
  have Bk := (i.b.fz F (fun a k q => sB_ q) i.bb).b1 hb
  have f := i.f.fz F (fun a k q => sF_ q)
  have hn := f.n.n
  have hz := gk.z199
  obtain ⟨k2, e, F2, _, q⟩ := runs_m (k := 0) (i0 := 0) (Bk.mox gk) (by decide) gk.c199 (by omega) (by omega) f.f f.o (by decide)
  exact ⟨k2, e, F2, q⟩
theorem pr_run {h : AH} {bo : Bool} {p : PR} {b m z : Nat} {l lm : List Nat} {s : LLn} {r : NN_} {lo lx : List Nat} (i : INV h bo p b m z l lm s r lo lx) : Pair (X11_run_f 1) (X15_run_f 195) h := by
  have gi := fun (v : Int32) => (i.g.i (a := 1) (k := 15) (v := v))
  cases bo
  · have hr := (i.b.b0 rfl).mr
    refine Pair.no i (nI 1) (-1) n4_1 ?_ ?_
    · unfold X11_run_f
      rw [G_t i.g.c1, i.q.hb, if_pos (by decide), G_t i.g.c1, refuse_c i.g, BN_ok]
    · unfold X15_run_f
      rw [G_t (gi _).c195, LT_e, G_t (gi _).i.c195, xR_pI, xR_pI, if_pos hr, G_t (gi _).i.c195, refused_m (gi _).i, BN_ok]
  · have hr := mr_ne i rfl
    obtain ⟨h1, e1, F1, t1⟩ := q_play i rfl
    have g1 := i.g.fq F1
    have FF : Fz (SCR m) h (pI (pI h1 1 15 (nI 0)) 195 0 (nI 0)) := ((F1.scr (by intro a q; omega)).tr (Fz.i scA)).tr (Fz.i sc0)
    have gg := i.g.fz FF
    obtain ⟨k2, e2, F2, s2⟩ := q_runs i rfl FF
    have g2 := gg.fr F2
    refine ⟨nI (outB p (flOf l)), pI h1 1 15 (nI 0), pI (pI k2 195 1 (nI 0)) 195 2 (-1), ?_, g1.i.c195, ?_, ⟨_, _, _, _, _, _, _, _, _, _, _, i.fin (FF.tr (F2.q.scr (by intro a q; omega))) n4_0 (by rw [F2.I _ (by decide), xI_ne (by omega), xI_self])⟩, by show xn k2 ≤ _; rw [F2.n, FF.n]; omega, by show xs k2 ≤ _; rw [F2.s, FF.s]; omega⟩
    · unfold X11_run_f
      rw [G_t i.g.c1, i.q.hb, if_neg (by decide), G_t i.g.c1, i.g.r1_8, G_t i.g.c145, i.g.r1_1, i.g.r1_3, i.g.r1_9, e1, BN_ok, G_t g1.c1, g1.r1_9, G_t g1.c182, t1.V, grant_c g1, BN_ok]
    · have hr2 : ¬ xR (pI (pI h1 1 15 (nI 0)) 195 0 (nI 0)) 195 4 = 0 := by rw [FF.r _ (by decide)]; exact hr
      have ml : xI (pI (pI h1 1 15 (nI 0)) 195 0 (nI 0)) 195 16 = nI l.length := (i.f.fz FF (fun a k q => sF_ q)).m
      unfold X15_run_f
      rw [G_t g1.i.c195, LT_e, G_t gg.c195, if_neg hr2, G_t gg.c195, gg.r195_20, ml, e2, BN_ok, G_t g2.c195, done_m g2, BN_ok]
