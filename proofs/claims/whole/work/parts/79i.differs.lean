/-- the first row that differs -/
def dfX (p : PR) (f g : FL) (t m r : Nat) : Bool := decide (r < p.1 1 0) && (Tz p f t m r ^^ Tz p g t m r)
def dfM (D : Nat → Nat → Nat → Bool) (t : Nat) : Nat → Nat → Option (Nat × Nat × Nat)
  | _, 0 => none
  | m, n + 1 => match fsT (D t m) with
    | some r => some (t, m, r)
    | none => dfM D t (m + 1) n
def dfT (D : Nat → Nat → Nat → Bool) (M : Nat) : Nat → Nat → Option (Nat × Nat × Nat)
  | _, 0 => none
  | t, n + 1 => match dfM D t 0 M with
    | some x => some x
    | none => dfT D M (t + 1) n
def dfV (w : Nat) (T : Nat → Nat → Nat → Bool) : Option (Nat × Nat × Nat) → Int32
  | none => -2
  | some (t, m, r) => if w = 0 then nI t else if w = 1 then nI m else if w = 2 then nI r else bI (T t m r)
theorem differs_c {h : AH} {b w : Nat} {p : PR} {f g : FL} (s : SG h) (W : IsW h 62 b p) (q : IsCB h b p.1) (x : pl p ≤ 6) (t1 : IsTr h 182 p f) (t2 : IsTr h 188 p g) (hw : w ≤ 3) : X11_differs_B62 FU 1 (nI w) (nI 0) h = some (dfV w (Tz p f) (dfT (dfX p f g) (p.1 0 0) 0 (pl p + 1)), pI h 1 15 (nI 0)) := by
  have wm := q.w.m
  have wr := q.w.r
  have inner : ∀ (K : Nat → Int32 → Int32 → AH → Option (Int32 × AH)) t, t ≤ pl p → ∀ n m, m ≤ p.1 0 0 → p.1 0 0 - m < n → X11_differs_B75 K n 1 (nI w) (nI t) (nI m) h = match dfM (dfX p f g) t m (p.1 0 0 - m) with
      | some y => some (dfV w (Tz p f) (some y), pI h 1 15 (nI 0))
      | none => K 1 (nI w) (nI (t + 1)) h := by
    intro K t ht n
    induction n with
    | zero => intro m _ hn; exact absurd hn (Nat.not_lt_zero _)
    | succ n ih =>
      intro m hm hn
      rcases Nat.lt_or_ge m (p.1 0 0) with hlt | hge
      · have cl : (nI (t * 4 + m)).toNatClampNeg = t * 4 + m := nI_cl (by omega)
        have b1 := t1.T t m ht hlt
        have b2 := t2.T t m ht hlt
        generalize hx1 : xI h (182 + 1) (t * 4 + m) = x1 at b1
        generalize hx2 : xI h (188 + 1) (t * 4 + m) = x2 at b2
        have hx1' : xI h 183 (t * 4 + m) = x1 := hx1
        have hx2' : xI h 189 (t * 4 + m) = x2 := hx2
        have hv : ∀ r, r < 32 → bt (x1 ^^^ x2) r = (decide (r < 10) && dfX p f g t m r) := fun r hr => by
          rw [b_xor, b1 r hr, b2 r hr]
          unfold dfX
          by_cases e : r < p.1 1 0
          · rw [decide_eq_true e, decide_eq_true (by omega : r < 10)]; rfl
          · rw [decide_eq_false e]; simp
        have hd : X11_differs_B75 K (n + 1) 1 (nI w) (nI t) (nI m) h = if x1 ^^^ x2 = 0 then X11_differs_B75 K n 1 (nI w) (nI t) (nI (m + 1)) h else X11_differs_B127 1 (nI w) (nI t) (nI m) x1 (x1 ^^^ x2) h := by
          rw [X11_differs_B75]
          rw [G_t s.c1, s.r1_1, G_t s.c62, W.bk, G_t q.s.c, q.m, if_neg (by rw [nI_lI (by omega) (by omega)]; omega), G_t s.c1, s.r1_9, G_t s.c182]
          unfold X11_cell_f
          rw [BN_ok, s.r182_0, G_t s.c183, s.z183, pk_mul, nI_add, G_gx (by omega) (by omega), LT_e, cl, hx1', G_t s.c1, s.r1_10, G_t s.c188, BN_ok, s.r188_0, G_t s.c189, s.z189, G_gx (by omega) (by omega), LT_e, cl, hx2', nI_add, LT_e]
        rw [hd, show p.1 0 0 - m = (p.1 0 0 - (m + 1)) + 1 by omega, dfM]
        by_cases e : x1 ^^^ x2 = 0
        · rw [if_pos e, fsT_z hv e]
          exact ih (m + 1) (by omega) (by omega)
        · obtain ⟨r, hr, r10, _, ez⟩ := ntz_X (h := h) hv e
          have rR : r < p.1 1 0 := by
            have := (fsF_some 10 0 r hr).2.2
            unfold dfX at this
            rw [Bool.and_eq_true] at this
            exact of_decide_eq_true this.1
          rw [if_neg e, hr]
          unfold X11_differs_B127
          rw [ez, BN_ok, b_test (by omega), b1 r (by omega), decide_eq_true rR, Bool.true_and]
          have pv : X11_partOf_f (nI w) (nI t) (nI m) (nI r) (if Tz p f t m r = true then 1 else 0) h = some (dfV w (Tz p f) (some (t, m, r)), h) := by
            unfold X11_partOf_f
            have w4 : w = 0 ∨ w = 1 ∨ w = 2 ∨ w = 3 := by omega
            rcases w4 with rfl | rfl | rfl | rfl
            · rfl
            · rfl
            · rfl
            · show _ = some (bI (Tz p f t m r), h)
              cases Tz p f t m r <;> rfl
          rw [pv, BN_ok, G_t s.c1, grant_c s, BN_ok]
      · have : m = p.1 0 0 := by omega
        subst this
        rw [Nat.sub_self, dfM, X11_differs_B75]
        rw [G_t s.c1, s.r1_1, G_t s.c62, W.bk, G_t q.s.c, q.m, if_pos (by rw [nI_lI (by omega) (by omega)]; omega)]
        unfold X11_differs_B160
        rw [LT_e, nI_add]
  have outer : ∀ n t, t ≤ pl p + 1 → pl p + 1 - t < n → X11_differs_B62 n 1 (nI w) (nI t) h = some (dfV w (Tz p f) (dfT (dfX p f g) (p.1 0 0) t (pl p + 1 - t)), pI h 1 15 (nI 0)) := by
    intro n
    induction n with
    | zero => intro m _ hn; exact absurd hn (Nat.not_lt_zero _)
    | succ n ih =>
      intro t ht hn
      rw [X11_differs_B62]
      rw [G_t s.c1, s.r1_1, G_t s.c62, W.l]
      rcases Nat.lt_or_ge (pl p) t with hlt | hge
      · rw [if_pos (by rw [nI_tI (by omega) (by omega)]; exact hlt), show pl p + 1 - t = 0 by omega, dfT]
        unfold X11_differs_B166
        rw [G_t s.c1, grant_c s, BN_ok]; rfl
      · rw [if_neg (by rw [nI_tI (by omega) (by omega)]; omega), inner (X11_differs_B62 n) t hge FU 0 (Nat.zero_le _) (FU_gt (by omega)), show pl p + 1 - t = (pl p + 1 - (t + 1)) + 1 by omega, dfT, Nat.sub_zero]
        cases e : dfM (dfX p f g) t 0 (p.1 0 0) with
        | some y => rfl
        | none => exact ih (t + 1) (by omega) (by omega)
  exact outer FU 0 (Nat.zero_le _) (FU_gt (by omega))
theorem differs_m {h : AH} {b w : Nat} {p : PR} {f g : FL} (C : MoX h b p) (t1 : IsSl h 0 p f) (t2 : IsSl h 1 p g) (hw : w ≤ 3) : X15_differs_B56 FU 195 (nI w) (nI 0) h = some (dfV w (Tz p f) (dfT (dfX p f g) (p.1 0 0) 0 (pl p + 1)), pI (pI h 195 1 (nI 0)) 195 2 (-1)) := by
  have wm := C.q.w.m
  have wr := C.q.w.r
  have x := C.x
  have s := C.s
  have rows : ∀ (K1 : Nat → Int32 → Int32 → AH → Option (Int32 × AH)) (K2 : Nat → Int32 → Int32 → Int32 → AH → Option (Int32 × AH)) t, t ≤ pl p → ∀ m, m < p.1 0 0 → ∀ n r, r ≤ p.1 1 0 → p.1 1 0 - r < n → X15_differs_B82 K1 K2 n 195 (nI w) (nI t) (nI m) (nI r) h = match fsF (dfX p f g t m) r (10 - r) with
      | some y => some (dfV w (Tz p f) (some (t, m, y)), pI (pI h 195 1 (nI 0)) 195 2 (-1))
      | none => K2 195 (nI w) (nI t) (nI (m + 1)) h := by
    intro K1 K2 t ht m hm n
    induction n with
    | zero => intro m _ hn; exact absurd hn (Nat.not_lt_zero _)
    | succ n ih =>
      intro r hr hn
      rw [X15_differs_B82]
      rw [G_t s.c195, C.r4, G_t C.q.s.c, C.q.r]
      rcases Nat.lt_or_ge r (p.1 1 0) with hlt | hge
      · rw [if_neg (by rw [nI_lI (by omega) (by omega)]; omega), isThere_m s (by decide) (by omega) (by omega) (by omega), BN_ok, t1.T t m ht hm r (by omega), isThere_m s (by decide) (by omega) (by omega) (by omega), BN_ok, t2.T t m ht hm r (by omega), G_t s.c195, G_t s.c195, show 10 - r = (10 - (r + 1)) + 1 by omega, fsF]
        have dx : dfX p f g t m r = (Tz p f t m r ^^ Tz p g t m r) := by unfold dfX; rw [decide_eq_true hlt]; rfl
        have b163 : ∀ v, X15_differs_B163 v 195 h = some (v, pI (pI h 195 1 (nI 0)) 195 2 (-1)) := fun v => by
          unfold X15_differs_B163
          rw [G_t s.c195, done_m s, BN_ok]
        have b124 : X15_differs_B124 195 (nI w) (nI t) (nI m) (nI r) (bI (Tz p f t m r)) h = some (dfV w (Tz p f) (some (t, m, r)), pI (pI h 195 1 (nI 0)) 195 2 (-1)) := by
          unfold X15_differs_B124
          rw [b163, b163, b163, b163, b163]
          have w4 : w = 0 ∨ w = 1 ∨ w = 2 ∨ w = 3 := by omega
          rcases w4 with rfl | rfl | rfl | rfl
          · rfl
          · rfl
          · rfl
          · show _ = some (bI (Tz p f t m r), pI (pI h 195 1 (nI 0)) 195 2 (-1))
            cases Tz p f t m r <;> rfl
        rw [dx, b124]
        have nx := ih (r + 1) (by omega) (by omega)
        rw [LT_e, nI_add]
        cases Tz p f t m r <;> cases Tz p g t m r
        · rw [if_pos rfl, nx]; rfl
        · rw [if_neg (by decide)]; rfl
        · rw [if_neg (by decide)]; rfl
        · rw [if_pos rfl, nx]; rfl
      · have : r = p.1 1 0 := by omega
        subst this
        rw [if_pos (by rw [nI_lI (by omega) (by omega)]; omega), fsF_none (X := dfX p f g t m) (10 - p.1 1 0) (p.1 1 0) (fun j h1 _ => by unfold dfX; rw [decide_eq_false (by omega)]; rfl)]
        unfold X15_differs_B173
        rw [LT_e, nI_add]
  have inner : ∀ (K : Nat → Int32 → Int32 → AH → Option (Int32 × AH)) t, t ≤ pl p → ∀ n m, m ≤ p.1 0 0 → p.1 0 0 - m < n → X15_differs_B67 K n 195 (nI w) (nI t) (nI m) h = match dfM (dfX p f g) t m (p.1 0 0 - m) with
      | some y => some (dfV w (Tz p f) (some y), pI (pI h 195 1 (nI 0)) 195 2 (-1))
      | none => K 195 (nI w) (nI (t + 1)) h := by
    intro K t ht n
    induction n with
    | zero => intro m _ hn; exact absurd hn (Nat.not_lt_zero _)
    | succ n ih =>
      intro m hm hn
      rw [X15_differs_B67]
      rw [G_t s.c195, C.r4, G_t C.q.s.c, C.q.m]
      rcases Nat.lt_or_ge m (p.1 0 0) with hlt | hge
      · rw [if_neg (by rw [nI_lI (by omega) (by omega)]; omega), rows K (X15_differs_B67 K n) t ht m hlt FU 0 (Nat.zero_le _) (FU_gt (by omega)), show p.1 0 0 - m = (p.1 0 0 - (m + 1)) + 1 by omega, dfM, Nat.sub_zero]
        unfold fsT
        cases e : fsF (dfX p f g t m) 0 10 with
        | some y => rfl
        | none => exact ih (m + 1) (by omega) (by omega)
      · have : m = p.1 0 0 := by omega
        subst this
        rw [Nat.sub_self, dfM, if_pos (by rw [nI_lI (by omega) (by omega)]; omega)]
        unfold X15_differs_B179
        rw [LT_e, nI_add]
  have outer : ∀ n t, t ≤ pl p + 1 → pl p + 1 - t < n → X15_differs_B56 n 195 (nI w) (nI t) h = some (dfV w (Tz p f) (dfT (dfX p f g) (p.1 0 0) t (pl p + 1 - t)), pI (pI h 195 1 (nI 0)) 195 2 (-1)) := by
    intro n
    induction n with
    | zero => intro m _ hn; exact absurd hn (Nat.not_lt_zero _)
    | succ n ih =>
      intro t ht hn
      rw [X15_differs_B56]
      rw [G_t s.c195, C.l]
      rcases Nat.lt_or_ge (pl p) t with hlt | hge
      · rw [if_pos (by rw [nI_tI (by omega) (by omega)]; exact hlt), show pl p + 1 - t = 0 by omega, dfT]
        unfold X15_differs_B185
        rw [G_t s.c195, done_m s, BN_ok]; rfl
      · rw [if_neg (by rw [nI_tI (by omega) (by omega)]; omega), inner (X15_differs_B56 n) t hge FU 0 (Nat.zero_le _) (FU_gt (by omega)), show pl p + 1 - t = (pl p + 1 - (t + 1)) + 1 by omega, dfT, Nat.sub_zero]
        cases e : dfM (dfX p f g) t 0 (p.1 0 0) with
        | some y => rfl
        | none => exact ih (t + 1) (by omega) (by omega)
  exact outer FU 0 (Nat.zero_le _) (FU_gt (by omega))
theorem pr_differs {h : AH} {bo : Bool} {p : PR} {b m z : Nat} {l lm : List Nat} {s : LLn} {r : NN_} {lo lx : List Nat} (i : INV h bo p b m z l lm s r lo lx) (x : Int32) : Pair (X11_differs_f 1 x) (X15_differs_f 195 x) h := by
  have gi := fun (v : Int32) => (i.g.i (a := 1) (k := 15) (v := v))
  have b16 : X11_differs_B16 1 h = some (-1, pI h 1 15 (nI 1)) := by
    unfold X11_differs_B16
    rw [G_t i.g.c1, refuse_c i.g, BN_ok]
  have b21 : X15_differs_B21 195 (pI (pI h 1 15 (nI 1)) 195 0 (nI 0)) = some (-1, pI (pI (pI (pI h 1 15 (nI 1)) 195 0 (nI 0)) 195 1 (nI 1)) 195 2 (-1)) := by
    unfold X15_differs_B21
    rw [G_t (gi _).i.c195, refused_m (gi _).i, BN_ok]
  cases bo
  · have hr := (i.b.b0 rfl).mr
    refine Pair.no i (nI 1) (-1) n4_1 ?_ ?_
    · unfold X11_differs_f
      rw [G_t i.g.c1, i.q.hb, if_pos (by decide), b16]
    · unfold X15_differs_f
      rw [G_t (gi _).c195, LT_e, G_t (gi _).i.c195, xR_pI, xR_pI, if_pos hr, b21]
  · have hr := mr_ne i rfl
    have B := i.b.b1 rfl
    rcases in_m (x := x) (a := 0) (c := 3) (h := pI (pI h 1 15 (nI 1)) 195 0 (nI 0)) (by decide) (by decide) with ⟨w, _, hw, rfl, _⟩ | ⟨bad, em⟩
    · obtain ⟨h1, e1, F1, t1⟩ := q_play i rfl
      have g1 := i.g.fq F1
      have Fs1 : Fz (SCR m) h h1 := F1.scr (by intro a q; omega)
      obtain ⟨h2, e2, F2, t2⟩ := q_play0 i rfl Fs1
      have g2 := g1.fq F2
      have Fs2 : Fz (SCR m) h h2 := Fs1.tr (F2.scr (by intro a q; omega))
      have B2 := (i.b.fz Fs2 (fun a k q => sB_ q) i.bb).b1 rfl
      have e3 := differs_c (w := w) g2 B2.w B2.q B2.x (t1.fq F2 (fun k hk => by omega)) t2 hw
      have FF : Fz (SCR m) h (pI (pI h2 1 15 (nI 0)) 195 0 (nI 0)) := (Fs2.tr (Fz.i scA)).tr (Fz.i sc0)
      have gg := i.g.fz FF
      obtain ⟨k2, e4, F4, s4⟩ := q_runs i rfl FF
      have g4 := gg.fr F4
      have Fs4 : Fz (SCR m) h k2 := FF.tr (F4.q.scr (by intro a q; omega))
      obtain ⟨k3, e5, F5, o5, s5⟩ := q_runs0 i rfl Fs4 1 (by decide)
      have g5 := g4.fr F5
      have Fs5 : Fz (SCR m) h k3 := Fs4.tr (F5.q.scr (by intro a q; omega))
      have B5 := (i.b.fz Fs5 (fun a k q => sB_ q) i.bb).b1 rfl
      have s4' := o5 0 p (flOf l) (by decide) B.q.w.m B.q.w.s B.x s4
      have e6 := differs_m (w := w) (B5.mox g5) s4' s5 hw
      have hr2 : ¬ xR (pI (pI h2 1 15 (nI 0)) 195 0 (nI 0)) 195 4 = 0 := by rw [FF.r _ (by decide)]; exact hr
      have ml : xI (pI (pI h2 1 15 (nI 0)) 195 0 (nI 0)) 195 16 = nI l.length := (i.f.fz FF (fun a k q => sF_ q)).m
      have iny : ∀ k, X15_in_f (nI w) (nI 0) (nI 3) k = some (nI 1, k) := fun k => by
        unfold X15_in_f
        rw [if_neg (by rw [nI_tI (by omega) (by omega)]; omega), if_neg (by rw [nI_tI (by omega) (by omega)]; omega)]
      refine ⟨dfV w (Tz p (flOf l)) (dfT (dfX p (flOf l) (flOf [])) (p.1 0 0) 0 (pl p + 1)), pI h2 1 15 (nI 0), pI (pI k3 195 1 (nI 0)) 195 2 (-1), ?_, g2.i.c195, ?_, ⟨_, _, _, _, _, _, _, _, _, _, _, i.fin Fs5 n4_0 (by rw [F5.I _ (by decide), F4.I _ (by decide), xI_ne (by omega), xI_self])⟩, by show xn k3 ≤ _; rw [Fs5.n]; omega, by show xs k3 ≤ _; rw [Fs5.s]; omega⟩
      · unfold X11_differs_f
        rw [G_t i.g.c1, i.q.hb, if_neg (by decide), if_neg (nI_pos (by omega)), if_pos (by rw [nI_lI (by omega) (by omega)]; exact hw), G_t i.g.c1, i.g.r1_8, G_t i.g.c145, i.g.r1_1, i.g.r1_3, i.g.r1_9, e1, BN_ok, G_t g1.c1, g1.r1_8, G_t g1.c145, g1.r1_1, g1.r1_4, g1.r1_10, e2, BN_ok]
        exact e3
      · unfold X15_differs_f
        rw [G_t g2.i.c195, LT_e, G_t gg.c195, if_neg hr2, iny, BN_ok, if_neg (by decide), G_t gg.c195, gg.r195_20, ml, e4, BN_ok, G_t g4.c195, g4.r195_20, e5, BN_ok]
        exact e6
    · refine Pair.no i (nI 1) (-1) n4_1 ?_ ?_
      · unfold X11_differs_f
        rw [G_t i.g.c1, i.q.hb, if_neg (by decide), b16]
        by_cases q0 : x < 0
        · rw [if_pos q0]
        · rw [if_neg q0, if_neg (fun c => by
            rcases bad with q | q
            · exact q0 q
            · exact absurd c (Int32.not_le.mpr q))]
      · unfold X15_differs_f
        rw [G_t (gi _).c195, LT_e, G_t (gi _).i.c195, xR_pI, xR_pI, if_neg hr, em, BN_ok, if_pos nI_0, b21]
