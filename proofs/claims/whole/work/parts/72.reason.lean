theorem Sts_eq {h h' : AH} (e1 : xI h' 1 15 = xI h 1 15) (e2 : xI h' 1 17 = xI h 1 17) (e3 : xI h' 195 1 = xI h 195 1) (e4 : xI h' 195 2 = xI h 195 2) (s : Sts h) : Sts h' := by
  unfold Sts at *
  rw [e1, e2, e3, e4]; exact s
theorem isMach_y {h : AH} {p : PR} {b m j : Nat} (g : SG h) (B : Bk1 h p b m) (hj : j < p.1 0 0) : X15_isMachine_f 195 (nI j) h = some (nI 1, h) := by
  have := B.q.w.m
  have := B.mq.s.lo
  unfold X15_isMachine_f
  rw [G_t g.c195, B.mr, if_neg (by omega), if_neg (nI_pos (by omega)), G_t g.c195, G_t B.mq.s.c, B.mq.m, if_neg (by rw [nI_lI (by omega) (by omega)]; omega)]
theorem inTick_y {h : AH} {p : PR} {b m j : Nat} (B : Bk1 h p b m) (hj : j ≤ pl p) : X15_in_f (nI j) (nI 0) (xI h 195 14) h = some (nI 1, h) := by
  have := B.x
  unfold X15_in_f
  rw [B.l, if_neg (by rw [nI_tI (by omega) (by omega)]; omega), if_neg (by rw [nI_tI (by omega) (by omega)]; omega)]
theorem wp_valid {h : AH} {bo : Bool} {p : PR} {b m z : Nat} {l lm : List Nat} {s : LLn} {r : NN_} {lo lx : List Nat} (i : INV h bo p b m z l lm s r lo lx) (hb : bo = true) {r' n' u : Nat} (hr : r' < p.1 1 0) (hn : n' < p.1 0 0) (hu : u ≤ pl p) : X11_wrongPlace_f 1 (nI r') (nI n') (nI u) h = some (nI 0, h) := by
  have B := i.b.b1 hb
  have y1 := isRow_y i.g B hr
  have y2 := isMach_y i.g B hn
  have y3 := inTick_y B hu
  have ne : (some (nI 1, h) : Option (Int32 × AH)) = some (nI 0, h) → False := fun e => by
    injection e with e
    injection e with e _
    exact absurd e (by decide)
  rcases place_chk i (nI r') (nI n') (nI u) with ⟨_, _, _, _, _, _, _, _, _, _, ew, _⟩ | ⟨_, em | em⟩ | ⟨_, em⟩
  · exact ew
  · exact (ne (y1.symm.trans (em h Fz.rf))).elim
  · exact (ne (y2.symm.trans (em h Fz.rf).2)).elim
  · exact (ne (y3.symm.trans (em h Fz.rf).2.2)).elim
theorem Fz.st {A : Nat → Nat → Prop} {h h' : AH} (F : Fz A h h') (n : ∀ a k, a = 1 ∨ a = 195 ∧ (k = 1 ∨ k = 2) → ¬ A a k) (s : Sts h) : Sts h' := Sts_eq (F.I (n _ _ (by omega))) (F.I (n _ _ (by omega))) (F.I (n _ _ (by omega))) (F.I (n _ _ (by omega))) s
/-- the reference's half -/
theorem reason_m {h : AH} {bo : Bool} {p : PR} {b m z : Nat} {l lm : List Nat} {s : LLn} {r : NN_} {lo lx : List Nat} (i : INV h bo p b m z l lm s r lo lx) (hb : bo = true) {r' n' u : Nat} (j : Int32) (hr : r' < p.1 1 0) (hn : n' < p.1 0 0) (hu : u ≤ pl p) : ∃ v h2, X15_reason_f 195 (nI r') (nI n') (nI u) j h = some (v, h2) ∧ Fz (SCR m) h h2 ∧ INV h2 bo p b m z l lm s r lo lx ∧ (∀ k, xL h2 226 k = xL h 226 k) ∧ ((¬ j < 0 ∧ j < nI (rTo p (flOf l) r' n' u).length) ∧ xI h2 195 0 = nI 0 ∧ v = nI ((rTo p (flOf l) r' n' u).getD j.toNatClampNeg 0) ∨ ¬ (¬ j < 0 ∧ j < nI (rTo p (flOf l) r' n' u).length) ∧ xI h2 195 0 = nI 1) := by
  have len := rTo_len (p := p) (f := flOf l) (r := r') (m := n') (t := u) (i.b.b1 hb).q.w
  have FF : Fz (SCR m) h (pI h 195 0 (nI 1)) := Fz.i sc0
  have gg := i.g.fz FF
  have B0 := (i.b.fz FF (fun a k q => sB_ q) i.bb).b1 hb
  obtain ⟨k2, e3, F3, s3⟩ := q_runs i hb FF
  have g3 := gg.fr F3
  have Fs3 : Fz (SCR m) h k2 := FF.tr (F3.q.scr (by intro a q; omega))
  have B3 := (i.b.fz Fs3 (fun a k q => sB_ q) i.bb).b1 hb
  obtain ⟨k4, e4, F4, c4⟩ := mlist_ok (r := r') (m := n') (t := u) (b := m) (k := 0) ⟨B3.mox g3, s3, by decide⟩ hr hn hu
  have g4 := g3.fz F4
  have Fs4 : Fz (SCR m) h k4 := Fs3.tr (F4.mo (fun a k q => by unfold LmA at q; unfold SCR; omega))
  have ml : xI (pI h 195 0 (nI 1)) 195 16 = nI l.length := (i.f.fz FF (fun a k q => sF_ q)).m
  have nz : xI k4 195 0 = nI 1 := by rw [F4.I (by unfold LmA; omega), F3.I _ (by decide), xI_self]
  have st4 : Sts k4 := F4.st (fun a k q => by unfold LmA; omega) (F3.q.f.st (fun a k q => by omega) ((Fz.i (A := fun a k => a = 195 ∧ k = 0) ⟨rfl, rfl⟩ : Fz _ h (pI h 195 0 (nI 1))).st (fun a k q => by omega) i.st))
  have ol : ∀ k, xL k4 226 k = xL h 226 k := fun k => by rw [F4.L (by unfold LmA; omega), F3.L _ (by decide)]; rfl
  have run : X15_reason_f 195 (nI r') (nI n') (nI u) j h = if j < 0 then some (nI 0, k4) else G (xc k4 195 = 15) (if j < xI k4 195 33 then G (xc k4 195 = 15) (LT (pI k4 195 0 (nI 0)) fun h19 => G (xc h19 195 = 15) (G (xc h19 (xR h19 195 34) = 16) (G (gx j (xz h19 (xR h19 195 34))) (some (xI h19 (xR h19 195 34) j.toNatClampNeg, h19))))) else some (nI 0, k4)) := by
    unfold X15_reason_f
    rw [G_t i.g.c195, LT_e, G_t gg.c195, isRow_y gg B0 hr, BN_ok, if_neg (by decide), G_t gg.c195, isMach_y gg B0 hn, BN_ok, if_neg (by decide), G_t gg.c195, inTick_y B0 hu, BN_ok, if_neg (by decide), G_t gg.c195, gg.r195_20, ml, e3, BN_ok, G_t g3.c195, e4, BN_ok]
  by_cases j0 : j < 0
  · exact ⟨nI 0, k4, by rw [run, if_pos j0], Fs4, i.fz Fs4 st4, ol, .inr ⟨fun c => c.1 j0, nz⟩⟩
  · rw [if_neg j0, G_t g4.c195, c4.1] at run
    by_cases j1 : j < nI (rTo p (flOf l) r' n' u).length
    · obtain ⟨q, hq, rfl⟩ := nI_of j0
      have q1 : q < (rTo p (flOf l) r' n' u).length := by rw [nI_tI hq (by omega)] at j1; exact j1
      have F5 : Fz (SCR m) h (pI k4 195 0 (nI 0)) := Fs4.tr (Fz.i sc0)
      have g5 := i.g.fz F5
      have v5 := c4.2 q q1
      rw [Nat.zero_add] at v5
      have cl : (nI q).toNatClampNeg = q := nI_cl (by omega)
      rw [if_pos j1, G_t g4.c195, LT_e, G_t g5.c195, g5.r195_34, G_t g5.c215, g5.z215, G_gx (by omega) (by omega), cl, xI_ne (by omega), v5] at run
      refine ⟨_, _, run, F5, i.fz F5 (Sts_eq (xI_ne (by omega)) (xI_ne (by omega)) (xI_ne (by omega)) (xI_ne (by omega)) st4), ol, .inl ⟨⟨j0, j1⟩, xI_self, by rw [cl]⟩⟩
    · rw [if_neg j1] at run
      exact ⟨nI 0, k4, run, Fs4, i.fz Fs4 st4, ol, .inr ⟨fun c => j1 c.2, nz⟩⟩
