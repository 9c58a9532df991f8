theorem xc_new {h : AH} {c w : Nat} : xc (pN h c w) (xn h) = c := if_pos rfl
theorem BC_l {α β : Type} {g : Nat} {a : β} {h : AH} {k : β → AH → Option (α × AH)} {kh : Nat → AH → Option (α × AH)} : BC g (some (.inl a, h)) k kh = k a h := rfl
theorem BC_r {α β : Type} {g a : Nat} {h : AH} {k : β → AH → Option (α × AH)} {kh : Nat → AH → Option (α × AH)} (e : xc h a = g) : BC g (some (.inr a, h)) k kh = kh a h := by
  show G (xc h a = g) (kh a h) = _
  rw [G_t e]
theorem pr_reason {h : AH} {bo : Bool} {p : PR} {b m z : Nat} {l lm : List Nat} {s : LLn} {r : NN_} {lo lx : List Nat} (i : INV h bo p b m z l lm s r lo lx) (x y t j : Int32) : PairT (L_reason_f 1 x y t j 226) (X15_reason_f 195 x y t j) h := by
  -- a wrong place
  have bad : ∀ v3 : Int32, v3 ≠ 0 → X11_wrongPlace_f 1 x y t h = some (v3, h) → PairT (L_reason_f 1 x y t j 226) (X15_reason_f 195 x y t j) h := fun v3 hv ew => by
    have i1 := i.ge (Ge.pN (c := 99) (w := 6))
    have g1 := i1.g
    have FF : Fz (SCR m) (pN h 99 6) (pI (pN h 99 6) 195 0 (nI 1)) := Fz.i sc0
    have gg := g1.fz FF
    refine ⟨nI 1, nI 0, pN h 99 6, pI (pN h 99 6) 195 0 (nI 1), ?_, g1.c195, ?_, xI_self, fun e => absurd e (by decide), ⟨bo, p, b, m, z, l, lm, s, r, lo, lx, i1.t0⟩, Nat.add_le_add_left (by decide) _, Nat.add_le_add_left (by decide) _⟩
    · unfold L_reason_f X11_reason_f
      rw [G_t i.g.c1, G_t i.g.c1, ew, BN_ok, if_neg hv, BC_r xc_new]
    · unfold X15_reason_f
      rcases place_chk i1 x y t with ⟨r', n', u, hb, hr, hn, hu, rfl, rfl, rfl, _, _⟩ | ⟨_, em | em⟩ | ⟨_, em⟩
      · have := wp_valid i hb hr hn hu
        rw [ew] at this
        injection this with this
        injection this with this _
        exact absurd this hv
      · rw [G_t g1.c195, LT_e, G_t gg.c195, em _ FF, BN_ok, if_pos nI_0]
      · rw [G_t g1.c195, LT_e, G_t gg.c195, (em _ FF).1, BN_ok, if_neg (by decide), G_t gg.c195, (em _ FF).2, BN_ok, if_pos nI_0]
      · rw [G_t g1.c195, LT_e, G_t gg.c195, (em _ FF).1, BN_ok, if_neg (by decide), G_t gg.c195, (em _ FF).2.1, BN_ok, if_neg (by decide), G_t gg.c195, (em _ FF).2.2, BN_ok, if_pos nI_0]
  rcases place_chk i x y t with ⟨r', n', u, rfl, hr, hn, hu, rfl, rfl, rfl, ew, em⟩ | ⟨ew, em⟩ | ⟨ew, em⟩
  · have B := i.b.b1 rfl
    have hx := B.x
    have len := rTo_len (p := p) (f := flOf l) (r := r') (m := n') (t := u) B.q.w
    obtain ⟨h1, e1, F1, t1⟩ := q_play i rfl
    have g1 := i.g.fq F1
    have Fs1 : Fz (SCR m) h h1 := F1.scr (by intro a q; omega)
    have B1 := (i.b.fz Fs1 (fun a k q => sB_ q) i.bb).b1 rfl
    obtain ⟨h2, e2, F2, c2⟩ := list_ok (r := r') (m := n') (t := u) (b := b) ⟨t1, B1.w, B1.q, hx⟩ hr hn hu
    have g2 := g1.fz F2
    have Fs2 : Fz (SCR m) h h2 := Fs1.tr (F2.mo (fun a k q => by unfold LrA at q; unfold SCR; omega))
    have st2 : Sts h2 := F2.st (fun a k q => by unfold LrA; omega) (F1.f.st (fun a k q => by omega) i.st)
    have i2 : INV h2 true p b m z l lm s r lo lx := i.fz Fs2 st2
    have run : X11_reason_f 1 (nI r') (nI n') (nI u) j h = if j < 0 then X11_reason_B68 h2 else G (xc h2 1 = 11) (G (xc h2 182 = 8) (if j < nI (rTo p (flOf l) r' n' u).length then G (xc h2 1 = 11) (G (xc h2 182 = 8) (G (xc h2 (xR h2 182 4) = 16) (G (gx j (xz h2 (xR h2 182 4))) (some (.inl (xI h2 (xR h2 182 4) j.toNatClampNeg), h2))))) else X11_reason_B68 h2)) := by
      unfold X11_reason_f
      rw [G_t i.g.c1, ew, BN_ok, if_pos nI_0, G_t i.g.c1, i.g.r1_8, G_t i.g.c145, i.g.r1_1, i.g.r1_3, i.g.r1_9, e1, BN_ok, G_t g1.c1, g1.r1_9, G_t g1.c182, g1.r1_1, e2, BN_ok, g2.r1_9, c2.1]
    by_cases jj : ¬ j < 0 ∧ j < nI (rTo p (flOf l) r' n' u).length
    · obtain ⟨q, hq, rfl⟩ := nI_of jj.1
      have q1 : q < (rTo p (flOf l) r' n' u).length := by have := jj.2; rw [nI_tI hq (by omega)] at this; exact this
      have cl : (nI q).toNatClampNeg = q := nI_cl (by omega)
      have v2 := c2.2 q q1
      have r2 : xR h2 182 4 = 182 + 5 := g2.r182_4
      rw [if_neg jj.1, G_t g2.c1, G_t g2.c182, if_pos jj.2, G_t g2.c1, G_t g2.c182, r2, G_t g2.c187, g2.z187, G_gx (by omega) (by omega), cl, v2] at run
      obtain ⟨h3, h3e⟩ : ∃ h3, h3 = pL h2 226 0 (nI ((rTo p (flOf l) r' n' u).getD q 0)).toInt64 := ⟨_, rfl⟩
      have F3 : Fz (SCR m) h2 h3 := by rw [h3e]; exact Fz.l (by unfold SCR; omega)
      have i3 : INV h3 true p b m z l lm s r lo lx := i2.fz F3 (by rw [h3e]; exact st2)
      have g3 := i3.g
      obtain ⟨v, h4, m1, F4, i4, ol, m3⟩ := reason_m i3 rfl (nI q) hr hn hu
      refine ⟨nI 0, v, h3, h4, ?_, g3.c195, m1, ?_, fun _ => ?_, ⟨_, _, _, _, _, _, _, _, _, _, _, i4⟩, by rw [F4.n, F3.n, Fs2.n]; omega, by rw [F4.s, F3.s, Fs2.s]; omega⟩
      · unfold L_reason_f
        rw [G_t i.g.c1, run, BC_l, G_t g2.c226, g2.z226, G_gx (by omega) (by omega), LT_e, nI_cl (by omega), h3e]
      · rcases m3 with m3 | m3
        · exact m3.2.1
        · exact absurd jj m3.1
      · rcases m3 with m3 | m3
        · rw [ol, h3e, xL_pL, if_pos ⟨rfl, rfl⟩, m3.2.2, cl]
        · exact absurd jj m3.1
    · have thr : X11_reason_f 1 (nI r') (nI n') (nI u) j h = some (.inr (xn h2), pN h2 99 6) := by
        rw [run]
        by_cases j0 : j < 0
        · rw [if_pos j0]; rfl
        · rw [if_neg j0, G_t g2.c1, G_t g2.c182, if_neg (fun c => jj ⟨j0, c⟩)]; rfl
      have i3 := i2.ge (Ge.pN (c := 99) (w := 6))
      obtain ⟨v, h4, m1, F4, i4, ol, m3⟩ := reason_m i3 rfl j hr hn hu
      have n4 : xn h4 = xn h2 + 1 := F4.n
      have s4 : xs h4 = xs h2 + 6 := F4.s
      refine ⟨nI 1, v, pN h2 99 6, h4, ?_, i3.g.c195, m1, ?_, fun e => absurd e (by decide), ⟨_, _, _, _, _, _, _, _, _, _, _, i4⟩, by rw [n4, Fs2.n]; omega, by rw [s4, Fs2.s]; omega⟩
      · unfold L_reason_f
        rw [G_t i.g.c1, thr, BC_r xc_new]
      · rcases m3 with m3 | m3
        · exact absurd m3.1 jj
        · exact m3.2
  · exact bad (nI 1) (by decide) ew
  · exact bad (nI 2) (by decide) ew
