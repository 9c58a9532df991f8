def ldL (p : PR) (f : FL) : List Nat := chF (nxC p f) 280 [] (frL p f 0 (p.1 61 0))
theorem ldL_len {p : PR} {f : FL} : (ldL p f).length ≤ 280 := by
  have := chF_len (nx := nxC p f) 280 [] (frL p f 0 (p.1 61 0))
  exact Nat.le_trans this (by decide)
def LeA : Nat → Nat → Prop := fun a k => a = 195 ∧ (k = 0 ∨ k = 33) ∨ a = 215 ∨ a = 223 ∨ (203 ≤ a ∧ a ≤ 205) ∨ (210 ≤ a ∧ a ≤ 214)
theorem led_m {h : AH} {bo : Bool} {p : PR} {b m z : Nat} {l lm : List Nat} {s : LLn} {r : NN_} {lo lx : List Nat} (i : INV h bo p b m z l lm s r lo lx) (hb : bo = true) {x : Int32} (hx0 : ¬ x < 0) : ∃ v h2, X15_led_f 195 x h = some (v, h2) ∧ Fz (SCR m) h h2 ∧ INV h2 bo p b m z l lm s r lo lx ∧ (∀ k, xL h2 226 k = xL h 226 k) ∧ (x < nI (ldL p (flOf l)).length ∧ xI h2 195 0 = nI 0 ∧ v = nI ((ldL p (flOf l)).getD x.toNatClampNeg 0) ∨ ¬ x < nI (ldL p (flOf l)).length ∧ xI h2 195 0 = nI 1) := by
  have FF : Fz (SCR m) h (pI h 195 0 (nI 1)) := Fz.i sc0
  have gg := i.g.fz FF
  have hr := mr_ne i hb
  have B := i.b.b1 hb
  have no := B.q.w.no
  have ll := ldL_len (p := p) (f := flOf l)
  obtain ⟨k2, e2, F2, s2⟩ := q_runs i hb FF
  have g2 := gg.fr F2
  have Fs2 : Fz (SCR m) h k2 := FF.tr (F2.q.scr (by intro a q; omega))
  have B2 := (i.b.fz Fs2 (fun a k q => sB_ q) i.bb).b1 hb
  have C2 : LmX k2 m 0 p (flOf l) := ⟨B2.mox g2, s2, by decide⟩
  have M2 := C2.c
  obtain ⟨k3, e3, F3, m3⟩ := chain_m x 280 [] (frL p (flOf l) 0 (p.1 61 0)) FU k2 (by decide) (FU_gt (by decide)) C2 (fun i hi => absurd hi (Nat.not_lt_zero _)) (fun i j _ hj => absurd hj (Nat.not_lt_zero _)) (fun c hc => absurd hc List.not_mem_nil) (fun c hc => ⟨frL_ok B.q.w _ _ c (by omega) hc, List.not_mem_nil⟩)
  have g3 := g2.fz F3
  have Fa : Fz LeA h k3 := ((Fz.i (by unfold LeA; omega)).tr (F2.q.f.mo (fun a k q => by unfold LeA; omega))).tr (F3.mo (fun a k q => by unfold CmB LmA at q; unfold LeA; omega))
  have sc : ∀ {k}, Fz LeA h k → Fz (SCR m) h k := fun F => F.mo (fun a k q => by unfold LeA at q; unfold SCR; omega)
  have hr2 : ¬ xR (pI h 195 0 (nI 1)) 195 4 = 0 := hr
  have ml : xI (pI h 195 0 (nI 1)) 195 16 = nI l.length := (i.f.fz FF (fun a k q => sF_ q)).m
  have run : X15_led_f 195 x h = X15_led_B195 195 x (nI (ldL p (flOf l)).length) k3 := by
    have fl := firstLink_m x C2 (p.1 61 0) FU (Nat.le_refl _) (FU_gt (by omega))
    rw [Nat.sub_self] at fl
    have fl : X15_led_B46 FU 195 x (-1) (nI (p.1 61 0) - nI 1) k2 = X15_led_B123 195 x (leV (frL p (flOf l) 0 (p.1 61 0))) k2 := fl
    unfold X15_led_f
    rw [G_t i.g.c195, LT_e, G_t gg.c195, if_neg hr2, if_pos (Int32.not_lt.mp hx0), G_t gg.c195, gg.r195_20, ml, e2, BN_ok, G_t g2.c195, M2.r4, G_t M2.q.s.c, M2.q.no, LT_e, fl]
    exact e3
  rw [run]
  unfold X15_led_B195
  by_cases hlt : x < nI (ldL p (flOf l)).length
  · obtain ⟨q, hq, rfl⟩ := nI_of hx0
    have q1 : q < (ldL p (flOf l)).length := by rw [nI_tI hq (by omega)] at hlt; exact hlt
    have F4 : Fz LeA h (pI k3 195 0 (nI 0)) := Fa.tr (Fz.i (by unfold LeA; omega))
    have v1 : xI (pI k3 195 0 (nI 0)) 223 (nI q).toNatClampNeg = nI ((ldL p (flOf l)).getD q 0) := by
      have := m3 q q1
      rw [Nat.zero_add] at this
      rw [nI_cl (by omega), xI_ne (by omega)]; exact this
    refine ⟨nI ((ldL p (flOf l)).getD q 0), pI k3 195 0 (nI 0), ?_, sc F4, i.fz (sc F4) (F4.st (fun a k q => by unfold LeA; omega) i.st), fun k => F4.L (by unfold LeA; omega), .inl ⟨hlt, xI_self, by rw [nI_cl (by omega)]⟩⟩
    rw [if_pos hlt, G_t g3.c195, LT_e, G_t g3.i.c195, g3.i.r195_48, G_t g3.i.c223, g3.i.z223, G_gx (by omega) (by omega), v1]
  · refine ⟨nI 0, k3, by rw [if_neg hlt], sc Fa, i.fz (sc Fa) (Fa.st (fun a k q => by unfold LeA; omega) i.st), fun k => Fa.L (by unfold LeA; omega), .inr ⟨hlt, ?_⟩⟩
    rw [F3.I (by unfold CmB LmA; omega), F2.I _ (by decide), xI_self]
theorem pr_led {h : AH} {bo : Bool} {p : PR} {b m z : Nat} {l lm : List Nat} {s : LLn} {r : NN_} {lo lx : List Nat} (i : INV h bo p b m z l lm s r lo lx) (x : Int32) : PairT (L_led_f 1 x 226) (X15_led_f 195 x) h := by
  have ig := i.ge (Ge.pN (c := 99) (w := 6))
  have thrw : X11_led_f 1 x h = X11_led_B20 h → L_led_f 1 x 226 h = some (nI 1, pN h 99 6) := fun e => by
    unfold L_led_f
    rw [G_t i.g.c1, e]
    unfold X11_led_B20
    rw [BC_r xc_new]
  -- the class throws at once, the reference too
  have early : X11_led_f 1 x h = X11_led_B20 h → (bo = false ∨ x < 0) → PairT (L_led_f 1 x 226) (X15_led_f 195 x) h := fun e c => by
    have gg := ig.g.i (a := 195) (k := 0) (v := nI 1)
    refine ⟨nI 1, nI 0, pN h 99 6, pI (pN h 99 6) 195 0 (nI 1), thrw e, ig.g.c195, ?_, xI_self, fun e => absurd e (by decide), ⟨bo, p, b, m, z, l, lm, s, r, lo, lx, ig.t0⟩, Nat.add_le_add_left (by decide) _, Nat.add_le_add_left (by decide) _⟩
    unfold X15_led_f
    rw [G_t ig.g.c195, LT_e, G_t gg.c195]
    rcases c with c | c
    · rw [xR_pI, if_pos (ig.b.b0 c).mr]
    · by_cases h4 : xR (pI (pN h 99 6) 195 0 (nI 1)) 195 4 = 0
      · rw [if_pos h4]
      · rw [if_neg h4, if_neg (Int32.not_le.mpr c)]
  cases bo
  · refine early ?_ (.inl rfl)
    unfold X11_led_f
    rw [G_t i.g.c1, i.q.hb, if_pos (by decide)]
  · by_cases x0 : x < 0
    · refine early ?_ (.inr x0)
      unfold X11_led_f
      rw [G_t i.g.c1, i.q.hb, if_neg (by decide), if_pos x0]
    · have ll := ldL_len (p := p) (f := flOf l)
      obtain ⟨q, hq, rfl⟩ := nI_of x0
      by_cases q280 : q < 280
      · have B := i.b.b1 rfl
        obtain ⟨h1, e1, F1, t1⟩ := q_play i rfl
        have g1 := i.g.fq F1
        have Fs1 : Fz (SCR m) h h1 := F1.scr (by intro a q; omega)
        have B1 := (i.b.fz Fs1 (fun a k q => sB_ q) i.bb).b1 rfl
        have C1 : LrX h1 b 182 p (flOf l) := ⟨t1, B1.w, B1.q, B.x⟩
        obtain ⟨h2, e2, F2, m2⟩ := chain_c 280 [] (frL p (flOf l) 0 (p.1 61 0)) FU h1 (by decide) (FU_gt (by decide)) C1 g1.c194 g1.z194 (fun i hi => absurd hi (Nat.not_lt_zero _)) (fun c hc => absurd hc List.not_mem_nil) (fun c hc => frL_ok B.q.w _ _ c (by omega) hc)
        have g2 := g1.fz F2
        have Fs2 : Fz (SCR m) h h2 := Fs1.tr (F2.mo (fun a k q => by unfold CaA LrA at q; unfold SCR; omega))
        have st2 : Sts h2 := F2.st (fun a k q => by unfold CaA LrA; omega) (F1.f.st (fun a k q => by omega) i.st)
        have i2 : INV h2 true p b m z l lm s r lo lx := i.fz Fs2 st2
        have fol : X8_followChain_f 182 62 194 h1 = some (nI (ldL p (flOf l)).length, h2) := by
          unfold X8_followChain_f
          rw [G_t C1.t.s.c, firstLink_c C1, BN_ok]; exact e2
        have run : X11_led_f 1 (nI q) h = if nI q < nI (ldL p (flOf l)).length then some (.inl (xI h2 194 (nI q).toNatClampNeg), h2) else some (.inr (xn h2), pN h2 99 6) := by
          unfold X11_led_f
          rw [G_t i.g.c1, i.q.hb, if_neg (by decide), if_neg x0, G_t i.g.c1, i.g.r1_11, G_t i.g.c194, i.g.z194, if_pos (by rw [nI_tI (by omega) (by omega)]; exact q280), G_t i.g.c1, i.g.r1_8, G_t i.g.c145, i.g.r1_1, i.g.r1_3, i.g.r1_9, e1, BN_ok, G_t g1.c1, g1.r1_9, G_t g1.c182, g1.r1_1, g1.r1_11, fol, BN_ok, G_t g2.c1, g2.r1_11, G_t g2.c194, g2.z194, G_gx q280 (by omega)]
        by_cases q1 : q < (ldL p (flOf l)).length
        · have jj : nI q < nI (ldL p (flOf l)).length := by rw [nI_tI (by omega) (by omega)]; exact q1
          have v2 : xI h2 194 (nI q).toNatClampNeg = nI ((ldL p (flOf l)).getD q 0) := by
            have := m2 q q1
            rw [Nat.zero_add] at this
            rw [nI_cl (by omega)]; exact this
          rw [if_pos jj, v2] at run
          obtain ⟨h3, h3e⟩ : ∃ h3, h3 = pL h2 226 0 (nI ((ldL p (flOf l)).getD q 0)).toInt64 := ⟨_, rfl⟩
          have F3 : Fz (SCR m) h2 h3 := by rw [h3e]; exact Fz.l (by unfold SCR; omega)
          have i3 : INV h3 true p b m z l lm s r lo lx := i2.fz F3 (by rw [h3e]; exact st2)
          have g3 := i3.g
          obtain ⟨v, h4, m1, F4, i4, ol, m3⟩ := led_m i3 rfl x0
          refine ⟨nI 0, v, h3, h4, ?_, g3.c195, m1, ?_, fun _ => ?_, ⟨_, _, _, _, _, _, _, _, _, _, _, i4⟩, by rw [F4.n, F3.n, Fs2.n]; omega, by rw [F4.s, F3.s, Fs2.s]; omega⟩
          · unfold L_led_f
            rw [G_t i.g.c1, run, BC_l, G_t g2.c226, g2.z226, G_gx (by omega) (by omega), LT_e, nI_cl (by omega), h3e]
          · rcases m3 with m3 | m3
            · exact m3.2.1
            · exact absurd jj m3.1
          · rcases m3 with m3 | m3
            · rw [ol, h3e, xL_pL, if_pos ⟨rfl, rfl⟩, m3.2.2, nI_cl (by omega)]
            · exact absurd jj m3.1
        · have jj : ¬ nI q < nI (ldL p (flOf l)).length := by rw [nI_tI (by omega) (by omega)]; exact q1
          rw [if_neg jj] at run
          have i3 := i2.ge (Ge.pN (c := 99) (w := 6))
          obtain ⟨v, h4, m1, F4, i4, ol, m3⟩ := led_m i3 rfl x0
          have n4 : xn h4 = xn h2 + 1 := F4.n
          have s4 : xs h4 = xs h2 + 6 := F4.s
          refine ⟨nI 1, v, pN h2 99 6, h4, ?_, i3.g.c195, m1, ?_, fun e => absurd e (by decide), ⟨_, _, _, _, _, _, _, _, _, _, _, i4⟩, by rw [n4, Fs2.n]; omega, by rw [s4, Fs2.s]; omega⟩
          · unfold L_led_f
            rw [G_t i.g.c1, run, BC_r xc_new]
          · rcases m3 with m3 | m3
            · exact absurd m3.1 jj
            · exact m3.2
      · have e : X11_led_f 1 (nI q) h = X11_led_B20 h := by
          unfold X11_led_f
          rw [G_t i.g.c1, i.q.hb, if_neg (by decide), if_neg x0, G_t i.g.c1, i.g.r1_11, G_t i.g.c194, i.g.z194, if_neg (by rw [nI_tI (by omega) (by omega)]; exact q280)]
        obtain ⟨v, h4, m1, F4, i4, ol, m3⟩ := led_m ig rfl x0
        have n4 : xn h4 = xn h + 1 := F4.n
        have s4 : xs h4 = xs h + 6 := F4.s
        refine ⟨nI 1, v, pN h 99 6, h4, thrw e, ig.g.c195, m1, ?_, fun e => absurd e (by decide), ⟨_, _, _, _, _, _, _, _, _, _, _, i4⟩, by omega, by omega⟩
        rcases m3 with m3 | m3
        · exact absurd m3.1 (by rw [nI_tI (by omega) (by omega)]; omega)
        · exact m3.2
