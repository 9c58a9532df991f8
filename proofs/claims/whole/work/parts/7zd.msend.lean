/-- the new send's cells -/
def NsA (m i : Nat) : Nat → Nat → Prop := fun x k => TlM x k ∨ (x = m + 10 ∨ x = m + 11 ∨ x = m + 12) ∧ k = i ∨ (x = m + 13 ∨ x = m + 14) ∧ k = 10 + i
theorem nsD {m i x k : Nat} (q : NsA m i x k) : DmA m x k := by
  rcases q with q | q | q
  · exact .inl q
  · exact .inr (by omega)
  · exact .inr (by omega)
theorem ms_dr {h0 h h1 : AH} {m r pl tg : Nat} {B : BK} {N : NmL} {l : CsL} (d : DrM h0 m B N) (u : B 4 0 < 6) (F : Fz (NsA m (B 4 0)) h0 h) (h1e : h1 = pI h m 6 (nI (B 4 0 + 1))) (v : CsM h m (10 + B 4 0) l) (v7 : xI h (m + 10) (B 4 0) = nI r) (v8 : xI h (m + 11) (B 4 0) = nI tg) (v9 : xI h (m + 12) (B 4 0) = nI pl - nI 1) (H : SeH B r pl tg l) : DrM h1 m (seB B r pl tg l) N := by
  have lo := d.q.s.lo
  have un := d.q.w.u
  have s := d.q.s.fz F
  have q := d.q
  have F1 : Fz (fun x k => x = m ∧ k = 6) h h1 := by rw [h1e]; exact Fz.i ⟨rfl, rfl⟩
  have I : ∀ x k, m ≤ x → ¬ (x = m ∧ k = 6 ∨ (x = m + 10 ∨ x = m + 11 ∨ x = m + 12) ∧ k = B 4 0 ∨ (x = m + 13 ∨ x = m + 14) ∧ k = 10 + B 4 0) → xI h1 x k = xI h0 x k := fun x k a1 a2 => by rw [F1.I (by omega), F.I (by unfold NsA TlM StM; omega)]
  have E : ∀ k i, k < 10 → k ≠ 4 → seB B r pl tg l k i = B k i := fun k i a b => seB_e (by omega) (by omega) (by omega) (by omega)
  have P : ∀ k i, 60 ≤ k → seB B r pl tg l k i = B k i := fun k i a => seB_e (by omega) (by omega) (by omega) (by omega)
  have C : ∀ k i, 10 ≤ k ∧ k ≤ 14 → i ≠ 10 + B 4 0 → seB B r pl tg l k i = B k i := fun k i a b => seB_e (by omega) (by omega) (by omega) (by omega)
  have e2 : seB B r pl tg l 2 0 = B 2 0 := E _ _ (by decide) (by decide)
  have e3 : seB B r pl tg l 3 0 = B 3 0 := E _ _ (by decide) (by decide)
  have e6 : seB B r pl tg l 60 0 = B 60 0 := P _ _ (by decide)
  have e7 : seB B r pl tg l 61 0 = B 61 0 := P _ _ (by decide)
  have q1 : IsMB h1 m (seB B r pl tg l) := by
    refine ⟨s.fz F1, WB_s q.w u H, ?_, ?_, ?_, ?_, ?_, by rw [h1e, xI_self, seB_4], ?_, ?_, ?_, fun i hi => ?_, fun i hi => ?_, fun i hi => ?_, fun i hi => ?_, fun i hi => ?_, fun i hi => ?_, fun i hi => ?_, fun i hi => ?_, fun i hi => ?_, fun c hc x hx => ?_, fun c hc x hx => ?_, fun i hi => ?_, fun i hi => ?_, fun i hi => ?_, fun i hi => ?_⟩
    · rw [I _ _ (by omega) (by omega), E _ _ (by decide) (by decide)]; exact q.m
    · rw [I _ _ (by omega) (by omega), E _ _ (by decide) (by decide)]; exact q.r
    · rw [I _ _ (by omega) (by omega), e2]; exact q.f
    · rw [I _ _ (by omega) (by omega), E _ _ (by decide) (by decide)]; exact q.y
    · rw [I _ _ (by omega) (by omega), e3]; exact q.u
    · rw [I _ _ (by omega) (by omega), E _ _ (by decide) (by decide)]; exact q.k
    · rw [I _ _ (by omega) (by omega), e6]; exact q.ne
    · rw [I _ _ (by omega) (by omega), e7]; exact q.no
    · rw [e2] at hi; rw [I _ _ (by omega) (by omega), E _ _ (by decide) (by decide)]; exact q.fw i hi
    · rw [e2] at hi; rw [I _ _ (by omega) (by omega), E _ _ (by decide) (by decide)]; exact q.fm i hi
    · rw [e2] at hi; rw [I _ _ (by omega) (by omega), E _ _ (by decide) (by decide)]; exact q.fy i hi
    · rw [e3] at hi; rw [C _ _ (by decide) (by omega), I _ _ (by omega) (by omega)]; exact q.rr i hi
    · rw [e3] at hi; rw [C _ _ (by decide) (by omega), I _ _ (by omega) (by omega)]; exact q.ra i hi
    · rw [e3] at hi; rw [C _ _ (by decide) (by omega), I _ _ (by omega) (by omega)]; exact q.rn i hi
    · rw [seB_4] at hi
      by_cases j : i = B 4 0
      · rw [j, seB_c (by omega), clB_10, F1.I (by omega)]; exact v7
      · rw [C _ _ (by decide) (by omega), I _ _ (by omega) (by omega)]; exact q.sr i (by omega)
    · rw [seB_4] at hi
      by_cases j : i = B 4 0
      · rw [j, seB_c (by omega), clB_12, F1.I (by omega)]; exact v8
      · rw [C _ _ (by decide) (by omega), I _ _ (by omega) (by omega)]; exact q.st i (by omega)
    · rw [seB_4] at hi
      by_cases j : i = B 4 0
      · rw [j, seB_c (by omega), clB_11, F1.I (by omega)]; exact v9
      · rw [C _ _ (by decide) (by omega), I _ _ (by omega) (by omega)]; exact q.sa i (by omega)
    · rw [seB_4, e3] at hc
      by_cases j : c = 10 + B 4 0
      · rw [j, F1.I (by omega)]
        unfold seB
        rw [askB_u (by decide), clB_ask]; exact v.k x hx
      · rw [I _ _ (by omega) (by omega), askB_cg (C _ _ (by decide) j) (fun i => seB_e (by omega) (by omega) (by omega) (by omega)) (fun i => seB_e (by omega) (by omega) (by omega) (by omega))]; exact q.ka c (by omega) x hx
    · rw [seB_4, e3] at hc
      by_cases j : c = 10 + B 4 0
      · rw [j, F1.I (by omega)]
        unfold seB
        rw [notB_u (by decide), clB_not]; exact v.t x hx
      · rw [I _ _ (by omega) (by omega), notB_cg (C _ _ (by decide) j) (fun i => seB_e (by omega) (by omega) (by omega) (by omega)) (fun i => seB_e (by omega) (by omega) (by omega) (by omega))]; exact q.kn c (by omega) x hx
    · rw [e6] at hi; rw [I _ _ (by omega) (by omega), P _ _ (by decide)]; exact q.er i hi
    · rw [e6] at hi; rw [I _ _ (by omega) (by omega), P _ _ (by decide)]; exact q.ea i hi
    · rw [e7] at hi; rw [I _ _ (by omega) (by omega), P _ _ (by decide)]; exact q.or i hi
    · rw [e7] at hi; rw [I _ _ (by omega) (by omega), P _ _ (by decide)]; exact q.oa i hi
  refine ⟨q1, (d.u.fz F (fun x k q => by unfold NsA TlM StM; omega)).fz F1 (fun x k q => by omega), ?_, ?_, ?_, fun c hc k => ?_⟩
  · rw [E _ _ (by decide) (by decide), E _ _ (by decide) (by decide)]; exact d.l
  · rw [E _ _ (by decide) (by decide), E _ _ (by decide) (by decide)]; exact d.v
  · rw [E _ _ (by decide) (by decide), E _ _ (by decide) (by decide)]; exact d.y
  · rw [seB_4, e3] at k
    rw [I _ _ (by omega) (by omega), I _ _ (by omega) (by omega)]; exact d.k c hc (by omega)
theorem msend_m {h : AH} {T : Nat → Int32} {n p m : Nat} {B : BK} {N : NmL} (c : CfM h T n) (t : CtM h T n p) (d : DrM h m B N) : ∃ r h', X15_readSend_f 195 h = some (r, h') ∧ MnO h h' T n m r (lnS T n B N p) := by
  have lo := d.q.s.lo
  have w3 := d.q.w.s
  have hR : ∀ w, 4 ≤ lkV N w → lkV N w < 99 → lkV N w - 4 < B 1 0 := fun w a e => d.ro a e
  have mN : ∀ x k, TlM x k → NsA m (B 4 0) x k := fun x k q => .inl q
  have mS : ∀ x k, StM x k → NsA m (B 4 0) x k := fun x k q => .inl (.inl q)
  have oN : ∀ x k, x = m ∧ k = 0 ∨ x = m + 1 ∨ x = m + 2 ∨ x = m + 3 → ¬ NsA m (B 4 0) x k := fun x k q => by unfold NsA TlM StM; omega
  unfold X15_readSend_f lnS
  rw [G_t c.g.c195, d.u.r, G_t d.q.s.c, d.q.sn]
  by_cases z : B 4 0 = 6
  · obtain ⟨h1, e1, x1, o1⟩ := mstop (m := m) (B := B) (N := N) (k := 5) Fz.rf c t.a (by decide)
    rw [if_pos (by rw [z]), if_pos z, G_t c.g.c195, e1, BN_ok, G_t x1]
    exact ⟨_, _, rfl, o1⟩
  · have u : B 4 0 < 6 := by omega
    obtain ⟨h1, e1, F1, c1, t1⟩ := next_t c t
    have d1 := d.st F1
    rw [if_neg (by rw [nI_eI (by omega) (by omega)]; exact z), if_neg z, G_t c.g.c195, e1, BN_ok, G_t c1.g.c195, d1.u.r, G_t d1.q.s.c, d1.q.sn, LT_e, d1.q.s.r17]
    generalize nxT T n p = q at *
    obtain ⟨r2, h2, e2, F2, x2, y2⟩ := row_m c1 t1 d1.u
    have Ga : Fz (NsA m (B 4 0)) h h2 := (F1.mo mS).tr (F2.mo mN)
    rw [e2]
    by_cases r : faR T n N q = 0
    · obtain ⟨r2', c2, t2⟩ := x2 r
      have hr := d.ro (faR_0 r).1 (faR_0 r).2
      have s2 := d1.q.s.fz F2
      rw [r2', BX_l, if_pos r, G_t s2.c10, s2.z10, G_gx u (by omega), pI_cl (by omega), LT_e]
      generalize lkV N (wdV T n q) - 4 = rr at *
      unfold lnS1
      obtain ⟨h3, h3e⟩ : ∃ h3, h3 = pI h2 (m + 10) (B 4 0) (nI rr) := ⟨_, rfl⟩
      have F3 : Fz (fun x k => x = m + 10 ∧ k = B 4 0) h2 h3 := by rw [h3e]; exact Fz.i ⟨rfl, rfl⟩
      have c3 := c2.dm (m := m) F3 (fun x k q => by omega) lo
      have t3 := t2.dm (m := m) F3 (fun x k q => by omega) lo
      have Gb := Ga.tr (F3.mo (fun x k q => .inr (.inl (by omega))))
      obtain ⟨r4, h4, e4, F4, x4, y4⟩ := need_m c3 t3 (show 16 < 17 by decide)
      have Gc := Gb.tr (F4.mo mN)
      have b4 : BkM h4 m N := d.u.fz Gc oN
      rw [← h3e, G_t c3.g.c195, e4]
      generalize nxT T n q = q2 at *
      by_cases o : faW T n q2 16 = 0
      · obtain ⟨r4', c4, t4⟩ := x4 o
        rw [r4', BX_l, if_pos o, G_t c4.g.c195, b4.r, G_t b4.s.c, b4.s.r18]
        unfold lnS2
        obtain ⟨r5, h5, e5, F5, x5, y5⟩ := mach_m c4 t4 b4
        have Gd := Gc.tr (F5.mo mN)
        rw [e5]
        generalize nxT T n q2 = q3 at *
        by_cases g : faM T n N q3 = 0
        · obtain ⟨r5', c5, t5⟩ := x5 g
          have g4 := faM_0 g
          have mb := d.ma g4
          have s5 := b4.s.fz F5
          rw [r5', BX_l, if_pos g, G_t s5.c11, s5.z11, G_gx u (by omega), pI_cl (by omega), LT_e]
          generalize lkV N (wdV T n q3) = tg at *
          unfold lnS3
          obtain ⟨h6, h6e⟩ : ∃ h6, h6 = pI h5 (m + 11) (B 4 0) (nI tg) := ⟨_, rfl⟩
          have F6 : Fz (fun x k => x = m + 11 ∧ k = B 4 0) h5 h6 := by rw [h6e]; exact Fz.i ⟨rfl, rfl⟩
          have c6 := c5.dm (m := m) F6 (fun x k q => by omega) lo
          have t6 := t5.dm (m := m) F6 (fun x k q => by omega) lo
          have Ge := Gd.tr (F6.mo (fun x k q => .inr (.inl (by omega))))
          obtain ⟨r7, h7, e7, F7, x7, y7⟩ := need_m c6 t6 (show 4 < 17 by decide)
          have Gf := Ge.tr (F7.mo mN)
          have b7 : BkM h7 m N := d.u.fz Gf oN
          rw [← h6e, G_t c6.g.c195, e7]
          generalize nxT T n q3 = q4 at *
          by_cases i : faW T n q4 4 = 0
          · obtain ⟨r7', c7, t7⟩ := x7 i
            obtain ⟨s1, s2', s3⟩ := csX_ok (T := T) (n := n) (no := true) hR 3 (nxT T n q4)
            have M : ∀ k, xI h7 (m + 13) k = xI h (m + 13) k ∧ xI h7 (m + 14) k = xI h (m + 14) k := fun k => by
              constructor
              · rw [F7.I (nTl lo (by omega)), F6.I (by omega), F5.I (nTl lo (by omega)), F4.I (nTl lo (by omega)), F3.I (by omega), F2.I (nTl lo (by omega)), F1.I (nSt lo (by omega))]
              · rw [F7.I (nTl lo (by omega)), F6.I (by omega), F5.I (nTl lo (by omega)), F4.I (nTl lo (by omega)), F3.I (by omega), F2.I (nTl lo (by omega)), F1.I (nSt lo (by omega))]
            have v7 : CsM h7 m (10 + B 4 0) [] := cs_nil (by rw [(M _).1, (M _).2]; exact d.k _ (by omega) (by have := d.q.w.u; omega))
            obtain ⟨r8, h8, e8, F8, x8, y8⟩ := cases_m (T := T) (n := n) (m := m) (c := 10 + B 4 0) (N := N) (no := true) (by omega) 3 0 [] h7 (nxT T n q4) FU rfl (FU_gt (by decide)) c7 t7 b7 v7
            rw [List.nil_append] at x8
            have e8' : X15_readCases_B5 FU 195 (nI (10 + B 4 0)) (nI 1) (nI 0) (nI 1) h7 = some (r8, h8) := e8
            unfold X15_readCases_f lnS4
            rw [r7', BX_l, if_pos i, G_t c7.g.c195, nI_add, e8']
            generalize csX T n N true 3 (nxT T n q4) = x at *
            have Gg : Fz (NsA m (B 4 0)) h h8 := Gf.tr (F8.mo (fun x k q => by
              rcases q with q | q
              · exact .inl q
              · exact .inr (.inr (by unfold MkM at q; omega))))
            by_cases y : x.1 = 0
            · obtain ⟨r8', c8, t8, v8⟩ := x8 y
              obtain ⟨r9, h9, e9, F9, x9, y9⟩ := need_m c8 t8 (show 1 < 17 by decide)
              have Gh := Gg.tr (F9.mo mN)
              have b9 : BkM h9 m N := d.u.fz Gh oN
              rw [r8', BX_l, if_pos y, G_t c8.g.c195, e9]
              by_cases j : faW T n x.2.1 1 = 0
              · obtain ⟨r9', c9, t9⟩ := x9 j
                rw [r9', BX_l, if_pos j, G_t c9.g.c195, t9.a, LT_e, b9.r, G_t b9.s.c, b9.s.r19]
                unfold lnS5
                obtain ⟨rA, hA, eA, FA, xA, yA⟩ := mach_m c9 t9 b9
                have Gi := Gh.tr (FA.mo mN)
                rw [eA]
                generalize nxT T n x.2.1 = q5 at *
                by_cases w : faM T n N q5 = 0
                · obtain ⟨rA', cA, tA⟩ := xA w
                  have w4 := faM_0 w
                  have wb := d.ma w4
                  have sA := b9.s.fz FA
                  rw [rA', BX_l, if_pos w, G_t sA.c12, sA.z12, G_gx u (by omega), pI_cl (by omega), LT_e]
                  generalize lkV N (wdV T n q5) = sd at *
                  obtain ⟨hB, hBe⟩ : ∃ hB, hB = pI hA (m + 12) (B 4 0) (nI sd) := ⟨_, rfl⟩
                  have FB : Fz (fun x k => x = m + 12 ∧ k = B 4 0) hA hB := by rw [hBe]; exact Fz.i ⟨rfl, rfl⟩
                  have cB := cA.dm (m := m) FB (fun x k q => by omega) lo
                  have tB := tA.dm (m := m) FB (fun x k q => by omega) lo
                  have Gj := Gi.tr (FB.mo (fun x k q => .inr (.inl (by omega))))
                  have bB : BkM hB m N := d.u.fz Gj oN
                  have v12 : xI hB (m + 12) (B 4 0) = nI sd := by rw [hBe, xI_self]
                  have v11 : xI hB (m + 11) (B 4 0) = nI tg := by rw [FB.I (by omega), FA.I (nTl lo (by omega)), F9.I (nTl lo (by omega)), F8.I (by unfold CmM TlM StM MkM; omega), F7.I (nTl lo (by omega)), h6e, xI_self]
                  have v10 : xI hB (m + 10) (B 4 0) = nI rr := by rw [FB.I (by omega), FA.I (nTl lo (by omega)), F9.I (nTl lo (by omega)), F8.I (by unfold CmM TlM StM MkM; omega), F7.I (nTl lo (by omega)), F6.I (by omega), F5.I (nTl lo (by omega)), F4.I (nTl lo (by omega)), h3e, xI_self]
                  have vB : CsM hB m (10 + B 4 0) x.2.2 := ((v8.fz F9 (fun x k q => nTl lo (by unfold MkM at q; omega))).fz FA (fun x k q => nTl lo (by unfold MkM at q; omega))).fz FB (fun x k q => by unfold MkM at q; omega)
                  rw [← hBe, G_t cB.g.c195, bB.r, G_t bB.s.c, bB.s.r19, G_t bB.s.c12, bB.s.z12, G_gx u (by omega), bB.s.r18, G_t bB.s.c11, bB.s.z11, G_gx u (by omega), xI_cl (by omega), xI_cl (by omega), v12, v11]
                  by_cases eq : sd = tg
                  · rw [if_pos (by rw [eq]), if_pos eq, G_t cB.g.c195, LT_e]
                    obtain ⟨hC, hCe⟩ : ∃ hC, hC = pI hB 195 12 (nI q5) := ⟨_, rfl⟩
                    have FC : Fz StM hB hC := by rw [hCe]; exact Fz.i (by unfold StM; omega)
                    have cC := cB.fz FC (fun x k q => by unfold StM; omega)
                    obtain ⟨hD, eD, xD, oD⟩ := mstop (m := m) (B := B) (N := N) (k := 3) (p := q5) ((Gj.tr (FC.mo mS)).mo (fun x k q => nsD q)) cC (by rw [hCe, xI_self]) (by decide)
                    rw [← hCe, G_t cC.g.c195, eD, BN_ok, G_t xD]
                    exact ⟨_, _, rfl, oD⟩
                  · have x6 : xI hB m 6 = nI (B 4 0) := by rw [Gj.I (by unfold NsA TlM StM; omega)]; exact d.q.sn
                    rw [if_neg (by rw [nI_eI (by omega) (by omega)]; exact eq), if_neg eq, G_t cB.g.c195, G_t bB.s.c, x6, nI_add, LT_e]
                    obtain ⟨hC, hCe⟩ : ∃ hC, hC = pI hB m 6 (nI (B 4 0 + 1)) := ⟨_, rfl⟩
                    have FC : Fz (fun x k => x = m ∧ k = 6) hB hC := by rw [hCe]; exact Fz.i ⟨rfl, rfl⟩
                    have dC := ms_dr (pl := sd + 1) d u Gj hCe vB v10 v11 (by rw [v12, nI_pm (by omega), Nat.add_sub_cancel]) ⟨hr, by omega, s3 y, s1, fun e he => (s2' e he).1, by omega, mb⟩
                    rw [← hCe]
                    exact ⟨_, _, rfl, (Gj.mo (fun x k q => nsD q)).tr (FC.mo (fun x k q => .inr (by omega))), .inr ⟨rfl, rfl, cB.dm (m := m) FC (fun x k q => by omega) lo, tB.dm (m := m) FC (fun x k q => by omega) lo, dC⟩⟩
                · obtain ⟨rA', mA⟩ := yA w
                  rw [rA', BX_r, if_neg w]
                  exact ⟨_, _, rfl, Gi.mo (fun x k q => nsD q), .inl ⟨rfl, w, mA⟩⟩
              · obtain ⟨r9', m9⟩ := y9 j
                rw [r9', BX_r, if_neg j]
                exact ⟨_, _, rfl, Gh.mo (fun x k q => nsD q), .inl ⟨rfl, j, m9⟩⟩
            · obtain ⟨r8', m8⟩ := y8 y
              rw [r8', BX_r, if_neg y]
              exact ⟨_, _, rfl, Gg.mo (fun x k q => nsD q), .inl ⟨rfl, y, m8⟩⟩
          · obtain ⟨r7', m7⟩ := y7 i
            rw [r7', BX_r, if_neg i]
            exact ⟨_, _, rfl, Gf.mo (fun x k q => nsD q), .inl ⟨rfl, i, m7⟩⟩
        · obtain ⟨r5', m5⟩ := y5 g
          rw [r5', BX_r, if_neg g]
          exact ⟨_, _, rfl, Gd.mo (fun x k q => nsD q), .inl ⟨rfl, g, m5⟩⟩
      · obtain ⟨r4', m4⟩ := y4 o
        rw [r4', BX_r, if_neg o]
        exact ⟨_, _, rfl, Gc.mo (fun x k q => nsD q), .inl ⟨rfl, o, m4⟩⟩
    · obtain ⟨r2', m2⟩ := y2 r
      rw [r2', BX_r, if_neg r]
      exact ⟨_, _, rfl, Ga.mo (fun x k q => nsD q), .inl ⟨rfl, r, m2⟩⟩
