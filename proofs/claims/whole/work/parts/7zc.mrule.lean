/-- the new rule's cells -/
def NrA (m i : Nat) : Nat → Nat → Prop := fun x k => TlM x k ∨ (x = m + 7 ∨ x = m + 8 ∨ x = m + 9 ∨ x = m + 13 ∨ x = m + 14) ∧ k = i
theorem cs_nil {h : AH} {m c : Nat} (e : xI h (m + 13) c = nI 0 ∧ xI h (m + 14) c = nI 0) : CsM h m c [] := ⟨fun r hr => by rw [e.1, b_n0]; rfl, fun r hr => by rw [e.2, b_n0]; rfl⟩
theorem askB_u {B : BK} {k v c r : Nat} (hk : k < 10) : askB (upB B k 0 v) c r = askB B c r := askB_cg (upB_n (by omega)) (fun i => upB_n (by omega)) (fun i => upB_n (by omega))
theorem notB_u {B : BK} {k v c r : Nat} (hk : k < 10) : notB (upB B k 0 v) c r = notB B c r := notB_cg (upB_n (by omega)) (fun i => upB_n (by omega)) (fun i => upB_n (by omega))
theorem mr_fin {h0 h : AH} {T : Nat → Int32} {n p m r pl now : Nat} {B : BK} {N : NmL} {l : CsL} (d : DrM h0 m B N) (u : B 3 0 < 10) (F : Fz (NrA m (B 3 0)) h0 h) (c : CfM h T n) (t : CtM h T n p) (v : CsM h m (B 3 0) l) (v7 : xI h (m + 7) (B 3 0) = nI r) (v8 : xI h (m + 8) (B 3 0) = nI pl - nI 1) (v9 : xI h (m + 9) (B 3 0) = nI now) (H : RuH B r pl now l) : ∃ r' h', X15_readRule_B157 195 h = some (r', h') ∧ MnO h0 h' T n m r' (faE T n p, p, ruB B r pl now l, N) := by
  have lo := d.q.s.lo
  have sn := d.q.w.s
  have s := d.q.s.fz F
  have q := d.q
  have r5 : xR h 195 5 = m := by rw [F.r _ (by decide)]; exact d.u.r
  have x5 : xI h m 5 = nI (B 3 0) := by rw [F.I (by unfold NrA TlM StM; omega)]; exact d.q.u
  obtain ⟨h1, h1e⟩ : ∃ h1, h1 = pI h m 5 (nI (B 3 0 + 1)) := ⟨_, rfl⟩
  have F1 : Fz (fun x k => x = m ∧ k = 5) h h1 := by rw [h1e]; exact Fz.i ⟨rfl, rfl⟩
  have c1 := c.dm (m := m) F1 (fun x k q => by omega) lo
  have t1 := t.dm (m := m) F1 (fun x k q => by omega) lo
  have I : ∀ x k, m ≤ x → ¬ (x = m ∧ k = 5 ∨ (x = m + 7 ∨ x = m + 8 ∨ x = m + 9 ∨ x = m + 13 ∨ x = m + 14) ∧ k = B 3 0) → xI h1 x k = xI h0 x k := fun x k a1 a2 => by rw [F1.I (by omega), F.I (by unfold NrA TlM StM; omega)]
  have E : ∀ k i, k < 10 → k ≠ 3 → ruB B r pl now l k i = B k i := fun k i a b => ruB_e (by omega) (by omega) (by omega) (by omega)
  have P : ∀ k i, 60 ≤ k → ruB B r pl now l k i = B k i := fun k i a => ruB_e (by omega) (by omega) (by omega) (by omega)
  have C : ∀ k i, 10 ≤ k ∧ k ≤ 14 → i ≠ B 3 0 → ruB B r pl now l k i = B k i := fun k i a b => ruB_e (by omega) (by omega) (by omega) (by omega)
  have e2 : ruB B r pl now l 2 0 = B 2 0 := E _ _ (by decide) (by decide)
  have e4 : ruB B r pl now l 4 0 = B 4 0 := E _ _ (by decide) (by decide)
  have e6 : ruB B r pl now l 60 0 = B 60 0 := P _ _ (by decide)
  have e7 : ruB B r pl now l 61 0 = B 61 0 := P _ _ (by decide)
  have q1 : IsMB h1 m (ruB B r pl now l) := by
    refine ⟨s.fz F1, WB_u q.w u H.r H.p H.o H.t H.l H.n H.m, ?_, ?_, ?_, ?_, by rw [h1e, xI_self, ruB_3], ?_, ?_, ?_, ?_, fun i hi => ?_, fun i hi => ?_, fun i hi => ?_, fun i hi => ?_, fun i hi => ?_, fun i hi => ?_, fun i hi => ?_, fun i hi => ?_, fun i hi => ?_, fun c hc x hx => ?_, fun c hc x hx => ?_, fun i hi => ?_, fun i hi => ?_, fun i hi => ?_, fun i hi => ?_⟩
    · rw [I _ _ (by omega) (by omega), E _ _ (by decide) (by decide)]; exact q.m
    · rw [I _ _ (by omega) (by omega), E _ _ (by decide) (by decide)]; exact q.r
    · rw [I _ _ (by omega) (by omega), e2]; exact q.f
    · rw [I _ _ (by omega) (by omega), E _ _ (by decide) (by decide)]; exact q.y
    · rw [I _ _ (by omega) (by omega), e4]; exact q.sn
    · rw [I _ _ (by omega) (by omega), E _ _ (by decide) (by decide)]; exact q.k
    · rw [I _ _ (by omega) (by omega), e6]; exact q.ne
    · rw [I _ _ (by omega) (by omega), e7]; exact q.no
    · rw [e2] at hi; rw [I _ _ (by omega) (by omega), E _ _ (by decide) (by decide)]; exact q.fw i hi
    · rw [e2] at hi; rw [I _ _ (by omega) (by omega), E _ _ (by decide) (by decide)]; exact q.fm i hi
    · rw [e2] at hi; rw [I _ _ (by omega) (by omega), E _ _ (by decide) (by decide)]; exact q.fy i hi
    · rw [ruB_3] at hi
      by_cases j : i = B 3 0
      · rw [j, ruB_c (by omega), clB_10, F1.I (by omega)]; exact v7
      · rw [C _ _ (by decide) j, I _ _ (by omega) (by omega)]; exact q.rr i (by omega)
    · rw [ruB_3] at hi
      by_cases j : i = B 3 0
      · rw [j, ruB_c (by omega), clB_11, F1.I (by omega)]; exact v8
      · rw [C _ _ (by decide) j, I _ _ (by omega) (by omega)]; exact q.ra i (by omega)
    · rw [ruB_3] at hi
      by_cases j : i = B 3 0
      · rw [j, ruB_c (by omega), clB_13, F1.I (by omega)]; exact v9
      · rw [C _ _ (by decide) j, I _ _ (by omega) (by omega)]; exact q.rn i (by omega)
    · rw [e4] at hi; rw [C _ _ (by decide) (by omega), I _ _ (by omega) (by omega)]; exact q.sr i hi
    · rw [e4] at hi; rw [C _ _ (by decide) (by omega), I _ _ (by omega) (by omega)]; exact q.st i hi
    · rw [e4] at hi; rw [C _ _ (by decide) (by omega), I _ _ (by omega) (by omega)]; exact q.sa i hi
    · rw [ruB_3, e4] at hc
      by_cases j : c = B 3 0
      · rw [j, F1.I (by omega)]
        unfold ruB
        rw [askB_u (by decide), clB_ask]; exact v.k x hx
      · rw [I _ _ (by omega) (by omega), askB_cg (C _ _ (by decide) j) (fun i => ruB_e (by omega) (by omega) (by omega) (by omega)) (fun i => ruB_e (by omega) (by omega) (by omega) (by omega))]; exact q.ka c (by omega) x hx
    · rw [ruB_3, e4] at hc
      by_cases j : c = B 3 0
      · rw [j, F1.I (by omega)]
        unfold ruB
        rw [notB_u (by decide), clB_not]; exact v.t x hx
      · rw [I _ _ (by omega) (by omega), notB_cg (C _ _ (by decide) j) (fun i => ruB_e (by omega) (by omega) (by omega) (by omega)) (fun i => ruB_e (by omega) (by omega) (by omega) (by omega))]; exact q.kn c (by omega) x hx
    · rw [e6] at hi; rw [I _ _ (by omega) (by omega), P _ _ (by decide)]; exact q.er i hi
    · rw [e6] at hi; rw [I _ _ (by omega) (by omega), P _ _ (by decide)]; exact q.ea i hi
    · rw [e7] at hi; rw [I _ _ (by omega) (by omega), P _ _ (by decide)]; exact q.or i hi
    · rw [e7] at hi; rw [I _ _ (by omega) (by omega), P _ _ (by decide)]; exact q.oa i hi
  unfold X15_readRule_B157
  rw [G_t c.g.c195, r5, G_t s.c, x5, nI_add, LT_e, ← h1e]
  have Fd : Fz (DmA m) h0 h1 := (F.mo (fun x k q => by
    rcases q with q | q
    · exact .inl q
    · exact .inr (by omega))).tr (F1.mo (fun x k q => .inr (by omega)))
  have ub := (d.u.fz F (fun x k q => by unfold NrA TlM StM; omega)).fz F1 (fun x k q => by omega)
  have d1 : DrM h1 m (ruB B r pl now l) N := by
    refine ⟨q1, ub, ?_, ?_, ?_, fun c hc k => ?_⟩
    · rw [E _ _ (by decide) (by decide), E _ _ (by decide) (by decide)]; exact d.l
    · rw [E _ _ (by decide) (by decide), E _ _ (by decide) (by decide)]; exact d.v
    · rw [E _ _ (by decide) (by decide), E _ _ (by decide) (by decide)]; exact d.y
    · rw [ruB_3, e4] at k
      rw [I _ _ (by omega) (by omega), I _ _ (by omega) (by omega)]; exact d.k c hc (by omega)
  exact ⟨_, _, rfl, Fd, .inr ⟨rfl, rfl, c1, t1, d1⟩⟩
theorem nrD {m i x k : Nat} (q : NrA m i x k) : DmA m x k := by
  rcases q with q | q
  · exact .inl q
  · exact .inr (by omega)
theorem mr117_m {h0 h : AH} {T : Nat → Int32} {n p m r : Nat} {B : BK} {N : NmL} {now : Bool} (d : DrM h0 m B N) (u : B 3 0 < 10) (F : Fz (NrA m (B 3 0)) h0 h) (c : CfM h T n) (t : CtM h T n p) (v : CsM h m (B 3 0) []) (v7 : xI h (m + 7) (B 3 0) = nI r) (v9 : xI h (m + 9) (B 3 0) = bI now) (hr : r < B 1 0) : ∃ r' h', X15_readRule_B117 195 (nI (B 3 0)) (bI (!now)) (nI (B 3 0)) 195 h = some (r', h') ∧ MnO h0 h' T n m r' (lnU3 T n B N r (if now = true then 1 else 0) (csX T n N (!now) 3 p)) := by
  have lo := d.q.s.lo
  have hR : ∀ w, 4 ≤ lkV N w → lkV N w < 99 → lkV N w - 4 < B 1 0 := fun w a e => d.ro a e
  obtain ⟨k1, k2, k3⟩ := csX_ok (T := T) (n := n) (no := !now) hR 3 p
  have bF : BkM h m N := d.u.fz F (fun x k q => by unfold NrA TlM StM; omega)
  obtain ⟨y1, h1, e1, F1, x1, z1⟩ := cases_m (T := T) (n := n) (m := m) (c := B 3 0) (N := N) (no := !now) (by omega) 3 0 [] h p FU rfl (FU_gt (by decide)) c t bF v
  rw [List.nil_append] at x1
  have mN : ∀ x k, TlM x k → NrA m (B 3 0) x k := fun x k q => .inl q
  have mS : ∀ x k, StM x k → NrA m (B 3 0) x k := fun x k q => .inl (.inl q)
  have Fa : Fz (NrA m (B 3 0)) h0 h1 := F.tr (F1.mo (fun x k q => by
    rcases q with q | q
    · exact .inl q
    · exact .inr (by unfold MkM at q; omega)))
  unfold X15_readRule_B117 X15_readCases_f lnU3
  rw [G_t c.g.c195, e1]
  generalize csX T n N (!now) 3 p = x at *
  by_cases z : x.1 = 0
  · obtain ⟨y1', c1, t1, v1⟩ := x1 z
    have b1 : BkM h1 m N := d.u.fz Fa (fun x k q => by unfold NrA TlM StM; omega)
    have J : ∀ x k, x = m + 7 ∨ x = m + 9 → xI h1 x k = xI h x k := fun x k hk => F1.I (by unfold CmM TlM StM MkM; omega)
    have nn : nI (if now = true then 1 else 0) = bI now := by cases now <;> rfl
    have H : ∀ pl, pl ≤ B 0 0 → RuH B r pl (if now = true then 1 else 0) x.2.2 := fun pl hp => ⟨hr, hp, k3 z, k1, fun y hy => (k2 y hy).1, by cases now <;> decide, fun z y hy => (k2 y hy).2 (by cases now with | true => rfl | false => exact absurd z (by decide))⟩
    rw [y1', BX_l, if_pos z, G_t c1.g.c195, b1.r, G_t b1.s.c, b1.s.r15, G_t b1.s.c8, b1.s.z8, G_gx u (by omega), pI_cl (by omega), LT_e]
    obtain ⟨h2, h2e⟩ : ∃ h2, h2 = pI h1 (m + 8) (B 3 0) (-1) := ⟨_, rfl⟩
    have F2 : Fz (fun x k => x = m + 8 ∧ k = B 3 0) h1 h2 := by rw [h2e]; exact Fz.i ⟨rfl, rfl⟩
    have c2 := c1.dm (m := m) F2 (fun x k q => by omega) lo
    have t2 := t1.dm (m := m) F2 (fun x k q => by omega) lo
    have v2 := v1.fz F2 (fun x k q => by unfold MkM at q; omega)
    have Fb : Fz (NrA m (B 3 0)) h0 h2 := Fa.tr (F2.mo (fun x k q => .inr (by omega)))
    rw [← h2e, G_t c2.g.c195, isWord_m c2 t2 (by decide), BN_ok, ifB]
    unfold lnU4
    by_cases o : isW T n x.2.1 1 = true
    · obtain ⟨h3, e3, F3, c3, t3⟩ := next_t c2 t2
      have Fc := Fb.tr (F3.mo mS)
      have b3 : BkM h3 m N := d.u.fz Fc (fun x k q => by unfold NrA TlM StM; omega)
      rw [if_pos o, if_pos o, G_t c2.g.c195, e3, BN_ok, G_t c3.g.c195, b3.r, G_t b3.s.c, b3.s.r15]
      generalize nxT T n x.2.1 = q at *
      obtain ⟨y4, h4, e4, F4, x4, z4⟩ := mach_m c3 t3 b3
      have Fd := Fc.tr (F4.mo mN)
      rw [e4]
      by_cases g : faM T n N q = 0
      · obtain ⟨y4', c4, t4⟩ := x4 g
        have mb := d.ma (faM_0 g)
        have s4 := b3.s.fz F4
        rw [y4', BX_l, if_pos g, G_t s4.c8, s4.z8, G_gx u (by omega), pI_cl (by omega), LT_e]
        obtain ⟨h5, h5e⟩ : ∃ h5, h5 = pI h4 (m + 8) (B 3 0) (nI (lkV N (wdV T n q))) := ⟨_, rfl⟩
        have F5 : Fz (fun x k => x = m + 8 ∧ k = B 3 0) h4 h5 := by rw [h5e]; exact Fz.i ⟨rfl, rfl⟩
        have c5 := c4.dm (m := m) F5 (fun x k q => by omega) lo
        have t5 := t4.dm (m := m) F5 (fun x k q => by omega) lo
        have v3 := v2.fz F3 (fun x k q => nSt lo (by unfold MkM at q; omega))
        have v4 := v3.fz F4 (fun x k q => nTl lo (by unfold MkM at q; omega))
        have v5 := v4.fz F5 (fun x k q => by unfold MkM at q; omega)
        have K : ∀ x k, x = m + 7 ∨ x = m + 9 → xI h5 x k = xI h x k := fun x k hk => by rw [F5.I (by omega), F4.I (nTl lo (by omega)), F3.I (nSt lo (by omega)), F2.I (by omega), J x k hk]
        rw [← h5e]
        exact mr_fin d u (Fd.tr (F5.mo (fun x k q => .inr (by omega)))) c5 t5 v5 (by rw [K _ _ (by omega)]; exact v7) (by rw [h5e, xI_self, nI_pm (by omega), Nat.add_sub_cancel]) (by rw [K _ _ (by omega), nn]; exact v9) (H _ (by omega))
      · obtain ⟨y4', m4⟩ := z4 g
        rw [y4', BX_r, if_neg g]
        exact ⟨_, _, rfl, Fd.mo (fun x k q => nrD q), .inl ⟨rfl, g, m4⟩⟩
    · rw [if_neg o, if_neg o]
      refine mr_fin d u Fb c2 t2 v2 ?_ ?_ ?_ (H _ (Nat.zero_le _))
      · rw [F2.I (by omega), J _ _ (by omega)]; exact v7
      · rw [h2e, xI_self]; decide
      · rw [F2.I (by omega), J _ _ (by omega), nn]; exact v9
  · obtain ⟨y1', m1⟩ := z1 z
    rw [y1', BX_r, if_neg z]
    exact ⟨_, _, rfl, Fa.mo (fun x k q => nrD q), .inl ⟨rfl, z, m1⟩⟩
theorem mr88_m {h0 h : AH} {T : Nat → Int32} {n p m r : Nat} {B : BK} {N : NmL} {now : Bool} (d : DrM h0 m B N) (u : B 3 0 < 10) (F : Fz (NrA m (B 3 0)) h0 h) (c : CfM h T n) (t : CtM h T n p) (v : CsM h m (B 3 0) []) (v7 : xI h (m + 7) (B 3 0) = nI r) (v9 : xI h (m + 9) (B 3 0) = bI now) (hr : r < B 1 0) : ∃ r' h', X15_readRule_B88 195 (nI (B 3 0)) h = some (r', h') ∧ MnO h0 h' T n m r' (lnU2 T n B N r now (nxT T n p)) := by
  have lo := d.q.s.lo
  obtain ⟨h1, e1, F1, c1, t1⟩ := next_t c t
  unfold X15_readRule_B88 lnU2
  rw [G_t c.g.c195, e1, BN_ok, G_t c1.g.c195]
  generalize nxT T n p = q at *
  obtain ⟨y2, h2, e2, F2, x2, z2⟩ := need_m c1 t1 (show 4 < 17 by decide)
  have Fb : Fz (NrA m (B 3 0)) h0 h2 := (F.tr (F1.mo (fun x k q => .inl (.inl q)))).tr (F2.mo (fun x k q => .inl q))
  rw [e2]
  by_cases a : faW T n q 4 = 0
  · obtain ⟨y2', c2, t2⟩ := x2 a
    have b2 : BkM h2 m N := d.u.fz Fb (fun x k q => by unfold NrA TlM StM; omega)
    have I2 : ∀ x k, m ≤ x → xI h2 x k = xI h x k := fun x k hx => by rw [F2.I (nTl lo hx), F1.I (nSt lo hx)]
    have w9 : xI h2 (m + 9) (B 3 0) = bI now := by rw [I2 _ _ (by omega)]; exact v9
    have v2 : CsM h2 m (B 3 0) [] := (v.fz F1 (fun x k q => nSt lo (by unfold MkM at q; omega))).fz F2 (fun x k q => nTl lo (by unfold MkM at q; omega))
    have := mr117_m (r := r) (now := now) d u Fb c2 t2 v2 (by rw [I2 _ _ (by omega)]; exact v7) w9 hr
    rw [y2', BX_l, if_pos a, G_t c2.g.c195, b2.r, G_t b2.s.c, b2.s.r16, G_t b2.s.c9, b2.s.z9, G_gx u (by omega), xI_cl (by omega), w9, ifB]
    cases now <;> exact this
  · obtain ⟨y2', m2⟩ := z2 a
    rw [y2', BX_r, if_neg a]
    exact ⟨_, _, rfl, Fb.mo (fun x k q => nrD q), .inl ⟨rfl, a, m2⟩⟩
theorem mrule_m {h : AH} {T : Nat → Int32} {n p m : Nat} {B : BK} {N : NmL} (c : CfM h T n) (t : CtM h T n p) (d : DrM h m B N) : ∃ r h', X15_readRule_f 195 h = some (r, h') ∧ MnO h h' T n m r (lnU T n B N p) := by
  have lo := d.q.s.lo
  have w3 := d.q.w.u
  unfold X15_readRule_f lnU
  rw [G_t c.g.c195, d.u.r, G_t d.q.s.c, d.q.u]
  by_cases z : B 3 0 = 10
  · obtain ⟨h1, e1, x1, o1⟩ := mstop (m := m) (B := B) (N := N) (k := 5) Fz.rf c t.a (by decide)
    rw [if_pos (by rw [z]), if_pos z, G_t c.g.c195, e1, BN_ok, G_t x1]
    exact ⟨_, _, rfl, o1⟩
  · have u : B 3 0 < 10 := by omega
    obtain ⟨h1, e1, F1, c1, t1⟩ := next_t c t
    have d1 := d.st F1
    rw [if_neg (by rw [nI_eI (by omega) (by omega)]; exact z), if_neg z, G_t c.g.c195, e1, BN_ok, G_t c1.g.c195, d1.u.r, G_t d1.q.s.c, d1.q.u, LT_e, d1.q.s.r14]
    generalize nxT T n p = q at *
    obtain ⟨r2, h2, e2, F2, x2, y2⟩ := row_m c1 t1 d1.u
    have Ga : Fz (NrA m (B 3 0)) h h2 := (F1.mo (fun x k q => .inl (.inl q))).tr (F2.mo (fun x k q => .inl q))
    rw [e2]
    by_cases r : faR T n N q = 0
    · obtain ⟨r2', c2, t2⟩ := x2 r
      have hr := d.ro (faR_0 r).1 (faR_0 r).2
      have s2 := d1.q.s.fz F2
      rw [r2', BX_l, if_pos r, G_t s2.c7, s2.z7, G_gx u (by omega), pI_cl (by omega), LT_e]
      generalize lkV N (wdV T n q) - 4 = rr at *
      obtain ⟨h3, h3e⟩ : ∃ h3, h3 = pI h2 (m + 7) (B 3 0) (nI rr) := ⟨_, rfl⟩
      have F3 : Fz (fun x k => x = m + 7 ∧ k = B 3 0) h2 h3 := by rw [h3e]; exact Fz.i ⟨rfl, rfl⟩
      have c3 := c2.dm (m := m) F3 (fun x k q => by omega) lo
      have t3 := t2.dm (m := m) F3 (fun x k q => by omega) lo
      have Gb := Ga.tr (F3.mo (fun x k q => .inr (by omega)))
      have b3 : BkM h3 m N := d.u.fz Gb (fun x k q => by unfold NrA TlM StM; omega)
      have nar : ∀ b : Bool, vp_nar .boolean (bI b) = bI b := fun b => by cases b <;> rfl
      rw [← h3e, G_t c3.g.c195, b3.r, G_t b3.s.c, b3.s.r16, isWord_m c3 t3 (by decide), BN_ok, G_t b3.s.c9, b3.s.z9, G_gx u (by omega), nar, pI_cl (by omega), LT_e]
      unfold lnU1
      generalize nxT T n q = q2 at *
      obtain ⟨h4, h4e⟩ : ∃ h4, h4 = pI h3 (m + 9) (B 3 0) (bI (isW T n q2 10)) := ⟨_, rfl⟩
      have F4 : Fz (fun x k => x = m + 9 ∧ k = B 3 0) h3 h4 := by rw [h4e]; exact Fz.i ⟨rfl, rfl⟩
      have c4 := c3.dm (m := m) F4 (fun x k q => by omega) lo
      have t4 := t3.dm (m := m) F4 (fun x k q => by omega) lo
      have Gc := Gb.tr (F4.mo (fun x k q => .inr (by omega)))
      have b4 : BkM h4 m N := d.u.fz Gc (fun x k q => by unfold NrA TlM StM; omega)
      have w9 : xI h4 (m + 9) (B 3 0) = bI (isW T n q2 10) := by rw [h4e, xI_self]
      have w7 : xI h4 (m + 7) (B 3 0) = nI rr := by rw [F4.I (by omega), h3e, xI_self]
      have M : ∀ k, xI h4 (m + 13) k = xI h (m + 13) k ∧ xI h4 (m + 14) k = xI h (m + 14) k := fun k => by
        constructor
        · rw [F4.I (by omega), F3.I (by omega), F2.I (nTl lo (by omega)), F1.I (nSt lo (by omega))]
        · rw [F4.I (by omega), F3.I (by omega), F2.I (nTl lo (by omega)), F1.I (nSt lo (by omega))]
      have v4 : CsM h4 m (B 3 0) [] := cs_nil (by rw [(M _).1, (M _).2]; exact d.k _ (by omega) (by omega))
      rw [← h4e, G_t c4.g.c195, b4.r, G_t b4.s.c, b4.s.r16, G_t b4.s.c9, b4.s.z9, G_gx u (by omega), xI_cl (by omega), w9, ifB]
      cases o : isW T n q2 10 with
      | true =>
        rw [o] at w9
        rw [if_pos rfl, if_pos rfl]
        exact mr88_m d u Gc c4 t4 v4 w7 w9 hr
      | false =>
        rw [o] at w9
        rw [if_neg (by decide), if_neg (by decide), G_t c4.g.c195, isWord_m c4 t4 (by decide), BN_ok, ifB]
        by_cases k : isW T n q2 8 = true
        · rw [if_pos k, if_pos k]
          exact mr88_m d u Gc c4 t4 v4 w7 w9 hr
        · obtain ⟨h6, e6, x6, o6⟩ := mstop (m := m) (B := B) (N := N) (k := 1) (Gc.mo (fun x k q => nrD q)) c4 t4.a (by decide)
          rw [if_neg k, if_neg k, G_t c4.g.c195, e6, BN_ok, G_t x6]
          exact ⟨_, _, rfl, o6⟩
    · obtain ⟨r2', m2⟩ := y2 r
      rw [r2', BX_r, if_neg r]
      exact ⟨_, _, rfl, Ga.mo (fun x k q => nrD q), .inl ⟨rfl, r, m2⟩⟩
