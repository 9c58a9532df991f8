theorem pI_cl {h : AH} {a i : Nat} {v : Int32} (hi : i < 2147483648) : pI h a (nI i).toNatClampNeg v = pI h a i v := by rw [nI_cl hi]
theorem xI_cl {h : AH} {a i : Nat} (hi : i < 2147483648) : xI h a (nI i).toNatClampNeg = xI h a i := by rw [nI_cl hi]
theorem BkM.tl {h h' : AH} {m : Nat} {N : NmL} (F : Fz TlM h h') (b : BkM h m N) : BkM h' m N := b.fz F (fun x k q => nTl b.s.lo (by omega))
theorem DrM.tl {h h' : AH} {m : Nat} {B : BK} {N : NmL} (F : Fz TlM h h') (d : DrM h m B N) : DrM h' m B N := d.fz F (fun x k q => nTl d.q.s.lo q)
theorem DrM.st {h h' : AH} {m : Nat} {B : BK} {N : NmL} (F : Fz StM h h') (d : DrM h m B N) : DrM h' m B N := d.fz F (fun x k q => nSt d.q.s.lo q)
/-- the new fact's cells -/
def NfA (m i : Nat) : Nat → Nat → Prop := fun x k => TlM x k ∨ (x = m + 4 ∨ x = m + 5 ∨ x = m + 6) ∧ k = i
theorem mf_fin {h0 h : AH} {T : Nat → Int32} {n p m r a : Nat} {B : BK} {N : NmL} {y : Bool} (d : DrM h0 m B N) (h2 : B 2 0 < 10) (F : Fz (fun x k => NfA m (B 2 0) x k ∨ x = m ∧ k = 4) h0 h) (c : CfM h T n) (t : CtM h T n p) (v4 : xI h (m + 4) (B 2 0) = nI r) (v5 : xI h (m + 5) (B 2 0) = nI a) (v6 : xI h (m + 6) (B 2 0) = nI (if y = true then B 5 0 + 1 else 0) - nI 1) (y5 : xI h m 4 = nI (if y = true then B 5 0 + 1 else B 5 0)) (hr : r < B 1 0) (ha : a < B 0 0) : ∃ r' h', X15_readFact_B117 195 h = some (r', h') ∧ MnO h0 h' T n m r' (faE T n p, p, faB B r a y, N) := by
  have lo := d.q.s.lo
  have s := d.q.s.fz F
  have r5 : xR h 195 5 = m := by rw [F.r _ (by decide)]; exact d.u.r
  have x3 : xI h m 3 = nI (B 2 0) := by rw [F.I (by unfold NfA TlM StM; omega)]; exact d.q.f
  obtain ⟨h1, h1e⟩ : ∃ h1, h1 = pI h m 3 (nI (B 2 0 + 1)) := ⟨_, rfl⟩
  have F1 : Fz (fun x k => x = m ∧ k = 3) h h1 := by rw [h1e]; exact Fz.i ⟨rfl, rfl⟩
  have c1 := c.dm (m := m) F1 (fun x k q => by omega) lo
  have t1 := t.dm (m := m) F1 (fun x k q => by omega) lo
  have I : ∀ x k, m ≤ x → ¬ (x = m ∧ (k = 3 ∨ k = 4) ∨ (x = m + 4 ∨ x = m + 5 ∨ x = m + 6) ∧ k = B 2 0) → xI h1 x k = xI h0 x k := fun x k a1 a2 => by rw [F1.I (by omega), F.I (by unfold NfA TlM StM; omega)]
  have q1 : IsMB h1 m (faB B r a y) := by
    refine d.q.t (s.fz F1) (WB_f d.q.w h2 d.y hr ha) (by rw [I _ _ (by omega) (by omega)]; exact d.q.m) (by rw [I _ _ (by omega) (by omega)]; exact d.q.r) (by rw [h1e, xI_self, faB_2]) (by rw [F1.I (by omega), y5, faB_5]) (by rw [I _ _ (by omega) (by omega)]; exact d.q.k) (fun i hi => ?_) (fun i hi => ?_) (fun i hi => ?_) (fun x k q => I _ _ (by omega) (by omega)) (fun k i q => faB_e (by omega))
    · rw [faB_2] at hi
      by_cases j : i = B 2 0
      · rw [j, faB_7, F1.I (by omega)]; exact v4
      · rw [faB_n j (by decide), I _ _ (by omega) (by omega)]; exact d.q.fw i (by omega)
    · rw [faB_2] at hi
      by_cases j : i = B 2 0
      · rw [j, faB_8, F1.I (by omega)]; exact v5
      · rw [faB_n j (by decide), I _ _ (by omega) (by omega)]; exact d.q.fm i (by omega)
    · rw [faB_2] at hi
      by_cases j : i = B 2 0
      · rw [j, faB_9, F1.I (by omega)]; exact v6
      · rw [faB_n j (by decide), I _ _ (by omega) (by omega)]; exact d.q.fy i (by omega)
  unfold X15_readFact_B117
  rw [G_t c.g.c195, r5, G_t s.c, x3, nI_add, LT_e, ← h1e]
  have Fd : Fz (DmA m) h0 h1 := (F.mo (fun x k q => by
    rcases q with (q | q) | q
    · exact .inl q
    · exact .inr (by omega)
    · exact .inr (by omega))).tr (F1.mo (fun x k q => .inr (by omega)))
  have ub := (d.u.fz F (fun x k q => by unfold NfA TlM StM; omega)).fz F1 (fun x k q => by omega)
  refine ⟨_, _, rfl, Fd, .inr ⟨rfl, rfl, c1, t1, q1, ub, d.l, d.v, ?_, fun c hc k => by rw [I _ _ (by omega) (by omega), I _ _ (by omega) (by omega)]; exact d.k c hc k⟩⟩
  show faB B r a y 5 0 ≤ faB B r a y 2 0
  have := d.y
  rw [faB_5, faB_2]
  cases y with
  | false => rw [if_neg (by decide)]; omega
  | true => rw [if_pos rfl]; omega
theorem mfact_m {h : AH} {T : Nat → Int32} {n p m : Nat} {B : BK} {N : NmL} (c : CfM h T n) (t : CtM h T n p) (d : DrM h m B N) : ∃ r h', X15_readFact_f 195 h = some (r, h') ∧ MnO h h' T n m r (lnF T n B N p) := by
  have lo := d.q.s.lo
  have w2 := d.q.w.f
  have mN : ∀ x k, TlM x k → NfA m (B 2 0) x k := fun x k q => .inl q
  have mS : ∀ x k, StM x k → NfA m (B 2 0) x k := fun x k q => .inl (.inl q)
  have nD : ∀ x k, NfA m (B 2 0) x k → DmA m x k := fun x k q => by
    rcases q with q | q
    · exact .inl q
    · exact .inr (by omega)
  unfold X15_readFact_f lnF
  rw [G_t c.g.c195, d.u.r, G_t d.q.s.c, d.q.f]
  by_cases z : B 2 0 = 10
  · obtain ⟨h1, e1, x1, o1⟩ := mstop (m := m) (B := B) (N := N) (k := 5) Fz.rf c t.a (by decide)
    rw [if_pos (by rw [z]), if_pos z, G_t c.g.c195, e1, BN_ok, G_t x1]
    exact ⟨_, _, rfl, o1⟩
  · have h2 : B 2 0 < 10 := by omega
    obtain ⟨h1, e1, F1, c1, t1⟩ := next_t c t
    have d1 := d.st F1
    rw [if_neg (by rw [nI_eI (by omega) (by omega)]; exact z), if_neg z, G_t c.g.c195, e1, BN_ok, G_t c1.g.c195, d1.u.r, G_t d1.q.s.c, d1.q.f, LT_e, d1.q.s.r11]
    unfold lnF1
    generalize nxT T n p = q at *
    obtain ⟨r2, h2', e2, F2, x2, y2⟩ := row_m c1 t1 d1.u
    have Ga : Fz (NfA m (B 2 0)) h h2' := (F1.mo mS).tr (F2.mo mN)
    rw [e2]
    by_cases r : faR T n N q = 0
    · obtain ⟨r2', c2, t2⟩ := x2 r
      have hr := d.ro (faR_0 r).1 (faR_0 r).2
      have s2 := d1.q.s.fz F2
      rw [r2', BX_l, if_pos r, G_t s2.c4, s2.z4, G_gx h2 (by omega), pI_cl (by omega), LT_e]
      generalize lkV N (wdV T n q) - 4 = rr at *
      obtain ⟨h3, h3e⟩ : ∃ h3, h3 = pI h2' (m + 4) (B 2 0) (nI rr) := ⟨_, rfl⟩
      have F3 : Fz (fun x k => x = m + 4 ∧ k = B 2 0) h2' h3 := by rw [h3e]; exact Fz.i ⟨rfl, rfl⟩
      have c3 := c2.dm (m := m) F3 (fun x k q => by omega) lo
      have t3 := t2.dm (m := m) F3 (fun x k q => by omega) lo
      have Gb := Ga.tr (F3.mo (fun x k q => .inr (by omega)))
      rw [← h3e, G_t c3.g.c195]
      unfold lnF2
      obtain ⟨r4, h4, e4, F4, x4, y4⟩ := need_m c3 t3 (show 1 < 17 by decide)
      have Gc := Gb.tr (F4.mo mN)
      have b4 : BkM h4 m N := d.u.fz Gc (fun x k q => by unfold NfA TlM StM; omega)
      rw [e4]
      generalize nxT T n q = q2 at *
      by_cases a : faW T n q2 1 = 0
      · obtain ⟨r4', c4, t4⟩ := x4 a
        rw [r4', BX_l, if_pos a, G_t c4.g.c195, b4.r, G_t b4.s.c, b4.s.r12]
        unfold lnF3
        obtain ⟨r5, h5, e5, F5, x5, y5⟩ := mach_m c4 t4 b4
        have Gd := Gc.tr (F5.mo mN)
        rw [e5]
        generalize nxT T n q2 = q3 at *
        by_cases g : faM T n N q3 = 0
        · obtain ⟨r5', c5, t5⟩ := x5 g
          have ha := d.ma (faM_0 g)
          have s5 := b4.s.fz F5
          rw [r5', BX_l, if_pos g, G_t s5.c5, s5.z5, G_gx h2 (by omega), pI_cl (by omega), LT_e]
          generalize lkV N (wdV T n q3) = aa at *
          obtain ⟨h6, h6e⟩ : ∃ h6, h6 = pI h5 (m + 5) (B 2 0) (nI aa) := ⟨_, rfl⟩
          have F6 : Fz (fun x k => x = m + 5 ∧ k = B 2 0) h5 h6 := by rw [h6e]; exact Fz.i ⟨rfl, rfl⟩
          have c6 := c5.dm (m := m) F6 (fun x k q => by omega) lo
          have t6 := t5.dm (m := m) F6 (fun x k q => by omega) lo
          have Ge := Gd.tr (F6.mo (fun x k q => .inr (by omega)))
          have b6 : BkM h6 m N := d.u.fz Ge (fun x k q => by unfold NfA TlM StM; omega)
          rw [← h6e, G_t c6.g.c195, b6.r, G_t b6.s.c, b6.s.r13, G_t b6.s.c6, b6.s.z6, G_gx h2 (by omega), pI_cl (by omega), LT_e]
          obtain ⟨h7, h7e⟩ : ∃ h7, h7 = pI h6 (m + 6) (B 2 0) (-1) := ⟨_, rfl⟩
          have F7 : Fz (fun x k => x = m + 6 ∧ k = B 2 0) h6 h7 := by rw [h7e]; exact Fz.i ⟨rfl, rfl⟩
          have c7 := c6.dm (m := m) F7 (fun x k q => by omega) lo
          have t7 := t6.dm (m := m) F7 (fun x k q => by omega) lo
          have Gf := Ge.tr (F7.mo (fun x k q => .inr (by omega)))
          have b7 : BkM h7 m N := d.u.fz Gf (fun x k q => by unfold NfA TlM StM; omega)
          have v5 : xI h7 (m + 5) (B 2 0) = nI aa := by rw [F7.I (by omega), h6e, xI_self]
          have v4 : xI h7 (m + 4) (B 2 0) = nI rr := by rw [F7.I (by omega), F6.I (by omega), F5.I (nTl lo (by omega)), F4.I (nTl lo (by omega)), h3e, xI_self]
          have y7 : xI h7 m 4 = nI (B 5 0) := by rw [Gf.I (by unfold NfA TlM StM; omega)]; exact d.q.y
          rw [← h7e, G_t c7.g.c195, isWord_m c7 t7 (by decide), BN_ok, ifB]
          unfold opT
          by_cases o : isW T n (nxT T n q3) 7 = true
          · rw [if_pos o, if_pos o, G_t c7.g.c195, b7.r, G_t b7.s.c, b7.s.r13, G_t b7.s.c6, b7.s.z6, G_gx h2 (by omega), pI_cl (by omega), y7, LT_e, o]
            obtain ⟨h8, h8e⟩ : ∃ h8, h8 = pI h7 (m + 6) (B 2 0) (nI (B 5 0)) := ⟨_, rfl⟩
            have F8 : Fz (fun x k => x = m + 6 ∧ k = B 2 0) h7 h8 := by rw [h8e]; exact Fz.i ⟨rfl, rfl⟩
            have c8 := c7.dm (m := m) F8 (fun x k q => by omega) lo
            have t8 := t7.dm (m := m) F8 (fun x k q => by omega) lo
            have b8 := b7.fz F8 (fun x k q => by omega)
            have y8 : xI h8 m 4 = nI (B 5 0) := by rw [F8.I (by omega)]; exact y7
            rw [← h8e, G_t c8.g.c195, b8.r, G_t b8.s.c, y8, nI_add, LT_e]
            obtain ⟨h9, h9e⟩ : ∃ h9, h9 = pI h8 m 4 (nI (B 5 0 + 1)) := ⟨_, rfl⟩
            have F9 : Fz (fun x k => x = m ∧ k = 4) h8 h9 := by rw [h9e]; exact Fz.i ⟨rfl, rfl⟩
            have c9 := c8.dm (m := m) F9 (fun x k q => by omega) lo
            have t9 := t8.dm (m := m) F9 (fun x k q => by omega) lo
            obtain ⟨hA, eA, FA, cA, tA⟩ := next_t c9 t9
            rw [← h9e, G_t c9.g.c195, eA, BN_ok]
            refine mf_fin (y := true) d h2 ((((Gf.tr (F8.mo (fun x k q => .inr (by omega)))).mo (fun x k q => Or.inl q)).tr (F9.mo (fun x k q => .inr q))).tr (FA.mo (fun x k q => .inl (mS x k q)))) cA tA ?_ ?_ ?_ ?_ hr ha
            · rw [FA.I (nSt lo (by omega)), F9.I (by omega), F8.I (by omega)]; exact v4
            · rw [FA.I (nSt lo (by omega)), F9.I (by omega), F8.I (by omega)]; exact v5
            · rw [FA.I (nSt lo (by omega)), F9.I (by omega), h8e, xI_self, if_pos rfl, nI_pm (by omega), Nat.add_sub_cancel]
            · rw [FA.I (nSt lo (by omega)), h9e, xI_self, if_pos rfl]
          · rw [Bool.not_eq_true] at o
            rw [o, if_neg (by decide), if_neg (by decide)]
            exact mf_fin (y := false) d h2 (Gf.mo (fun x k q => .inl q)) c7 t7 v4 v5 (by rw [h7e, xI_self, if_neg (by decide)]; decide) (by rw [y7, if_neg (by decide)]) hr ha
        · obtain ⟨r5', m5⟩ := y5 g
          rw [r5', BX_r, if_neg g]
          exact ⟨_, _, rfl, Gd.mo nD, .inl ⟨rfl, g, m5⟩⟩
      · obtain ⟨r4', m4⟩ := y4 a
        rw [r4', BX_r, if_neg a]
        exact ⟨_, _, rfl, Gc.mo nD, .inl ⟨rfl, a, m4⟩⟩
    · obtain ⟨r2', m2⟩ := y2 r
      rw [r2', BX_r, if_neg r]
      exact ⟨_, _, rfl, Ga.mo nD, .inl ⟨rfl, r, m2⟩⟩
