/-- the promise, up to its last place -/
def MpO (h h' : AH) (T : Nat → Int32) (n m : Nat) (B : BK) (r : Unit ⊕ Nat) (x : Nat × Nat × BK) : Prop := Fz (DmA m) h h' ∧ ((r = .inr 196 ∧ x.1 ≠ 0 ∧ MFt h' x.1 x.2.1) ∨ (r = .inl () ∧ ∃ q B', CfM h' T n ∧ CtM h' T n q ∧ IsMB h' m B' ∧ xR h' 195 5 = m ∧ x = if tkK T n q = 0 then (0, q, B') else (1, q, B)))
theorem IsMB.p {h h' : AH} {m : Nat} {B : BK} {x y : PlL} (q : IsMB h m B) (F : Fz (fun a k => TlM a k ∨ a = m + 15 ∨ a = m + 16 ∨ a = m + 17 ∨ a = m + 18 ∨ a = m ∧ (k = 22 ∨ k = 23)) h h') (w : WB (prB B x y)) (n22 : xI h' m 22 = nI x.length) (n23 : xI h' m 23 = nI y.length) (px : PlM h' (m + 15) (m + 16) x) (py : PlM h' (m + 17) (m + 18) y) : IsMB h' m (prB B x y) := by
  have lo := q.s.lo
  have un := q.w.u
  have sn := q.w.s
  have I : ∀ a k, m ≤ a → ¬ (a = m + 15 ∨ a = m + 16 ∨ a = m + 17 ∨ a = m + 18 ∨ a = m ∧ (k = 22 ∨ k = 23)) → xI h' a k = xI h a k := fun a k a1 a2 => F.I (by unfold TlM StM; omega)
  have e : ∀ k i, k < 60 → prB B x y k i = B k i := fun k i hk => prB_e hk
  have e3 : prB B x y 3 0 = B 3 0 := e _ _ (by decide)
  have e4 : prB B x y 4 0 = B 4 0 := e _ _ (by decide)
  refine ⟨q.s.fz F, w, ?_, ?_, ?_, ?_, ?_, ?_, ?_, n22, n23, fun i hi => ?_, fun i hi => ?_, fun i hi => ?_, fun i hi => ?_, fun i hi => ?_, fun i hi => ?_, fun i hi => ?_, fun i hi => ?_, fun i hi => ?_, fun c hc r hr => ?_, fun c hc r hr => ?_, fun i hi => (px i hi).1, fun i hi => (px i hi).2, fun i hi => (py i hi).1, fun i hi => (py i hi).2⟩
  · rw [I _ _ (by omega) (by omega)]; exact q.m
  · rw [I _ _ (by omega) (by omega)]; exact q.r
  · rw [I _ _ (by omega) (by omega)]; exact q.f
  · rw [I _ _ (by omega) (by omega)]; exact q.y
  · rw [I _ _ (by omega) (by omega)]; exact q.u
  · rw [I _ _ (by omega) (by omega)]; exact q.sn
  · rw [I _ _ (by omega) (by omega)]; exact q.k
  · rw [I _ _ (by omega) (by omega)]; exact q.fw i hi
  · rw [I _ _ (by omega) (by omega)]; exact q.fm i hi
  · rw [I _ _ (by omega) (by omega)]; exact q.fy i hi
  · rw [I _ _ (by omega) (by omega)]; exact q.rr i hi
  · rw [I _ _ (by omega) (by omega)]; exact q.ra i hi
  · rw [I _ _ (by omega) (by omega)]; exact q.rn i hi
  · rw [I _ _ (by omega) (by omega)]; exact q.sr i hi
  · rw [I _ _ (by omega) (by omega)]; exact q.st i hi
  · rw [I _ _ (by omega) (by omega)]; exact q.sa i hi
  · rw [e3, e4] at hc
    rw [I _ _ (by omega) (by omega), askB_cg (e _ _ (by decide)) (fun i => e _ _ (by omega)) (fun i => e _ _ (by omega))]; exact q.ka c hc r hr
  · rw [e3, e4] at hc
    rw [I _ _ (by omega) (by omega), notB_cg (e _ _ (by decide)) (fun i => e _ _ (by omega)) (fun i => e _ _ (by omega))]; exact q.kn c hc r hr
def MqA (m : Nat) : Nat → Nat → Prop := fun a k => TlM a k ∨ a = m + 15 ∨ a = m + 16 ∨ a = m + 17 ∨ a = m + 18 ∨ a = m ∧ (k = 22 ∨ k = 23)
theorem mqD {m x k : Nat} (q : MqA m x k) : DmA m x k := by
  rcases q with q | q
  · exact .inl q
  · exact .inr (by omega)
theorem mprom_m {h : AH} {T : Nat → Int32} {n p m : Nat} {B : BK} {N : NmL} (c : CfM h T n) (t : CtM h T n p) (d : DrM h m B N) : ∃ r h', X15_readPromise_f 195 h = some (r, h') ∧ MpO h h' T n m B r (lnP T n B N p) := by
  have lo := d.q.s.lo
  have hR : ∀ w, 4 ≤ lkV N w → lkV N w < 99 → lkV N w - 4 < B 1 0 := fun w a e => d.ro a e
  have hM : ∀ w, lkV N w < 4 → lkV N w < B 0 0 := fun w a => d.ma a
  have ox := plX_ok (T := T) (n := n) (s := 0) hR hM 3 (nxT T n p)
  have mN : ∀ x k, TlM x k → MqA m x k := fun x k q => .inl q
  have oN : ∀ x k, x = m ∧ k = 0 ∨ x = m + 1 ∨ x = m + 2 ∨ x = m + 3 → ¬ MqA m x k := fun x k q => by unfold MqA TlM StM; omega
  obtain ⟨h1, e1, F1, c1, t1⟩ := next_t c t
  have d1 := d.st F1
  unfold X15_readPromise_f X15_readPlaces_f lnP
  rw [G_t c.g.c195, e1, BN_ok, G_t c1.g.c195, d1.u.r, G_t d1.q.s.c, d1.q.s.r24, d1.q.s.r25]
  generalize nxT T n p = q0 at *
  obtain ⟨w2, h2, e2, F2, x2, y2⟩ := places_m (T := T) (n := n) (m := m) (a := m + 15) (d := m + 16) (s := 0) (N := N) (by decide) (by omega) (by omega) (by omega) 3 0 [] h1 q0 FU rfl rfl (FU_gt (by decide)) c1 t1 d1.u d1.q.s.c15 d1.q.s.z15 d1.q.s.c16 d1.q.s.z16 (fun i hi => absurd hi (Nat.not_lt_zero _))
  rw [List.nil_append] at x2
  rw [e2]
  generalize plX T n N 0 3 q0 = x at *
  have Ga : Fz (MqA m) h h2 := (F1.mo (fun x k q => .inl (.inl q))).tr (F2.mo (fun x k q => by
    rcases q with q | q
    · exact .inl q
    · exact .inr (by omega)))
  unfold lnP1
  by_cases z : x.1 = 0
  · obtain ⟨w2', c2, t2, v2⟩ := x2 z
    have s2 := d1.q.s.fz F2
    rw [w2', BX_l, if_pos z, G_t s2.c, LT_e]
    obtain ⟨h3, h3e⟩ : ∃ h3, h3 = pI h2 m 22 (nI x.2.2.length) := ⟨_, rfl⟩
    have F3 : Fz (fun a k => a = m ∧ k = 22) h2 h3 := by rw [h3e]; exact Fz.i ⟨rfl, rfl⟩
    have c3 := c2.dm (m := m) F3 (fun x k q => by omega) lo
    have t3 := t2.dm (m := m) F3 (fun x k q => by omega) lo
    have Gb : Fz (MqA m) h h3 := Ga.tr (F3.mo (fun x k q => .inr (by omega)))
    obtain ⟨w4, h4, e4, F4, x4, y4⟩ := need_m c3 t3 (show 3 < 17 by decide)
    have Gc := Gb.tr (F4.mo mN)
    have b4 : BkM h4 m N := d.u.fz Gc oN
    rw [← h3e, G_t c3.g.c195, e4]
    by_cases o : faW T n x.2.1 3 = 0
    · obtain ⟨w4', c4, t4⟩ := x4 o
      have oy := plX_ok (T := T) (n := n) (s := 11) hR hM 3 (nxT T n x.2.1)
      rw [w4', BX_l, if_pos o, G_t c4.g.c195, b4.r, G_t b4.s.c, b4.s.r26, b4.s.r27]
      generalize nxT T n x.2.1 = q1 at *
      obtain ⟨w5, h5, e5, F5, x5, y5⟩ := places_m (T := T) (n := n) (m := m) (a := m + 17) (d := m + 18) (s := 11) (N := N) (by decide) (by omega) (by omega) (by omega) 3 0 [] h4 q1 FU rfl rfl (FU_gt (by decide)) c4 t4 b4 b4.s.c17 b4.s.z17 b4.s.c18 b4.s.z18 (fun i hi => absurd hi (Nat.not_lt_zero _))
      rw [List.nil_append] at x5
      rw [e5]
      generalize plX T n N 11 3 q1 = y at *
      have Gd : Fz (MqA m) h h5 := Gc.tr (F5.mo (fun x k q => by
        rcases q with q | q
        · exact .inl q
        · exact .inr (by omega)))
      unfold lnP2
      by_cases g : y.1 = 0
      · obtain ⟨w5', c5, t5, v5⟩ := x5 g
        have s5 := b4.s.fz F5
        rw [w5', BX_l, if_pos g, G_t s5.c, LT_e]
        obtain ⟨h6, h6e⟩ : ∃ h6, h6 = pI h5 m 23 (nI y.2.2.length) := ⟨_, rfl⟩
        have F6 : Fz (fun a k => a = m ∧ k = 23) h5 h6 := by rw [h6e]; exact Fz.i ⟨rfl, rfl⟩
        have Ge : Fz (MqA m) h h6 := Gd.tr (F6.mo (fun x k q => .inr (by omega)))
        have q6 : IsMB h6 m (prB B x.2.2 y.2.2) := by
          refine d.q.p Ge (WB_p d.q.w ox oy) ?_ ?_ (fun i hi => ?_) (fun i hi => ?_)
          · rw [F6.I (by omega), F5.I (by unfold PmA TlM StM; omega), F4.I (nTl lo (by omega)), h3e, xI_self]
          · rw [h6e, xI_self]
          · rw [F6.I (by omega), F6.I (by omega), F5.I (by unfold PmA TlM StM; omega), F5.I (by unfold PmA TlM StM; omega), F4.I (nTl lo (by omega)), F4.I (nTl lo (by omega)), F3.I (by omega), F3.I (by omega)]; exact v2 i hi
          · rw [F6.I (by omega), F6.I (by omega)]; exact v5 i hi
        rw [← h6e]
        exact ⟨_, _, rfl, Ge.mo (fun x k q => mqD q), .inr ⟨rfl, y.2.1, _, c5.dm (m := m) F6 (fun x k q => by omega) lo, t5.dm (m := m) F6 (fun x k q => by omega) lo, q6, by rw [Ge.r _ (by decide)]; exact d.u.r, rfl⟩⟩
      · obtain ⟨w5', m5⟩ := y5 g
        rw [w5', BX_r, if_neg g]
        exact ⟨_, _, rfl, Gd.mo (fun x k q => mqD q), .inl ⟨rfl, g, m5⟩⟩
    · obtain ⟨w4', m4⟩ := y4 o
      rw [w4', BX_r, if_neg o]
      exact ⟨_, _, rfl, Gc.mo (fun x k q => mqD q), .inl ⟨rfl, o, m4⟩⟩
  · obtain ⟨w2', m2⟩ := y2 z
    rw [w2', BX_r, if_neg z]
    exact ⟨_, _, rfl, Ga.mo (fun x k q => mqD q), .inl ⟨rfl, z, m2⟩⟩
/-- the whole book's end -/
def PrM (h h' : AH) (m : Nat) (r : Unit ⊕ Nat) (x : Nat × Nat × BK) : Prop := Fz (DmA m) h h' ∧ (x.1 = 0 → r = .inl () ∧ IsMB h' m x.2.2 ∧ xR h' 195 5 = m) ∧ (x.1 ≠ 0 → r = .inr 196 ∧ MFt h' x.1 x.2.1)
theorem mSo_1 {k : Nat} (h : k ≤ 3) : nI (mSo k) = nI 1 ↔ k = 0 := by
  have : ∀ k, k < 4 → (nI (mSo k) = nI 1 ↔ k = 0) := by decide +kernel
  exact this k (by omega)
theorem mSo_3 {k : Nat} (h : k ≤ 3) : nI (mSo k) = nI 3 ↔ k = 1 := by
  have : ∀ k, k < 4 → (nI (mSo k) = nI 3 ↔ k = 1) := by decide +kernel
  exact this k (by omega)
theorem b151_m {h : AH} {T : Nat → Int32} {n p m : Nat} {B : BK} {N : NmL} (c : CfM h T n) (t : CtM h T n p) (d : DrM h m B N) : ∃ r h', X15_readBook_B151 195 h = some (r, h') ∧ PrM h h' m r (lnP T n B N p) := by
  obtain ⟨r1, h1, e1, F1, o1⟩ := mprom_m c t d
  unfold X15_readBook_B151
  rw [G_t c.g.c195, e1]
  rcases o1 with ⟨r1', k1, m1⟩ | ⟨r1', q, B', c1, t1, q1, x1, e⟩
  · rw [r1', BX_r]
    exact ⟨_, _, rfl, F1, fun z => absurd z k1, fun _ => ⟨rfl, m1⟩⟩
  · have kl := tkK_le (T := T) (n := n) (p := q)
    rw [r1', BX_l, G_t c1.g.c195, t1.s, e]
    by_cases k : tkK T n q = 0
    · rw [if_pos ((mSo_1 kl).mpr k), if_pos k]
      exact ⟨_, _, rfl, F1, fun _ => ⟨rfl, q1, x1⟩, fun z => absurd rfl z⟩
    · obtain ⟨h2, e2, F2, x2, w2⟩ := stop_m (k := 1) c1 t1.a
      rw [if_neg (fun z => k ((mSo_1 kl).mp z)), if_neg k, G_t c1.g.c195, e2, BN_ok, G_t x2]
      exact ⟨_, _, rfl, F1.tr (F2.mo (fun a k q => .inl (.inr q))), fun z => absurd z (by show ¬ (1 : Nat) = 0; decide), fun _ => ⟨rfl, w2⟩⟩
