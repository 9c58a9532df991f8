theorem BS.fz {A : Nat → Nat → Prop} {h h' : AH} {b : Nat} (F : Fz A h h') (q : BS h b) : BS h' b := by
  have lo := q.lo
  have hi := q.hi
  refine ⟨lo, hi, by rw [F.c]; exact q.c, by rw [F.r _ (by omega)]; exact q.r7, by rw [F.r _ (by omega)]; exact q.r8, by rw [F.r _ (by omega)]; exact q.r9, by rw [F.r _ (by omega)]; exact q.r10, by rw [F.r _ (by omega)]; exact q.r11, by rw [F.r _ (by omega)]; exact q.r12, by rw [F.r _ (by omega)]; exact q.r13, by rw [F.c]; exact q.c1, by rw [F.c]; exact q.c2, by rw [F.c]; exact q.c3, by rw [F.c]; exact q.c4, by rw [F.c]; exact q.c5, by rw [F.c]; exact q.c6, by rw [F.c]; exact q.c7, by rw [F.z]; exact q.z1, by rw [F.z]; exact q.z2, by rw [F.z]; exact q.z3, by rw [F.z]; exact q.z4, by rw [F.z]; exact q.z5, by rw [F.z]; exact q.z6, by rw [F.z]; exact q.z7, fun i hi => by rw [F.r _ (by omega)]; exact q.ru i hi, fun i hi => by rw [F.r _ (by omega)]; exact q.se i hi, fun i hi => (q.rc i hi).fz F (by omega), fun i hi => (q.sc i hi).fz F (by omega)⟩
theorem IsCl.fz {A : Nat → Nat → Prop} {h h' : AH} {a c : Nat} {B : BK} (F : Fz A h h') (e : a ≠ 174 ∧ a ≠ 180 ∧ a ≠ 119) (n : ∀ k, ¬ A a k ∧ ¬ A (a + 1) k ∧ ¬ A (a + 2) k) (q : IsCl h a B c) : IsCl h' a B c := by
  refine ⟨q.s.fz F e, ?_⟩
  simp only [F.I (n _).1, F.I (n _).2.1, F.I (n _).2.2]
  exact q.2
/-- the class's draft while it reads -/
def DrC (h : AH) (b : Nat) (B : BK) (N : NmL) : Prop := (IsCB h b B) ∧ (NmC h N) ∧ (xR h 58 10 = b) ∧ (b = 2 ∨ b = 63) ∧ (N.length = B 0 0 + B 1 0) ∧ (∀ i, i < N.length → ((nmA N i).2 < 4 → (nmA N i).2 < B 0 0) ∧ (4 ≤ (nmA N i).2 → (nmA N i).2 - 4 < B 1 0)) ∧ (B 5 0 ≤ B 2 0)
theorem DrC.q {h : AH} {b : Nat} {B : BK} {N : NmL} (q_ : DrC h b B N) : IsCB h b B := q_.1
theorem DrC.u {h : AH} {b : Nat} {B : BK} {N : NmL} (q_ : DrC h b B N) : NmC h N := q_.2.1
theorem DrC.r {h : AH} {b : Nat} {B : BK} {N : NmL} (q_ : DrC h b B N) : xR h 58 10 = b := q_.2.2.1
theorem DrC.b {h : AH} {b : Nat} {B : BK} {N : NmL} (q_ : DrC h b B N) : b = 2 ∨ b = 63 := q_.2.2.2.1
theorem DrC.l {h : AH} {b : Nat} {B : BK} {N : NmL} (q_ : DrC h b B N) : N.length = B 0 0 + B 1 0 := q_.2.2.2.2.1
theorem DrC.v {h : AH} {b : Nat} {B : BK} {N : NmL} (q_ : DrC h b B N) : ∀ i, i < N.length → ((nmA N i).2 < 4 → (nmA N i).2 < B 0 0) ∧ (4 ≤ (nmA N i).2 → (nmA N i).2 - 4 < B 1 0) := q_.2.2.2.2.2.1
theorem DrC.y {h : AH} {b : Nat} {B : BK} {N : NmL} (q_ : DrC h b B N) : B 5 0 ≤ B 2 0 := q_.2.2.2.2.2.2
def DrA (b : Nat) : Nat → Nat → Prop := fun x k => NnA x k ∨ (b ≤ x ∧ x ≤ b + 55)
theorem DrC.fl {h h' : AH} {b : Nat} {B : BK} {N : NmL} (F : Fz FlA h h') (d : DrC h b B N) : DrC h' b B N := by
  have hb := d.b
  refine ⟨d.q.mv (fun k hk => ⟨F.c _, F.z _, ?_, ?_⟩), d.u.fz F (fun a k => flN), by rw [F.r _ (by decide)]; exact d.r, d.b, d.l, d.v, d.y⟩
  · funext j; exact F.r _ (by omega)
  · funext j; exact F.I (by unfold FlA; omega)
def LnO (h h' : AH) (T : Nat → Int32) (n b : Nat) (w : Int32) (x : LnR) : Prop := Fz (DrA b) h h' ∧ CfC h' T n ∧ CtC h' T n x.2.1 ∧ (x.1 = 0 → w = nI 1 ∧ DrC h' b x.2.2.1 x.2.2.2) ∧ (x.1 ≠ 0 → w = nI 0 ∧ xI h' 58 9 = nI x.1)
/-- a line's end -/
theorem end_c {h0 h : AH} {T : Nat → Int32} {n p b : Nat} {B : BK} {N : NmL} (F : Fz (DrA b) h0 h) (c : CfC h T n) (t : CtC h T n p) (d : DrC h b B N) : ∃ w h', X6_endsLine_f 58 h = some (w, h') ∧ bz w ∧ LnO h0 h' T n b w (faE T n p, p, B, N) := by
  obtain ⟨w, h1, e1, F1, c1, t1, x1, y1⟩ := endsLine_c c t
  refine ⟨w, h1, e1, ?_, F.tr (F1.mo (fun x k q => .inl (.inl q))), c1, t1, fun z => ⟨x1 z, d.fl F1⟩, y1⟩
  by_cases z : faE T n p = 0
  · rw [x1 z]; decide
  · rw [(y1 z).1]; decide
theorem flaw_o {h0 h : AH} {T : Nat → Int32} {n p b k : Nat} {B : BK} {N : NmL} (F : Fz (DrA b) h0 h) (c : CfC h T n) (t : CtC h T n p) (hk : k ≠ 0) : ∃ h', X6_flawed_f 58 (nI k) h = some (nI 0, h') ∧ LnO h0 h' T n b (nI 0) (k, p, B, N) := by
  obtain ⟨h1, e1, F1, c1, t1, w1⟩ := flawed_c (v := nI k) c t
  exact ⟨h1, e1, F.tr (F1.mo (fun x k q => .inl (.inl q))), c1, t1, fun z => absurd z hk, fun _ => ⟨rfl, w1⟩⟩
theorem WB_m {B : BK} (w : WB B) (h : B 0 0 < 4) : WB (upB B 0 0 (B 0 0 + 1)) := by
  have e : ∀ k i, k ≠ 0 → upB B 0 0 (B 0 0 + 1) k i = B k i := fun k i hk => upB_n (fun z => hk z.1)
  have e0 : upB B 0 0 (B 0 0 + 1) 0 0 = B 0 0 + 1 := upB_s
  have cg : ∀ c, WC B c → WC (upB B 0 0 (B 0 0 + 1)) c := fun c q => q.cg (by omega) (by rw [e _ _ (by decide)]; exact Nat.le_refl _) (fun k hk => e _ _ (by omega)) (fun i => e _ _ (by omega)) (fun i => e _ _ (by omega))
  refine ⟨by omega, w.r, w.f, w.u, w.s, w.y, w.k, w.fr, fun i hi => ?_, w.fy, fun i hi => cg _ (w.ru i hi), fun i hi => cg _ (w.se i hi), w.nw, fun i hi z k hk => ?_, w.sp, fun i hi => ?_, w.ne, w.no, w.er, fun i hi => ?_, w.or, fun i hi => ?_⟩
  · rw [e0]; exact Nat.lt_succ_of_lt (w.fm i hi)
  · rw [e _ _ (by omega)]; exact w.nn i hi z k hk
  · rw [e0]; exact Nat.lt_succ_of_lt (w.st i hi)
  · rw [e0]; exact Nat.lt_succ_of_lt (w.ea i hi)
  · rw [e0]; exact Nat.lt_succ_of_lt (w.oa i hi)
theorem machine_c {h : AH} {T : Nat → Int32} {n p b : Nat} {B : BK} {N : NmL} (c : CfC h T n) (t : CtC h T n p) (d : DrC h b B N) : ∃ w h', X6_readMachine_f 58 h = some (w, h') ∧ LnO h h' T n b w (lnM T n B N p) := by
  have hb := d.b
  have w0 := d.q.w.m
  have w1 := d.q.w.r
  unfold X6_readMachine_f lnM
  rw [G_t c.g.c58, d.r, G_t d.q.s.c, d.q.m]
  by_cases z : B 0 0 = 4
  · obtain ⟨h1, e1, o1⟩ := flaw_o (b := b) (B := B) (N := N) (k := 5) Fz.rf c t (by decide)
    rw [if_pos (by rw [z]), if_pos z, G_t c.g.c58, e1, BN_ok, G_t (by decide)]
    exact ⟨_, _, rfl, o1⟩
  · rw [if_neg (by rw [nI_eI (by omega) (by omega)]; exact z), if_neg z, G_t c.g.c58, G_t d.q.s.c]
    obtain ⟨w, h1, e1, F1, c1, t1, x1, y1⟩ := newName_c (v := B 0 0) c t d.u (by omega) (by have := d.l; omega)
    rw [e1, BN_ok]
    have G1 : Fz (DrA b) h h1 := F1.mo (fun x k q => .inl q)
    by_cases y : faN T n N (nxT T n p) = 0
    · obtain ⟨w1', u1⟩ := x1 y
      have q1 : IsCB h1 b B := d.q.mv (fun k hk => ⟨F1.c _, F1.z _, by funext j; exact F1.r _ (by omega), by funext j; exact F1.I (by unfold NnA FlA; omega)⟩)
      have r1 : xR h1 58 10 = b := by rw [F1.r _ (by decide)]; exact d.r
      obtain ⟨h2, h2e⟩ : ∃ h2, h2 = pI h1 b 0 (nI (B 0 0 + 1)) := ⟨_, rfl⟩
      have F2 : Fz (fun x k => x = b ∧ k = 0) h1 h2 := by rw [h2e]; exact Fz.i ⟨rfl, rfl⟩
      have c2 := c1.fz F2 (fun x k q => by omega)
      have t2 := t1.fz F2 (fun x k q => by omega)
      have u2 := u1.fz F2 (fun x k q => by omega)
      obtain ⟨h3, e3, F3, c3, t3⟩ := step_c c2 (tkA_b t2.x).2 t2.f
      have G3 := F3.mo (fun a k => StA_Fl)
      have e : ∀ k i, k ≠ 0 → upB B 0 0 (B 0 0 + 1) k i = B k i := fun k i hk => upB_n (fun z => hk z.1)
      have e0 : upB B 0 0 (B 0 0 + 1) 0 0 = B 0 0 + 1 := upB_s
      have cl : ∀ a i, b + 8 ≤ a ∧ a + 2 ≤ b + 55 → IsCl h1 a B i → IsCl h2 a (upB B 0 0 (B 0 0 + 1)) i := fun a i ha q => (q.fz F2 (by omega) (fun k => by omega)).cg (fun k hk => e _ _ (by omega)) (fun j => e _ _ (by omega)) (fun j => e _ _ (by omega))
      have ru := d.q.w.u
      have sn := d.q.w.s
      have q2 : IsCB h2 b (upB B 0 0 (B 0 0 + 1)) := by
        refine ⟨q1.s.fz F2, WB_m d.q.w (by omega), by rw [h2e, xI_self, e0], by rw [F2.I (by omega)]; exact q1.r, by rw [F2.I (by omega)]; exact q1.f, by rw [F2.I (by omega)]; exact q1.u, by rw [F2.I (by omega)]; exact q1.sn, by rw [F2.I (by omega)]; exact q1.y, by rw [F2.I (by omega)]; exact q1.k, by rw [F2.I (by omega)]; exact q1.ne, by rw [F2.I (by omega)]; exact q1.no, fun i hi => by rw [F2.I (by omega)]; exact q1.fw i hi, fun i hi => by rw [F2.I (by omega)]; exact q1.fm i hi, fun i hi => by rw [F2.I (by omega)]; exact q1.fb i hi, fun i hi => ?_, fun i hi => ?_, fun i hi => by rw [F2.I (by omega)]; exact q1.ah i hi, fun i hi => by rw [F2.I (by omega)]; exact q1.be i hi⟩
        · rw [e _ _ (by decide)] at hi; exact cl _ _ (by omega) (q1.ru i hi)
        · rw [e _ _ (by decide)] at hi; exact cl _ _ (by omega) (q1.se i hi)
      have d2 : DrC h2 b (upB B 0 0 (B 0 0 + 1)) (N ++ [(wdV T n (nxT T n p), B 0 0)]) := by
        refine ⟨q2, u2, by rw [F2.r _ (by decide)]; exact r1, d.b, ?_, fun i hi => ?_, d.y⟩
        · rw [e0, e _ _ (by decide), List.length_append, d.l]
          show B 0 0 + B 1 0 + 1 = _
          omega
        · rw [e0, e _ _ (by decide)]
          rw [List.length_append] at hi
          have hi : i < N.length + 1 := hi
          by_cases j : i = N.length
          · rw [j, nmA_r]; exact ⟨fun _ => Nat.lt_succ_self _, fun g => absurd g (by show ¬ 4 ≤ B 0 0; omega)⟩
          · rw [nmA_l (by omega)]
            have := d.v i (by omega)
            exact ⟨fun g => Nat.lt_succ_of_lt (this.1 g), this.2⟩
      have Fa : Fz (DrA b) h h3 := (G1.tr (F2.mo (fun x k q => .inr (by omega)))).tr (G3.mo (fun x k q => .inl (.inl q)))
      obtain ⟨w4, h4, e4, b4, o4⟩ := end_c Fa c3 t3 (d2.fl G3)
      rw [w1', if_neg (by decide), G_t c1.g.c58, r1, G_t q1.s.c, q1.m, nI_add, LT_e, ← h2e, G_t c2.g.c58, e3, BN_ok, G_t c3.g.c58, e4, BN_ok, G_t b4, if_pos y]
      exact ⟨_, _, rfl, o4⟩
    · obtain ⟨w1', y1⟩ := y1 y
      rw [w1', if_pos (by decide), if_neg y]
      exact ⟨_, _, rfl, G1, c1, t1, fun g => absurd g y, fun _ => ⟨rfl, y1⟩⟩
