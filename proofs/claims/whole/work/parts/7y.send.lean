/-- a send, counted -/
def seB (B : BK) (r pl tg : Nat) (l : CsL) : BK := upB (clB B (10 + B 4 0) r pl tg 0 l) 4 0 (B 4 0 + 1)
theorem seB_4 {B : BK} {r pl tg : Nat} {l : CsL} : seB B r pl tg l 4 0 = B 4 0 + 1 := upB_s
theorem seB_e {B : BK} {r pl tg k i : Nat} {l : CsL} (h : ¬ (k = 4 ∧ i = 0)) (h1 : ¬ (i = 10 + B 4 0 ∧ 10 ≤ k ∧ k ≤ 14)) (h2 : k ≠ 20 + (10 + B 4 0)) (h4 : k ≠ 40 + (10 + B 4 0)) : seB B r pl tg l k i = B k i := by unfold seB; rw [upB_n h, clB_e h1 h2 h4]
theorem seB_c {B : BK} {r pl tg k i : Nat} {l : CsL} (h : ¬ (k = 4 ∧ i = 0)) : seB B r pl tg l k i = clB B (10 + B 4 0) r pl tg 0 l k i := by unfold seB; rw [upB_n h]
def SeH (B : BK) (r pl tg : Nat) (l : CsL) : Prop := (r < B 1 0) ∧ (pl ≤ B 0 0) ∧ (1 ≤ l.length) ∧ (l.length ≤ 3) ∧ (∀ x, x ∈ l → x.1 < B 1 0) ∧ (1 ≤ pl) ∧ (tg < B 0 0)
theorem SeH.r {B : BK} {r pl tg : Nat} {l : CsL} (q_ : SeH B r pl tg l) : r < B 1 0 := q_.1
theorem SeH.p {B : BK} {r pl tg : Nat} {l : CsL} (q_ : SeH B r pl tg l) : pl ≤ B 0 0 := q_.2.1
theorem SeH.o {B : BK} {r pl tg : Nat} {l : CsL} (q_ : SeH B r pl tg l) : 1 ≤ l.length := q_.2.2.1
theorem SeH.t {B : BK} {r pl tg : Nat} {l : CsL} (q_ : SeH B r pl tg l) : l.length ≤ 3 := q_.2.2.2.1
theorem SeH.l {B : BK} {r pl tg : Nat} {l : CsL} (q_ : SeH B r pl tg l) : ∀ x, x ∈ l → x.1 < B 1 0 := q_.2.2.2.2.1
theorem SeH.n {B : BK} {r pl tg : Nat} {l : CsL} (q_ : SeH B r pl tg l) : 1 ≤ pl := q_.2.2.2.2.2.1
theorem SeH.m {B : BK} {r pl tg : Nat} {l : CsL} (q_ : SeH B r pl tg l) : tg < B 0 0 := q_.2.2.2.2.2.2
theorem WB_s {B : BK} {r pl tg : Nat} {l : CsL} (w : WB B) (u : B 4 0 < 6) (H : SeH B r pl tg l) : WB (seB B r pl tg l) := by
  have sn := w.u
  have E : ∀ k i, k < 10 → k ≠ 4 → seB B r pl tg l k i = B k i := fun k i a b => seB_e (by omega) (by omega) (by omega) (by omega)
  have P : ∀ k i, 60 ≤ k → seB B r pl tg l k i = B k i := fun k i a => seB_e (by omega) (by omega) (by omega) (by omega)
  have cg : ∀ c, c ≠ 10 + B 4 0 → c < 16 → WC B c → WC (seB B r pl tg l) c := fun c hc h6 q => q.cg (by rw [E _ _ (by decide) (by decide)]; exact Nat.le_refl _) (by rw [E _ _ (by decide) (by decide)]; exact Nat.le_refl _) (fun k hk => seB_e (by omega) (by omega) (by omega) (by omega)) (fun i => seB_e (by omega) (by omega) (by omega) (by omega)) (fun i => seB_e (by omega) (by omega) (by omega) (by omega))
  have e3 : seB B r pl tg l 3 0 = B 3 0 := E _ _ (by decide) (by decide)
  have e2 : seB B r pl tg l 2 0 = B 2 0 := E _ _ (by decide) (by decide)
  have e6 : seB B r pl tg l 60 0 = B 60 0 := P _ _ (by decide)
  have e7 : seB B r pl tg l 61 0 = B 61 0 := P _ _ (by decide)
  refine ⟨by rw [E _ _ (by decide) (by decide)]; exact w.m, by rw [E _ _ (by decide) (by decide)]; exact w.r, by rw [e2]; exact w.f, by rw [e3]; exact w.u, by rw [seB_4]; omega, by rw [E _ _ (by decide) (by decide)]; exact w.y, by rw [E _ _ (by decide) (by decide)]; exact w.k, fun i hi => ?_, fun i hi => ?_, fun i hi => ?_, fun i hi => ?_, fun i hi => ?_, fun i hi => ?_, fun i hi z k hk => ?_, fun i hi => ?_, fun i hi => ?_, by rw [e6]; exact w.ne, by rw [e7]; exact w.no, fun i hi => ?_, fun i hi => ?_, fun i hi => ?_, fun i hi => ?_⟩
  · rw [e2] at hi; rw [E _ _ (by decide) (by decide), E _ _ (by decide) (by decide)]; exact w.fr i hi
  · rw [e2] at hi; rw [E _ _ (by decide) (by decide), E _ _ (by decide) (by decide)]; exact w.fm i hi
  · rw [e2] at hi; rw [E _ _ (by decide) (by decide), E _ _ (by decide) (by decide)]; exact w.fy i hi
  · rw [e3] at hi; exact cg _ (by omega) (by omega) (w.ru i hi)
  · rw [seB_4] at hi
    by_cases j : i = B 4 0
    · rw [j]; exact (WC_new H.r H.p H.o H.t H.l).up (.inr rfl)
    · exact cg _ (by omega) (by omega) (w.se i (by omega))
  · rw [e3] at hi; rw [seB_e (by omega) (by omega) (by omega) (by omega)]; exact w.nw i hi
  · rw [e3] at hi
    rw [seB_e (by omega) (by omega) (by omega) (by omega)] at z hk
    rw [seB_e (by omega) (by omega) (by omega) (by omega)]; exact w.nn i hi z k hk
  · rw [seB_4] at hi
    by_cases j : i = B 4 0
    · rw [j, seB_c (by omega), clB_11]; exact H.n
    · rw [seB_e (by omega) (by omega) (by omega) (by omega)]; exact w.sp i (by omega)
  · rw [seB_4] at hi
    rw [E 0 _ (by decide) (by decide)]
    by_cases j : i = B 4 0
    · rw [j, seB_c (by omega), clB_12]; exact H.m
    · rw [seB_e (by omega) (by omega) (by omega) (by omega)]; exact w.st i (by omega)
  · rw [e6] at hi; rw [P _ _ (by decide), E _ _ (by decide) (by decide)]; exact w.er i hi
  · rw [e6] at hi; rw [P _ _ (by decide), E _ _ (by decide) (by decide)]; exact w.ea i hi
  · rw [e7] at hi; rw [P _ _ (by decide), E _ _ (by decide) (by decide)]; exact w.or i hi
  · rw [e7] at hi; rw [P _ _ (by decide), E _ _ (by decide) (by decide)]; exact w.oa i hi
theorem cb_send {h h' : AH} {b r pl tg : Nat} {B : BK} {l : CsL} (q : IsCB h b B) (hb : b = 2 ∨ b = 63) (u : B 4 0 < 6) (F : Fz (fun x k => RuA (b + 38 + 3 * B 4 0) x k ∨ x = b ∧ k = 4) h h') (v : CsC h' (b + 38 + 3 * B 4 0) l) (e3 : xI h' (b + 38 + 3 * B 4 0) 3 = nI r) (e6 : xI h' (b + 38 + 3 * B 4 0) 6 = nI pl - nI 1) (e7 : xI h' (b + 38 + 3 * B 4 0) 7 = nI tg) (ec : xI h' b 4 = nI (B 4 0 + 1)) (H : SeH B r pl tg l) : IsCB h' b (seB B r pl tg l) := by
  have un := q.w.u
  have E : ∀ k i, k < 10 → k ≠ 4 → seB B r pl tg l k i = B k i := fun k i a b => seB_e (by omega) (by omega) (by omega) (by omega)
  have P : ∀ k i, 60 ≤ k → seB B r pl tg l k i = B k i := fun k i a => seB_e (by omega) (by omega) (by omega) (by omega)
  have I : ∀ x k, b ≤ x ∧ x ≤ b + 55 → ¬ (b + 38 + 3 * B 4 0 ≤ x ∧ x ≤ b + 38 + 3 * B 4 0 + 2) → ¬ (x = b ∧ k = 4) → xI h' x k = xI h x k := fun x k a1 a2 a3 => F.I (by unfold RuA FlA; omega)
  have cl : ∀ a i, i ≠ 10 + B 4 0 → i < 16 → b + 8 ≤ a ∧ a + 2 ≤ b + 55 → (a + 2 < b + 38 + 3 * B 4 0 ∨ b + 38 + 3 * B 4 0 + 2 < a) → IsCl h a B i → IsCl h' a (seB B r pl tg l) i := fun a i hi h6 ha h8 q => (q.fz F (by omega) (fun k => by unfold RuA FlA; omega)).cg (fun k hk => seB_e (by omega) (by omega) (by omega) (by omega)) (fun j => seB_e (by omega) (by omega) (by omega) (by omega)) (fun j => seB_e (by omega) (by omega) (by omega) (by omega))
  refine ⟨q.s.fz F, WB_s q.w u H, ?_, ?_, ?_, ?_, by rw [seB_4]; exact ec, ?_, ?_, ?_, ?_, fun i hi => ?_, fun i hi => ?_, fun i hi => ?_, fun i hi => ?_, fun i hi => ?_, fun i hi => ?_, fun i hi => ?_⟩
  · rw [I _ _ (by omega) (by omega) (by omega), E _ _ (by decide) (by decide)]; exact q.m
  · rw [I _ _ (by omega) (by omega) (by omega), E _ _ (by decide) (by decide)]; exact q.r
  · rw [I _ _ (by omega) (by omega) (by omega), E _ _ (by decide) (by decide)]; exact q.f
  · rw [I _ _ (by omega) (by omega) (by omega), E _ _ (by decide) (by decide)]; exact q.u
  · rw [I _ _ (by omega) (by omega) (by omega), E _ _ (by decide) (by decide)]; exact q.y
  · rw [I _ _ (by omega) (by omega) (by omega), E _ _ (by decide) (by decide)]; exact q.k
  · rw [I _ _ (by omega) (by omega) (by omega), P _ _ (by decide)]; exact q.ne
  · rw [I _ _ (by omega) (by omega) (by omega), P _ _ (by decide)]; exact q.no
  · rw [E _ _ (by decide) (by decide)] at hi; rw [I _ _ (by omega) (by omega) (by omega), E _ _ (by decide) (by decide)]; exact q.fw i hi
  · rw [E _ _ (by decide) (by decide)] at hi; rw [I _ _ (by omega) (by omega) (by omega), E _ _ (by decide) (by decide)]; exact q.fm i hi
  · rw [E _ _ (by decide) (by decide)] at hi; rw [I _ _ (by omega) (by omega) (by omega), E _ _ (by decide) (by decide)]; exact q.fb i hi
  · rw [E _ _ (by decide) (by decide)] at hi; exact cl _ _ (by omega) (by omega) (by omega) (by omega) (q.ru i hi)
  · rw [seB_4] at hi
    by_cases j : i = B 4 0
    · rw [j]; exact (cl_new v e3 e6 (fun z => absurd z (by omega)) (fun _ => e7)).up (by decide)
    · exact cl _ _ (by omega) (by omega) (by omega) (by omega) (q.se i (by omega))
  · rw [P _ _ (by decide)] at hi; rw [I _ _ (by omega) (by omega) (by omega), P _ _ (by decide), P _ _ (by decide)]; exact q.ah i hi
  · rw [P _ _ (by decide)] at hi; rw [I _ _ (by omega) (by omega) (by omega), P _ _ (by decide), P _ _ (by decide)]; exact q.be i hi
theorem SeA_Dr {b i x k : Nat} (hb : b = 2 ∨ b = 63) (hi : i < 6) (q : RuA (b + 38 + 3 * i) x k) : DrA b x k := by
  rcases q with q | q
  · exact .inl (.inl q)
  · exact .inr (by omega)
/-- the send, counted; its line's end -/
theorem sendz_c {h0 h : AH} {T : Nat → Int32} {n p b r pl tg : Nat} {B : BK} {N : NmL} {l : CsL} (d : DrC h0 b B N) (u : B 4 0 < 6) (F : Fz (RuA (b + 38 + 3 * B 4 0)) h0 h) (c : CfC h T n) (t : CtC h T n p) (v : CsC h (b + 38 + 3 * B 4 0) l) (e3 : xI h (b + 38 + 3 * B 4 0) 3 = nI r) (e6 : xI h (b + 38 + 3 * B 4 0) 6 = nI pl - nI 1) (e7 : xI h (b + 38 + 3 * B 4 0) 7 = nI tg) (H : SeH B r pl tg l) : ∃ w h', (G (xc h 58 = 6) <| G (xc h (xR h 58 10) = 0) <| LT (pI h (xR h 58 10) 4 ((xI h (xR h 58 10) 4) + (nI 1))) fun h43 => G (xc h43 58 = 6) <| BN (X6_step_f 58 h43) fun _ h45 => G (xc h45 58 = 6) <| BN (X6_endsLine_f 58 h45) fun v48 h47 => G (bz v48) <| some (v48, h47)) = some (w, h') ∧ LnO h0 h' T n b w (faE T n (nxT T n p), nxT T n p, seB B r pl tg l, N) := by
  have hb := d.b
  have r1 : xR h 58 10 = b := by rw [F.r _ (by decide)]; exact d.r
  have s := d.q.s.fz F
  have x3 : xI h b 4 = nI (B 4 0) := by rw [F.I (by unfold RuA FlA; omega)]; exact d.q.sn
  obtain ⟨h1, h1e⟩ : ∃ h1, h1 = pI h b 4 (nI (B 4 0 + 1)) := ⟨_, rfl⟩
  have F1 : Fz (fun x k => x = b ∧ k = 4) h h1 := by rw [h1e]; exact Fz.i ⟨rfl, rfl⟩
  have c1 := c.fz F1 (fun x k q => by omega)
  have t1 := t.fz F1 (fun x k q => by omega)
  have Fa : Fz (fun x k => RuA (b + 38 + 3 * B 4 0) x k ∨ x = b ∧ k = 4) h0 h1 := (F.mo (fun x k q => .inl q)).tr (F1.mo (fun x k q => .inr q))
  have q1 : IsCB h1 b (seB B r pl tg l) := cb_send d.q hb u Fa (v.fz F1 (by omega) (fun x k q => by unfold CsW at q; omega)) (by rw [F1.I (by omega)]; exact e3) (by rw [F1.I (by omega)]; exact e6) (by rw [F1.I (by omega)]; exact e7) (by rw [h1e, xI_self]) H
  have E : ∀ k i, k < 10 → k ≠ 4 → seB B r pl tg l k i = B k i := fun k i a b => seB_e (by omega) (by omega) (by omega) (by omega)
  have d1 : DrC h1 b (seB B r pl tg l) N := by
    refine ⟨q1, d.u.fz Fa (fun x k q => by unfold RuA FlA; omega), by rw [Fa.r _ (by decide)]; exact d.r, d.b, ?_, ?_, ?_⟩
    · rw [E _ _ (by decide) (by decide), E _ _ (by decide) (by decide)]; exact d.l
    · rw [E _ _ (by decide) (by decide), E _ _ (by decide) (by decide)]; exact d.v
    · rw [E _ _ (by decide) (by decide), E _ _ (by decide) (by decide)]; exact d.y
  obtain ⟨h2, e2, F2, c2, t2⟩ := step_c c1 (tkA_b t1.x).2 t1.f
  have G2 := F2.mo (fun a k => StA_Fl)
  have Fb : Fz (DrA b) h0 h2 := (Fa.mo (fun x k q => by
    rcases q with (q | q) | q
    · exact .inl (.inl q)
    · exact .inr (by omega)
    · exact .inr (by omega))).tr (G2.mo (fun x k q => .inl (.inl q)))
  obtain ⟨w, h4, e4, b4, o4⟩ := end_c Fb c2 t2 (d1.fl G2)
  rw [G_t c.g.c58, r1, G_t s.c, x3, nI_add, LT_e, ← h1e, G_t c1.g.c58, e2, BN_ok, G_t c2.g.c58, e4, BN_ok, G_t b4]
  exact ⟨_, _, rfl, o4⟩
theorem send_c {h : AH} {T : Nat → Int32} {n p b : Nat} {B : BK} {N : NmL} (c : CfC h T n) (t : CtC h T n p) (d : DrC h b B N) : ∃ w h', X6_readSend_f 58 h = some (w, h') ∧ LnO h h' T n b w (lnS T n B N p) := by
  have hb := d.b
  have w3 := d.q.w.s
  have hR : ∀ w, 4 ≤ lkV N w → lkV N w < 99 → lkV N w - 4 < B 1 0 := fun w a e => d.ro a ((lkV_b (w := w) d.u.v).elim (fun g => by omega) id)
  have g3 : 3 < FU := FU_gt (by decide)
  unfold X6_readSend_f lnS
  rw [G_t c.g.c58, d.r, G_t d.q.s.c, d.q.sn]
  by_cases z : B 4 0 = 6
  · obtain ⟨h1, e1, o1⟩ := flaw_o (b := b) (B := B) (N := N) (k := 5) Fz.rf c t (by decide)
    rw [if_pos (by rw [z]), if_pos z, G_t c.g.c58, e1, BN_ok, G_t (by decide)]
    exact ⟨_, _, rfl, o1⟩
  · have u : B 4 0 < 6 := by omega
    have mD : ∀ x k, RuA (b + 38 + 3 * B 4 0) x k → DrA b x k := fun x k q => SeA_Dr hb u q
    rw [if_neg (by rw [nI_eI (by omega) (by omega)]; exact z), if_neg z, G_t c.g.c58, G_t d.q.s.c, d.q.s.r11, G_t d.q.s.c5, d.q.s.z5, G_gx u (by omega), nI_cl (by omega), d.q.s.se _ u, LT_e]
    have cc := d.q.s.sc _ u
    obtain ⟨a, ha⟩ : ∃ a, a = b + 38 + 3 * B 4 0 := ⟨_, rfl⟩
    rw [← ha] at cc mD ⊢
    have aa : 2 ≤ a ∧ a + 2 < 58 ∨ 63 ≤ a ∧ a + 2 < 119 := by omega
    have ane : a ≠ 174 ∧ a ≠ 180 ∧ a ≠ 119 := by omega
    have oF : ∀ x k, CsW a x k → ¬ FlA x k := fun x k q => by unfold FlA; unfold CsW at q; omega
    obtain ⟨h1, e1, F1, v1, a6, a7, a8⟩ := wipe_c cc (by omega)
    have c1 := c.fz F1 (fun x k q => by omega)
    have t1 := t.fz F1 (fun x k q => by omega)
    have u1 := d.u.fz F1 (fun x k q => by omega)
    obtain ⟨y2, h2, e2, F2, c2, t2, x2, y2'⟩ := stepToRow_c c1 t1 u1
    have v2 := v1.fz F2 ane oF
    rw [G_t cc.c, e1, BN_ok, G_t c1.g.c58, e2, BN_ok, G_t v2.s.c, LT_e]
    obtain ⟨h3, h3e⟩ : ∃ h3, h3 = pI h2 a 3 y2 := ⟨_, rfl⟩
    have F3 : Fz (fun x k => x = a ∧ k = 3) h2 h3 := by rw [h3e]; exact Fz.i ⟨rfl, rfl⟩
    have c3 := c2.fz F3 (fun x k q => by omega)
    have t3 := t2.fz F3 (fun x k q => by omega)
    have v3 := v2.fz F3 ane (fun x k q => by unfold CsW at q; omega)
    have Fa : Fz (RuA a) h h3 := ((F1.mo (fun x k q => .inr (by omega))).tr (F2.mo (fun x k q => .inl q))).tr (F3.mo (fun x k q => .inr (by omega)))
    have r3' : xI h3 a 3 = y2 := by rw [h3e, xI_self]
    rw [← h3e, G_t v3.s.c, r3']
    generalize nxT T n p = q at *
    by_cases r : faR T n N q = 0
    · obtain ⟨r1, r2, r3⟩ := x2 r
      have hr := d.ro r2 r3
      rw [r1, if_neg (nI_nm (by omega)), if_pos r, G_t c3.g.c58]
      unfold lnS1
      have k3 : xI h3 a 3 = nI (lkV N (wdV T n q) - 4) := by rw [r3', r1]
      generalize lkV N (wdV T n q) - 4 = rr at *
      obtain ⟨y4, h4, e4, F4, c4, t4, x4, y4'⟩ := stepTo_c c3 t3 (show 16 < 17 by decide)
      have v4 := v3.fz F4 ane oF
      have Fb := Fa.tr (F4.mo (fun x k q => .inl q))
      have u4 : NmC h4 N := d.u.fz Fb (fun x k q => by unfold RuA FlA; omega)
      rw [e4, BN_ok]
      generalize nxT T n q = q2 at *
      by_cases o : faW T n q2 16 = 0
      · rw [x4 o, if_neg (by decide), if_pos o, G_t c4.g.c58]
        unfold lnS2
        obtain ⟨y5, h5, e5, F5, c5, t5, x5, y5'⟩ := stepToMachine_c c4 t4 u4
        have v5 := v4.fz F5 ane oF
        rw [e5, BN_ok, G_t v5.s.c, LT_e]
        obtain ⟨h6, h6e⟩ : ∃ h6, h6 = pI h5 a 7 y5 := ⟨_, rfl⟩
        have F6 : Fz (fun x k => x = a ∧ k = 7) h5 h6 := by rw [h6e]; exact Fz.i ⟨rfl, rfl⟩
        have c6 := c5.fz F6 (fun x k q => by omega)
        have t6 := t5.fz F6 (fun x k q => by omega)
        have v6 := v5.fz F6 ane (fun x k q => by unfold CsW at q; omega)
        have Fc : Fz (RuA a) h h6 := (Fb.tr (F5.mo (fun x k q => .inl q))).tr (F6.mo (fun x k q => .inr (by omega)))
        have g6 : xI h6 a 7 = y5 := by rw [h6e, xI_self]
        have k6 : xI h6 a 3 = nI rr := by rw [F6.I (by omega), F5.I (by unfold FlA; omega), F4.I (by unfold FlA; omega)]; exact k3
        rw [← h6e, G_t v6.s.c, g6]
        generalize nxT T n q2 = q3 at *
        by_cases m : faM T n N q3 = 0
        · obtain ⟨m1, m2⟩ := x5 m
          have mb := d.ma m2
          rw [m1] at g6
          rw [m1, if_neg (nI_nm (by omega)), if_pos m, G_t c6.g.c58]
          generalize lkV N (wdV T n q3) = tg at *
          unfold lnS3
          obtain ⟨y7, h7, e7, F7, c7, t7, x7, y7'⟩ := stepTo_c c6 t6 (show 4 < 17 by decide)
          have v7 := v6.fz F7 ane oF
          have Fd := Fc.tr (F7.mo (fun x k q => .inl q))
          have u7 : NmC h7 N := d.u.fz Fd (fun x k q => by unfold RuA FlA; omega)
          rw [e7, BN_ok]
          generalize nxT T n q3 = q4 at *
          by_cases i : faW T n q4 4 = 0
          · rw [x7 i, if_neg (by decide), if_pos i, G_t c7.g.c58]
            obtain ⟨s1, s2, s3⟩ := csX_ok (T := T) (n := n) (no := true) hR 3 (nxT T n q4)
            obtain ⟨w8, h8, e8, F8, c8, t8, x8, y8⟩ := cases_c (T := T) (n := n) (a := a) (N := N) (no := true) aa 3 0 [] h7 q4 FU rfl rfl g3 c7 t7 u7 v7
            rw [List.nil_append] at x8
            unfold X6_readCases_f lnS4
            have e8' : X6_readCases_B2 FU 58 a (nI 1) (nI 0) h7 = some (w8, h8) := e8
            rw [e8', BN_ok]
            generalize csX T n N true 3 (nxT T n q4) = x at *
            have Fe : Fz (RuA a) h h8 := Fd.tr (F8.mo (fun x k q => by
              rcases q with q | q
              · exact .inl q
              · exact .inr (by unfold CsW at q; omega)))
            by_cases y : x.1 = 0
            · obtain ⟨w8', v8⟩ := x8 y
              have k8 : xI h8 a 3 = nI rr := by rw [F8.I (by unfold CcA FlA CsW; omega), F7.I (by unfold FlA; omega)]; exact k6
              have g8 : xI h8 a 7 = nI tg := by rw [F8.I (by unfold CcA FlA CsW; omega), F7.I (by unfold FlA; omega)]; exact g6
              have u8 : NmC h8 N := d.u.fz Fe (fun x k q => by unfold RuA FlA; omega)
              rw [w8', if_neg (by decide), if_pos y, G_t c8.g.c58, spells_c c8 t8 (by decide), BN_ok, ifB]
              unfold faW
              by_cases at_ : isW T n x.2.1 1 = true
              · rw [if_pos at_, if_pos at_, if_pos rfl, G_t c8.g.c58]
                unfold lnS5
                obtain ⟨y9, h9, e9, F9, c9, t9, x9, y9'⟩ := stepToMachine_c c8 t8 u8
                have v9 := v8.fz F9 ane oF
                rw [e9, BN_ok, G_t v9.s.c, LT_e]
                obtain ⟨hA, hAe⟩ : ∃ hA, hA = pI h9 a 6 y9 := ⟨_, rfl⟩
                have FA : Fz (fun x k => x = a ∧ k = 6) h9 hA := by rw [hAe]; exact Fz.i ⟨rfl, rfl⟩
                have cA := c9.fz FA (fun x k q => by omega)
                have tA := t9.fz FA (fun x k q => by omega)
                have vA := v9.fz FA ane (fun x k q => by unfold CsW at q; omega)
                have Ff : Fz (RuA a) h hA := (Fe.tr (F9.mo (fun x k q => .inl q))).tr (FA.mo (fun x k q => .inr (by omega)))
                have pA : xI hA a 6 = y9 := by rw [hAe, xI_self]
                have kA : xI hA a 3 = nI rr := by rw [FA.I (by omega), F9.I (by unfold FlA; omega)]; exact k8
                have gA : xI hA a 7 = nI tg := by rw [FA.I (by omega), F9.I (by unfold FlA; omega)]; exact g8
                rw [← hAe, G_t vA.s.c, pA]
                generalize nxT T n x.2.1 = q5 at *
                by_cases j : faM T n N q5 = 0
                · obtain ⟨j1, j2⟩ := x9 j
                  have jb := d.ma j2
                  rw [j1] at pA
                  rw [j1, if_neg (nI_nm (by omega)), if_pos j, G_t vA.s.c, gA]
                  generalize lkV N (wdV T n q5) = sn at *
                  by_cases eq : sn = tg
                  · obtain ⟨hB, eB, oB⟩ := flaw_o (b := b) (B := B) (N := N) (k := 3) (Ff.mo mD) cA tA (by decide)
                    rw [if_pos (by rw [eq]), if_pos eq, G_t cA.g.c58, eB, BN_ok, G_t (by decide)]
                    exact ⟨_, _, rfl, oB⟩
                  · rw [if_neg (by rw [nI_eI (by omega) (by omega)]; exact eq), if_neg eq]
                    subst ha
                    exact sendz_c (pl := sn + 1) d u Ff cA tA vA kA (by rw [pA, nI_pm (by omega), Nat.add_sub_cancel]) gA ⟨hr, by omega, s3 y, s1, fun e he => (s2 e he).1, by omega, mb⟩
                · obtain ⟨j1, j2⟩ := y9' j
                  rw [j1, if_pos rfl, if_neg j]
                  exact ⟨_, _, rfl, Ff.mo mD, cA, tA, fun g => absurd g j, fun _ => ⟨rfl, by rw [FA.I (by omega)]; exact j2⟩⟩
              · obtain ⟨hB, eB, oB⟩ := flaw_o (b := b) (B := B) (N := N) (k := 1) (Fe.mo mD) c8 t8 (by decide)
                rw [if_neg at_, if_neg at_, if_neg (by decide), G_t c8.g.c58, eB, BN_ok, G_t (by decide)]
                exact ⟨_, _, rfl, oB⟩
            · obtain ⟨w8', y8⟩ := y8 y
              rw [w8', if_pos (by decide), if_neg y]
              exact ⟨_, _, rfl, Fe.mo mD, c8, t8, fun g => absurd g y, fun _ => ⟨rfl, y8⟩⟩
          · obtain ⟨i1, i2⟩ := y7' i
            rw [i1, if_pos (by decide), if_neg i]
            exact ⟨_, _, rfl, Fd.mo mD, c7, t7, fun g => absurd g i, fun _ => ⟨rfl, i2⟩⟩
        · obtain ⟨m1, m2⟩ := y5' m
          rw [m1, if_pos rfl, if_neg m]
          exact ⟨_, _, rfl, Fc.mo mD, c6, t6, fun g => absurd g m, fun _ => ⟨rfl, by rw [F6.I (by omega)]; exact m2⟩⟩
      · obtain ⟨o1, o2⟩ := y4' o
        rw [o1, if_pos (by decide), if_neg o]
        exact ⟨_, _, rfl, Fb.mo mD, c4, t4, fun g => absurd g o, fun _ => ⟨rfl, o2⟩⟩
    · obtain ⟨r1, r2⟩ := y2' r
      rw [r1, if_pos rfl, if_neg r]
      exact ⟨_, _, rfl, Fa.mo mD, c3, t3, fun g => absurd g r, fun _ => ⟨rfl, by rw [F3.I (by omega)]; exact r2⟩⟩
