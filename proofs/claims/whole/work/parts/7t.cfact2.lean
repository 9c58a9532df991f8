theorem lkV_i {N : NmL} {w : Int64} (q : lkV N w ≠ 99) : ∃ i, i < N.length ∧ (nmA N i).2 = lkV N w := by
  have key : ∀ d i, N.length - i = d → i ≤ N.length → lkV (N.drop i) w ≠ 99 → ∃ j, j < N.length ∧ (nmA N j).2 = lkV (N.drop i) w := by
    intro d
    induction d with
    | zero => intro i e hi g; rw [show i = N.length by omega, lkV_e] at g; exact absurd rfl g
    | succ d ih =>
      intro i e hi g
      rw [lkV_d (by omega)] at g ⊢
      by_cases q : (nmA N i).1 = w
      · rw [if_pos q]; exact ⟨i, by omega, rfl⟩
      · rw [if_neg q] at g ⊢; exact ih (i + 1) (by omega) (by omega) g
  exact key N.length 0 (by omega) (by omega) q
theorem DrC.ro {h : AH} {b : Nat} {B : BK} {N : NmL} {w : Int64} (d : DrC h b B N) (l : 4 ≤ lkV N w) (u : lkV N w < 14) : lkV N w - 4 < B 1 0 := by
  obtain ⟨i, hi, e⟩ := lkV_i (N := N) (w := w) (by omega)
  have := (d.v i hi).2
  rw [e] at this
  exact this l
theorem DrC.ma {h : AH} {b : Nat} {B : BK} {N : NmL} {w : Int64} (d : DrC h b B N) (u : lkV N w < 4) : lkV N w < B 0 0 := by
  obtain ⟨i, hi, e⟩ := lkV_i (N := N) (w := w) (by omega)
  have := (d.v i hi).1
  rw [e] at this
  exact this u
theorem fact70_c {h0 h : AH} {T : Nat → Int32} {n p b r m : Nat} {B : BK} {N : NmL} {y : Bool} (F : Fz (DrA b) h0 h) (c : CfC h T n) (t : CtC h T n p) (d : DrC h b B N) (h2 : B 2 0 < 10) (hr : r < B 1 0) (hm : m < B 0 0) : ∃ w h', X6_readFact_B70 58 (nI r) (nI m) (bI y) h = some (w, h') ∧ LnO h0 h' T n b w (faE T n p, p, faB B r m y, N) := by
  have hb := d.b
  obtain ⟨h1, e1, F1, q1⟩ := addFact_c (y := y) d.q d.b h2 d.y hr hm
  have c1 := c.fz F1 (fun x k q => by omega)
  have t1 := t.fz F1 (fun x k q => by omega)
  have d1 : DrC h1 b (faB B r m y) N := by
    refine ⟨q1, d.u.fz F1 (fun x k q => by omega), by rw [F1.r _ (by decide)]; exact d.r, d.b, d.l, d.v, ?_⟩
    rw [faB_5, faB_2]
    have := d.y
    cases y with
    | false => rw [if_neg (by decide)]; omega
    | true => rw [if_pos rfl]; omega
  obtain ⟨w, h3, e3, b3, o3⟩ := end_c (F.tr (F1.mo (fun x k q => .inr (by omega)))) c1 t1 d1
  unfold X6_readFact_B70
  rw [G_t c.g.c58, d.r, G_t d.q.s.c, e1, BN_ok, G_t c1.g.c58, e3, BN_ok, G_t b3]
  exact ⟨_, _, rfl, o3⟩
theorem fact_c {h : AH} {T : Nat → Int32} {n p b : Nat} {B : BK} {N : NmL} (c : CfC h T n) (t : CtC h T n p) (d : DrC h b B N) : ∃ w h', X6_readFact_f 58 h = some (w, h') ∧ LnO h h' T n b w (lnF T n B N p) := by
  have w2 := d.q.w.f
  have mF : ∀ x k, FlA x k → DrA b x k := fun x k q => .inl (.inl q)
  unfold X6_readFact_f lnF
  rw [G_t c.g.c58, d.r, G_t d.q.s.c, d.q.f]
  by_cases z : B 2 0 = 10
  · obtain ⟨h1, e1, o1⟩ := flaw_o (b := b) (B := B) (N := N) (k := 5) Fz.rf c t (by decide)
    rw [if_pos (by rw [z]), if_pos z, G_t c.g.c58, e1, BN_ok, G_t (by decide)]
    exact ⟨_, _, rfl, o1⟩
  · rw [if_neg (by rw [nI_eI (by omega) (by omega)]; exact z), if_neg z, G_t c.g.c58]
    obtain ⟨v1, h1, e1, F1, c1, t1, x1, y1⟩ := stepToRow_c c t d.u
    have d1 := d.fl F1
    rw [e1, BN_ok]
    unfold lnF1
    generalize nxT T n p = q at *
    by_cases r : faR T n N q = 0
    · obtain ⟨r1, r2, r3⟩ := x1 r
      rw [r1, if_neg (nI_nm (by omega)), if_pos r, G_t c1.g.c58]
      obtain ⟨v2, h2, e2, F2, c2, t2, x2, y2⟩ := stepTo_c c1 t1 (show 1 < 17 by decide)
      have d2 := d1.fl F2
      rw [e2, BN_ok]
      unfold lnF2
      generalize nxT T n q = q2 at *
      by_cases a : faW T n q2 1 = 0
      · rw [x2 a, if_neg (by decide), if_pos a, G_t c2.g.c58]
        obtain ⟨v3, h3, e3, F3, c3, t3, x3, y3⟩ := stepToMachine_c c2 t2 d2.u
        have d3 := d2.fl F3
        rw [e3, BN_ok]
        unfold lnF3
        generalize nxT T n q2 = q3 at *
        by_cases m : faM T n N q3 = 0
        · obtain ⟨m1, m2⟩ := x3 m
          obtain ⟨h4, e4, F4, c4, t4⟩ := step_c c3 (tkA_b t3.x).2 t3.f
          have G4 := F4.mo (fun a k => StA_Fl)
          have d4 := d3.fl G4
          have t4' : CtC h4 T n (nxT T n q3) := t4
          clear t4
          rw [m1, if_neg (nI_nm (by omega)), if_pos m, G_t c3.g.c58, e4, BN_ok, G_t c4.g.c58, spells_c c4 t4' (by decide), BN_ok, ifB]
          unfold opT
          have Fa : Fz (DrA b) h h4 := (((F1.tr F2).tr F3).tr G4).mo mF
          by_cases o : isW T n (nxT T n q3) 7 = true
          · obtain ⟨h5, e5, F5, c5, t5⟩ := step_c c4 (tkA_b t4'.x).2 t4'.f
            have G5 := F5.mo (fun a k => StA_Fl)
            rw [if_pos o, if_pos o, G_t c4.g.c58, e5, BN_ok]
            exact fact70_c (Fa.tr (G5.mo mF)) c5 t5 (d4.fl G5) (by omega) (d.ro r2 r3) (d.ma m2)
          · rw [if_neg o, if_neg o]
            exact fact70_c Fa c4 t4' d4 (by omega) (d.ro r2 r3) (d.ma m2)
        · obtain ⟨m1, m2⟩ := y3 m
          rw [m1, if_pos rfl, if_neg m]
          exact ⟨_, _, rfl, ((F1.tr F2).tr F3).mo mF, c3, t3, fun g => absurd g m, fun _ => ⟨rfl, m2⟩⟩
      · obtain ⟨a1, a2⟩ := y2 a
        rw [a1, if_pos (by decide), if_neg a]
        exact ⟨_, _, rfl, (F1.tr F2).mo mF, c2, t2, fun g => absurd g a, fun _ => ⟨rfl, a2⟩⟩
    · obtain ⟨a1, a2⟩ := y1 r
      rw [a1, if_pos rfl, if_neg r]
      exact ⟨_, _, rfl, F1.mo mF, c1, t1, fun g => absurd g r, fun _ => ⟨rfl, a2⟩⟩
