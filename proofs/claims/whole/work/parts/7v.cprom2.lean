theorem promise_c {h : AH} {T : Nat → Int32} {n p b : Nat} {B : BK} {N : NmL} (c : CfC h T n) (t : CtC h T n p) (d : DrC h b B N) : ∃ w h', X6_readPromise_f 58 h = some (w, h') ∧ PrO h h' T n b N w (lnP T n B N p) := by
  have hb := d.b
  have ru := d.q.w.u
  have sn := d.q.w.s
  have mF : ∀ x k, FlA x k → DrA b x k := fun x k q => .inl (.inl q)
  have hR : ∀ w, 4 ≤ lkV N w → lkV N w < 99 → lkV N w - 4 < B 1 0 := fun w a e => d.ro a ((lkV_b (w := w) d.u.v).elim (fun g => by omega) id)
  have hM : ∀ w, lkV N w < 4 → lkV N w < B 0 0 := fun w a => d.ma a
  have ox := plX_ok (T := T) (n := n) (s := 0) hR hM 3 (nxT T n p)
  have g3 : 3 < FU := FU_gt (by decide)
  unfold X6_readPromise_f lnP
  rw [G_t c.g.c58, d.r, G_t d.q.s.c, d.q.s.r12]
  unfold X6_readPlaces_f
  obtain ⟨w1, h1, e1, F1, c1, t1, x1, y1⟩ := places_c (T := T) (n := n) (a := b + 6) (s := 0) (N := N) (by decide) (by omega) 3 0 [] h p FU rfl rfl g3 c t d.u d.q.s.c6 d.q.s.z6 (fun i hi => absurd hi (Nat.not_lt_zero _))
  rw [List.nil_append] at x1
  generalize plX T n N 0 3 (nxT T n p) = x at *
  have s1 := d.q.s.fz F1
  obtain ⟨h2, h2e⟩ : ∃ h2, h2 = pI h1 b 14 w1 := ⟨_, rfl⟩
  have F2 : Fz (fun x k => x = b ∧ k = 14) h1 h2 := by rw [h2e]; exact Fz.i ⟨rfl, rfl⟩
  have c2 := c1.fz F2 (fun x k q => by omega)
  have t2 := t1.fz F2 (fun x k q => by omega)
  have s2 := s1.fz F2
  have Fa : Fz (DrA b) h h2 := (F1.mo (fun x k q => q.elim (fun g => .inl (.inl g)) (fun g => .inr (by omega)))).tr (F2.mo (fun x k q => .inr (by omega)))
  have r2 : xR h2 58 10 = b := by rw [Fa.r _ (by decide)]; exact d.r
  rw [e1, BN_ok, G_t s1.c, LT_e, ← h2e, G_t c2.g.c58, r2, G_t s2.c, show xI h2 b 14 = w1 by rw [h2e, xI_self]]
  unfold lnP1
  by_cases z : x.1 = 0
  · obtain ⟨w1', v1⟩ := x1 z
    rw [w1', if_neg (nI_nm (by omega)), if_pos z, G_t c2.g.c58, spells_c c2 t2 (by decide), BN_ok, ifB]
    unfold faW
    by_cases o : isW T n x.2.1 3 = true
    · have oy := plX_ok (T := T) (n := n) (s := 11) hR hM 3 (nxT T n x.2.1)
      have Fc : Fz (fun x k => FlA x k ∨ x = b + 6 ∨ x = b ∧ k = 14) h h2 := (F1.mo (fun x k q => q.elim .inl (fun g => .inr (.inl g)))).tr (F2.mo (fun x k q => .inr (.inr q)))
      have u2 : NmC h2 N := d.u.fz Fc (fun x k q => by unfold FlA; omega)
      rw [if_pos o, if_pos o, G_t c2.g.c58, r2, G_t s2.c, s2.r13, if_pos rfl]
      obtain ⟨w3, h3, e3, F3, c3, t3, x3, y3⟩ := places_c (T := T) (n := n) (a := b + 7) (s := 11) (N := N) (by decide) (by omega) 3 0 [] h2 x.2.1 FU rfl rfl g3 c2 t2 u2 s2.c7 s2.z7 (fun i hi => absurd hi (Nat.not_lt_zero _))
      rw [List.nil_append] at x3
      generalize plX T n N 11 3 (nxT T n x.2.1) = y at *
      have s3 := s2.fz F3
      obtain ⟨h4, h4e⟩ : ∃ h4, h4 = pI h3 b 15 w3 := ⟨_, rfl⟩
      have F4 : Fz (fun x k => x = b ∧ k = 15) h3 h4 := by rw [h4e]; exact Fz.i ⟨rfl, rfl⟩
      have c4 := c3.fz F4 (fun x k q => by omega)
      have t4 := t3.fz F4 (fun x k q => by omega)
      have s4 := s3.fz F4
      have Fd : Fz (fun x k => FlA x k ∨ x = b + 6 ∨ x = b + 7 ∨ x = b ∧ (k = 14 ∨ k = 15)) h h4 := ((Fc.mo (fun x k q => q.elim .inl (fun g => .inr (by omega)))).tr (F3.mo (fun x k q => q.elim .inl (fun g => .inr (.inr (.inl g)))))).tr (F4.mo (fun x k q => .inr (by omega)))
      have Fe : Fz (DrA b) h h4 := Fd.mo (fun x k q => q.elim (fun g => .inl (.inl g)) (fun g => .inr (by omega)))
      have r4 : xR h4 58 10 = b := by rw [Fe.r _ (by decide)]; exact d.r
      rw [e3, BN_ok, G_t s3.c, LT_e, ← h4e, G_t c4.g.c58, r4, G_t s4.c, show xI h4 b 15 = w3 by rw [h4e, xI_self]]
      unfold lnP2
      by_cases m : y.1 = 0
      · obtain ⟨w3', v3⟩ := x3 m
        have kl := tkK_le (T := T) (n := n) (p := y.2.1)
        rw [w3', if_neg (nI_nm (by omega)), if_pos m, G_t c4.g.c58, t4.s]
        by_cases k : tkK T n y.2.1 = 0
        · rw [if_pos (by rw [k]; rfl), if_pos k]
          refine ⟨_, _, rfl, Fe, c4, t4, fun _ => ⟨rfl, ?_, r4⟩, fun g => absurd rfl g⟩
          have Ib : ∀ x k, b ≤ x ∧ x ≤ b + 55 → ¬ (x = b + 6 ∨ x = b + 7 ∨ x = b ∧ (k = 14 ∨ k = 15)) → xI h4 x k = xI h x k := fun x k a1 a2 => Fd.I (fun g => g.elim (fun g => by unfold FlA at g; omega) a2)
          have q := d.q
          have cl : ∀ a i, i < 16 → b + 8 ≤ a ∧ a + 2 ≤ b + 55 → IsCl h a B i → IsCl h4 a (prB B x.2.2 y.2.2) i := fun a i hi ha q => (q.fz Fd (by omega) (fun k => by unfold FlA; omega)).cg (fun k hk => prB_e (by omega)) (fun j => prB_e (by omega)) (fun j => prB_e (by omega))
          refine ⟨s4, WB_p q.w ox oy, by rw [Ib _ _ (by omega) (by omega)]; exact q.m, by rw [Ib _ _ (by omega) (by omega)]; exact q.r, by rw [Ib _ _ (by omega) (by omega)]; exact q.f, by rw [Ib _ _ (by omega) (by omega)]; exact q.u, by rw [Ib _ _ (by omega) (by omega)]; exact q.sn, by rw [Ib _ _ (by omega) (by omega)]; exact q.y, by rw [Ib _ _ (by omega) (by omega)]; exact q.k, ?_, ?_, fun i hi => by rw [Ib _ _ (by omega) (by omega)]; exact q.fw i hi, fun i hi => by rw [Ib _ _ (by omega) (by omega)]; exact q.fm i hi, fun i hi => by rw [Ib _ _ (by omega) (by omega)]; exact q.fb i hi, fun i hi => ?_, fun i hi => ?_, fun i hi => ?_, fun i hi => ?_⟩
          · rw [F4.I (by omega), F3.I (by unfold PcA FlA; omega), h2e, xI_self, w1']; rfl
          · rw [h4e, xI_self, w3']; rfl
          · have hi : i < prB B x.2.2 y.2.2 3 0 := hi
            rw [prB_e (by decide)] at hi; exact cl _ _ (by omega) (by omega) (q.ru i hi)
          · have hi : i < prB B x.2.2 y.2.2 4 0 := hi
            rw [prB_e (by decide)] at hi; exact cl _ _ (by omega) (by omega) (q.se i hi)
          · rw [F4.I (by omega), F3.I (by unfold PcA FlA; omega), F2.I (by omega)]; exact v1 i hi
          · rw [F4.I (by omega)]; exact v3 i hi
        · obtain ⟨h5, e5, F5, c5, t5, w5⟩ := flawed_c (v := nI 1) c4 t4
          rw [if_neg (by rw [show (0 : Int32) = nI 0 from rfl, nI_eI (by omega) (by omega)]; exact k), if_neg k, G_t c4.g.c58, e5, BN_ok, if_pos (by decide)]
          exact ⟨_, _, rfl, Fe.tr (F5.mo mF), c5, t5, fun g => absurd g (by show ¬ (1 : Nat) = 0; decide), fun _ => ⟨rfl, w5⟩⟩
      · obtain ⟨w3', y3⟩ := y3 m
        rw [w3', if_pos rfl, if_neg m]
        exact ⟨_, _, rfl, Fe, c4, t4, fun g => absurd g m, fun _ => ⟨rfl, by rw [F4.I (by omega)]; exact y3⟩⟩
    · obtain ⟨h3, e3, F3, c3, t3, w3⟩ := flawed_c (v := nI 1) c2 t2
      rw [if_neg o, if_neg o, G_t c2.g.c58, e3, BN_ok, G_t (by decide), if_neg (by decide)]
      exact ⟨_, _, rfl, Fa.tr (F3.mo mF), c3, t3, fun g => absurd g (by show ¬ (1 : Nat) = 0; decide), fun _ => ⟨rfl, w3⟩⟩
  · obtain ⟨w1', y1⟩ := y1 z
    rw [w1', if_pos rfl, if_neg z]
    exact ⟨_, _, rfl, Fa, c2, t2, fun g => absurd g z, fun _ => ⟨rfl, by rw [F2.I (by omega)]; exact y1⟩⟩
