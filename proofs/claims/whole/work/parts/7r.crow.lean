theorem nI_or {a b : Nat} : nI a ||| nI b = nI (a ||| b) := by
  apply Int32.toBitVec_inj.mp
  apply BitVec.eq_of_toNat_eq
  show (a % 2 ^ 32) ||| (b % 2 ^ 32) = (a ||| b) % 2 ^ 32
  exact (Nat.or_mod_two_pow).symm
theorem kept_or {a r : Nat} (hr : r < 10) : nI a ||| nI 1 <<< (nI r &&& 31) = nI (a ||| 2 ^ r) := by rw [shl1 r (by omega), nI_or]
def rwB (B : BK) (K : Nat) : BK := upB (upB B 6 0 K) 1 0 (B 1 0 + 1)
theorem rwB_e {B : BK} {K k i : Nat} (h : k ≠ 6 ∧ k ≠ 1) : rwB B K k i = B k i := by unfold rwB; rw [upB_n (by omega), upB_n (by omega)]
theorem rwB_6 {B : BK} {K : Nat} : rwB B K 6 0 = K := by unfold rwB; rw [upB_n (by omega), upB_s]
theorem rwB_1 {B : BK} {K : Nat} : rwB B K 1 0 = B 1 0 + 1 := upB_s
theorem WB_r {B : BK} {K : Nat} (w : WB B) (h : B 1 0 < 10) (hk : K < 1024) : WB (rwB B K) := by
  have cg : ∀ c, WC B c → WC (rwB B K) c := fun c q => q.cg (by rw [rwB_e (by decide)]; exact Nat.le_refl _) (by rw [rwB_1]; omega) (fun k hk => rwB_e (by omega)) (fun i => rwB_e (by omega)) (fun i => rwB_e (by omega))
  refine ⟨w.m, by rw [rwB_1]; omega, w.f, w.u, w.s, w.y, by rw [rwB_6]; exact hk, fun i hi => ?_, w.fm, w.fy, fun i hi => cg _ (w.ru i hi), fun i hi => cg _ (w.se i hi), w.nw, fun i hi z k hk => ?_, w.sp, w.st, w.ne, w.no, fun i hi => ?_, w.ea, fun i hi => ?_, w.oa⟩
  · rw [rwB_1]; exact Nat.lt_succ_of_lt (w.fr i hi)
  · rw [rwB_e (by omega)]; exact w.nn i hi z k hk
  · rw [rwB_1]; exact Nat.lt_succ_of_lt (w.er i hi)
  · rw [rwB_1]; exact Nat.lt_succ_of_lt (w.or i hi)
theorem row_c {h : AH} {T : Nat → Int32} {n p b : Nat} {B : BK} {N : NmL} (c : CfC h T n) (t : CtC h T n p) (d : DrC h b B N) : ∃ w h', X6_readRow_f 58 h = some (w, h') ∧ LnO h h' T n b w (lnR T n B N p) := by
  have hb := d.b
  have w0 := d.q.w.m
  have w1 := d.q.w.r
  have w6 := d.q.w.k
  have ru := d.q.w.u
  have sn := d.q.w.s
  unfold X6_readRow_f lnR
  rw [G_t c.g.c58, d.r, G_t d.q.s.c, d.q.r]
  by_cases z : B 1 0 = 10
  · obtain ⟨h1, e1, o1⟩ := flaw_o (b := b) (B := B) (N := N) (k := 5) Fz.rf c t (by decide)
    rw [if_pos (by rw [z]), if_pos z, G_t c.g.c58, e1, BN_ok, G_t (by decide)]
    exact ⟨_, _, rfl, o1⟩
  · rw [if_neg (by rw [nI_eI (by omega) (by omega)]; exact z), if_neg z, G_t c.g.c58, G_t d.q.s.c, nI_add]
    obtain ⟨w, h1, e1, F1, c1, t1, x1, y1⟩ := newName_c (v := 4 + B 1 0) c t d.u (by omega) (by have := d.l; omega)
    rw [e1, BN_ok]
    have G1 : Fz (DrA b) h h1 := F1.mo (fun x k q => .inl q)
    by_cases y : faN T n N (nxT T n p) = 0
    · obtain ⟨w1', u1⟩ := x1 y
      generalize nxT T n p = q at *
      have q1 : IsCB h1 b B := d.q.mv (fun k hk => ⟨F1.c _, F1.z _, by funext j; exact F1.r _ (by omega), by funext j; exact F1.I (by unfold NnA FlA; omega)⟩)
      have r1 : xR h1 58 10 = b := by rw [F1.r _ (by decide)]; exact d.r
      obtain ⟨h2, e2, F2, c2, t2⟩ := step_c c1 (tkA_b t1.x).2 t1.f
      have G2 := F2.mo (fun a k => StA_Fl)
      have t2' : CtC h2 T n (nxT T n q) := t2
      clear t2
      have s2 : BS h2 b := q1.s.fz G2
      have r2 : xR h2 58 10 = b := by rw [G2.r _ (by decide)]; exact r1
      obtain ⟨K, hK⟩ : ∃ K, K = (if isW T n (nxT T n q) 5 = true then B 6 0 ||| 2 ^ B 1 0 else B 6 0) := ⟨_, rfl⟩
      have K1 : K < 1024 := by
        rw [hK]
        by_cases o : isW T n (nxT T n q) 5 = true
        · rw [if_pos o]; exact Nat.or_lt_two_pow (n := 10) w6 (Nat.pow_lt_pow_right (by decide) (by omega))
        · rw [if_neg o]; exact w6
      have mid : ∃ h3, (BN (X6_spells_f 58 5 h2) fun v11 h10 => if v11 = 0 then X6_readRow_B74 58 h10 else (G (xc h10 58 = 6) <| G (xc h10 (xR h10 58 10) = 0) <| LT (pI h10 (xR h10 58 10) 6 ((xI h10 (xR h10 58 10) 6) ||| ((nI 1) <<< ((xI h10 (xR h10 58 10) 1) &&& 31)))) fun h14 => G (xc h14 58 = 6) <| BN (X6_step_f 58 h14) fun _ h16 => X6_readRow_B74 58 h16)) = X6_readRow_B74 58 h3 ∧ Fz (fun x k => FlA x k ∨ x = b ∧ k = 6) h2 h3 ∧ CfC h3 T n ∧ CtC h3 T n (opT T n (nxT T n q) 5) ∧ xI h3 b 6 = nI K := by
        have k2 : xI h2 b 6 = nI (B 6 0) := by rw [G2.I (by unfold FlA; omega)]; exact q1.k
        have b2 : xI h2 b 1 = nI (B 1 0) := by rw [G2.I (by unfold FlA; omega)]; exact q1.r
        rw [spells_c c2 t2' (by decide), BN_ok, ifB, hK]
        unfold opT
        by_cases o : isW T n (nxT T n q) 5 = true
        · rw [if_pos o, if_pos o, if_pos o, G_t c2.g.c58, r2, G_t s2.c, k2, b2, kept_or (by omega), LT_e]
          have F3 : Fz (fun x k => x = b ∧ k = 6) h2 (pI h2 b 6 (nI (B 6 0 ||| 2 ^ B 1 0))) := Fz.i ⟨rfl, rfl⟩
          have c3 := c2.fz F3 (fun x k q => by omega)
          have t3 := t2'.fz F3 (fun x k q => by omega)
          obtain ⟨h4, e4, F4, c4, t4⟩ := step_c c3 (tkA_b t3.x).2 t3.f
          rw [G_t c3.g.c58, e4, BN_ok]
          refine ⟨h4, rfl, (F3.mo (fun x k q => .inr q)).tr (F4.mo (fun x k q => .inl (StA_Fl q))), c4, t4, ?_⟩
          rw [F4.I (by unfold StA; omega), xI_self]
        · rw [if_neg o, if_neg o, if_neg o]
          exact ⟨h2, rfl, Fz.rf, c2, t2', k2⟩
      obtain ⟨h3, e3, F3, c3, t3, k3⟩ := mid
      have r3 : xR h3 58 10 = b := by rw [F3.r _ (by decide)]; exact r2
      have I3 : ∀ x k, ¬ FlA x k → ¬ (x = b ∧ k = 6) → xI h3 x k = xI h1 x k := fun x k a1 a2 => by rw [F3.I (fun g => g.elim a1 a2), G2.I a1]
      have b3 : xI h3 b 1 = nI (B 1 0) := by rw [I3 _ _ (by unfold FlA; omega) (by omega)]; exact q1.r
      obtain ⟨h5, h5e⟩ : ∃ h5, h5 = pI h3 b 1 (nI (B 1 0 + 1)) := ⟨_, rfl⟩
      have F5 : Fz (fun x k => x = b ∧ k = 1) h3 h5 := by rw [h5e]; exact Fz.i ⟨rfl, rfl⟩
      have c5 := c3.fz F5 (fun x k q => by omega)
      have t5 := t3.fz F5 (fun x k q => by omega)
      have Fb : Fz (fun x k => FlA x k ∨ x = b ∧ (k = 6 ∨ k = 1)) h1 h5 := ((G2.mo (fun x k q => .inl q)).tr (F3.mo (fun x k q => q.elim .inl (fun g => .inr (by omega))))).tr (F5.mo (fun x k q => .inr (by omega)))
      have Ib : ∀ x k, b ≤ x ∧ x ≤ b + 55 → ¬ (x = b ∧ (k = 6 ∨ k = 1)) → xI h5 x k = xI h1 x k := fun x k a1 a2 => Fb.I (fun g => g.elim (fun g => by unfold FlA at g; omega) a2)
      have u5 := u1.fz Fb (fun x k q => by unfold FlA; omega)
      have cl : ∀ a i, b + 8 ≤ a ∧ a + 2 ≤ b + 55 → IsCl h1 a B i → IsCl h5 a (rwB B K) i := fun a i ha q => (q.fz Fb (by omega) (fun k => by unfold FlA; omega)).cg (fun k hk => rwB_e (by omega)) (fun j => rwB_e (by omega)) (fun j => rwB_e (by omega))
      have q5 : IsCB h5 b (rwB B K) := by
        refine ⟨q1.s.fz Fb, WB_r d.q.w (by omega) K1, by rw [Ib _ _ (by omega) (by omega)]; exact q1.m, by rw [h5e, xI_self, rwB_1], by rw [Ib _ _ (by omega) (by omega)]; exact q1.f, by rw [Ib _ _ (by omega) (by omega)]; exact q1.u, by rw [Ib _ _ (by omega) (by omega)]; exact q1.sn, by rw [Ib _ _ (by omega) (by omega)]; exact q1.y, by rw [F5.I (by omega), k3, rwB_6], by rw [Ib _ _ (by omega) (by omega)]; exact q1.ne, by rw [Ib _ _ (by omega) (by omega)]; exact q1.no, fun i hi => by rw [Ib _ _ (by omega) (by omega)]; exact q1.fw i hi, fun i hi => by rw [Ib _ _ (by omega) (by omega)]; exact q1.fm i hi, fun i hi => by rw [Ib _ _ (by omega) (by omega)]; exact q1.fb i hi, fun i hi => ?_, fun i hi => ?_, fun i hi => by rw [Ib _ _ (by omega) (by omega)]; exact q1.ah i hi, fun i hi => by rw [Ib _ _ (by omega) (by omega)]; exact q1.be i hi⟩
        · rw [rwB_e (by decide)] at hi; exact cl _ _ (by omega) (q1.ru i hi)
        · rw [rwB_e (by decide)] at hi; exact cl _ _ (by omega) (q1.se i hi)
      have d5 : DrC h5 b (rwB B K) (N ++ [(wdV T n q, 4 + B 1 0)]) := by
        refine ⟨q5, u5, by rw [Fb.r _ (by decide)]; exact r1, d.b, ?_, fun i hi => ?_, d.y⟩
        · rw [rwB_1, rwB_e (by decide), List.length_append, d.l]
          show B 0 0 + B 1 0 + 1 = _
          omega
        · rw [rwB_1, rwB_e (by decide)]
          rw [List.length_append] at hi
          have hi : i < N.length + 1 := hi
          by_cases j : i = N.length
          · rw [j, nmA_r]; exact ⟨fun g => absurd g (by show ¬ 4 + B 1 0 < 4; omega), fun _ => by show 4 + B 1 0 - 4 < B 1 0 + 1; omega⟩
          · rw [nmA_l (by omega)]
            have := d.v i (by omega)
            exact ⟨this.1, fun g => Nat.lt_succ_of_lt (this.2 g)⟩
      have Fa : Fz (DrA b) h h5 := G1.tr (Fb.mo (fun x k q => q.elim (fun g => .inl (.inl g)) (fun g => .inr (by omega))))
      obtain ⟨w4, h4, e4, b4, o4⟩ := end_c Fa c5 t5 d5
      rw [w1', if_neg (by decide), G_t c1.g.c58, e2, BN_ok, G_t c2.g.c58, e3]
      unfold X6_readRow_B74
      rw [G_t c3.g.c58, r3, G_t (by rw [F3.c]; exact s2.c), b3, nI_add, LT_e, ← h5e, G_t c5.g.c58, e4, BN_ok, G_t b4, if_pos y, ← hK]
      exact ⟨_, _, rfl, o4⟩
    · obtain ⟨w1', y1⟩ := y1 y
      rw [w1', if_pos (by decide), if_neg y]
      exact ⟨_, _, rfl, G1, c1, t1, fun g => absurd g y, fun _ => ⟨rfl, y1⟩⟩
