theorem mline_m {h : AH} {T : Nat → Int32} {n p m M : Nat} {B : BK} {N : NmL} (c : CfM h T n) (t : CtM h T n p) (d : DrM h m B N) (k0 : ¬ isW T n p 12 = true) : ∃ r h', X15_readBook_B0 (M + 1) 195 h = BX (some (r, h')) (fun _ g => X15_readBook_B130 (X15_readBook_B0 M) 195 g) ∧ MnO h h' T n m r (lnA T n B N p) := by
  have g := c.g.c195
  have w0 := d.q.w.m
  have w1 := d.q.w.r
  rw [X15_readBook_B0, G_t g, isWord_m c t (by decide), BN_ok, ifB, if_neg k0, G_t g, isWord_m c t (by decide), BN_ok, ifB]
  unfold lnA
  by_cases k1 : isW T n p 6 = true
  · obtain ⟨r, h1, e1, o1⟩ := machine_m c t d
    rw [if_pos k1, if_pos k1, G_t g, d.u.r, G_t d.q.s.c, d.q.m]
    unfold X15_readBook_B36
    by_cases z : B 0 0 = 4
    · rw [decide_eq_true z] at e1
      have e2 : X15_readName_f 195 (nI 0) (nI 1) h = some (r, h1) := e1
      rw [if_pos (by rw [z]), G_t g, e2]; exact ⟨_, _, rfl, o1⟩
    · rw [decide_eq_false z] at e1
      have e2 : X15_readName_f 195 (nI 0) (nI 0) h = some (r, h1) := e1
      rw [if_neg (by rw [nI_eI (by omega) (by omega)]; exact z), G_t g, e2]; exact ⟨_, _, rfl, o1⟩
  · rw [if_neg k1, if_neg k1, G_t g, isWord_m c t (by decide), BN_ok, ifB]
    by_cases k2 : isW T n p 13 = true
    · obtain ⟨r, h1, e1, o1⟩ := mrow_m c t d
      rw [if_pos k2, if_pos k2, G_t g, d.u.r, G_t d.q.s.c, d.q.r]
      unfold X15_readBook_B70
      by_cases z : B 1 0 = 10
      · rw [decide_eq_true z] at e1
        have e2 : X15_readName_f 195 (nI 1) (nI 1) h = some (r, h1) := e1
        rw [if_pos (by rw [z]), G_t g, e2]; exact ⟨_, _, rfl, o1⟩
      · rw [decide_eq_false z] at e1
        have e2 : X15_readName_f 195 (nI 1) (nI 0) h = some (r, h1) := e1
        rw [if_neg (by rw [nI_eI (by omega) (by omega)]; exact z), G_t g, e2]; exact ⟨_, _, rfl, o1⟩
    · rw [if_neg k2, if_neg k2, G_t g, isWord_m c t (by decide), BN_ok, ifB]
      by_cases k3 : isW T n p 2 = true
      · obtain ⟨r, h1, e1, o1⟩ := mfact_m c t d
        rw [if_pos k3, if_pos k3, G_t g, e1]; exact ⟨_, _, rfl, o1⟩
      · rw [if_neg k3, if_neg k3, G_t g, isWord_m c t (by decide), BN_ok, ifB]
        by_cases k4 : isW T n p 14 = true
        · obtain ⟨r, h1, e1, o1⟩ := mrule_m c t d
          rw [if_pos k4, if_pos k4, G_t g, e1]; exact ⟨_, _, rfl, o1⟩
        · rw [if_neg k4, if_neg k4, G_t g, isWord_m c t (by decide), BN_ok, ifB]
          by_cases k5 : isW T n p 15 = true
          · obtain ⟨r, h1, e1, o1⟩ := msend_m c t d
            rw [if_pos k5, if_pos k5, G_t g, e1]; exact ⟨_, _, rfl, o1⟩
          · obtain ⟨h1, e1, x1, o1⟩ := mstop (m := m) (B := B) (N := N) (k := 1) Fz.rf c t.a (by decide)
            rw [if_neg k5, if_neg k5]
            unfold X15_readBook_B124
            rw [G_t g, e1, BN_ok, G_t x1]; exact ⟨.inr 196, h1, rfl, o1⟩
theorem lines_m {T : Nat → Int32} {n m : Nat} : ∀ f h p B N M, n - p < f → f < M → CfM h T n → CtM h T n p → DrM h m B N → ∃ r h', X15_readBook_B0 M 195 h = some (r, h') ∧ PrM h h' m r (prs T n f p B N) := by
  intro f
  induction f with
  | zero => intro h p B N M hf; exact absurd hf (Nat.not_lt_zero _)
  | succ f ih =>
    intro h p B N M hf hm c t d
    obtain ⟨M, rfl⟩ : ∃ g, M = g + 1 := ⟨M - 1, by omega⟩
    unfold prs
    by_cases k : isW T n p 12 = true
    · rw [X15_readBook_B0, G_t c.g.c195, isWord_m c t (by decide), BN_ok, ifB, if_pos k, if_pos k]
      exact b151_m c t d
    · obtain ⟨r1, h1, e1, F1, o1⟩ := mline_m (M := M) c t d k
      rw [e1, if_neg k]
      obtain ⟨g1, g2⟩ := gd_A (B := B) (N := N) (show In_ T n p p from ⟨Nat.le_refl _, t.x⟩)
      generalize lnA T n B N p = x at *
      rcases o1 with ⟨r1', k1, m1⟩ | ⟨r1', ex, c1, t1, d1⟩
      · rw [r1', BX_r, if_neg k1]
        exact ⟨_, _, rfl, F1, fun z => absurd z k1, fun _ => ⟨rfl, m1⟩⟩
      · have kl := tkK_le (T := T) (n := n) (p := x.2.1)
        rw [r1', BX_l]
        unfold X15_readBook_B130
        rw [G_t c1.g.c195, t1.s]
        by_cases z : x.1 = 0
        · have k1 := g2 z
          obtain ⟨h2, e2, F2, c2, t2⟩ := next_t c1 t1
          have ka := tkA_1 k1
          have nb := nxT_b (T := T) g1.2
          have g11 := g1.1
          obtain ⟨r3, h3, e3, F3, x3, y3⟩ := ih h2 (nxT T n x.2.1) x.2.2.1 x.2.2.2 M (by omega) (by omega) c2 t2 (d1.st F2)
          rw [if_pos ((mSo_3 kl).mpr k1), if_pos z, G_t c1.g.c195, e2, BN_ok, e3]
          exact ⟨_, _, rfl, (F1.tr (F2.mo (fun x k q => .inl (.inl q)))).tr F3, x3, y3⟩
        · have k1 : ¬ tkK T n x.2.1 = 1 := fun k => z (by rw [ex]; unfold faE; rw [if_pos k])
          have x1 : x.1 = 1 := by rw [ex]; unfold faE; rw [if_neg k1]
          obtain ⟨h2, e2, F2, x2, w2⟩ := stop_m (k := 1) c1 t1.a
          rw [if_neg (fun q => k1 ((mSo_3 kl).mp q)), if_neg z]
          unfold X15_readBook_B138
          rw [G_t c1.g.c195, e2, BN_ok, G_t x2]
          exact ⟨_, _, rfl, F1.tr (F2.mo (fun a k q => .inl (.inr q))), fun q => absurd q z, fun _ => ⟨rfl, by show MFt h2 x.1 x.2.1; rw [x1]; exact w2⟩⟩
