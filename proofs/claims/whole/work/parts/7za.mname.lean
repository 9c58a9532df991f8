theorem nmv_m {B : BK} {N : NmL} {w : Int64} (v : ∀ i, i < N.length → ((nmA N i).2 < 4 → (nmA N i).2 < B 0 0) ∧ (4 ≤ (nmA N i).2 → (nmA N i).2 - 4 < B 1 0)) (h : B 0 0 < 4) : ∀ i, i < (N ++ [(w, B 0 0)]).length → ((nmA (N ++ [(w, B 0 0)]) i).2 < 4 → (nmA (N ++ [(w, B 0 0)]) i).2 < B 0 0 + 1) ∧ (4 ≤ (nmA (N ++ [(w, B 0 0)]) i).2 → (nmA (N ++ [(w, B 0 0)]) i).2 - 4 < B 1 0) := by
  intro i hi
  rw [List.length_append] at hi
  have hi : i < N.length + 1 := hi
  by_cases j : i = N.length
  · rw [j, nmA_r]; exact ⟨fun _ => Nat.lt_succ_self _, fun g => absurd g (by show ¬ 4 ≤ B 0 0; omega)⟩
  · rw [nmA_l (by omega)]
    have := v i (by omega)
    exact ⟨fun g => Nat.lt_succ_of_lt (this.1 g), this.2⟩
theorem nmv_r {B : BK} {N : NmL} {w : Int64} (v : ∀ i, i < N.length → ((nmA N i).2 < 4 → (nmA N i).2 < B 0 0) ∧ (4 ≤ (nmA N i).2 → (nmA N i).2 - 4 < B 1 0)) : ∀ i, i < (N ++ [(w, 4 + B 1 0)]).length → ((nmA (N ++ [(w, 4 + B 1 0)]) i).2 < 4 → (nmA (N ++ [(w, 4 + B 1 0)]) i).2 < B 0 0) ∧ (4 ≤ (nmA (N ++ [(w, 4 + B 1 0)]) i).2 → (nmA (N ++ [(w, 4 + B 1 0)]) i).2 - 4 < B 1 0 + 1) := by
  intro i hi
  rw [List.length_append] at hi
  have hi : i < N.length + 1 := hi
  by_cases j : i = N.length
  · rw [j, nmA_r]; exact ⟨fun g => absurd g (by show ¬ 4 + B 1 0 < 4; omega), fun _ => by show 4 + B 1 0 - 4 < B 1 0 + 1; omega⟩
  · rw [nmA_l (by omega)]
    have := v i (by omega)
    exact ⟨this.1, fun g => Nat.lt_succ_of_lt (this.2 g)⟩
theorem full_m {h : AH} {T : Nat → Int32} {n p m : Nat} {B : BK} {N : NmL} {bw : Bool} (c : CfM h T n) (t : CtM h T n p) : ∃ r h', X15_readName_f 195 (bI bw) (bI true) h = some (r, h') ∧ MnO h h' T n m r (5, p, B, N) := by
  obtain ⟨h2, e2, x2, o2⟩ := mstop (m := m) (B := B) (N := N) (k := 5) Fz.rf c t.a (by decide)
  unfold X15_readName_f
  rw [if_neg (by decide), G_t c.g.c195, e2, BN_ok, G_t x2]
  exact ⟨_, _, rfl, o2⟩
theorem machine_m {h : AH} {T : Nat → Int32} {n p m : Nat} {B : BK} {N : NmL} (c : CfM h T n) (t : CtM h T n p) (d : DrM h m B N) : ∃ r h', X15_readName_f 195 (bI false) (bI (decide (B 0 0 = 4))) h = some (r, h') ∧ MnO h h' T n m r (lnM T n B N p) := by
  have lo := d.q.s.lo
  have w0 := d.q.w.m
  have w1 := d.q.w.r
  unfold lnM
  by_cases z : B 0 0 = 4
  · rw [decide_eq_true z, if_pos z]; exact full_m c t
  · rw [decide_eq_false z, if_neg z]
    obtain ⟨na, nb⟩ := name_m (bw := false) c t d
    have e0 : bI false = nI 0 := rfl
    rw [← e0] at na nb
    by_cases y : faN T n N (nxT T n p) = 0
    · obtain ⟨h1, e1, F1, c1, t1, d1, k2⟩ := nb y
      rw [if_neg (by decide)] at e1
      obtain ⟨h4, e4, F4, b4⟩ := nm69_m (v := B 0 0) (bw := false) c1 d1.u (t1.w k2) (by have := d.l; omega) (by omega) (decide_eq_false (by omega))
      rw [if_neg (show ¬ 4 ≤ B 0 0 by omega)] at e4
      have e4' : X15_readName_B69 195 (bI false) (nI (B 0 0)) h1 = X15_readName_B167 195 (bI false) (nI (B 0 0)) (pI h4 m 1 (xI h1 m 1 + nI 1)) := e4
      rw [e1, e4', d1.q.m, nI_add, if_pos y]
      obtain ⟨h5, h5e⟩ : ∃ h5, h5 = pI h4 m 1 (nI (B 0 0 + 1)) := ⟨_, rfl⟩
      have F5 : Fz (fun x k => x = m ∧ k = 1) h4 h5 := by rw [h5e]; exact Fz.i ⟨rfl, rfl⟩
      have Fa : Fz (fun x k => x = m ∧ (k = 0 ∨ k = 1) ∨ x = m + 1 ∨ x = m + 2 ∨ x = m + 3) h1 h5 := (F4.mo (fun x k q => by omega)).tr (F5.mo (fun x k q => by omega))
      have oA : ∀ x k, (x = m ∧ (k = 0 ∨ k = 1) ∨ x = m + 1 ∨ x = m + 2 ∨ x = m + 3) → m ≤ x := fun x k q => by omega
      have c5 := c1.dm Fa oA lo
      have t5 := t1.dm Fa oA lo
      have e : ∀ k i, k ≠ 0 → upB B 0 0 (B 0 0 + 1) k i = B k i := fun k i hk => upB_n (fun z => hk z.1)
      have q5 : IsMB h5 m (upB B 0 0 (B 0 0 + 1)) := d1.q.t (d1.q.s.fz Fa) (WB_m d.q.w (by omega)) (by rw [h5e, xI_self, upB_s]) (by rw [Fa.I (by omega)]; exact d1.q.r) (by rw [Fa.I (by omega)]; exact d1.q.f) (by rw [Fa.I (by omega)]; exact d1.q.y) (by rw [Fa.I (by omega)]; exact d1.q.k) (fun i hi => by rw [Fa.I (by omega)]; exact d1.q.fw i hi) (fun i hi => by rw [Fa.I (by omega)]; exact d1.q.fm i hi) (fun i hi => by rw [Fa.I (by omega)]; exact d1.q.fy i hi) (fun x k q => Fa.I (by omega)) (fun k i q => e _ _ (by omega))
      have d5 : DrM h5 m (upB B 0 0 (B 0 0 + 1)) (N ++ [(wdV T n (nxT T n p), B 0 0)]) := by
        refine ⟨q5, b4.fz F5 (fun x k q => by omega), ?_, ?_, d.y, fun c hc k => by rw [Fa.I (by omega), Fa.I (by omega)]; exact d1.k c hc k⟩
        · rw [upB_s, e _ _ (by decide), List.length_append, d.l]
          show B 0 0 + B 1 0 + 1 = _
          omega
        · rw [upB_s, e _ _ (by decide)]; exact nmv_m d.v (by omega)
      obtain ⟨h6, e6, F6, c6, t6⟩ := next_t c5 t5
      rw [← h5e]
      unfold X15_readName_B167
      rw [G_t c5.g.c195, e6, BN_ok, if_pos (by decide)]
      refine ⟨_, _, rfl, ((F1.mo (fun x k q => .inl (.inl q))).tr (Fa.mo (fun x k q => .inr (by omega)))).tr (F6.mo (fun x k q => .inl (.inl q))), .inr ⟨rfl, rfl, c6, t6, d5.fz F6 (fun x k q => nSt lo q)⟩⟩
    · obtain ⟨h1, e1, o1⟩ := na y
      rw [e1, if_neg y]
      exact ⟨_, _, rfl, o1⟩
theorem mrow_m {h : AH} {T : Nat → Int32} {n p m : Nat} {B : BK} {N : NmL} (c : CfM h T n) (t : CtM h T n p) (d : DrM h m B N) : ∃ r h', X15_readName_f 195 (bI true) (bI (decide (B 1 0 = 10))) h = some (r, h') ∧ MnO h h' T n m r (lnR T n B N p) := by
  have lo := d.q.s.lo
  have w0 := d.q.w.m
  have w1 := d.q.w.r
  have w6 := d.q.w.k
  unfold lnR
  by_cases z : B 1 0 = 10
  · rw [decide_eq_true z, if_pos z]; exact full_m c t
  · rw [decide_eq_false z, if_neg z]
    obtain ⟨na, nb⟩ := name_m (bw := true) c t d
    have e0 : bI false = nI 0 := rfl
    rw [← e0] at na nb
    by_cases y : faN T n N (nxT T n p) = 0
    · obtain ⟨h1, e1, F1, c1, t1, d1, k2⟩ := nb y
      rw [if_pos rfl] at e1
      obtain ⟨h4, e4, F4, b4⟩ := nm69_m (v := 4 + B 1 0) (bw := true) c1 d1.u (t1.w k2) (by have := d.l; omega) (by omega) (decide_eq_true (by omega))
      rw [if_pos (show 4 ≤ 4 + B 1 0 by omega), Nat.add_sub_cancel_left] at e4
      have e4' : X15_readName_B69 195 (bI true) (nI (B 1 0)) h1 = X15_readName_B167 195 (bI true) (nI (B 1 0)) (pI h4 m 2 (xI h1 m 2 + nI 1)) := e4
      rw [e1, e4', d1.q.r, nI_add, if_pos y]
      generalize nxT T n p = q at *
      obtain ⟨h5, h5e⟩ : ∃ h5, h5 = pI h4 m 2 (nI (B 1 0 + 1)) := ⟨_, rfl⟩
      have F5 : Fz (fun x k => x = m ∧ k = 2) h4 h5 := by rw [h5e]; exact Fz.i ⟨rfl, rfl⟩
      have Fa : Fz (fun x k => x = m ∧ (k = 0 ∨ k = 2) ∨ x = m + 1 ∨ x = m + 2 ∨ x = m + 3) h1 h5 := (F4.mo (fun x k q => by omega)).tr (F5.mo (fun x k q => by omega))
      have oA : ∀ x k, (x = m ∧ (k = 0 ∨ k = 2) ∨ x = m + 1 ∨ x = m + 2 ∨ x = m + 3) → m ≤ x := fun x k q => by omega
      have c5 := c1.dm Fa oA lo
      have t5 := t1.dm Fa oA lo
      have b5 := b4.fz F5 (fun x k q => by omega)
      have s5 := d1.q.s.fz Fa
      obtain ⟨K, hK⟩ : ∃ K, K = (if isW T n (nxT T n q) 5 = true then B 6 0 ||| 2 ^ B 1 0 else B 6 0) := ⟨_, rfl⟩
      have K1 : K < 1024 := by
        rw [hK]
        by_cases o : isW T n (nxT T n q) 5 = true
        · rw [if_pos o]; exact Nat.or_lt_two_pow (n := 10) w6 (Nat.pow_lt_pow_right (by decide) (by omega))
        · rw [if_neg o]; exact w6
      obtain ⟨h6, e6, F6, c6, t6⟩ := next_t c5 t5
      have s6 := s5.fz F6
      have b6 := b5.fz F6 (fun x k q => nSt lo (by omega))
      have k6 : xI h6 m 7 = nI (B 6 0) := by rw [F6.I (by unfold StM; omega), Fa.I (by omega)]; exact d1.q.k
      have r6 : xI h6 m 2 = nI (B 1 0 + 1) := by rw [F6.I (by unfold StM; omega), h5e, xI_self]
      have fin : ∀ h7, Fz (fun x k => x = m ∧ k = 7 ∨ StM x k) h6 h7 → xI h7 m 7 = nI K → DrM h7 m (rwB B K) (N ++ [(wdV T n q, 4 + B 1 0)]) := fun h7 F7 k7 => by
        have I7 : ∀ x k, m ≤ x → ¬ (x = m ∧ (k = 0 ∨ k = 2 ∨ k = 7) ∨ x = m + 1 ∨ x = m + 2 ∨ x = m + 3) → xI h7 x k = xI h1 x k := fun x k a1 a2 => by rw [F7.I (by unfold StM; omega), F6.I (by unfold StM; omega), Fa.I (by omega)]
        refine ⟨d1.q.t (s6.fz F7) (WB_r d.q.w (by omega) K1) (by rw [I7 _ _ (by omega) (by omega)]; exact d1.q.m) (by rw [F7.I (by unfold StM; omega), r6, rwB_1]) (by rw [I7 _ _ (by omega) (by omega)]; exact d1.q.f) (by rw [I7 _ _ (by omega) (by omega)]; exact d1.q.y) (by rw [k7, rwB_6]) (fun i hi => by rw [I7 _ _ (by omega) (by omega)]; exact d1.q.fw i hi) (fun i hi => by rw [I7 _ _ (by omega) (by omega)]; exact d1.q.fm i hi) (fun i hi => by rw [I7 _ _ (by omega) (by omega)]; exact d1.q.fy i hi) (fun x k q => I7 _ _ (by omega) (by omega)) (fun k i q => rwB_e (by omega)), b6.fz F7 (fun x k q => by unfold StM; omega), ?_, ?_, d.y, fun c hc k => ?_⟩
        · rw [rwB_1, rwB_e (by decide), List.length_append, d.l]
          show B 0 0 + B 1 0 + 1 = _
          omega
        · rw [rwB_1, rwB_e (by decide)]; exact nmv_r d.v
        · rw [rwB_e (by decide), rwB_e (by decide)] at k
          rw [I7 _ _ (by omega) (by omega), I7 _ _ (by omega) (by omega)]; exact d1.k c hc k
      have Fb : Fz (DmA m) h h6 := ((F1.mo (fun x k q => .inl (.inl q))).tr (Fa.mo (fun x k q => .inr (by omega)))).tr (F6.mo (fun x k q => .inl (.inl q)))
      rw [← h5e, ← hK]
      unfold X15_readName_B167
      rw [G_t c5.g.c195, e6, BN_ok, if_neg (by decide), G_t c6.g.c195, isWord_m c6 t6 (by decide), BN_ok, ifB]
      unfold opT
      by_cases o : isW T n (nxT T n q) 5 = true
      · rw [if_pos o] at hK
        rw [if_pos o, if_pos o, G_t c6.g.c195, b6.r, G_t s6.c, k6, kept_or (by omega), LT_e, ← hK]
        obtain ⟨h7, h7e⟩ : ∃ h7, h7 = pI h6 m 7 (nI K) := ⟨_, rfl⟩
        have F7 : Fz (fun x k => x = m ∧ k = 7) h6 h7 := by rw [h7e]; exact Fz.i ⟨rfl, rfl⟩
        have c7 := c6.dm (m := m) F7 (fun x k q => by omega) lo
        have t7 := t6.dm (m := m) F7 (fun x k q => by omega) lo
        obtain ⟨h8, e8, F8, c8, t8⟩ := next_t c7 t7
        rw [← h7e, G_t c7.g.c195, e8, BN_ok]
        refine ⟨_, _, rfl, (Fb.tr (F7.mo (fun x k q => .inr (by omega)))).tr (F8.mo (fun x k q => .inl (.inl q))), .inr ⟨rfl, rfl, c8, t8, fin h8 ((F7.mo (fun x k q => .inl q)).tr (F8.mo (fun x k q => .inr q))) ?_⟩⟩
        rw [F8.I (by unfold StM; omega), h7e, xI_self]
      · rw [if_neg o] at hK
        rw [if_neg o, if_neg o]
        exact ⟨_, _, rfl, Fb, .inr ⟨rfl, rfl, c6, t6, fin h6 Fz.rf (by rw [k6, hK])⟩⟩
    · obtain ⟨h1, e1, o1⟩ := na y
      rw [e1, if_neg y]
      exact ⟨_, _, rfl, o1⟩
