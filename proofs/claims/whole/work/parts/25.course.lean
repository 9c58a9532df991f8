def LaS (h : AH) (L : Nat) : Prop := (L = 151 ∨ L = 155) ∧ (xc h L = 3) ∧ (xR h L 0 = L + 1) ∧ (xR h L 1 = L + 2) ∧ (xR h L 2 = L + 3) ∧ (xc h (L + 1) = 17) ∧ (xc h (L + 2) = 17) ∧ (xc h (L + 3) = 17) ∧ (xz h (L + 1) = 42) ∧ (xz h (L + 2) = 42) ∧ (xz h (L + 3) = 28)
theorem LaS.w {h : AH} {L : Nat} (q_ : LaS h L) : L = 151 ∨ L = 155 := q_.1
theorem LaS.c {h : AH} {L : Nat} (q_ : LaS h L) : xc h L = 3 := q_.2.1
theorem LaS.r0 {h : AH} {L : Nat} (q_ : LaS h L) : xR h L 0 = L + 1 := q_.2.2.1
theorem LaS.r1 {h : AH} {L : Nat} (q_ : LaS h L) : xR h L 1 = L + 2 := q_.2.2.2.1
theorem LaS.r2 {h : AH} {L : Nat} (q_ : LaS h L) : xR h L 2 = L + 3 := q_.2.2.2.2.1
theorem LaS.c1 {h : AH} {L : Nat} (q_ : LaS h L) : xc h (L + 1) = 17 := q_.2.2.2.2.2.1
theorem LaS.c2 {h : AH} {L : Nat} (q_ : LaS h L) : xc h (L + 2) = 17 := q_.2.2.2.2.2.2.1
theorem LaS.c3 {h : AH} {L : Nat} (q_ : LaS h L) : xc h (L + 3) = 17 := q_.2.2.2.2.2.2.2.1
theorem LaS.z1 {h : AH} {L : Nat} (q_ : LaS h L) : xz h (L + 1) = 42 := q_.2.2.2.2.2.2.2.2.1
theorem LaS.z2 {h : AH} {L : Nat} (q_ : LaS h L) : xz h (L + 2) = 42 := q_.2.2.2.2.2.2.2.2.2.1
theorem LaS.z3 {h : AH} {L : Nat} (q_ : LaS h L) : xz h (L + 3) = 28 := q_.2.2.2.2.2.2.2.2.2.2
theorem SG.l1 {h : AH} (s : SG h) : LaS h 151 := ⟨.inl rfl, s.c151, s.r151_0, s.r151_1, s.r151_2, s.c152, s.c153, s.c154, s.z152, s.z153, s.z154⟩
theorem SG.l2 {h : AH} (s : SG h) : LaS h 155 := ⟨.inr rfl, s.c155, s.r155_0, s.r155_1, s.r155_2, s.c156, s.c157, s.c158, s.z156, s.z157, s.z158⟩
theorem LaS.fr {A : Nat → Prop} {h h' : AH} {L : Nat} (F : Fr A h h') (q : LaS h L) : LaS h' L := by
  unfold LaS at *; simp only [F.c, F.z, F.r]; exact q
theorem held_loop {h : AH} {a e c : Nat} {B : BK} {bare : Int32} (s : SG h) (q : IsCl h a B c) (w : WC B c) (hr : B 1 0 ≤ 10) (he : e ≤ 270) : ∀ n k l, k ≤ B 14 c → B 14 c - k < n → ∃ v, X2_held_B33 n 174 a bare (nI e) l (nI k) h = some (v, h) ∧ ∀ j, j < 64 → tl v j = (tl l j && cHf B c (!decide (bare = nI 0)) (fun r => tl (xL h 175 (e + r)) j) k) := by
  have hn := w.n
  intro n
  induction n with
  | zero => intro k l _ h; exact absurd h (Nat.not_lt_zero _)
  | succ n ih =>
    intro k l hk hn
    rcases Nat.lt_or_ge k (B 14 c) with hk | hk
    · have h1 := w.cr k hk
      have h2 := w.cn k hk
      have hk' : ¬ B 14 c ≤ k := by omega
      simp (disch := omega) only [X2_held_B33, X2_held_B95, LT_e, G_T, BN_ok, if_true, if_false, nI_add, pk_mul, G_gx, nI_cl, nI_lI, nI_tI, nI_eI, s.c174, s.r174_0, s.c175, s.z175, q.s.c, q.s.r0, q.s.r1, q.s.c1, q.s.z1, q.s.c2, q.s.z2, q.n, q.cr k hk, q.cn k hk, hk', nI_z]
      by_cases h0 : B (40 + c) k = 0
      · obtain ⟨v, e1, e2⟩ := ih (k + 1) (l &&& xL h 175 (e + B (20 + c) k)) (by omega) (by omega)
        refine ⟨v, by rw [if_pos h0, e1], fun j hj => ?_⟩
        rw [e2 j hj, cHf_step hk, if_pos h0, tl_and, Bool.and_assoc]
      · by_cases hb : bare = nI 0
        · obtain ⟨v, e1, e2⟩ := ih (k + 1) (l &&& (xL h 175 (e + B (20 + c) k) ^^^ -1)) (by omega) (by omega)
          refine ⟨v, by rw [if_neg h0, if_pos hb, e1], fun j hj => ?_⟩
          rw [e2 j hj, cHf_step hk, if_neg h0, tl_and, tl_not hj, Bool.and_assoc]
          simp [hb]
        · obtain ⟨v, e1, e2⟩ := ih (k + 1) l (by omega) (by omega)
          refine ⟨v, by rw [if_neg h0, if_neg hb, e1], fun j hj => ?_⟩
          rw [e2 j hj, cHf_step hk, if_neg h0]
          simp [hb]
    · have : k = B 14 c := by omega
      subst this
      refine ⟨l, ?_, fun j hj => ?_⟩
      · simp (disch := omega) only [X2_held_B33, LT_e, G_T, BN_ok, if_true, if_false, nI_add, pk_mul, G_gx, nI_cl, nI_lI, nI_tI, nI_eI, q.s.c, q.s.r0, q.s.r1, q.s.c1, q.s.z1, q.s.c2, q.s.z2, q.n, Nat.le_refl]
      · rw [cHf_end (Nat.le_refl _), Bool.and_true]
theorem held_ok {h : AH} {L a m t c : Nat} {B : BK} {bare : Int32} (s : SG h) (l : LaS h L) (e9 : xR h 174 9 = L) (q : IsCl h a B c) (w : WC B c) (hr : B 1 0 ≤ 10) (hm : m < 4) (ht : t ≤ 6) : ∃ v, X2_held_f 174 a (nI m) (nI t) bare h = some (v, h) ∧ ∀ j, j < 64 → tl v j = (!tl (xL h (L + 3) (m * 7 + t)) j && cH B c (!decide (bare = nI 0)) (fun r => tl (xL h 175 ((t * 4 + m) * 10 + r)) j)) := by
  unfold X2_held_f
  simp (disch := omega) only [LT_e, G_T, BN_ok, if_true, if_false, nI_add, pk_mul, G_gx, nI_cl, nI_lI, nI_tI, nI_eI, s.c174, e9, l.c, l.r2, l.c3, l.z3]
  have := w.n
  obtain ⟨v, e1, e2⟩ := held_loop s q w hr (e := (t * 4 + m) * 10) (bare := bare) (by omega) FU 0 (xL h (L + 3) (m * 7 + t) ^^^ -1) (by omega) (by unfold FU; omega)
  refine ⟨v, e1, fun j hj => ?_⟩
  rw [e2 j hj, tl_not hj]
  rfl
theorem isFor_ok {h : AH} {a m c : Nat} {B : BK} (q : IsCl h a B c) (hp : B 11 c ≤ 4) (hm : m < 4) : X1_isFor_f a (nI m) h = some (if isF B c m = true then nI 1 else nI 0, h) := by
  unfold X1_isFor_f X1_isFor_B16 isF
  simp only [q.s.c, q.pl, LT_e, G_T, BN_ok, if_true, if_false]
  by_cases h0 : B 11 c = 0
  · rw [h0, if_pos (by decide)]; simp
  · simp (disch := omega) only [nI_pm, nI_m1, nI_eI, if_false]
    by_cases h1 : B 11 c - 1 = m
    · rw [if_pos h1, if_pos (by simp; omega)]
    · rw [if_neg h1, if_neg (by simp; omega)]
theorem bt_fact {St : Int32} {y : Nat} (hy : y ≤ 10) : ((if y = 0 then nI 0 else nI 1 <<< (nI (y - 1) &&& 31)) &&& St = (if y = 0 then nI 0 else nI 1 <<< (nI (y - 1) &&& 31))) ↔ (y == 0 || bt St (y - 1)) = true := by
  by_cases h : y = 0
  · simp only [h, if_true]
    constructor
    · intro _; rfl
    · intro _
      apply b_ext
      intro i _
      rw [b_and, show nI 0 = 0 from rfl, b_0]; rfl
  · simp only [h, if_false]
    have e : ∀ i, bt (nI 1 <<< (nI (y - 1) &&& 31)) i = decide (i = y - 1) := b_bit (by omega)
    constructor
    · intro q
      have := congrArg (bt · (y - 1)) q
      simp only [b_and, e, decide_true, Bool.true_and] at this
      rw [this]; simp
    · intro q
      have q : bt St (y - 1) = true := by simpa [h] using q
      apply b_ext
      intro i _
      rw [b_and, e]
      by_cases hi : i = y - 1
      · subst hi; rw [q]; simp
      · simp [hi]
theorem factsAt_loop {h : AH} {b m : Nat} {p : PR} (q : IsCB h b p.1) (hm : m < 4) : ∀ n k v, k ≤ p.1 2 0 → p.1 2 0 - k < n → ∃ u, X0_factsAt_B5 n b (nI m) (pS p) v (nI k) h = some (u, h) ∧ ∀ r, r < 32 → bt u r = (bt v r || anyF (fun i => p.1 7 i == r && p.1 8 i == m && (p.1 9 i == 0 || bt (pS p) (p.1 9 i - 1))) k (p.1 2 0)) := by
  have w := q.w
  have w1 := w.f
  have w2 := w.r
  have w3 := w.m
  have w4 := w.y
  intro n
  induction n with
  | zero => intro k v _ h; exact absurd h (Nat.not_lt_zero _)
  | succ n ih =>
    intro k v hk hn
    rcases Nat.lt_or_ge k (p.1 2 0) with hk | hk
    · have h1 := w.fr k hk
      have h2 := w.fm k hk
      have h3 := w.fy k hk
      have hk' : ¬ p.1 2 0 ≤ k := by omega
      simp (disch := omega) only [X0_factsAt_B5, X0_factsAt_B56, LT_e, G_T, BN_ok, if_true, if_false, nI_add, pk_mul, G_gx, nI_cl, nI_lI, nI_tI, nI_eI, q.s.c, q.f, q.s.r8, q.s.c2, q.s.z2, q.s.r9, q.s.c3, q.s.z3, q.s.r7, q.s.c1, q.s.z1, q.fw k hk, q.fm k hk, q.fb k hk, hk', bt_fact]
      by_cases e1 : p.1 8 k = m
      · rw [if_pos e1]
        by_cases e2 : (p.1 9 k == 0 || bt (pS p) (p.1 9 k - 1)) = true
        · obtain ⟨u, i1, i2⟩ := ih (k + 1) (v ||| nI 1 <<< (nI (p.1 7 k) &&& 31)) (by omega) (by omega)
          refine ⟨u, by rw [if_pos e2, i1], fun r hr => ?_⟩
          rw [i2 r hr, anyF_step hk, b_or, b_bit (by omega), e2, e1]
          by_cases e3 : r = p.1 7 k
          · simp [e3]
          · have : (p.1 7 k == r) = false := by simp; omega
            simp [e3, this]
        · obtain ⟨u, i1, i2⟩ := ih (k + 1) v (by omega) (by omega)
          refine ⟨u, by rw [if_neg e2, i1], fun r hr => ?_⟩
          rw [i2 r hr, anyF_step hk]
          have : (p.1 9 k == 0 || bt (pS p) (p.1 9 k - 1)) = false := by simpa using e2
          simp [this]
      · obtain ⟨u, i1, i2⟩ := ih (k + 1) v (by omega) (by omega)
        refine ⟨u, by rw [if_neg e1, i1], fun r hr => ?_⟩
        have : (p.1 8 k == m) = false := by simp [e1]
        rw [i2 r hr, anyF_step hk, this]
        simp
    · have : k = p.1 2 0 := by omega
      subst this
      refine ⟨v, ?_, fun r hr => ?_⟩
      · simp (disch := omega) only [X0_factsAt_B5, LT_e, G_T, BN_ok, if_true, if_false, nI_add, pk_mul, G_gx, nI_cl, nI_lI, nI_tI, nI_eI, q.s.c, q.f, Nat.le_refl]
      · rw [anyF_end (Nat.le_refl _), Bool.or_false]
theorem factsAt_ok {h : AH} {b m : Nat} {p : PR} (q : IsCB h b p.1) (hm : m < 4) : ∃ u, X0_factsAt_f b (nI m) (pS p) h = some (u, h) ∧ ∀ r, r < 32 → bt u r = factB p m r := by
  have w := q.w.f
  obtain ⟨u, i1, i2⟩ := factsAt_loop q hm FU 0 (nI 0) (by omega) (by unfold FU; omega)
  refine ⟨u, i1, fun r hr => ?_⟩
  rw [i2 r hr, show nI 0 = 0 from rfl, b_0, Bool.false_or, anyF_0]
  rfl
