/-! the reference's book -/
theorem IsMB.mv {h h' : AH} {b : Nat} {B : BK} (E : ∀ k, k ≤ 18 → xc h' (b + k) = xc h (b + k) ∧ xz h' (b + k) = xz h (b + k) ∧ xR h' (b + k) = xR h (b + k) ∧ xI h' (b + k) = xI h (b + k)) (q : IsMB h b B) : IsMB h' b B := by
  have c : ∀ k, k ≤ 18 → xc h' (b + k) = xc h (b + k) := fun k hk => (E k hk).1
  have z : ∀ k, k ≤ 18 → xz h' (b + k) = xz h (b + k) := fun k hk => (E k hk).2.1
  have I : ∀ k, k ≤ 18 → ∀ j, xI h' (b + k) j = xI h (b + k) j := fun k hk j => congrFun (E k hk).2.2.2 j
  have c0 : xc h' b = xc h b := c 0 (by decide)
  have r0 : ∀ j, xR h' b j = xR h b j := fun j => congrFun (E 0 (by decide)).2.2.1 j
  have I0 : ∀ j, xI h' b j = xI h b j := I 0 (by decide)
  have s := q.s
  refine ⟨?_, q.w, ?_⟩
  · unfold MBS at *; simp (disch := decide) only [c _ _, z _ _, c0, r0]; exact s
  · simp (disch := decide) only [I _ _, I0]
    exact q.2.2
theorem Fw.tr2 {P A A' : Nat → Nat → Prop} {h h1 h' : AH} (p : Fw P A h h1) (q : Fw P A' h1 h') (t : ∀ a k, a < xn h → A' a k → A a k) : Fw P A h h' := ⟨Nat.le_trans p.1 q.1, fun a n => by
  have p2 := p.2 a n
  have q2 := q.2 a (Nat.lt_of_lt_of_le n p.1)
  exact ⟨q2.1.trans p2.1, q2.2.1.trans p2.2.1, fun k c => (q2.2.2.1 k c).trans (p2.2.2.1 k c), fun k c => ⟨(q2.2.2.2 k (fun z => c (t a k n z))).1.trans (p2.2.2.2 k c).1, (q2.2.2.2 k (fun z => c (t a k n z))).2.trans (p2.2.2.2 k c).2⟩⟩⟩
def MhA : Nat → Nat → Prop := fun a k => a = 195 ∧ (k = 0 ∨ k = 3 ∨ (8 ≤ k ∧ k ≤ 13)) ∨ a = 196
/-- up to the book that was read, or to where it stopped -/
theorem bookh_m {h : AH} {n z : Nat} {T : Nat → Int32} (g : SG h) (e8 : xI h 195 8 = nI z) (hz : z ≤ 700) (hn : n ≤ z) (tp : ∀ k, k < n → xI h 197 k = T k) (bt : ∀ k, k < n → byt (T k)) : ∃ r hr, X15_book_f 195 (nI n) h = BC 14 (some (r, hr)) (fun _ h21 =>
        G (xc h21 195 = 15) <|
        LT (pR h21 195 4 (xR h21 195 5)) fun h26 =>
        G (xc h26 195 = 15) <|
        LT (pI h26 195 14 (nI 4)) fun h28 =>
        X15_book_B104 FU 195 (nI 0) h28
      ) (fun a22 h23 =>
        X15_book_B65 195 a22 h23) ∧ Fw P1_ MhA h hr ∧ xn hr = xn h + 19 ∧ xs hr = xs h + 192 ∧ SG hr ∧ xI hr 195 8 = nI 0 ∧ xI hr 195 3 = nI 0 ∧ ((prsX T n).1 = 0 → r = .inl () ∧ IsMB hr (xn h) (prsX T n).2.2 ∧ xR hr 195 5 = xn h) ∧ ((prsX T n).1 ≠ 0 → r = .inr 196 ∧ MFt hr (prsX T n).1 (prsX T n).2.1) := by
  unfold prsX
  have g1 := g.1
  obtain ⟨q0, q0e⟩ : ∃ q0, q0 = pI (pI (pI (pI (pI h 195 0 (nI 0)) 195 9 (nI n)) 195 8 (nI 0)) 195 10 (nI 0)) 195 3 (nI 0) := ⟨_, rfl⟩
  have F0 : Fz (fun a k => a = 195 ∧ (k = 0 ∨ k = 3 ∨ (8 ≤ k ∧ k ≤ 10))) h q0 := by
    rw [q0e]
    exact ((((Fz.i (by omega)).tr (Fz.i (by omega))).tr (Fz.i (by omega))).tr (Fz.i (by omega))).tr (Fz.i (by omega))
  have s0 := g.fz F0
  have n0 : xn q0 = xn h := F0.n
  obtain ⟨h15, e15, v15⟩ := init_mb (h := q0)
  have s15 := s0.ge v15.g
  rw [n0] at v15
  obtain ⟨h17, h17e⟩ : ∃ h17, h17 = pR h15 195 5 (xn h) := ⟨_, rfl⟩
  have F17 : Fw P1_ (fun _ _ => False) h15 h17 := by rw [h17e]; exact Fw.pr (by unfold P1_; omega)
  have s17 : SG h17 := s15.fw (F17.mo (fun a k q => P12 q) (fun a k _ q => q))
  have I17 : ∀ a k, xI h17 a k = xI h15 a k := fun a k => by rw [h17e]; rfl
  have J17 : ∀ a k, a < xn h → xI h17 a k = xI q0 a k := fun a k ha => by rw [I17]; exact v15.g.I (by omega)
  have m9 : xI q0 195 9 = nI n := by rw [q0e, xI_ne (by omega), xI_ne (by omega), xI_ne (by omega), xI_self]
  have m8 : xI q0 195 8 = nI 0 := by rw [q0e, xI_ne (by omega), xI_ne (by omega), xI_self]
  have m10 : xI q0 195 10 = nI 0 := by rw [q0e, xI_ne (by omega), xI_self]
  have m3 : xI q0 195 3 = nI 0 := by rw [q0e, xI_self]
  have c17 : CfM h17 T n := ⟨s17, by rw [J17 _ _ (by omega)]; exact m9, by omega, fun k hk => by rw [J17 _ _ (by omega), F0.I (by omega)]; exact tp k hk, bt⟩
  have b15 := mbs_i v15 g1
  have b17 : MBS h17 (xn h) := by
    have rr : ∀ k, xR h17 (xn h) k = xR h15 (xn h) k := fun k => by rw [h17e, xR_pR, if_neg (by omega)]
    have cc : ∀ a, xc h17 a = xc h15 a := fun a => by rw [h17e]; rfl
    have zz : ∀ a, xz h17 a = xz h15 a := fun a => by rw [h17e]; rfl
    unfold MBS at *; simp only [rr, cc, zz]; exact b15
  have d17 : DrM h17 (xn h) B0_ [] := mb_dr b17 (fun j hj k => by rw [I17]; exact v15.v j hj k) (by rw [h17e, xR_pR, if_pos ⟨rfl, rfl⟩])
  obtain ⟨h19, e19, F19, c19, t19⟩ := next_m c17 (Nat.zero_le n) (by rw [J17 _ _ (by omega)]; exact m10)
  have d19 := d17.st F19
  obtain ⟨r, hr, er, Fr_, x, y⟩ := lines_m (n + 1) h19 (tkP T n 0) B0_ [] FU (by omega) (FU_gt (by omega)) c19 t19 d19
  have Fb : Fz (DmA (xn h)) h17 hr := (F19.mo (fun a k q => .inl (.inl q))).tr Fr_
  have Fh : Fw P1_ MhA h h17 := ((F0.fw.mo (fun a k q => q) (fun a k _ q => by unfold MhA; omega)).tr v15.g.fw).tr2 F17 (fun a k _ q => q.elim)
  have Fa : Fw P1_ MhA h hr := Fh.tr2 Fb.fw (fun a k ha q => by unfold DmA TlM StM at q; unfold MhA; omega)
  have n17 : xn h17 = xn h + 19 := by rw [h17e]; exact v15.n
  have x17 : xs h17 = xs h + 192 := by
    rw [h17e]
    show xs h15 = _
    rw [v15.s, F0.s]; rfl
  refine ⟨r, hr, ?_, Fa, by rw [Fb.n]; exact n17, by rw [Fb.s]; exact x17, s17.fz Fb, ?_, ?_, x, y⟩
  · have c12 : xc (pN q0 12 28) (xn h) ≠ 99 := by rw [xc_pN, if_pos n0.symm]; decide
    unfold X15_book_f X15_readBook_f
    rw [G_t g.c195, LT_e, if_neg (nI_pos (by omega)), G_t g.i.c195, xI_ne (by omega), e8, if_pos (by rw [nI_lI (by omega) (by omega)]; exact hn), G_t g.i.c195, LT_e, G_t g.i.i.c195, LT_e, G_t g.i.i.i.c195, LT_e, G_t g.i.i.i.i.c195, LT_e, ← q0e, LT_e, LT_e, n0, G_t c12]
    rw [n0] at e15
    rw [e15, BN_ok, G_t s15.c195, LT_e, ← h17e, G_t s17.c195, e19, BN_ok, G_t c19.g.c195, er]
  · rw [Fb.I (by unfold DmA TlM StM; omega), J17 _ _ (by omega)]; exact m8
  · rw [Fb.I (by unfold DmA TlM StM; omega), J17 _ _ (by omega)]; exact m3
def MfA : Nat → Nat → Prop := fun a k => a = 195 ∧ (k ≤ 3 ∨ (8 ≤ k ∧ k ≤ 13)) ∨ a = 196
def P3_ (a k : Nat) : Prop := P1_ a k ∨ a = 195 ∧ k = 4
theorem P32 {a k : Nat} (q : P3_ a k) : P2_ a k := q.elim (fun q => .inl q) (fun q => .inr (.inl q))
def MgA : Nat → Nat → Prop := fun a k => a = 195 ∨ a = 196 ∨ a = 198
theorem bookf_m {h : AH} {n z : Nat} {T : Nat → Int32} (g : SG h) (e8 : xI h 195 8 = nI z) (hz : z ≤ 700) (hn : n ≤ z) (tp : ∀ k, k < n → xI h 197 k = T k) (bt : ∀ k, k < n → byt (T k)) (ne : (prsX T n).1 ≠ 0) : ∃ h', X15_book_f 195 (nI n) h = some (-1, h') ∧ Fw P1_ MfA h h' ∧ xn h' = xn h + 19 ∧ xs h' = xs h + 192 ∧ SG h' ∧ xI h' 195 8 = nI 0 ∧ xI h' 195 3 = nI (prsX T n).1 ∧ xI h' 195 1 = nI 4 ∧ xI h' 195 2 = nI (prsX T n).2.1 := by
  obtain ⟨r, hr, er, F, nr, sr, gr, m8, m3, _, y⟩ := bookh_m g e8 hz hn tp bt
  obtain ⟨re, k6, k7⟩ := y ne
  generalize prsX T n = X at *
  rw [er, re, BC_r gr.c196]
  unfold X15_book_B65
  rw [G_t gr.c196, G_t gr.c195, LT_e, G_t gr.i.c195, LT_e, G_t gr.i.i.c196, G_t gr.i.i.c195, LT_e, xI_ne (show ¬ (196 = 195 ∧ 7 = 1) by decide), xI_ne (show ¬ (196 = 195 ∧ 7 = 3) by decide), k6, k7]
  refine ⟨_, rfl, (F.mo (fun a k q => q) (fun a k _ q => by unfold MhA at q; unfold MfA; omega)).tr (((Fw.i (by unfold MfA; omega)).tr (Fw.i (by unfold MfA; omega))).tr (Fw.i (by unfold MfA; omega))), nr, sr, gr.i.i.i, ?_, ?_, ?_, xI_self⟩
  · rw [xI_ne (by omega), xI_ne (by omega), xI_ne (by omega)]; exact m8
  · rw [xI_ne (by omega), xI_ne (by omega), xI_self]
  · rw [xI_ne (by omega), xI_self]
/-- what the reference has of a book that it took -/
def MgO (h1 : AH) (N : Nat) (B : BK) : Prop := (SG h1) ∧ (xI h1 195 8 = nI 0) ∧ (xI h1 195 3 = nI 0) ∧ (xI h1 195 14 = nI 4) ∧ (xI h1 195 15 = (nI 1 <<< (nI (B 5 0) &&& 31)) - nI 1) ∧ (xI h1 195 16 = nI 0) ∧ (xI h1 195 17 = nI 0) ∧ (xI h1 195 18 = nI 0) ∧ (xI h1 195 40 = -1) ∧ (xI h1 195 41 = -1) ∧ (xI h1 195 42 = nI 0) ∧ (xI h1 195 43 = nI 0) ∧ (xI h1 195 47 = -1) ∧ (xI h1 195 23 = nI (B 6 0)) ∧ (xI h1 195 24 = nI 0) ∧ (xI h1 195 25 = nI 0) ∧ (xI h1 195 1 = nI 0) ∧ (xI h1 195 2 = -1) ∧ (xR h1 195 4 = N) ∧ (IsMB h1 N B) ∧ (∀ k, k < 4 → xI h1 198 k = nI (rP_ k))
theorem MgO.g {h1 : AH} {N : Nat} {B : BK} (q_ : MgO h1 N B) : SG h1 := q_.1
theorem MgO.m8 {h1 : AH} {N : Nat} {B : BK} (q_ : MgO h1 N B) : xI h1 195 8 = nI 0 := q_.2.1
theorem MgO.m3 {h1 : AH} {N : Nat} {B : BK} (q_ : MgO h1 N B) : xI h1 195 3 = nI 0 := q_.2.2.1
theorem MgO.m14 {h1 : AH} {N : Nat} {B : BK} (q_ : MgO h1 N B) : xI h1 195 14 = nI 4 := q_.2.2.2.1
theorem MgO.m15 {h1 : AH} {N : Nat} {B : BK} (q_ : MgO h1 N B) : xI h1 195 15 = (nI 1 <<< (nI (B 5 0) &&& 31)) - nI 1 := q_.2.2.2.2.1
theorem MgO.m16 {h1 : AH} {N : Nat} {B : BK} (q_ : MgO h1 N B) : xI h1 195 16 = nI 0 := q_.2.2.2.2.2.1
theorem MgO.m17 {h1 : AH} {N : Nat} {B : BK} (q_ : MgO h1 N B) : xI h1 195 17 = nI 0 := q_.2.2.2.2.2.2.1
theorem MgO.m18 {h1 : AH} {N : Nat} {B : BK} (q_ : MgO h1 N B) : xI h1 195 18 = nI 0 := q_.2.2.2.2.2.2.2.1
theorem MgO.m40 {h1 : AH} {N : Nat} {B : BK} (q_ : MgO h1 N B) : xI h1 195 40 = -1 := q_.2.2.2.2.2.2.2.2.1
theorem MgO.m41 {h1 : AH} {N : Nat} {B : BK} (q_ : MgO h1 N B) : xI h1 195 41 = -1 := q_.2.2.2.2.2.2.2.2.2.1
theorem MgO.m42 {h1 : AH} {N : Nat} {B : BK} (q_ : MgO h1 N B) : xI h1 195 42 = nI 0 := q_.2.2.2.2.2.2.2.2.2.2.1
theorem MgO.m43 {h1 : AH} {N : Nat} {B : BK} (q_ : MgO h1 N B) : xI h1 195 43 = nI 0 := q_.2.2.2.2.2.2.2.2.2.2.2.1
theorem MgO.m47 {h1 : AH} {N : Nat} {B : BK} (q_ : MgO h1 N B) : xI h1 195 47 = -1 := q_.2.2.2.2.2.2.2.2.2.2.2.2.1
theorem MgO.m23 {h1 : AH} {N : Nat} {B : BK} (q_ : MgO h1 N B) : xI h1 195 23 = nI (B 6 0) := q_.2.2.2.2.2.2.2.2.2.2.2.2.2.1
theorem MgO.m24 {h1 : AH} {N : Nat} {B : BK} (q_ : MgO h1 N B) : xI h1 195 24 = nI 0 := q_.2.2.2.2.2.2.2.2.2.2.2.2.2.2.1
theorem MgO.m25 {h1 : AH} {N : Nat} {B : BK} (q_ : MgO h1 N B) : xI h1 195 25 = nI 0 := q_.2.2.2.2.2.2.2.2.2.2.2.2.2.2.2.1
theorem MgO.m1 {h1 : AH} {N : Nat} {B : BK} (q_ : MgO h1 N B) : xI h1 195 1 = nI 0 := q_.2.2.2.2.2.2.2.2.2.2.2.2.2.2.2.2.1
theorem MgO.m2 {h1 : AH} {N : Nat} {B : BK} (q_ : MgO h1 N B) : xI h1 195 2 = -1 := q_.2.2.2.2.2.2.2.2.2.2.2.2.2.2.2.2.2.1
theorem MgO.r4 {h1 : AH} {N : Nat} {B : BK} (q_ : MgO h1 N B) : xR h1 195 4 = N := q_.2.2.2.2.2.2.2.2.2.2.2.2.2.2.2.2.2.2.1
theorem MgO.q {h1 : AH} {N : Nat} {B : BK} (q_ : MgO h1 N B) : IsMB h1 N B := q_.2.2.2.2.2.2.2.2.2.2.2.2.2.2.2.2.2.2.2.1
theorem MgO.pu {h1 : AH} {N : Nat} {B : BK} (q_ : MgO h1 N B) : ∀ k, k < 4 → xI h1 198 k = nI (rP_ k) := q_.2.2.2.2.2.2.2.2.2.2.2.2.2.2.2.2.2.2.2.2
theorem purse_m {h : AH} (g : SG h) : ∃ h', X15_book_B104 FU 195 (nI 0) h = X15_book_B131 195 h' ∧ Fz (fun a _ => a = 198) h h' ∧ ∀ k, k < 4 → xI h' 198 k = nI (rP_ k) := by
  obtain ⟨h', ⟨F, v⟩, e⟩ := loopE (F := fun n k h => X15_book_B104 n 195 (nI k) h) (E := fun h => X15_book_B131 195 h) 4 (fun k h' => Fz (fun a _ => a = 198) h h' ∧ ∀ j, j < k → xI h' 198 j = nI (rP_ j)) (h := h) (k := 0) (Nat.zero_le _) (by omega) ⟨Fz.rf, fun j hj => absurd hj (Nat.not_lt_zero _)⟩
    (by
      rintro n k h' hk ⟨F, v⟩
      have g' := g.fz F
      refine ⟨pI h' 198 k (nI (rP_ k)), ⟨F.tr (Fz.i rfl), fun j hj => ?_⟩, ?_⟩
      · by_cases e : j = k
        · subst e; exact xI_self
        · rw [xI_ne (by omega)]; exact v j (by omega)
      · show X15_book_B104 (n + 1) 195 (nI k) h' = X15_book_B104 n 195 (nI (k + 1)) _
        rw [X15_book_B104, if_neg (by rw [nI_lI (by omega) (by omega)]; omega), G_t g'.c195]
        unfold X15_book_B124
        by_cases k2 : 2 ≤ k
        · rw [if_pos (by rw [nI_lI (by omega) (by omega)]; exact k2), g'.r195_19, G_t g'.c198, g'.z198, G_gx (by omega) (by omega), nI_cl (by omega), LT_e, nI_add, LT_e]
          unfold rP_
          rw [if_neg (by omega)]
        · rw [if_neg (by rw [nI_lI (by omega) (by omega)]; exact k2), g'.r195_19, G_t g'.c198, g'.z198, G_gx (by omega) (by omega), nI_cl (by omega), LT_e, nI_add, LT_e]
          unfold rP_
          rw [if_pos (by omega)])
    (by
      rintro n h' ⟨F, v⟩
      show X15_book_B104 (n + 1) 195 (nI 4) h' = _
      rw [X15_book_B104, if_pos (by decide)])
  exact ⟨h', e, F, v⟩
theorem bookg_m {h : AH} {n z : Nat} {T : Nat → Int32} (g : SG h) (e8 : xI h 195 8 = nI z) (hz : z ≤ 700) (hn : n ≤ z) (tp : ∀ k, k < n → xI h 197 k = T k) (bt : ∀ k, k < n → byt (T k)) (ez : (prsX T n).1 = 0) : ∃ h', X15_book_f 195 (nI n) h = some (nI ((prsX T n).2.2 3 0 + (prsX T n).2.2 4 0), h') ∧ Fw P3_ MgA h h' ∧ xn h' = xn h + 19 ∧ xs h' = xs h + 192 ∧ MgO h' (xn h) (prsX T n).2.2 := by
  have g1 := g.1
  obtain ⟨r, hr, er, F, nr, sr, gr, m8, m3, x, _⟩ := bookh_m g e8 hz hn tp bt
  obtain ⟨re, q, r5⟩ := x ez
  generalize (prsX T n).2.2 = B at *
  generalize hN : xn h = N at *
  obtain ⟨ha, hae⟩ : ∃ ha, ha = pR hr 195 4 N := ⟨_, rfl⟩
  have Fa : Fw P3_ (fun _ _ => False) hr ha := by rw [hae]; exact Fw.pr (by unfold P3_; omega)
  have ga := gr.fw (Fa.mo (fun a k q => P32 q) (fun a k _ q => q))
  have qa : IsMB ha N B := q.mv (fun k hk => ⟨by rw [hae]; rfl, by rw [hae]; rfl, funext fun j => by rw [hae, xR_pR, if_neg (by omega)], by rw [hae]; rfl⟩)
  obtain ⟨hb, hbe⟩ : ∃ hb, hb = pI ha 195 14 (nI 4) := ⟨_, rfl⟩
  have gb : SG hb := by rw [hbe]; exact ga.i
  obtain ⟨hc, ec, Fc, pc⟩ := purse_m gb
  have gc := gb.fz Fc
  have Fbc : Fz (fun a k => a = 195 ∧ k = 14 ∨ a = 198) ha hc := by
    refine Fz.tr ?_ (Fc.mo (fun a k q => .inr q))
    rw [hbe]; exact Fz.i (by omega)
  have qc : IsMB hc N B := qa.fz Fbc (fun k j _ => by omega)
  have rc : xR hc 195 4 = N := by rw [Fbc.r _ (by decide), hae, xR_pR, if_pos ⟨rfl, rfl⟩]
  obtain ⟨hd, hde⟩ : ∃ hd, hd = pI (pI (pI (pI (pI (pI (pI (pI (pI hc 195 15 ((nI 1 <<< (nI (B 5 0) &&& 31)) - nI 1)) 195 16 (nI 0)) 195 17 (nI 0)) 195 18 (nI 0)) 195 40 (-1)) 195 41 (-1)) 195 42 (nI 0)) 195 43 (nI 0)) 195 47 (-1) := ⟨_, rfl⟩
  have Fd : Fz (fun a _ => a = 195) hc hd := by
    rw [hde]
    exact ((((((((Fz.i (by omega)).tr (Fz.i (by omega))).tr (Fz.i (by omega))).tr (Fz.i (by omega))).tr (Fz.i (by omega))).tr (Fz.i (by omega))).tr (Fz.i (by omega))).tr (Fz.i (by omega))).tr (Fz.i (by omega))
  have gd := gc.fz Fd
  have qd : IsMB hd N B := qc.fz Fd (fun k j _ => by omega)
  have rd : xR hd 195 4 = N := by rw [Fd.r _ (by decide)]; exact rc
  obtain ⟨he, hee⟩ : ∃ he, he = pI (pI (pI hd 195 23 (nI (B 6 0))) 195 24 (nI 0)) 195 25 (nI 0) := ⟨_, rfl⟩
  have Fe : Fz (fun a _ => a = 195) hd he := by
    rw [hee]
    exact ((Fz.i (by omega)).tr (Fz.i (by omega))).tr (Fz.i (by omega))
  have ge := gd.fz Fe
  have qe : IsMB he N B := qd.fz Fe (fun k j _ => by omega)
  have re_ : xR he 195 4 = N := by rw [Fe.r _ (by decide)]; exact rd
  have Ff : Fz (fun a _ => a = 195) he (pI (pI he 195 1 (nI 0)) 195 2 (-1)) := (Fz.i (by omega)).tr (Fz.i (by omega))
  have Fg : Fz (fun a _ => a = 195 ∨ a = 198) ha (pI (pI he 195 1 (nI 0)) 195 2 (-1)) := (((Fbc.mo (fun a k q => by omega)).tr (Fd.mo (fun a k q => .inl q))).tr (Fe.mo (fun a k q => .inl q))).tr (Ff.mo (fun a k q => .inl q))
  have Fh : Fz (fun a k => a = 195 ∧ (k ≠ 8 ∧ k ≠ 3 ∧ k ≠ 14) ∨ a = 198) hb (pI (pI he 195 1 (nI 0)) 195 2 (-1)) := by
    have x1 : Fz (fun a k => a = 195 ∧ (k ≠ 8 ∧ k ≠ 3 ∧ k ≠ 14) ∨ a = 198) hc hd := by
      rw [hde]
      exact ((((((((Fz.i (by omega)).tr (Fz.i (by omega))).tr (Fz.i (by omega))).tr (Fz.i (by omega))).tr (Fz.i (by omega))).tr (Fz.i (by omega))).tr (Fz.i (by omega))).tr (Fz.i (by omega))).tr (Fz.i (by omega))
    have x2 : Fz (fun a k => a = 195 ∧ (k ≠ 8 ∧ k ≠ 3 ∧ k ≠ 14) ∨ a = 198) hd he := by
      rw [hee]
      exact ((Fz.i (by omega)).tr (Fz.i (by omega))).tr (Fz.i (by omega))
    exact (((Fc.mo (fun a k q => .inr q)).tr x1).tr x2).tr ((Fz.i (by omega)).tr (Fz.i (by omega)))
  refine ⟨pI (pI he 195 1 (nI 0)) 195 2 (-1), ?_, ?_, ?_, ?_, ?_⟩
  · rw [er, re, BC_l, G_t gr.c195, r5, LT_e, ← hae, G_t ga.c195, LT_e, ← hbe, ec]
    unfold X15_book_B131
    rw [G_t gc.c195, rc, G_t qc.s.c, qc.y, LT_e, G_t gc.i.c195, LT_e, G_t gc.i.i.c195, LT_e, G_t gc.i.i.i.c195, LT_e, G_t gc.i.i.i.i.c195, LT_e, G_t gc.i.i.i.i.i.c195, LT_e, G_t gc.i.i.i.i.i.i.c195, LT_e, G_t gc.i.i.i.i.i.i.i.c195, LT_e, G_t gc.i.i.i.i.i.i.i.i.c195, LT_e, ← hde, G_t gd.c195, rd, G_t qd.s.c, qd.k, LT_e, G_t gd.i.c195, LT_e, G_t gd.i.i.c195, LT_e, ← hee, G_t ge.c195, re_, G_t qe.s.c, qe.u, qe.sn, nI_add, done_m ge, BN_ok]
  · exact ((F.mo (A' := MgA) (fun a k q => .inl q) (fun a k _ q => by unfold MhA at q; unfold MgA; omega)).tr2 Fa (fun a k _ q => q.elim)).tr (Fg.fw.mo (fun a k q => .inl q) (fun a k _ q => by unfold MgA; omega))
  · rw [Fg.n, hae]; exact nr
  · rw [Fg.s, hae]; exact sr
  · have v8 : xI hb 195 8 = nI 0 := by rw [hbe, xI_ne (by omega), hae]; exact m8
    have v3 : xI hb 195 3 = nI 0 := by rw [hbe, xI_ne (by omega), hae]; exact m3
    have v14 : xI hb 195 14 = nI 4 := by rw [hbe, xI_self]
    have I2 : ∀ k, k ≠ 1 ∧ k ≠ 2 → xI (pI (pI he 195 1 (nI 0)) 195 2 (-1)) 195 k = xI he 195 k := fun k hk => by rw [xI_ne (by omega), xI_ne (by omega)]
    have I3 : ∀ k, k ≠ 1 ∧ k ≠ 2 ∧ k ≠ 23 ∧ k ≠ 24 ∧ k ≠ 25 → xI (pI (pI he 195 1 (nI 0)) 195 2 (-1)) 195 k = xI hd 195 k := fun k hk => by rw [I2 k (by omega), hee, xI_ne (by omega), xI_ne (by omega), xI_ne (by omega)]
    refine ⟨ge.fz Ff, by rw [Fh.I (by omega)]; exact v8, by rw [Fh.I (by omega)]; exact v3, by rw [Fh.I (by omega)]; exact v14, ?_, ?_, ?_, ?_, ?_, ?_, ?_, ?_, ?_, ?_, ?_, ?_, ?_, xI_self, by rw [Ff.r _ (by decide)]; exact re_, qe.fz Ff (fun k j _ => by omega), fun k hk => by rw [Ff.I (by omega), Fe.I (by omega), Fd.I (by omega)]; exact pc k hk⟩
    · rw [I3 _ (by omega), hde]; (repeat rw [xI_ne (by omega)]); rw [xI_self]
    · rw [I3 _ (by omega), hde]; (repeat rw [xI_ne (by omega)]); rw [xI_self]
    · rw [I3 _ (by omega), hde]; (repeat rw [xI_ne (by omega)]); rw [xI_self]
    · rw [I3 _ (by omega), hde]; (repeat rw [xI_ne (by omega)]); rw [xI_self]
    · rw [I3 _ (by omega), hde]; (repeat rw [xI_ne (by omega)]); rw [xI_self]
    · rw [I3 _ (by omega), hde]; (repeat rw [xI_ne (by omega)]); rw [xI_self]
    · rw [I3 _ (by omega), hde]; (repeat rw [xI_ne (by omega)]); rw [xI_self]
    · rw [I3 _ (by omega), hde]; (repeat rw [xI_ne (by omega)]); rw [xI_self]
    · rw [I3 _ (by omega), hde, xI_self]
    · rw [I2 _ (by omega), hee]; (repeat rw [xI_ne (by omega)]); rw [xI_self]
    · rw [I2 _ (by omega), hee]; (repeat rw [xI_ne (by omega)]); rw [xI_self]
    · rw [I2 _ (by omega), hee, xI_self]
    · rw [xI_ne (by omega), xI_self]
