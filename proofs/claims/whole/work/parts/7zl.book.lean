/-! book, of both -/
theorem TrS.mv {h h' : AH} {a : Nat} (E : ∀ k, k ≤ 5 → xc h' (a + k) = xc h (a + k) ∧ xz h' (a + k) = xz h (a + k) ∧ xR h' (a + k) = xR h (a + k) ∧ xI h' (a + k) = xI h (a + k)) (q : TrS h a) : TrS h' a := by
  have c : ∀ k, k ≤ 5 → xc h' (a + k) = xc h (a + k) := fun k hk => (E k hk).1
  have z : ∀ k, k ≤ 5 → xz h' (a + k) = xz h (a + k) := fun k hk => (E k hk).2.1
  have c0 : xc h' a = xc h a := c 0 (by decide)
  have r0 : ∀ j, xR h' a j = xR h a j := fun j => congrFun (E 0 (by decide)).2.2.1 j
  unfold TrS at *; simp (disch := decide) only [c _ _, z _ _, c0, r0]; exact q
theorem IsN.mv {h h' : AH} {a z : Nat} {l : List Nat} (E : ∀ x, x = a ∨ x = a + 1 → xc h' x = xc h x ∧ xz h' x = xz h x ∧ xR h' x = xR h x ∧ xI h' x = xI h x) (q : IsN h a z l) : IsN h' a z l := by
  obtain ⟨c, _, r, i⟩ := E a (.inl rfl)
  obtain ⟨c1, z1, _, i1⟩ := E (a + 1) (.inr rfl)
  exact ⟨by rw [c]; exact q.c, by rw [r]; exact q.r, by rw [c1]; exact q.c1, by rw [z1]; exact q.z1, q.n, q.x, by rw [i]; exact q.s, fun j hj => by rw [i1]; exact q.v j hj⟩
def BfA (D : Nat) : Nat → Nat → Prop := fun a k => CbA D a k ∨ MfA a k
theorem nBf {D a k : Nat} (hD : D = 2 ∨ D = 63) (q : (a = 1 ∧ k ≤ 14) ∨ a = 62 ∨ (119 ≤ a ∧ a ≤ 194) ∨ (a = 195 ∧ 14 ≤ k) ∨ 197 ≤ a) : ¬ BfA D a k := by unfold BfA CbA RdA MfA; omega
theorem nP1 {a k : Nat} (q : a < 119 ∧ a ≠ 58 ∨ (120 ≤ a ∧ a ≤ 173) ∨ (181 ≤ a ∧ a ≤ 194) ∨ (a = 195 ∧ k ≠ 5) ∨ 196 ≤ a) : ¬ P1_ a k := by unfold P1_; omega
/-- a book that was not taken -/
theorem INV.bf {h h' : AH} {D : Nat} {bo : Bool} {p : PR} {b m z : Nat} {l lm : List Nat} {s : LLn} {r : NN_} {lo lx : List Nat} (F : Fw P1_ (BfA D) h h') (i : INV h bo p b m z l lm s r lo lx) (hD : (b = 2 ∧ D = 63) ∨ (b = 63 ∧ D = 2)) (t : gT_ h' 0) (fl : xI h' 1 16 = xI h' 195 3) (st : Sts h') : INV h' bo p b m 0 l lm s r lo lx := by
  have g1 := i.g.1
  have dd : D = 2 ∨ D = 63 := by omega
  have kx := i.k.x
  have E : ∀ a, (120 ≤ a ∧ a ≤ 173) ∨ (197 ≤ a ∧ a < xn h) → xc h' a = xc h a ∧ xz h' a = xz h a ∧ xR h' a = xR h a ∧ xI h' a = xI h a := fun a q => ⟨F.c (by omega), F.z (by omega), funext fun k => F.r (by omega) (nP1 (by omega)), funext fun k => F.I (by omega) (nBf dd (by omega))⟩
  have EI : ∀ a k, (120 ≤ a ∧ a ≤ 173) ∨ (197 ≤ a ∧ a < 227) → xI h' a k = xI h a k := fun a k q => F.I (by omega) (nBf dd (by omega))
  have M : ∀ k, 14 ≤ k → xI h' 195 k = xI h 195 k := fun k q => F.I (by omega) (nBf dd (by omega))
  have W : ∀ k, xI h' 62 k = xI h 62 k := fun k => F.I (by omega) (nBf dd (by omega))
  have V : ∀ k, k ≤ 14 → xI h' 1 k = xI h 1 k := fun k q => F.I (by omega) (nBf dd (by omega))
  have R4 : xR h' 195 4 = xR h 195 4 := F.r (by omega) (nP1 (by omega))
  have RF : ∀ k, xR h' 159 k = xR h 159 k := fun k => F.r (by omega) (nP1 (by omega))
  have RW : xR h' 62 0 = xR h 62 0 := F.r (by omega) (nP1 (by omega))
  have mLe : ∀ {a i0 : Nat} {l : List Nat}, (197 ≤ a ∧ a < 227) → mL h a i0 l → mL h' a i0 l := fun q ml j hj => by rw [EI _ _ (by omega)]; exact ml j hj
  refine ⟨i.g.fw (F.mo (fun a k q => P12 q) (fun a k _ q => q)), t, ⟨by rw [V _ (by omega)]; exact i.q.hb, fl, by rw [F.r (show 1 < xn h by omega) (nP1 (by omega))]; exact i.q.bk, by rw [RW]; exact i.q.wb⟩, ⟨fun q => ?_, fun q => ?_⟩, ⟨i.f.n.mv (fun x q => E x (by omega)), by rw [M _ (by omega)]; exact i.f.m, mLe (by omega) i.f.f, i.f.o⟩, ⟨i.m.n.mv (fun x q => E x (by omega)), by rw [M _ (by omega)]; exact i.m.m, fun j hj => by rw [EI _ _ (by omega)]; exact i.m.f j hj, fun j hj => by rw [EI _ _ (by omega)]; exact i.m.g j hj, i.m.o⟩, ⟨by rw [V _ (by omega)]; exact i.k.c, by rw [M _ (by omega)]; exact i.k.m, i.k.x, fun j hj => (i.k.n j hj).mv (fun x q => E x (by omega)), fun j hj => by rw [EI _ _ (by omega)]; exact i.k.k j hj, fun j hj => mLe (by omega) (i.k.f j hj), i.k.o⟩, ⟨fun k hk => by rw [EI _ _ (by omega)]; exact i.u.a k hk, fun k hk => by rw [EI _ _ (by omega)]; exact i.u.b k hk, i.u.x⟩, ⟨by rw [EI _ _ (by omega), M _ (by omega)]; exact i.r.a, by rw [EI _ _ (by omega), M _ (by omega)]; exact i.r.b, by rw [EI _ _ (by omega), M _ (by omega)]; exact i.r.c⟩, ⟨i.o.n.mv (fun x q => E x (by omega)), by rw [M _ (by omega)]; exact i.o.m, mLe (by omega) i.o.f⟩, ⟨i.e.n.mv (fun x q => E x (by omega)), by rw [M _ (by omega)]; exact i.e.m, mLe (by omega) i.e.f⟩, ⟨by rw [EI _ _ (by omega)]; exact i.z.a, by rw [EI _ _ (by omega)]; exact i.z.b⟩, i.n, ?_, st⟩
  · have c := i.b.b1 q
    have w := c.w
    have mx := c.mx
    have lo := c.mq.s.lo
    refine ⟨⟨w.w, by rw [F.c (by omega)]; exact w.c, by rw [RW]; exact w.bk, by rw [W]; exact w.l, by rw [W]; exact w.S, by rw [W]; exact w.K, by rw [W]; exact w.A, by rw [W]; exact w.B⟩, c.q.mv (fun k hk => ⟨F.c (by omega), F.z (by omega), funext fun j => F.r (by omega) (nP1 (by omega)), funext fun j => F.I (by omega) (by unfold BfA CbA RdA MfA; omega)⟩), c.mq.mv (fun k hk => E _ (by omega)), by rw [R4]; exact c.mr, by rw [M _ (by omega)]; exact c.l, by rw [M _ (by omega)]; exact c.S, by rw [M _ (by omega)]; exact c.K, by rw [M _ (by omega)]; exact c.A, by rw [M _ (by omega)]; exact c.B, c.n, c.x, Nat.le_trans c.mx F.1⟩
  · have c := i.b.b0 q
    exact ⟨fun k hk => by rw [F.I (by omega) (by unfold BfA CbA RdA MfA; omega)]; exact c.z k hk, by rw [W]; exact c.l, by rw [W]; exact c.S, by rw [R4]; exact c.mr, c.hb⟩
  · refine ⟨by rw [RF]; exact i.fm.z, fun j h1 h2 h3 => ?_, fun j k h1 h2 h3 => ?_, fun hb j h1 h2 h3 => ?_⟩
    · rw [RF] at *
      have tt := i.fm.t j h1 h2 h3
      exact ⟨tt.1.mv (fun k hk => E _ (by omega)), tt.2.1, Nat.le_trans tt.2.2 F.1⟩
    · rw [RF, RF]; exact i.fm.d j k h1 h2 h3
    · rw [RF] at *; exact i.fm.m hb j h1 h2 h3
theorem gT_0 {h : AH} (a : xI h 58 4 = nI 0) (b : xI h 195 8 = nI 0) : gT_ h 0 := ⟨a, b, Nat.zero_le _, fun i hi => absurd hi (Nat.not_lt_zero _), fun i hi => absurd hi (Nat.not_lt_zero _)⟩
theorem bk_f {h : AH} {bo : Bool} {p : PR} {b m z : Nat} {l lm : List Nat} {s : LLn} {r : NN_} {lo lx : List Nat} {n : Nat} (i : INV h bo p b m z l lm s r lo lx) (hn : n ≤ z) (ne : (prsX (xI h 59) n).1 ≠ 0) : Pair (X11_book_f 1 (nI n)) (X15_book_f 195 (nI n)) h := by
  have g1 := i.g.1
  have hz := i.t.x
  obtain ⟨D, hD⟩ : ∃ D, xR h 1 12 = D := ⟨_, rfl⟩
  have bk : (b = 2 ∧ D = 63) ∨ (b = 63 ∧ D = 2) := by rw [← hD]; exact i.q.bk
  obtain ⟨h1, e1, F1, n1, s1, gg1, v4, v16, v17, v15⟩ := (book_c (T := xI h 59) i.g i.t.f1 hz hn (fun k _ => rfl) (fun k hk => i.t.b k (by omega)) (by omega) hD i.q.wb i.bb).1 ne
  obtain ⟨h2, e2, F2, n2, s2, gg2, w8, w3, w1, w2⟩ := bookf_m (h := h1) (n := n) (z := z) (T := xI h 59) gg1 (by rw [F1.I (by omega) (by unfold CbA RdA; omega)]; exact i.t.f2) hz hn (fun k hk => by rw [F1.I (by omega) (by unfold CbA RdA; omega)]; exact (i.t.e k (by omega)).symm) (fun k hk => i.t.b k (by omega)) ne
  have F : Fw P1_ (BfA D) h h2 := (F1.mo (fun a k q => q) (fun a k _ q => .inl q)).tr (F2.mo (fun a k q => q) (fun a k _ q => .inr q))
  have f15 : xI h2 1 15 = nI 4 := by rw [F2.I (by omega) (by unfold MfA; omega)]; exact v15
  have f17 : xI h2 1 17 = nI (prsX (xI h 59) n).2.1 := by rw [F2.I (by omega) (by unfold MfA; omega)]; exact v17
  refine ⟨-1, h1, h2, e1, gg1.c195, e2, ⟨bo, p, b, m, 0, l, lm, s, r, lo, lx, i.bf F bk (gT_0 (by rw [F2.I (by omega) (by unfold MfA; omega)]; exact v4) w8) ?_ ⟨?_, ?_⟩⟩, by omega, by omega⟩
  · rw [F2.I (by omega) (by unfold MfA; omega), v16, w3]
  · rw [f15, w1]
  · rw [f15, if_pos rfl, f17, w2]
theorem nI0_ : (nI 0 : Int32) = bI false := rfl
theorem bk_g {h : AH} {bo : Bool} {p : PR} {b m z : Nat} {l lm : List Nat} {s : LLn} {r : NN_} {lo lx : List Nat} {n : Nat} (i : INV h bo p b m z l lm s r lo lx) (hn : n ≤ z) (ez : (prsX (xI h 59) n).1 = 0) : Pair (X11_book_f 1 (nI n)) (X15_book_f 195 (nI n)) h := by
  have g1 := i.g.1
  have hz := i.t.x
  obtain ⟨D, hD⟩ : ∃ D, xR h 1 12 = D := ⟨_, rfl⟩
  have bk : (b = 2 ∧ D = 63) ∨ (b = 63 ∧ D = 2) := by rw [← hD]; exact i.q.bk
  obtain ⟨h1, e1, F1, n1, s1, o1⟩ := (book_c (T := xI h 59) i.g i.t.f1 hz hn (fun k _ => rfl) (fun k hk => i.t.b k (by omega)) (by omega) hD i.q.wb i.bb).2 ez
  obtain ⟨h2, e2, F2, n2, s2, o2⟩ := bookg_m (h := h1) (n := n) (z := z) (T := xI h 59) o1.g (by rw [F1.I (by omega) (by unfold CgA RdA; omega)]; exact i.t.f2) hz hn (fun k hk => by rw [F1.I (by omega) (by unfold CgA RdA; omega)]; exact (i.t.e k (by omega)).symm) (fun k hk => i.t.b k (by omega)) ez
  generalize (prsX (xI h 59) n).2.2 = B at *
  clear ez
  have g2 := o2.g
  have J : ∀ a k, a < 195 → xI h2 a k = xI h1 a k := fun a k q => F2.I (by omega) (by unfold MgA; omega)
  have E : ∀ a, 227 ≤ a → a < xn h → xc h2 a = xc h a ∧ xz h2 a = xz h a ∧ xR h2 a = xR h a ∧ xI h2 a = xI h a := fun a a1 a2 => by
    refine ⟨by rw [F2.c (by omega), F1.c (by omega)], by rw [F2.z (by omega), F1.z (by omega)], funext fun k => ?_, funext fun k => ?_⟩
    · rw [F2.r (by omega) (by unfold P3_ P1_; omega), F1.r (by omega) (by unfold P2_ P1_; omega)]
    · rw [F2.I (by omega) (by unfold MgA; omega), F1.I (by omega) (by unfold CgA RdA; omega)]
  have RF : ∀ k, xR h2 159 k = xR h 159 k := fun k => by rw [F2.r (by omega) (by unfold P3_ P1_; omega), F1.r (by omega) (by unfold P2_ P1_; omega)]
  have R12 : xR h2 1 12 = b := by rw [F2.r (by omega) (by unfold P3_ P1_; omega)]; exact o1.r12
  have RW : xR h2 62 0 = D := by rw [F2.r (by omega) (by unfold P3_ P1_; omega)]; exact o1.w0
  have f15 : xI h2 1 15 = nI 0 := by rw [J _ _ (by omega)]; exact o1.d15
  have z0 : ∀ a, (a = 122 ∨ a = 166) → xI h2 a 1 = xI h a 1 := fun a q => by rw [J _ _ (by omega), F1.I (by omega) (by unfold CgA RdA; omega)]
  have cb : IsCB h2 D B := o1.q.mv (fun k hk => ⟨F2.c (by omega), F2.z (by omega), funext fun j => F2.r (by omega) (by unfold P3_ P1_; omega), funext fun j => J _ _ (by omega)⟩)
  have B1 : Bk1 h2 (B, 4, (nI 1 <<< (nI (B 5 0) &&& 31)) - nI 1, nI (B 6 0), nI 0, nI 0) D (xn h) := by
    refine ⟨⟨.inl rfl, g2.c62, RW, by rw [J _ _ (by omega)]; exact o1.w1, by rw [J _ _ (by omega)]; exact o1.w2, by rw [J _ _ (by omega)]; exact o1.w3, by rw [J _ _ (by omega)]; exact o1.w4, by rw [J _ _ (by omega)]; exact o1.w5⟩, cb, by rw [← n1]; exact o2.q, by rw [← n1]; exact o2.r4, o2.m14, o2.m15, o2.m23, o2.m24, o2.m25, by show 1 ≤ 4; decide, by show 4 ≤ 6; decide, by omega⟩
  refine ⟨_, h1, h2, e1, o1.g.c195, e2, ⟨true, (B, 4, (nI 1 <<< (nI (B 5 0) &&& 31)) - nI 1, nI (B 6 0), nI 0, nI 0), D, xn h, 0, [], [], [], rP_, [], [], ?_⟩, by omega, by omega⟩
  refine ⟨g2, gT_0 (by rw [J _ _ (by omega)]; exact o1.t) o2.m8, ⟨by rw [J _ _ (by omega), o1.d13]; rfl, by rw [J _ _ (by omega), o1.d16, o2.m3], by rw [R12]; omega, RW⟩, ⟨fun _ => B1, fun q => nomatch q⟩, gF_nil g2 (by rw [J _ _ (by omega)]; exact o1.fa) o2.m16, gM_nil g2 (by rw [J _ _ (by omega)]; exact o1.tm) o2.m17, gK_nil (by rw [J _ _ (by omega)]; exact o1.d14) o2.m18, ⟨fun k hk => by rw [J _ _ (by omega)]; exact o1.rm k hk, o2.pu, by decide⟩, ⟨by rw [J _ _ (by omega), o1.t10, o2.m40], by rw [J _ _ (by omega), o1.t11, o2.m41], by rw [J _ _ (by omega), o1.t12, o2.m47]⟩, gO_nil g2 (by rw [J _ _ (by omega)]; exact o1.fs) o2.m42, gE_nil g2 (by rw [J _ _ (by omega)]; exact o1.es) o2.m43, ⟨by rw [z0 _ (.inl rfl)]; exact i.z.a, by rw [z0 _ (.inr rfl)]; exact i.z.b⟩, (fun q => nomatch q), ?_, ?_, ?_⟩
  · refine ⟨by rw [RF]; exact i.fm.z, fun j h1 h2 h3 => ?_, fun j k h1 h2 h3 => ?_, fun hb j h1 h2 h3 => ?_⟩
    · rw [RF] at *
      have tt := i.fm.t j h1 h2 h3
      exact ⟨tt.1.mv (fun k hk => E _ (by omega) (by omega)), tt.2.1, by omega⟩
    · rw [RF, RF]; exact i.fm.d j k h1 h2 h3
    · rw [RF] at *
      exact .inl (i.fm.t j h1 h2 h3).2.2
  · rw [f15, o2.m1]
  · rw [f15, o2.m2, if_neg (by decide)]
theorem pr_book {h : AH} {bo : Bool} {p : PR} {b m z : Nat} {l lm : List Nat} {s : LLn} {r : NN_} {lo lx : List Nat} (i : INV h bo p b m z l lm s r lo lx) (x : Int32) : Pair (X11_book_f 1 x) (X15_book_f 195 x) h := by
  have gi := fun (v : Int32) => (i.g.i (a := 1) (k := 15) (v := v))
  have hz := i.t.x
  have b15 : X11_book_B15 1 h = some (-1, pI h 1 15 (nI 2)) := by
    unfold X11_book_B15
    rw [G_t i.g.c1, refuse_c i.g, BN_ok]
  have b17 : X15_book_B17 195 (pI (pI h 1 15 (nI 2)) 195 0 (nI 0)) = some (-1, pI (pI (pI (pI h 1 15 (nI 2)) 195 0 (nI 0)) 195 1 (nI 2)) 195 2 (-1)) := by
    unfold X15_book_B17
    rw [G_t (gi _).i.c195, refused_m (gi _).i, BN_ok]
  have no : x < 0 ∨ nI (z + 1) ≤ x → Pair (X11_book_f 1 x) (X15_book_f 195 x) h := fun bad => by
    have nle : ¬ x < 0 → ¬ x ≤ nI z := fun q c => by
      rcases bad with b | b
      · exact q b
      · have := Int32.le_trans b c
        rw [nI_lI (by omega) (by omega)] at this
        omega
    refine Pair.no i (nI 2) (-1) n4_2 ?_ ?_
    · unfold X11_book_f
      rw [b15]
      by_cases q : x < 0
      · rw [if_pos q]
      · rw [if_neg q, G_t i.g.c1, i.g.r1_0, G_t i.g.c58, i.t.f1, if_neg (nle q)]
    · unfold X15_book_f
      rw [G_t (gi _).c195, LT_e, b17]
      by_cases q : x < 0
      · rw [if_pos q]
      · rw [if_neg q, G_t (gi _).i.c195, xI_ne (by omega), xI_ne (by omega), i.t.f2, if_neg (nle q)]
  rcases pk_ix x (n := z + 1) (by omega) with q | q | ⟨n, hn, rfl⟩
  · exact no (.inl q)
  · exact no (.inr q)
  · by_cases ne : (prsX (xI h 59) n).1 = 0
    · exact bk_g i (by omega) ne
    · exact bk_f i (by omega) ne
