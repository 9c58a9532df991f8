theorem byt_8 (b : Int8) : byt b.toInt32 := by
  have h : ∀ n, n < 256 → (nI n).toInt8.toInt32 = (Int8.ofBitVec (BitVec.ofNat 8 n)).toInt32 := by decide +kernel
  refine ⟨b.toBitVec.toNat, b.toBitVec.isLt, ?_⟩
  rw [h _ b.toBitVec.isLt, BitVec.ofNat_toNat, BitVec.setWidth_eq]
  rfl
/-- a byte of a number -/
def bb8 (x : Int32) (k : Nat) : Int32 := vp_nar .byte ((x >>> (nI (24 - 8 * k) &&& 31)).toInt8.toInt32)
theorem byt_bb {x : Int32} {k : Nat} : byt (bb8 x k) := byt_8 _
theorem takeNumber_ok {h : AH} {x : Int32} {z : Nat} (g : SG h) (e : xI h 58 4 = nI z) (hz : z + 4 ≤ 700) : ∃ h', X6_takeNumber_f 58 x h = some ((), h') ∧ Fz (fun a k => a = 58 ∧ k = 4 ∨ a = 59) h h' ∧ xI h' 58 4 = nI (z + 4) ∧ (∀ i, i < z → xI h' 59 i = xI h 59 i) ∧ ∀ k, k < 4 → xI h' 59 (z + k) = bb8 x k := by
  obtain ⟨n, hn⟩ : ∃ n, FU = n + 5 := ⟨FU - 5, rfl⟩
  have st : ∀ n k h', k < 4 → SG h' → xI h' 58 4 = nI (z + k) → X6_takeNumber_B3 (n + 1) 58 x (nI (24 - 8 * k)) h' = X6_takeNumber_B3 n 58 x (nI (24 - 8 * k) + (-8)) (pI (pI h' 59 (z + k) (bb8 x k)) 58 4 (nI (z + k + 1))) := by
    intro n k h' hk g' e'
    have q : ¬ 700 ≤ z + k := by omega
    have cl : (nI (z + k)).toNatClampNeg = z + k := nI_cl (by omega)
    rw [X6_takeNumber_B3]
    rw [if_neg (nI_pos (by omega)), G_t g'.c58, e', if_neg (by rw [nI_lI (by omega) (by omega)]; exact q), G_t g'.c58, g'.r58_0, G_t g'.c59, g'.z59, G_gx (by omega) (by omega), LT_e, cl, G_t g'.i.c58, xI_ne (by omega), e', nI_add, LT_e, LT_e]
    rfl
  obtain ⟨h1, e1⟩ : ∃ h1, h1 = pI (pI h 59 (z + 0) (bb8 x 0)) 58 4 (nI (z + 0 + 1)) := ⟨_, rfl⟩
  have g1 : SG h1 := by rw [e1]; exact g.i.i
  obtain ⟨h2, e2⟩ : ∃ h2, h2 = pI (pI h1 59 (z + 1) (bb8 x 1)) 58 4 (nI (z + 1 + 1)) := ⟨_, rfl⟩
  have g2 : SG h2 := by rw [e2]; exact g1.i.i
  obtain ⟨h3, e3⟩ : ∃ h3, h3 = pI (pI h2 59 (z + 2) (bb8 x 2)) 58 4 (nI (z + 2 + 1)) := ⟨_, rfl⟩
  have g3 : SG h3 := by rw [e3]; exact g2.i.i
  obtain ⟨h4, e4⟩ : ∃ h4, h4 = pI (pI h3 59 (z + 3) (bb8 x 3)) 58 4 (nI (z + 3 + 1)) := ⟨_, rfl⟩
  have p1 : xI h1 58 4 = nI (z + 1) := by rw [e1, xI_self]
  have p2 : xI h2 58 4 = nI (z + 2) := by rw [e2, xI_self]
  have p3 : xI h3 58 4 = nI (z + 3) := by rw [e3, xI_self]
  have m8 : X6_takeNumber_B3 (n + 1) 58 x (nI (24 - 8 * 3) + (-8)) h4 = some ((), h4) := by
    rw [X6_takeNumber_B3, if_pos (by decide)]
  refine ⟨h4, ?_, ?_, by rw [e4, xI_self], fun i hi => ?_, fun k hk => ?_⟩
  · unfold X6_takeNumber_f
    rw [hn]
    refine (st (n + 4) 0 h (by decide) g e).trans ?_
    rw [← e1]
    refine (st (n + 3) 1 h1 (by decide) g1 p1).trans ?_
    rw [← e2]
    refine (st (n + 2) 2 h2 (by decide) g2 p2).trans ?_
    rw [← e3]
    refine (st (n + 1) 3 h3 (by decide) g3 p3).trans ?_
    rw [← e4]
    exact m8
  · rw [e4, e3, e2, e1]
    exact (((((((Fz.i (by omega)).tr (Fz.i (by omega))).tr (Fz.i (by omega))).tr (Fz.i (by omega))).tr (Fz.i (by omega))).tr (Fz.i (by omega))).tr (Fz.i (by omega))).tr (Fz.i (by omega))
  · rw [e4, xI_ne (by omega), xI_ne (by omega), e3, xI_ne (by omega), xI_ne (by omega), e2, xI_ne (by omega), xI_ne (by omega), e1, xI_ne (by omega), xI_ne (by omega)]
  · have : k = 0 ∨ k = 1 ∨ k = 2 ∨ k = 3 := by omega
    rcases this with rfl | rfl | rfl | rfl
    · rw [e4, xI_ne (by omega), xI_ne (by omega), e3, xI_ne (by omega), xI_ne (by omega), e2, xI_ne (by omega), xI_ne (by omega), e1, xI_ne (by omega), xI_self]
    · rw [e4, xI_ne (by omega), xI_ne (by omega), e3, xI_ne (by omega), xI_ne (by omega), e2, xI_ne (by omega), xI_self]
    · rw [e4, xI_ne (by omega), xI_ne (by omega), e3, xI_ne (by omega), xI_self]
    · rw [e4, xI_ne (by omega), xI_self]
/-- which number a byte comes from -/
def fW (a b c d e : Int32) (k : Nat) : Int32 := if k < 4 then a else if k < 8 then b else if k < 12 then c else if k < 16 then d else e
theorem feed_cls {h : AH} {a b c d e : Int32} {z : Nat} (g : SG h) (q : xI h 58 4 = nI z) (hz : z + 20 ≤ 700) : ∃ h', X11_feed_f 1 a b c d e h = some (nI (z + 20), h') ∧ Fz (fun a k => a = 58 ∧ k = 4 ∨ a = 59) h h' ∧ xI h' 58 4 = nI (z + 20) ∧ (∀ i, i < z → xI h' 59 i = xI h 59 i) ∧ ∀ k, k < 20 → xI h' 59 (z + k) = bb8 (fW a b c d e k) (k % 4) := by
  obtain ⟨h1, e1, F1, q1, o1, n1⟩ := takeNumber_ok (x := a) g q (by omega)
  have g1 := g.fz F1
  obtain ⟨h2, e2, F2, q2, o2, n2⟩ := takeNumber_ok (x := b) g1 q1 (by omega)
  have g2 := g1.fz F2
  obtain ⟨h3, e3, F3, q3, o3, n3⟩ := takeNumber_ok (x := c) g2 q2 (by omega)
  have g3 := g2.fz F3
  obtain ⟨h4, e4, F4, q4, o4, n4⟩ := takeNumber_ok (x := d) g3 q3 (by omega)
  have g4 := g3.fz F4
  obtain ⟨h5, e5, F5, q5, o5, n5⟩ := takeNumber_ok (x := e) g4 q4 (by omega)
  have g5 := g4.fz F5
  refine ⟨h5, ?_, (((F1.tr F2).tr F3).tr F4).tr F5, q5, fun i hi => ?_, fun k hk => ?_⟩
  · unfold X11_feed_f
    rw [G_t g.c1, g.r1_0, G_t g.c58, q, nI_add, if_pos (by rw [nI_lI (by omega) (by omega)]; exact hz), G_t g.c1, G_t g.c58, e1, BN_ok, G_t g1.c1, g1.r1_0, G_t g1.c58, e2, BN_ok, G_t g2.c1, g2.r1_0, G_t g2.c58, e3, BN_ok, G_t g3.c1, g3.r1_0, G_t g3.c58, e4, BN_ok, G_t g4.c1, g4.r1_0, G_t g4.c58, e5, BN_ok, G_t g5.c1, g5.r1_0, G_t g5.c58, q5]
  · rw [o5 i (by omega), o4 i (by omega), o3 i (by omega), o2 i (by omega), o1 i (by omega)]
  · unfold fW
    by_cases k1 : k < 4
    · rw [if_pos k1, o5 _ (by omega), o4 _ (by omega), o3 _ (by omega), o2 _ (by omega), n1 k k1, show k % 4 = k by omega]
    · by_cases k2 : k < 8
      · rw [if_neg k1, if_pos k2, o5 _ (by omega), o4 _ (by omega), o3 _ (by omega), show z + k = z + 4 + (k - 4) by omega, n2 _ (by omega), show k % 4 = k - 4 by omega]
      · by_cases k3 : k < 12
        · rw [if_neg k1, if_neg k2, if_pos k3, o5 _ (by omega), o4 _ (by omega), show z + k = z + 4 + 4 + (k - 8) by omega, n3 _ (by omega), show k % 4 = k - 8 by omega]
        · by_cases k4 : k < 16
          · rw [if_neg k1, if_neg k2, if_neg k3, if_pos k4, o5 _ (by omega), show z + k = z + 4 + 4 + 4 + (k - 12) by omega, n4 _ (by omega), show k % 4 = k - 12 by omega]
          · rw [if_neg k1, if_neg k2, if_neg k3, if_neg k4, show z + k = z + 4 + 4 + 4 + 4 + (k - 16) by omega, n5 _ (by omega), show k % 4 = k - 16 by omega]
theorem feed_sh : ∀ k, k < 20 → nI 24 - nI 8 * (nI k - nI k / nI 4 * nI 4) = nI (24 - 8 * (k % 4)) := by decide +kernel
theorem feed_mo {h : AH} {a b c d e : Int32} {z : Nat} (g : SG h) (q : xI h 195 8 = nI z) (hz : z + 20 ≤ 700) : ∃ h', X15_feed_B23 FU 195 a b c d e (nI 0) h = some (nI (z + 20), h') ∧ Fz (fun a k => a = 195 ∧ k = 8 ∨ a = 197) h h' ∧ xI h' 195 8 = nI (z + 20) ∧ (∀ i, i < z → xI h' 197 i = xI h 197 i) ∧ ∀ k, k < 20 → xI h' 197 (z + k) = bb8 (fW a b c d e k) (k % 4) := by
  obtain ⟨h', ⟨F, q', o', v'⟩, e'⟩ := loopE (F := fun n k h' => X15_feed_B23 n 195 a b c d e (nI k) h') (E := fun h' => X15_feed_B117 195 h') 20 (fun k h' => Fz (fun a k => a = 195 ∧ k = 8 ∨ a = 197) h h' ∧ xI h' 195 8 = nI (z + k) ∧ (∀ i, i < z → xI h' 197 i = xI h 197 i) ∧ ∀ i, i < k → xI h' 197 (z + i) = bb8 (fW a b c d e i) (i % 4)) (Nat.zero_le _) (by omega) (h := h) ⟨Fz.rf, q, fun _ _ => rfl, fun i hi => absurd hi (Nat.not_lt_zero _)⟩
    (by
      rintro n k h' hk ⟨F, q, o, v⟩
      have g' := g.fz F
      have cl : (nI (z + k)).toNatClampNeg = z + k := nI_cl (by omega)
      have st : ∀ x : Int32, X15_feed_B76 (X15_feed_B23 n) 195 a b c d e (nI k) x h' = X15_feed_B23 n 195 a b c d e (nI (k + 1)) (pI (pI h' 197 (z + k) (bb8 x (k % 4))) 195 8 (nI (z + k + 1))) := fun x => by
        unfold X15_feed_B76
        rw [G_t g'.c195, g'.r195_7, G_t g'.c197, g'.z197, q, G_gx (by omega) (by omega), LT_e, cl, G_t g'.i.c195, xI_ne (by omega), q, nI_add, LT_e, feed_sh k hk, nI_add, LT_e]
        rfl
      have le : ∀ j, j < 100 → (nI j ≤ nI k ↔ j ≤ k) := fun j hj => by rw [nI_lI (by omega) (by omega)]
      refine ⟨pI (pI h' 197 (z + k) (bb8 (fW a b c d e k) (k % 4))) 195 8 (nI (z + k + 1)), ⟨(F.tr (Fz.i (by omega))).tr (Fz.i (by omega)), by rw [xI_self]; rfl, fun i hi => ?_, fun i hi => ?_⟩, ?_⟩
      · rw [xI_ne (by omega), xI_ne (by omega)]; exact o i hi
      · rw [xI_ne (by omega)]
        by_cases e : i = k
        · subst e; exact xI_self
        · rw [xI_ne (by omega)]; exact v i (by omega)
      · show X15_feed_B23 (n + 1) 195 a b c d e (nI k) h' = _
        rw [X15_feed_B23, if_neg (by rw [le 20 (by omega)]; omega)]
        unfold fW
        by_cases k1 : k < 4
        · rw [if_pos k1, if_neg (by rw [le 4 (by omega)]; omega), st]
        · by_cases k2 : k < 8
          · rw [if_neg k1, if_pos k2, if_pos (by rw [le 4 (by omega)]; omega), if_neg (by rw [le 8 (by omega)]; omega), st]
          · by_cases k3 : k < 12
            · rw [if_neg k1, if_neg k2, if_pos k3, if_pos (by rw [le 4 (by omega)]; omega), if_pos (by rw [le 8 (by omega)]; omega), if_neg (by rw [le 12 (by omega)]; omega), st]
            · by_cases k4 : k < 16
              · rw [if_neg k1, if_neg k2, if_neg k3, if_pos k4, if_pos (by rw [le 4 (by omega)]; omega), if_pos (by rw [le 8 (by omega)]; omega), if_pos (by rw [le 12 (by omega)]; omega), if_neg (by rw [le 16 (by omega)]; omega), st]
              · rw [if_neg k1, if_neg k2, if_neg k3, if_neg k4, if_pos (by rw [le 4 (by omega)]; omega), if_pos (by rw [le 8 (by omega)]; omega), if_pos (by rw [le 12 (by omega)]; omega), if_pos (by rw [le 16 (by omega)]; omega), st])
    (by
      rintro n h' ⟨F, q, o, v⟩
      show X15_feed_B23 (n + 1) 195 a b c d e (nI 20) h' = _
      rw [X15_feed_B23, if_pos (by decide)])
  refine ⟨h', ?_, F, q', o', v'⟩
  have g' := g.fz F
  refine e'.trans ?_
  show X15_feed_B117 195 h' = _
  unfold X15_feed_B117
  rw [G_t g'.c195, q']
theorem pr_feed {h : AH} {bo : Bool} {p : PR} {b m z : Nat} {l lm : List Nat} {s : LLn} {r : NN_} {lo lx : List Nat} (i : INV h bo p b m z l lm s r lo lx) (a c d e f : Int32) : Pair (X11_feed_f 1 a c d e f) (X15_feed_f 195 a c d e f) h := by
  have tx := i.t.x
  by_cases hz : z + 20 ≤ 700
  · have ls : nI (z + 20) ≤ nI 700 := by rw [nI_lI (by omega) (by omega)]; exact hz
    obtain ⟨h1, e1, F1, q1, o1, v1⟩ := feed_cls (a := a) (b := c) (c := d) (d := e) (e := f) i.g i.t.f1 hz
    have g1 := i.g.fz F1
    have m1 : xI (pI h1 195 0 (nI 0)) 195 8 = nI z := by rw [xI_ne (by omega), F1.I (by omega)]; exact i.t.f2
    obtain ⟨h2, e2, F2, q2, o2, v2⟩ := feed_mo (a := a) (b := c) (c := d) (d := e) (e := f) g1.i m1 hz
    have F : Fz (fun a k => SCR m a k ∨ a = 58 ∧ k = 4 ∨ a = 59 ∨ a = 195 ∧ k = 8 ∨ a = 197) h h2 := ((F1.mo (fun a k q => .inr (by omega))).tr (Fz.i (.inl sc0))).tr (F2.mo (fun a k q => .inr (by omega)))
    have Fs : ∀ k, k = 1 ∨ k = 2 → xI h2 195 k = xI h 195 k := fun k hk => by rw [F2.I (by omega), xI_ne (by omega), F1.I (by omega)]
    have Ft : ∀ k, xI h2 1 k = xI h 1 k := fun k => by rw [F2.I (by omega), xI_ne (by omega), F1.I (by omega)]
    have tp : ∀ k, xI h2 59 k = xI h1 59 k := fun k => by rw [F2.I (by omega), xI_ne (by omega)]
    refine ⟨nI (z + 20), h1, h2, e1, g1.c195, ?_, ⟨bo, p, b, m, z + 20, l, lm, s, r, lo, lx, ?_⟩, by rw [F.n]; omega, by rw [F.s]; omega⟩
    · unfold X15_feed_f
      rw [G_t g1.c195, LT_e, G_t g1.i.c195, m1, nI_add, if_pos ls, e2]
    · refine ⟨i.g.fz F, ⟨?_, q2, hz, fun k hk => ?_, fun k hk => ?_⟩, i.q.fz F (fun a k q c => c.elim (sG_ q) (fun c => by omega)), i.b.fz F (fun a k q c => c.elim (sB_ q) (fun c => by omega)) i.bb, i.f.fz F (fun a k q c => c.elim (sF_ q) (fun c => by omega)), i.m.fz F (fun a k q c => c.elim (sM_ q) (fun c => by omega)), i.k.fz F (fun a k q c => c.elim (sK_ q) (fun c => by omega)), i.u.fz F (fun a k q c => c.elim (sU_ q) (fun c => by omega)), i.r.fz F (fun a k q c => c.elim (sR_ q) (fun c => by omega)), i.o.fz F (fun a k q c => c.elim (sO_ q) (fun c => by omega)), i.e.fz F (fun a k q c => c.elim (sE_ q) (fun c => by omega)), i.z.fz F (fun a k q c => c.elim (sZ_ q) (fun c => by omega)), i.n, i.fm.fz F, ?_⟩
      · rw [F2.I (by omega), xI_ne (by omega)]; exact q1
      · rw [tp]
        by_cases e : k < z
        · rw [o1 k e, o2 k e, xI_ne (by omega), F1.I (by omega)]; exact i.t.e k e
        · rw [show k = z + (k - z) by omega, v1 _ (by omega), v2 _ (by omega)]
      · rw [tp]
        by_cases e : k < z
        · rw [o1 k e]; exact i.t.b k e
        · rw [show k = z + (k - z) by omega, v1 _ (by omega)]; exact byt_bb
      · exact ⟨by rw [Ft, Fs 1 (.inl rfl)]; exact i.st.1, by rw [Fs 2 (.inr rfl), Ft, Ft]; exact i.st.2⟩
  · have ls : ¬ nI (z + 20) ≤ nI 700 := by rw [nI_lI (by omega) (by omega)]; exact hz
    refine Pair.get i (v := -1) ?_ ?_
    · unfold X11_feed_f
      rw [G_t i.g.c1, i.g.r1_0, G_t i.g.c58, i.t.f1, nI_add, if_neg ls]
    · unfold X15_feed_f
      rw [G_t i.g.c195, LT_e, G_t i.g.i.c195, xI_ne (by omega), i.t.f2, nI_add, if_neg ls]
