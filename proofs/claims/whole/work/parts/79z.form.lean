/-! the formulas that a trial makes: a heap that grows, and the array of formulas -/
def Gp (h h' : AH) : Prop := xn h ≤ xn h' ∧ ∀ a, a < xn h → xc h' a = xc h a ∧ xz h' a = xz h a ∧ (a ≠ 159 → xR h' a = xR h a) ∧ xI h' a = xI h a ∧ xL h' a = xL h a
section
variable {h h' : AH} {a k : Nat}
theorem Gp.rf : Gp h h := ⟨Nat.le_refl _, fun _ _ => ⟨rfl, rfl, fun _ => rfl, rfl, rfl⟩⟩
theorem Gp.c (E : Gp h h') (n : a < xn h) : xc h' a = xc h a := (E.2 a n).1
theorem Gp.z (E : Gp h h') (n : a < xn h) : xz h' a = xz h a := (E.2 a n).2.1
theorem Gp.r (E : Gp h h') (n : a < xn h) (f : a ≠ 159) : xR h' a k = xR h a k := congrFun ((E.2 a n).2.2.1 f) k
theorem Gp.I (E : Gp h h') (n : a < xn h) : xI h' a k = xI h a k := congrFun (E.2 a n).2.2.2.1 k
theorem Gp.L (E : Gp h h') (n : a < xn h) : xL h' a k = xL h a k := congrFun (E.2 a n).2.2.2.2 k
theorem tR_fo : ∀ q ∈ tR, q.1 ≠ 159 := by decide +kernel
theorem SG.gp (E : Gp h h') (s : SG h) : SG h' := by
  have s1 := s.1
  refine ⟨Nat.le_trans s.1 E.1, fun a ha => ?_, fun q hq => ?_⟩
  · rw [E.c (by omega), E.z (by omega)]; exact s.2.1 a ha
  · have := tR_lt q hq
    rw [E.r (by omega) (tR_fo q hq)]; exact s.2.2 q hq
theorem IsN.gp {z : Nat} {l : List Nat} (E : Gp h h') (n : a + 1 < xn h) (f : a ≠ 159) (q : IsN h a z l) : IsN h' a z l :=
  ⟨by rw [E.c (by omega)]; exact q.c, by rw [E.r (by omega) f]; exact q.r, by rw [E.c n]; exact q.c1, by rw [E.z n]; exact q.z1, q.n, q.x, by rw [E.I (by omega)]; exact q.s, fun i hi => by rw [E.I n]; exact q.v i hi⟩
theorem TrS.gp (E : Gp h h') (n : a + 5 < xn h) (q : TrS h a) : TrS h' a := by
  have f : a ≠ 159 := by have := q.w; omega
  exact ⟨q.w, by rw [E.c (by omega)]; exact q.c, by rw [E.r (by omega) f]; exact q.r0, by rw [E.r (by omega) f]; exact q.r1, by rw [E.r (by omega) f]; exact q.r2, by rw [E.r (by omega) f]; exact q.r3, by rw [E.r (by omega) f]; exact q.r4, by rw [E.c (by omega)]; exact q.c1, by rw [E.c (by omega)]; exact q.c2, by rw [E.c (by omega)]; exact q.c3, by rw [E.c (by omega)]; exact q.c4, by rw [E.c (by omega)]; exact q.c5, by rw [E.z (by omega)]; exact q.z1, by rw [E.z (by omega)]; exact q.z2, by rw [E.z (by omega)]; exact q.z3, by rw [E.z (by omega)]; exact q.z4, by rw [E.z (by omega)]; exact q.z5⟩
theorem IsTr.gp {p : PR} {f : FL} (E : Gp h h') (n : a + 5 < xn h) (q : IsTr h a p f) : IsTr h' a p f := ⟨q.s.gp E n, fun t m ht hm r hr => by rw [E.I (by omega)]; exact q.T t m ht hm r hr, fun m t hm ht => by rw [E.I (by omega)]; exact q.D m t hm ht, fun s t hs ht => by rw [E.I (by omega)]; exact q.A s t hs ht, fun s t hs ht => by rw [E.I (by omega)]; exact q.W s t hs ht, by rw [E.I (by omega)]; exact q.V⟩
theorem CaX_.gp {b : Nat} {p : PR} {r : NN_} (E : Gp h h') (C : CaX_ h 62 b p r) : CaX_ h' 62 b p r := by
  have g1 := C.g.1
  have w := C.w
  have lo := C.q.s.lo
  have hi := C.q.s.hi
  exact ⟨C.g.gp E, ⟨w.w, by rw [E.c (by omega)]; exact w.c, by rw [E.r (by omega) (by decide)]; exact w.bk, by rw [E.I (by omega)]; exact w.l, by rw [E.I (by omega)]; exact w.S, by rw [E.I (by omega)]; exact w.K, by rw [E.I (by omega)]; exact w.A, by rw [E.I (by omega)]; exact w.B⟩, C.q.mv (fun k hk => ⟨E.c (by omega), E.z (by omega), (E.2 _ (by omega)).2.2.1 (by omega), (E.2 _ (by omega)).2.2.2.1⟩), fun k hk => by rw [E.I (by omega)]; exact C.u k hk, C.x, C.n, C.y⟩
theorem BuS.gp {l : List Nat} {T s d base : Nat} (E : Gp h h') (g : SG h) (B : BuS h l T s d base) : BuS h' l T s d base := by
  have g1 := g.1
  have q := B.u
  exact ⟨⟨by rw [E.I (by omega)]; exact q.z, fun i hi => by rw [E.I (by omega)]; exact q.l i hi, by rw [E.I (by omega)]; exact q.s, by rw [E.I (by omega)]; exact q.b, fun i hi => by rw [E.I (by omega)]; exact q.k i hi⟩, B.s1, B.sT, B.d, B.v, B.b⟩
end
theorem init_tr {h : AH} : ∃ h', X8_init_f (xn h) (pN h 8 7) = some ((), h') ∧ Ge h h' ∧ xn h' = xn h + 6 ∧ xs h' = xs h + 111 ∧ (182 ≤ xn h → TrS h' (xn h)) := by
  generalize hN : xn h = N
  obtain ⟨h1, e1⟩ : ∃ h1, h1 = pN h 8 7 := ⟨_, rfl⟩
  have n1 : xn h1 = N + 1 := by rw [e1, xn_pN, hN]
  obtain ⟨h2, e2⟩ : ∃ h2, h2 = pR (pN h1 16 28) N 0 (N + 1) := ⟨_, rfl⟩
  have n2 : xn h2 = N + 2 := by rw [e2, xn_pR, xn_pN, n1]
  obtain ⟨h3, e3⟩ : ∃ h3, h3 = pR (pN h2 16 4) N 1 (N + 2) := ⟨_, rfl⟩
  have n3 : xn h3 = N + 3 := by rw [e3, xn_pR, xn_pN, n2]
  obtain ⟨h4, e4⟩ : ∃ h4, h4 = pR (pN h3 16 6) N 2 (N + 3) := ⟨_, rfl⟩
  have n4 : xn h4 = N + 4 := by rw [e4, xn_pR, xn_pN, n3]
  obtain ⟨h5, e5⟩ : ∃ h5, h5 = pR (pN h4 16 42) N 3 (N + 4) := ⟨_, rfl⟩
  have n5 : xn h5 = N + 5 := by rw [e5, xn_pR, xn_pN, n4]
  obtain ⟨h6, e6⟩ : ∃ h6, h6 = pR (pN h5 16 24) N 4 (N + 5) := ⟨_, rfl⟩
  have n6 : xn h6 = N + 6 := by rw [e6, xn_pR, xn_pN, n5]
  have c1 : ∀ a, xc h1 a = if a = N then 8 else xc h a := fun a => by rw [e1, xc_pN, hN]
  have c2 : ∀ a, xc h2 a = if a = N + 1 then 16 else xc h1 a := fun a => by rw [e2, xc_pR, xc_pN, n1]
  have c3 : ∀ a, xc h3 a = if a = N + 2 then 16 else xc h2 a := fun a => by rw [e3, xc_pR, xc_pN, n2]
  have c4 : ∀ a, xc h4 a = if a = N + 3 then 16 else xc h3 a := fun a => by rw [e4, xc_pR, xc_pN, n3]
  have c5 : ∀ a, xc h5 a = if a = N + 4 then 16 else xc h4 a := fun a => by rw [e5, xc_pR, xc_pN, n4]
  have c6 : ∀ a, xc h6 a = if a = N + 5 then 16 else xc h5 a := fun a => by rw [e6, xc_pR, xc_pN, n5]
  have z1 : ∀ a, xz h1 a = if a = N then 7 else xz h a := fun a => by rw [e1, xz_pN, hN]
  have z2 : ∀ a, xz h2 a = if a = N + 1 then 28 else xz h1 a := fun a => by rw [e2, xz_pR, xz_pN, n1]
  have z3 : ∀ a, xz h3 a = if a = N + 2 then 4 else xz h2 a := fun a => by rw [e3, xz_pR, xz_pN, n2]
  have z4 : ∀ a, xz h4 a = if a = N + 3 then 6 else xz h3 a := fun a => by rw [e4, xz_pR, xz_pN, n3]
  have z5 : ∀ a, xz h5 a = if a = N + 4 then 42 else xz h4 a := fun a => by rw [e5, xz_pR, xz_pN, n4]
  have z6 : ∀ a, xz h6 a = if a = N + 5 then 24 else xz h5 a := fun a => by rw [e6, xz_pR, xz_pN, n5]
  have r1 : ∀ a j, a ≠ N → xR h1 a j = xR h a j := fun a j ne => by rw [e1, xR_pN, hN, if_neg ne]
  have r2 : ∀ a j, a ≠ N + 1 → xR h2 a j = if a = N ∧ j = 0 then N + 1 else xR h1 a j := fun a j ne => by rw [e2, xR_pR, xR_pN, n1, if_neg ne]
  have r3 : ∀ a j, a ≠ N + 2 → xR h3 a j = if a = N ∧ j = 1 then N + 2 else xR h2 a j := fun a j ne => by rw [e3, xR_pR, xR_pN, n2, if_neg ne]
  have r4 : ∀ a j, a ≠ N + 3 → xR h4 a j = if a = N ∧ j = 2 then N + 3 else xR h3 a j := fun a j ne => by rw [e4, xR_pR, xR_pN, n3, if_neg ne]
  have r5 : ∀ a j, a ≠ N + 4 → xR h5 a j = if a = N ∧ j = 3 then N + 4 else xR h4 a j := fun a j ne => by rw [e5, xR_pR, xR_pN, n4, if_neg ne]
  have r6 : ∀ a j, a ≠ N + 5 → xR h6 a j = if a = N ∧ j = 4 then N + 5 else xR h5 a j := fun a j ne => by rw [e6, xR_pR, xR_pN, n5, if_neg ne]
  have cN : ∀ k, k = h1 ∨ k = pN h1 16 28 ∨ k = pN h2 16 4 ∨ k = pN h3 16 6 ∨ k = pN h4 16 42 ∨ k = pN h5 16 24 → xc k N = 8 := by
    have a1 : xc h1 N = 8 := by rw [c1, if_pos rfl]
    have a2 : xc h2 N = 8 := by rw [c2, if_neg (by omega)]; exact a1
    have a3 : xc h3 N = 8 := by rw [c3, if_neg (by omega)]; exact a2
    have a4 : xc h4 N = 8 := by rw [c4, if_neg (by omega)]; exact a3
    have a5 : xc h5 N = 8 := by rw [c5, if_neg (by omega)]; exact a4
    rintro k (rfl | rfl | rfl | rfl | rfl | rfl)
    · exact a1
    · rw [xc_pN, n1, if_neg (by omega)]; exact a1
    · rw [xc_pN, n2, if_neg (by omega)]; exact a2
    · rw [xc_pN, n3, if_neg (by omega)]; exact a3
    · rw [xc_pN, n4, if_neg (by omega)]; exact a4
    · rw [xc_pN, n5, if_neg (by omega)]; exact a5
  refine ⟨h6, ?_, ⟨by omega, fun a ha => ?_⟩, by rw [n6], ?_, fun hl => ?_⟩
  · rw [← e1]
    unfold X8_init_f
    have x1 : (nI 28).toNatClampNeg = 28 := nI_cl (by omega)
    have x2 : (nI 4).toNatClampNeg = 4 := nI_cl (by omega)
    have x3 : (nI 6).toNatClampNeg = 6 := nI_cl (by omega)
    have x4 : (nI 42).toNatClampNeg = 42 := nI_cl (by omega)
    have x5 : (nI 24).toNatClampNeg = 24 := nI_cl (by omega)
    have ne9 : xc h1 N ≠ 99 := by rw [cN _ (.inl rfl)]; decide
    rw [G_t ne9, LT_e, LT_e, n1, x1, G_t (cN _ (.inr (.inl rfl))), LT_e, ← e2, LT_e, LT_e, n2, x2, G_t (cN _ (.inr (.inr (.inl rfl)))), LT_e, ← e3, LT_e, LT_e, n3, x3, G_t (cN _ (.inr (.inr (.inr (.inl rfl))))), LT_e, ← e4, LT_e, LT_e, n4, x4, G_t (cN _ (.inr (.inr (.inr (.inr (.inl rfl)))))), LT_e, ← e5, LT_e, LT_e, n5, x5, G_t (cN _ (.inr (.inr (.inr (.inr (.inr rfl)))))), LT_e, ← e6]
  · have ha : a < N := by omega
    refine ⟨?_, ?_, funext fun j => ?_, ?_, ?_⟩
    · rw [c6, if_neg (by omega), c5, if_neg (by omega), c4, if_neg (by omega), c3, if_neg (by omega), c2, if_neg (by omega), c1, if_neg (by omega)]
    · rw [z6, if_neg (by omega), z5, if_neg (by omega), z4, if_neg (by omega), z3, if_neg (by omega), z2, if_neg (by omega), z1, if_neg (by omega)]
    · rw [r6 a j (by omega), if_neg (by omega), r5 a j (by omega), if_neg (by omega), r4 a j (by omega), if_neg (by omega), r3 a j (by omega), if_neg (by omega), r2 a j (by omega), if_neg (by omega), r1 a j (by omega)]
    · funext j
      rw [e6, xI_pR, xI_pN, n5, if_neg (by omega), e5, xI_pR, xI_pN, n4, if_neg (by omega), e4, xI_pR, xI_pN, n3, if_neg (by omega), e3, xI_pR, xI_pN, n2, if_neg (by omega), e2, xI_pR, xI_pN, n1, if_neg (by omega), e1, xI_pN, hN, if_neg (by omega)]
    · funext j
      rw [e6, xL_pR, xL_pN, n5, if_neg (by omega), e5, xL_pR, xL_pN, n4, if_neg (by omega), e4, xL_pR, xL_pN, n3, if_neg (by omega), e3, xL_pR, xL_pN, n2, if_neg (by omega), e2, xL_pR, xL_pN, n1, if_neg (by omega), e1, xL_pN, hN, if_neg (by omega)]
  · rw [e6, xs_pR, xs_pN, e5, xs_pR, xs_pN, e4, xs_pR, xs_pN, e3, xs_pR, xs_pN, e2, xs_pR, xs_pN, e1, xs_pN]
  · have cc : ∀ a, xc h6 a = if a = N + 5 then 16 else if a = N + 4 then 16 else if a = N + 3 then 16 else if a = N + 2 then 16 else if a = N + 1 then 16 else if a = N then 8 else xc h a := fun a => by rw [c6, c5, c4, c3, c2, c1]
    have zz : ∀ a, xz h6 a = if a = N + 5 then 24 else if a = N + 4 then 42 else if a = N + 3 then 6 else if a = N + 2 then 4 else if a = N + 1 then 28 else if a = N then 7 else xz h a := fun a => by rw [z6, z5, z4, z3, z2, z1]
    have rr : ∀ j, xR h6 N j = if j = 4 then N + 5 else if j = 3 then N + 4 else if j = 2 then N + 3 else if j = 1 then N + 2 else if j = 0 then N + 1 else xR h1 N j := fun j => by
      rw [r6 N j (by omega), r5 N j (by omega), r4 N j (by omega), r3 N j (by omega), r2 N j (by omega)]
      simp only [true_and]
    refine ⟨.inr hl, ?_, ?_, ?_, ?_, ?_, ?_, ?_, ?_, ?_, ?_, ?_, ?_, ?_, ?_, ?_, ?_⟩
    · rw [cc, if_neg (by omega), if_neg (by omega), if_neg (by omega), if_neg (by omega), if_neg (by omega), if_pos rfl]
    · rw [rr]; rfl
    · rw [rr]; rfl
    · rw [rr]; rfl
    · rw [rr]; rfl
    · rw [rr]; rfl
    · rw [cc, if_neg (by omega), if_neg (by omega), if_neg (by omega), if_neg (by omega), if_pos rfl]
    · rw [cc, if_neg (by omega), if_neg (by omega), if_neg (by omega), if_pos rfl]
    · rw [cc, if_neg (by omega), if_neg (by omega), if_pos rfl]
    · rw [cc, if_neg (by omega), if_pos rfl]
    · rw [cc, if_pos rfl]
    · rw [zz, if_neg (by omega), if_neg (by omega), if_neg (by omega), if_neg (by omega), if_pos rfl]
    · rw [zz, if_neg (by omega), if_neg (by omega), if_neg (by omega), if_pos rfl]
    · rw [zz, if_neg (by omega), if_neg (by omega), if_pos rfl]
    · rw [zz, if_neg (by omega), if_pos rfl]
    · rw [zz, if_pos rfl]
theorem Ge.gp {h h' : AH} (E : Ge h h') : Gp h h' := ⟨E.1, fun a n => ⟨(E.2 a n).1, (E.2 a n).2.1, fun _ => (E.2 a n).2.2.1, (E.2 a n).2.2.2.1, (E.2 a n).2.2.2.2⟩⟩
theorem formula_c {h : AH} {m k : Nat} (g : SG h) (fm : Fm h true m) (mx : m + 19 ≤ xn h) (hk : k < 101) : ∃ a h', X9_formula_f 145 (nI k) h = some (a, h') ∧ Gp h h' ∧ xn h' ≤ xn h + 6 ∧ xs h' ≤ xs h + 111 ∧ xR h' 159 k = a ∧ (∀ j, j ≠ k → xR h' 159 j = xR h 159 j) ∧ (xR h 159 k ≠ 0 → h' = h) ∧ a ≠ 0 ∧ TrS h' a ∧ (a = 168 ∨ 227 ≤ a) ∧ a + 6 ≤ xn h' ∧ Fm h' true m ∧ (k = 0 → a = 168) ∧ (1 ≤ k → 227 ≤ a) := by
  have g1 := g.1
  have cl : (nI k).toNatClampNeg = k := nI_cl (by omega)
  have hdr : X9_formula_f 145 (nI k) h = if xR h 159 k = 0 then (LT (xn h) fun r8 => LT (pN h 8 7) fun h7 => G (xc h7 r8 ≠ 99) <| BN (X8_init_f r8 h7) fun _ h10 => G (xc h10 159 = 22) <| G (gx (nI k) (xz h10 159)) <| G (xc h10 r8 = 8) <| LT (pR h10 159 (nI k).toNatClampNeg r8) fun h13 => X9_formula_B42 145 (nI k) h13) else X9_formula_B42 145 (nI k) h := by
    unfold X9_formula_f
    rw [if_neg (nI_pos (by omega)), G_t g.c145, g.r145_3, G_t g.c159, g.z159, if_pos (by rw [nI_tI (by omega) (by omega)]; exact hk), G_t g.c145, G_t g.c159, G_gx hk (by omega), show xR h 159 (nI k).toNatClampNeg = xR h 159 k by rw [cl], G_t g.c145]
  rw [hdr]
  by_cases e : xR h 159 k = 0
  · have k1 : 1 ≤ k := by
      rcases Nat.eq_zero_or_pos k with q | q
      · rw [q, fm.z] at e; exact absurd e (by decide)
      · exact q
    obtain ⟨h10, e10, E10, n10, s10, t10⟩ := init_tr (h := h)
    have t10 := t10 (by omega)
    have g10 := g.ge E10
    have c8 : xc (pN h 8 7) (xn h) ≠ 99 := by rw [xc_pN, if_pos rfl]; decide
    obtain ⟨h13, h13e⟩ : ∃ h13, h13 = pR h10 159 k (xn h) := ⟨_, rfl⟩
    have ro : ∀ a j, ¬ (a = 159 ∧ j = k) → xR h13 a j = xR h10 a j := fun a j n => by rw [h13e, xR_pR, if_neg n]
    have rk : xR h13 159 k = xn h := by rw [h13e, xR_pR, if_pos ⟨rfl, rfl⟩]
    have n13 : xn h13 = xn h + 6 := by rw [h13e, xn_pR, n10]
    have G1 : Gp h h13 := by
      refine ⟨by omega, fun a ha => ⟨?_, ?_, fun ne => ?_, ?_, ?_⟩⟩
      · rw [h13e, xc_pR]; exact E10.c ha
      · rw [h13e, xz_pR]; exact E10.z ha
      · funext j; rw [ro a j (by omega)]; exact E10.r ha
      · rw [h13e]; exact (E10.2 a ha).2.2.2.1
      · rw [h13e]; exact (E10.2 a ha).2.2.2.2
    have g13 := g.gp G1
    have ts : ∀ a, TrS h10 a → a ≠ 159 → TrS h13 a := fun a q f => by
      unfold TrS at *
      simp only [show ∀ j, xR h13 a j = xR h10 a j from fun j => ro a j (by omega)]
      rw [h13e]
      exact q
    have t13 : TrS h13 (xn h) := ts _ t10 (by omega)
    have fj : ∀ j, j ≠ k → xR h13 159 j = xR h 159 j := fun j hj => by rw [ro 159 j (by omega)]; exact E10.r (by omega)
    refine ⟨xn h, h13, ?_, G1, by omega, by rw [h13e, xs_pR]; omega, rk, fj, fun c => absurd e c, by omega, t13, .inr g1, by omega, ⟨by rw [fj 0 (by omega)]; exact fm.z, fun i h1 h2 h3 => ?_, fun i j h1 h2 h3 h4 h5 => ?_, fun hb i h1 h2 h3 => ?_⟩, fun c => by omega, fun _ => g1⟩
    · rw [if_pos e, LT_e, LT_e, G_t c8, e10, BN_ok, G_t g10.c159, g10.z159, G_gx hk (by omega), G_t t10.c, cl, LT_e, ← h13e]
      unfold X9_formula_B42
      rw [G_t g13.c145, g13.r145_3, G_t g13.c159, g13.z159, G_gx hk (by omega), cl, rk]
    · by_cases ei : i = k
      · rw [ei, rk]; exact ⟨t13, g1, by omega⟩
      · rw [fj i ei] at h3 ⊢
        have t := fm.t i h1 h2 h3
        exact ⟨t.1.gp G1 (by omega), t.2.1, by omega⟩
    · by_cases ei : i = k
      · have ej : j ≠ k := by omega
        rw [fj j ej] at h5 ⊢
        rw [ei, rk]
        have t := fm.t j (by omega) h3 h5
        omega
      · by_cases ej : j = k
        · rw [fj i ei] at h4 ⊢
          rw [ej, rk]
          have t := fm.t i h1 (by omega) h4
          omega
        · rw [fj i ei, fj j ej] at *
          exact fm.d i j h1 h2 h3 h4 h5
    · by_cases ei : i = k
      · rw [ei, rk]; omega
      · rw [fj i ei] at h3 ⊢
        exact fm.m hb i h1 h2 h3
  · have t : TrS h (xR h 159 k) ∧ (xR h 159 k = 168 ∨ 227 ≤ xR h 159 k) ∧ xR h 159 k + 6 ≤ xn h ∧ (k = 0 → xR h 159 k = 168) ∧ (1 ≤ k → 227 ≤ xR h 159 k) := by
      rcases Nat.eq_zero_or_pos k with q | q
      · rw [q, fm.z]; exact ⟨g.t3, .inl rfl, by omega, fun _ => rfl, fun c => absurd c (by decide)⟩
      · have := fm.t k q hk e
        exact ⟨this.1, .inr this.2.1, this.2.2, fun c => by omega, fun _ => this.2.1⟩
    refine ⟨xR h 159 k, h, ?_, Gp.rf, by omega, by omega, rfl, fun _ _ => rfl, fun _ => rfl, e, t.1, t.2.1, t.2.2.1, fm, t.2.2.2⟩
    rw [if_neg e]
    unfold X9_formula_B42
    rw [G_t g.c145, g.r145_3, G_t g.c159, g.z159, G_gx hk (by omega), show xR h 159 (nI k).toNatClampNeg = xR h 159 k by rw [cl]]
