theorem refuse_c {h : AH} {v : Int32} (g : SG h) : X11_refuse_f 1 v h = some (-1, pI h 1 15 v) := by
  unfold X11_refuse_f; simp only [LT_e, G_T, BN_ok, if_true, if_false, g.c1]
theorem grant_c {h : AH} {v : Int32} (g : SG h) : X11_grant_f 1 v h = some (v, pI h 1 15 (nI 0)) := by
  unfold X11_grant_f; simp only [LT_e, G_T, BN_ok, if_true, if_false, g.c1]
theorem refused_m {h : AH} {v : Int32} (g : SG h) : X15_refused_f 195 v h = some (-1, pI (pI h 195 1 v) 195 2 (-1)) := by
  unfold X15_refused_f; simp only [LT_e, G_T, BN_ok, if_true, if_false, xc_pI, xz_pI, xR_pI, xL_pI, xc_pL, xz_pL, xR_pL, xI_pL, xn_pI, xn_pL, g.c195]
theorem done_m {h : AH} {v : Int32} (g : SG h) : X15_done_f 195 v h = some (v, pI (pI h 195 1 (nI 0)) 195 2 (-1)) := by
  unfold X15_done_f; simp only [LT_e, G_T, BN_ok, if_true, if_false, xc_pI, xz_pI, xR_pI, xL_pI, xc_pL, xz_pL, xR_pL, xI_pL, xn_pI, xn_pL, g.c195]
theorem denied_m {h : AH} {v : Int32} (g : SG h) : X15_denied_f 195 v h = some (nI 0, pI (pI h 195 1 v) 195 2 (-1)) := by
  unfold X15_denied_f; simp only [LT_e, G_T, BN_ok, if_true, if_false, xc_pI, xz_pI, xR_pI, xL_pI, xc_pL, xz_pL, xR_pL, xI_pL, xn_pI, xn_pL, g.c195]
theorem granted_m {h : AH} (g : SG h) : X15_granted_f 195 h = some (nI 1, pI (pI h 195 1 (nI 0)) 195 2 (-1)) := by
  unfold X15_granted_f; simp only [LT_e, G_T, BN_ok, if_true, if_false, xc_pI, xz_pI, xR_pI, xL_pI, xc_pL, xz_pL, xR_pL, xI_pL, xn_pI, xn_pL, g.c195]
theorem bz_0 : bz (nI 0) := .inl rfl
theorem bz_1 : bz (nI 1) := .inr rfl
theorem SG.i {h : AH} {a k : Nat} {v : Int32} (g : SG h) : SG (pI h a k v) := g.fz (Fz.i (A := fun _ _ => True) trivial)
theorem Sts_fin {h : AH} {v : Int32} (hv : v ≠ nI 4) (e : xI h 1 15 = v) : Sts (pI (pI h 195 1 v) 195 2 (-1)) := by
  refine ⟨?_, ?_⟩
  · rw [xI_ne (by omega), xI_ne (by omega), xI_ne (by omega), xI_self, e]
  · rw [xI_self, xI_ne (by omega), xI_ne (by omega), e, if_neg hv]
theorem INV.fin {h h' : AH} {bo : Bool} {p : PR} {b m z : Nat} {l lm : List Nat} {s : LLn} {r : NN_} {lo lx : List Nat} (F : Fz (SCR m) h h') (i : INV h bo p b m z l lm s r lo lx) {v : Int32} (hv : v ≠ nI 4) (e : xI h' 1 15 = v) : INV (pI (pI h' 195 1 v) 195 2 (-1)) bo p b m z l lm s r lo lx := i.fz ((F.tr (Fz.i sc1)).tr (Fz.i sc2)) (Sts_fin hv e)
theorem INV.t0 {h : AH} {bo : Bool} {p : PR} {b m z : Nat} {l lm : List Nat} {s : LLn} {r : NN_} {lo lx : List Nat} (i : INV h bo p b m z l lm s r lo lx) {v : Int32} : INV (pI h 195 0 v) bo p b m z l lm s r lo lx := by
  refine i.fz (Fz.i sc0) ⟨?_, ?_⟩
  · rw [xI_ne (by omega), xI_ne (by omega)]; exact i.st.1
  · rw [xI_ne (by omega), xI_ne (by omega), xI_ne (by omega)]; exact i.st.2
/-- a pair without a change -/
theorem Pair.get {cl mo : AH → Option (Int32 × AH)} {h : AH} {bo : Bool} {p : PR} {b m z : Nat} {l lm : List Nat} {s : LLn} {r : NN_} {lo lx : List Nat} (i : INV h bo p b m z l lm s r lo lx) {v : Int32} (e1 : cl h = some (v, h)) (e2 : mo h = some (v, pI h 195 0 (nI 0))) : Pair cl mo h := ⟨v, h, _, e1, i.g.c195, e2, ⟨bo, p, b, m, z, l, lm, s, r, lo, lx, i.t0⟩, Nat.le_add_right _ _, Nat.le_add_right _ _⟩
theorem pr_fault {h : AH} {bo : Bool} {p : PR} {b m z : Nat} {l lm : List Nat} {s : LLn} {r : NN_} {lo lx : List Nat} (i : INV h bo p b m z l lm s r lo lx) : Pair (X11_fault_f 1) (X15_fault_f 195) h := by
  refine Pair.get i (v := xI h 1 16) ?_ ?_
  · unfold X11_fault_f; simp only [LT_e, G_T, BN_ok, if_true, if_false, i.g.c1]
  · unfold X15_fault_f; simp only [LT_e, G_T, BN_ok, if_true, if_false, xc_pI, xz_pI, xR_pI, xL_pI, xc_pL, xz_pL, xR_pL, xI_pL, xn_pI, xn_pL, i.g.c195]
    rw [xI_ne (by omega), i.q.fl]
theorem pr_where {h : AH} {bo : Bool} {p : PR} {b m z : Nat} {l lm : List Nat} {s : LLn} {r : NN_} {lo lx : List Nat} (i : INV h bo p b m z l lm s r lo lx) : Pair (X11_where_f 1) (X15_where_f 195) h := by
  refine Pair.get i (v := xI h 195 2) ?_ ?_
  · unfold X11_where_f; simp only [LT_e, G_T, BN_ok, if_true, if_false, i.g.c1]
    rw [i.st.2]
    split <;> rfl
  · unfold X15_where_f; simp only [LT_e, G_T, BN_ok, if_true, if_false, xc_pI, xz_pI, xR_pI, xL_pI, xc_pL, xz_pL, xR_pL, xI_pL, xn_pI, xn_pL, i.g.c195]
    rw [xI_ne (by omega)]
theorem pr_trouble {h : AH} {bo : Bool} {p : PR} {b m z : Nat} {l lm : List Nat} {s : LLn} {r : NN_} {lo lx : List Nat} (i : INV h bo p b m z l lm s r lo lx) : Pair (X11_trouble_f 1) (X15_trouble_f 195) h := by
  refine Pair.get i (v := xI h 1 15) ?_ ?_
  · unfold X11_trouble_f; simp only [LT_e, G_T, BN_ok, if_true, if_false, i.g.c1]
  · unfold X15_trouble_f; simp only [LT_e, G_T, BN_ok, if_true, if_false, xc_pI, xz_pI, xR_pI, xL_pI, xc_pL, xz_pL, xR_pL, xI_pL, xn_pI, xn_pL, i.g.c195]
    rw [xI_ne (by omega), i.st.1]
theorem pr_tried {h : AH} {bo : Bool} {p : PR} {b m z : Nat} {l lm : List Nat} {s : LLn} {r : NN_} {lo lx : List Nat} (i : INV h bo p b m z l lm s r lo lx) : Pair (X11_tried_f 1) (X15_tried_f 195) h := by
  refine Pair.get i (v := xI h 145 10) ?_ ?_
  · unfold X11_tried_f; simp only [LT_e, G_T, BN_ok, if_true, if_false, i.g.c1, i.g.r1_8, i.g.c145]
  · unfold X15_tried_f; simp only [LT_e, G_T, BN_ok, if_true, if_false, xc_pI, xz_pI, xR_pI, xL_pI, xc_pL, xz_pL, xR_pL, xI_pL, xn_pI, xn_pL, i.g.c195]
    rw [xI_ne (by omega), i.r.a]
theorem pr_known {h : AH} {bo : Bool} {p : PR} {b m z : Nat} {l lm : List Nat} {s : LLn} {r : NN_} {lo lx : List Nat} (i : INV h bo p b m z l lm s r lo lx) : Pair (X11_known_f 1) (X15_known_f 195) h := by
  refine Pair.get i (v := xI h 145 11) ?_ ?_
  · unfold X11_known_f; simp only [LT_e, G_T, BN_ok, if_true, if_false, i.g.c1, i.g.r1_8, i.g.c145]
  · unfold X15_known_f; simp only [LT_e, G_T, BN_ok, if_true, if_false, xc_pI, xz_pI, xR_pI, xL_pI, xc_pL, xz_pL, xR_pL, xI_pL, xn_pI, xn_pL, i.g.c195]
    rw [xI_ne (by omega), i.r.b]
theorem pr_thinness {h : AH} {bo : Bool} {p : PR} {b m z : Nat} {l lm : List Nat} {s : LLn} {r : NN_} {lo lx : List Nat} (i : INV h bo p b m z l lm s r lo lx) : Pair (X11_thinness_f 1) (X15_thinness_f 195) h := by
  refine Pair.get i (v := xI h 145 12) ?_ ?_
  · unfold X11_thinness_f; simp only [LT_e, G_T, BN_ok, if_true, if_false, i.g.c1, i.g.r1_8, i.g.c145]
  · unfold X15_thinness_f; simp only [LT_e, G_T, BN_ok, if_true, if_false, xc_pI, xz_pI, xR_pI, xL_pI, xc_pL, xz_pL, xR_pL, xI_pL, xn_pI, xn_pL, i.g.c195]
    rw [xI_ne (by omega), i.r.c]
def atL (l : List Nat) (i : Int32) : Int32 := if i < 0 ∨ nI l.length ≤ i then -1 else nI (l.getD i.toNatClampNeg 0)
theorem at_ok {h : AH} {a z : Nat} {l : List Nat} {i : Int32} (n : IsN h a z l) : X4_at_f a i h = some (atL l i, h) := by
  have hx := n.x
  have hn := n.n
  unfold X4_at_f atL
  rcases pk_ix i (n := l.length) (by omega) with q | q | ⟨j, hj, rfl⟩
  · rw [if_pos q, if_pos (.inl q)]
  · by_cases q0 : i < 0
    · rw [if_pos q0, if_pos (.inl q0)]
    · simp only [LT_e, G_T, BN_ok, if_true, if_false, n.c, n.s, q0, q, or_true]
  · have q0 : ¬ nI j < 0 := nI_pos (by omega)
    have q1 : ¬ l.length ≤ j := by omega
    simp (disch := omega) only [q0, or_self, LT_e, G_T, BN_ok, if_true, if_false, nI_add, pk_mul, G_gx, nI_cl, nI_lI, nI_tI, nI_eI, n.c, n.s, q1, n.r, n.c1, n.z1, n.v]
/-- the same of the reference -/
theorem at_m {h : AH} {a z : Nat} {l : List Nat} {i : Int32} (hc : xc h a = 16) (hz : xz h a = z) (hl : l.length ≤ z) (hz2 : z ≤ 6) (q : mL h a 0 l) : (if i < 0 then some ((-1 : Int32), h) else if nI l.length ≤ i then some (-1, h) else G (xc h a = 16) (G (gx i (xz h a)) (some (xI h a i.toNatClampNeg, h)))) = some (atL l i, h) := by
  unfold atL
  rcases pk_ix i (n := l.length) (by omega) with q' | q' | ⟨j, hj, rfl⟩
  · rw [if_pos q', if_pos (.inl q')]
  · by_cases q0 : i < 0
    · rw [if_pos q0, if_pos (.inl q0)]
    · rw [if_neg q0, if_pos q', if_pos (.inr q')]
  · have q0 : ¬ nI j < 0 := nI_pos (by omega)
    have q1 : ¬ l.length ≤ j := by omega
    have q3 := q j hj
    rw [Nat.zero_add] at q3
    simp (disch := omega) only [q0, or_self, LT_e, G_T, BN_ok, if_true, if_false, nI_add, pk_mul, G_gx, nI_cl, nI_lI, nI_tI, nI_eI, q1, hc, hz, q3]
theorem pr_found {h : AH} {bo : Bool} {p : PR} {b m z : Nat} {l lm : List Nat} {s : LLn} {r : NN_} {lo lx : List Nat} (i : INV h bo p b m z l lm s r lo lx) (x : Int32) : Pair (X11_found_f 1 x) (X15_found_f 195 x) h := by
  have hn := i.o.n.n
  refine Pair.get i (v := atL lo x) ?_ ?_
  · unfold X11_found_f; simp only [LT_e, G_T, BN_ok, if_true, if_false, i.g.c1, i.g.r1_8, i.g.c145, i.g.r145_5, i.g.c162, at_ok i.o.n]
  · have e := at_m (h := pI h 195 0 (nI 0)) (i := x) (l := lo) (a := 220) i.g.i.c220 i.g.i.z220 hn (by decide) (i.o.f.fz (Fz.i (A := fun a _ => a = 195) rfl) (by intro k; decide))
    unfold X15_found_f
    simp only [LT_e, G_T, BN_ok, if_true, if_false, i.g.c195, xc_pI, xz_pI, xR_pI, xL_pI, xc_pL, xz_pL, xR_pL, xI_pL, xn_pI, xn_pL, i.g.r195_44]
    rw [xI_ne (by omega), i.o.m]
    exact e
theorem pr_exactly {h : AH} {bo : Bool} {p : PR} {b m z : Nat} {l lm : List Nat} {s : LLn} {r : NN_} {lo lx : List Nat} (i : INV h bo p b m z l lm s r lo lx) (x : Int32) : Pair (X11_exactly_f 1 x) (X15_exactly_f 195 x) h := by
  have hn := i.e.n.n
  refine Pair.get i (v := atL lx x) ?_ ?_
  · unfold X11_exactly_f; simp only [LT_e, G_T, BN_ok, if_true, if_false, i.g.c1, i.g.r1_8, i.g.c145, i.g.r145_6, i.g.c164, at_ok i.e.n]
  · have e := at_m (h := pI h 195 0 (nI 0)) (i := x) (l := lx) (a := 221) i.g.i.c221 i.g.i.z221 hn (by decide) (i.e.f.fz (Fz.i (A := fun a _ => a = 195) rfl) (by intro k; decide))
    unfold X15_exactly_f
    simp only [LT_e, G_T, BN_ok, if_true, if_false, i.g.c195, xc_pI, xz_pI, xR_pI, xL_pI, xc_pL, xz_pL, xR_pL, xI_pL, xn_pI, xn_pL, i.g.r195_45]
    rw [xI_ne (by omega), i.e.m]
    exact e
theorem pr_told {h : AH} {bo : Bool} {p : PR} {b m z : Nat} {l lm : List Nat} {s : LLn} {r : NN_} {lo lx : List Nat} (i : INV h bo p b m z l lm s r lo lx) (x : Int32) : Pair (X11_told_f 1 x) (X15_told_f 195 x) h := by
  have hn := i.f.n.n
  refine Pair.get i (v := atL l x) ?_ ?_
  · unfold X11_told_f; simp only [LT_e, G_T, BN_ok, if_true, if_false, i.g.c1, i.g.r1_3, i.g.c120, at_ok i.f.n]
  · have e := at_m (h := pI h 195 0 (nI 0)) (i := x) (l := l) (a := 199) i.g.i.c199 i.g.i.z199 hn (by decide) (i.f.f.fz (Fz.i (A := fun a _ => a = 195) rfl) (by intro k; decide))
    unfold X15_told_f
    simp only [LT_e, G_T, BN_ok, if_true, if_false, i.g.c195, xc_pI, xz_pI, xR_pI, xL_pI, xc_pL, xz_pL, xR_pL, xI_pL, xn_pI, xn_pL, i.g.r195_20]
    rw [xI_ne (by omega), i.f.m]
    exact e
theorem z00 : (nI 0 = (0 : Int32)) = True := eq_true rfl
theorem z10 : (nI 1 = (0 : Int32)) = False := eq_false (by decide)
theorem Gbz0 {f : Option (Int32 × AH)} : G (bz (nI 0)) f = f := if_pos bz_0
theorem Gbz1 {f : Option (Int32 × AH)} : G (bz (nI 1)) f = f := if_pos bz_1
