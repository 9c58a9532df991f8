/-- a heap that only grew -/
def Ge (h h' : AH) : Prop := xn h ≤ xn h' ∧ ∀ a, a < xn h → xc h' a = xc h a ∧ xz h' a = xz h a ∧ xR h' a = xR h a ∧ xI h' a = xI h a ∧ xL h' a = xL h a
section
variable {h h' : AH} {a k : Nat}
theorem Ge.c (E : Ge h h') (n : a < xn h) : xc h' a = xc h a := (E.2 a n).1
theorem Ge.z (E : Ge h h') (n : a < xn h) : xz h' a = xz h a := (E.2 a n).2.1
theorem Ge.r (E : Ge h h') (n : a < xn h) : xR h' a k = xR h a k := congrFun (E.2 a n).2.2.1 k
theorem Ge.I (E : Ge h h') (n : a < xn h) : xI h' a k = xI h a k := congrFun (E.2 a n).2.2.2.1 k
theorem Ge.pN {c w : Nat} : Ge h (pN h c w) := by
  refine ⟨Nat.le_succ _, fun a n => ?_⟩
  have e : ¬ a = h.1 := Nat.ne_of_lt n
  refine ⟨if_neg e, if_neg e, funext fun j => if_neg e, funext fun j => if_neg e, funext fun j => if_neg e⟩
theorem tR_lt : ∀ q ∈ tR, q.1 < 227 := by decide +kernel
theorem SG.ge (E : Ge h h') (s : SG h) : SG h' := by
  have s1 := s.1
  refine ⟨Nat.le_trans s.1 E.1, fun a ha => ?_, fun q hq => ?_⟩
  · rw [E.c (by omega), E.z (by omega)]; exact s.2.1 a ha
  · have := tR_lt q hq
    rw [E.r (by omega)]; exact s.2.2 q hq
theorem IsN.ge {z : Nat} {l : List Nat} (E : Ge h h') (n : a + 1 < xn h) (q : IsN h a z l) : IsN h' a z l :=
  ⟨by rw [E.c (by omega)]; exact q.c, by rw [E.r (by omega)]; exact q.r, by rw [E.c n]; exact q.c1, by rw [E.z n]; exact q.z1, q.n, q.x, by rw [E.I (by omega)]; exact q.s, fun i hi => by rw [E.I n]; exact q.v i hi⟩
theorem TrS.ge (E : Ge h h') (n : a + 5 < xn h) (q : TrS h a) : TrS h' a :=
  ⟨q.w, by rw [E.c (by omega)]; exact q.c, by rw [E.r (by omega)]; exact q.r0, by rw [E.r (by omega)]; exact q.r1, by rw [E.r (by omega)]; exact q.r2, by rw [E.r (by omega)]; exact q.r3, by rw [E.r (by omega)]; exact q.r4, by rw [E.c (by omega)]; exact q.c1, by rw [E.c (by omega)]; exact q.c2, by rw [E.c (by omega)]; exact q.c3, by rw [E.c (by omega)]; exact q.c4, by rw [E.c (by omega)]; exact q.c5, by rw [E.z (by omega)]; exact q.z1, by rw [E.z (by omega)]; exact q.z2, by rw [E.z (by omega)]; exact q.z3, by rw [E.z (by omega)]; exact q.z4, by rw [E.z (by omega)]; exact q.z5⟩
theorem IsMB.ge {b : Nat} {B : BK} (E : Ge h h') (n : b + 19 ≤ xn h) (q : IsMB h b B) : IsMB h' b B := by
  have nk : ∀ k, k ≤ 18 → b + k < xn h := fun k hk => by omega
  have n0 : b < xn h := by omega
  have s := q.s
  refine ⟨?_, q.w, ?_⟩
  · unfold MBS at *; simp (disch := decide) only [E.c (nk _ _), E.z (nk _ _), E.r (nk _ _), E.c n0, E.r n0]; exact s
  · simp (disch := decide) only [E.I (nk _ _), E.I n0]
    exact q.2.2
theorem mL.ge {i0 : Nat} {l : List Nat} (E : Ge h h') (n : a < xn h) (q : mL h a i0 l) : mL h' a i0 l := fun i hi => by rw [E.I n]; exact q i hi
theorem Bk1.ge {p : PR} {b m : Nat} (E : Ge h h') (g : SG h) (hb : b = 2 ∨ b = 63) (c : Bk1 h p b m) : Bk1 h' p b m := by
  have g1 := g.1
  have mx := c.mx
  refine ⟨?_, c.q.mv (fun k hk => ⟨E.c (by omega), E.z (by omega), (E.2 _ (by omega)).2.2.1, (E.2 _ (by omega)).2.2.2.1⟩), c.mq.ge E c.mx, by rw [E.r (by omega)]; exact c.mr, by rw [E.I (by omega)]; exact c.l, by rw [E.I (by omega)]; exact c.S, by rw [E.I (by omega)]; exact c.K, by rw [E.I (by omega)]; exact c.A, by rw [E.I (by omega)]; exact c.B, c.n, c.x, Nat.le_trans c.mx E.1⟩
  have w := c.w
  exact ⟨w.w, by rw [E.c (by omega)]; exact w.c, by rw [E.r (by omega)]; exact w.bk, by rw [E.I (by omega)]; exact w.l, by rw [E.I (by omega)]; exact w.S, by rw [E.I (by omega)]; exact w.K, by rw [E.I (by omega)]; exact w.A, by rw [E.I (by omega)]; exact w.B⟩
theorem Bk0.ge {b : Nat} (E : Ge h h') (g : SG h) (c : Bk0 h b) : Bk0 h' b := by
  have g1 := g.1
  have := c.hb
  exact ⟨fun k hk => by rw [E.I (by omega)]; exact c.z k hk, by rw [E.I (by omega)]; exact c.l, by rw [E.I (by omega)]; exact c.S, by rw [E.r (by omega)]; exact c.mr, c.hb⟩
theorem INV.ge {bo : Bool} {p : PR} {b m z : Nat} {l lm : List Nat} {s : LLn} {r : NN_} {lo lx : List Nat} (E : Ge h h') (i : INV h bo p b m z l lm s r lo lx) : INV h' bo p b m z l lm s r lo lx := by
  have g1 := i.g.1
  have e : ∀ {a k : Nat}, a < 227 → xI h' a k = xI h a k := fun n => E.I (by omega)
  have kx := i.k.x
  refine ⟨i.g.ge E, ⟨by rw [e (by decide)]; exact i.t.f1, by rw [e (by decide)]; exact i.t.f2, i.t.x, fun j hj => by rw [e (by decide), e (by decide)]; exact i.t.e j hj, fun j hj => by rw [e (by decide)]; exact i.t.b j hj⟩, ⟨by rw [e (by decide)]; exact i.q.hb, by rw [e (by decide), e (by decide)]; exact i.q.fl, by rw [E.r (by omega)]; exact i.q.bk, by rw [E.r (by omega)]; exact i.q.wb⟩, ⟨fun q => (i.b.b1 q).ge E i.g i.bb, fun q => (i.b.b0 q).ge E i.g⟩, ⟨i.f.n.ge E (by omega), by rw [e (by decide)]; exact i.f.m, i.f.f.ge E (by omega), i.f.o⟩, ⟨i.m.n.ge E (by omega), by rw [e (by decide)]; exact i.m.m, fun j hj => by rw [e (by decide)]; exact i.m.f j hj, fun j hj => by rw [e (by decide)]; exact i.m.g j hj, i.m.o⟩, ⟨by rw [e (by decide)]; exact i.k.c, by rw [e (by decide)]; exact i.k.m, i.k.x, fun j hj => (i.k.n j hj).ge E (by omega), fun j hj => by rw [e (by decide)]; exact i.k.k j hj, fun j hj => (i.k.f j hj).ge E (by omega), i.k.o⟩, ⟨fun k hk => by rw [e (by decide)]; exact i.u.a k hk, fun k hk => by rw [e (by decide)]; exact i.u.b k hk, i.u.x⟩, ⟨by rw [e (by decide), e (by decide)]; exact i.r.a, by rw [e (by decide), e (by decide)]; exact i.r.b, by rw [e (by decide), e (by decide)]; exact i.r.c⟩, ⟨i.o.n.ge E (by omega), by rw [e (by decide)]; exact i.o.m, i.o.f.ge E (by omega)⟩, ⟨i.e.n.ge E (by omega), by rw [e (by decide)]; exact i.e.m, i.e.f.ge E (by omega)⟩, ⟨by rw [e (by decide)]; exact i.z.a, by rw [e (by decide)]; exact i.z.b⟩, i.n, ?_, ⟨by rw [e (by decide), e (by decide)]; exact i.st.1, by rw [e (by decide), e (by decide), e (by decide)]; exact i.st.2⟩⟩
  have er : ∀ j, xR h' 159 j = xR h 159 j := fun j => E.r (by omega)
  refine ⟨by rw [er]; exact i.fm.z, fun j h1 h2 h3 => ?_, fun j k h1 h2 h3 => ?_, fun hb j h1 h2 h3 => ?_⟩
  · rw [er] at *
    have t := i.fm.t j h1 h2 h3
    exact ⟨t.1.ge E (by omega), t.2.1, Nat.le_trans t.2.2 E.1⟩
  · rw [er, er]; exact i.fm.d j k h1 h2 h3
  · rw [er] at *; exact i.fm.m hb j h1 h2 h3
end
/-- a call that may throw: nI th says whether; what it gives lies in the box -/
def PairT (cl mo : AH → Option (Int32 × AH)) (h : AH) : Prop := ∃ (th v : Int32) (h1 h2 : AH), cl h = some (th, h1) ∧ xc h1 195 = 15 ∧ mo h1 = some (v, h2) ∧ xI h2 195 0 = th ∧ (th = 0 → xL h2 226 0 = v.toInt64) ∧ (∃ bo p b m z l lm s r lo lx, INV h2 bo p b m z l lm s r lo lx) ∧ xn h2 ≤ xn h + 640 ∧ xs h2 ≤ xs h + 11400
