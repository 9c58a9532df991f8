/-- a frame that lets the scratch references of Course and Support go -/
def Fq (A : Nat → Prop) (h h' : AH) : Prop := xn h' = xn h ∧ xs h' = xs h ∧ xc h' = xc h ∧ xz h' = xz h ∧ (∀ a k, ¬ (a = 174 ∧ 7 ≤ k ∨ a = 180 ∧ 1 ≤ k) → xR h' a k = xR h a k) ∧ ∀ a, ¬ A a → xI h' a = xI h a ∧ xL h' a = xL h a
theorem Fq.rf {A : Nat → Prop} {h : AH} : Fq A h h := ⟨rfl, rfl, rfl, rfl, fun _ _ _ => rfl, fun _ _ => ⟨rfl, rfl⟩⟩
theorem Fq.tr {A : Nat → Prop} {h h1 h2 : AH} (p : Fq A h h1) (q : Fq A h1 h2) : Fq A h h2 := ⟨q.1.trans p.1, q.2.1.trans p.2.1, q.2.2.1.trans p.2.2.1, q.2.2.2.1.trans p.2.2.2.1, fun a k n => (q.2.2.2.2.1 a k n).trans (p.2.2.2.2.1 a k n), fun a ha => ⟨(q.2.2.2.2.2 a ha).1.trans (p.2.2.2.2.2 a ha).1, (q.2.2.2.2.2 a ha).2.trans (p.2.2.2.2.2 a ha).2⟩⟩
theorem Fq.mo {A A' : Nat → Prop} {h h' : AH} (p : Fq A h h') (s : ∀ a, A a → A' a) : Fq A' h h' := ⟨p.1, p.2.1, p.2.2.1, p.2.2.2.1, p.2.2.2.2.1, fun a ha => p.2.2.2.2.2 a (fun q => ha (s a q))⟩
theorem Fr.q {A : Nat → Prop} {h h' : AH} (p : Fr A h h') : Fq A h h' := ⟨p.1, p.2.1, p.2.2.1, p.2.2.2.1, fun a k _ => p.r a k, p.2.2.2.2.2⟩
theorem Fq.R {A : Nat → Prop} {h : AH} {a k v : Nat} (e : a = 174 ∧ 7 ≤ k ∨ a = 180 ∧ 1 ≤ k) : Fq A h (pR h a k v) := ⟨rfl, rfl, rfl, rfl, fun b j n => by rw [xR_pR, if_neg (fun q : b = a ∧ j = k => n (by rw [q.1, q.2]; exact e))], fun _ _ => ⟨rfl, rfl⟩⟩
theorem Fq.n {A : Nat → Prop} {h h' : AH} (p : Fq A h h') : xn h' = xn h := p.1
theorem Fq.s {A : Nat → Prop} {h h' : AH} (p : Fq A h h') : xs h' = xs h := p.2.1
theorem Fq.c {A : Nat → Prop} {h h' : AH} (p : Fq A h h') (a : Nat) : xc h' a = xc h a := congrFun p.2.2.1 a
theorem Fq.z {A : Nat → Prop} {h h' : AH} (p : Fq A h h') (a : Nat) : xz h' a = xz h a := congrFun p.2.2.2.1 a
theorem Fq.r {A : Nat → Prop} {h h' : AH} (p : Fq A h h') {a : Nat} (k : Nat) (n : a ≠ 174 ∧ a ≠ 180) : xR h' a k = xR h a k := p.2.2.2.2.1 a k (by omega)
theorem Fq.I {A : Nat → Prop} {h h' : AH} (p : Fq A h h') {a : Nat} (k : Nat) (ha : ¬ A a) : xI h' a k = xI h a k := congrFun (p.2.2.2.2.2 a ha).1 k
theorem Fq.L {A : Nat → Prop} {h h' : AH} (p : Fq A h h') {a : Nat} (k : Nat) (ha : ¬ A a) : xL h' a k = xL h a k := congrFun (p.2.2.2.2.2 a ha).2 k
theorem tR_ok : ∀ q ∈ tR, ¬ (q.1 = 174 ∧ 7 ≤ q.2.1 ∨ q.1 = 180 ∧ 1 ≤ q.2.1) := by decide +kernel
theorem SG.fq {A : Nat → Prop} {h h' : AH} (F : Fq A h h') (s : SG h) : SG h' := by
  refine ⟨by rw [F.n]; exact s.1, fun a ha => ?_, fun q hq => ?_⟩
  · rw [F.c, F.z]; exact s.2.1 a ha
  · rw [F.2.2.2.2.1 _ _ (tR_ok q hq)]; exact s.2.2 q hq
theorem LaS.fq {A : Nat → Prop} {h h' : AH} {L : Nat} (F : Fq A h h') (q : LaS h L) : LaS h' L := by
  have := q.w
  have e : L ≠ 174 ∧ L ≠ 180 := by omega
  unfold LaS at *; simp only [F.c, F.z, F.r _ e]; exact q
theorem IsW.fq {A : Nat → Prop} {h h' : AH} {wk b : Nat} {p : PR} (F : Fq A h h') (n : ¬ A wk) (q : IsW h wk b p) : IsW h' wk b p := by
  have := q.w
  have e : wk ≠ 174 ∧ wk ≠ 180 := by omega
  unfold IsW at *; simp only [F.c, F.r _ e, F.I _ n]; exact q
/-- for a book any frame is as one with the same references -/
theorem IsCB.mv {h h' : AH} {b : Nat} {B : BK} (n : ∀ k, k < 56 → xc h' (b + k) = xc h (b + k) ∧ xz h' (b + k) = xz h (b + k) ∧ xR h' (b + k) = xR h (b + k) ∧ xI h' (b + k) = xI h (b + k)) (q : IsCB h b B) : IsCB h' b B := by
  have s := q.s
  have nc : ∀ k, k < 56 → xc h' (b + k) = xc h (b + k) := fun k hk => (n k hk).1
  have nz : ∀ k, k < 56 → xz h' (b + k) = xz h (b + k) := fun k hk => (n k hk).2.1
  have nr : ∀ k, k < 56 → ∀ j, xR h' (b + k) j = xR h (b + k) j := fun k hk j => congrFun (n k hk).2.2.1 j
  have ni : ∀ k, k < 56 → ∀ j, xI h' (b + k) j = xI h (b + k) j := fun k hk j => congrFun (n k hk).2.2.2 j
  have c0 := nc 0 (by omega)
  have r0 := nr 0 (by omega)
  have i0 := ni 0 (by omega)
  simp only [Nat.add_zero] at c0 r0 i0
  have cls : ∀ k, k < 54 → CLS h (b + k) → CLS h' (b + k) := by
    intro k hk q
    unfold CLS at *
    simp only [Nat.add_assoc] at *
    simp (disch := omega) only [nc, nz, nr]
    exact q
  have icl : ∀ k c, k < 54 → IsCl h (b + k) B c → IsCl h' (b + k) B c := by
    intro k c hk q
    refine ⟨cls k hk q.s, ?_⟩
    have q2 := q.2
    simp only [Nat.add_assoc] at q2 ⊢
    simp (disch := omega) only [ni]
    exact q2
  refine ⟨?_, q.w, ?_⟩
  · refine ⟨s.lo, s.hi, ?_⟩
    simp (disch := omega) only [nc, nz, nr, c0, r0]
    refine ⟨s.c, s.r7, s.r8, s.r9, s.r10, s.r11, s.r12, s.r13, s.c1, s.c2, s.c3, s.c4, s.c5, s.c6, s.c7, s.z1, s.z2, s.z3, s.z4, s.z5, s.z6, s.z7, s.ru, s.se, fun i hi => ?_, fun i hi => ?_⟩
    · have := s.rc i hi
      rw [Nat.add_assoc] at *
      exact cls _ (by omega) this
    · have := s.sc i hi
      rw [Nat.add_assoc] at *
      exact cls _ (by omega) this
  · simp (disch := omega) only [ni, i0]
    refine ⟨q.m, q.r, q.f, q.u, q.sn, q.y, q.k, q.ne, q.no, q.fw, q.fm, q.fb, fun i hi => ?_, fun i hi => ?_, q.ah, q.be⟩
    · have h1 := q.w.u
      have := q.ru i hi
      rw [Nat.add_assoc] at *
      exact icl _ _ (by omega) this
    · have h1 := q.w.s
      have := q.se i hi
      rw [Nat.add_assoc] at *
      exact icl _ _ (by omega) this
theorem IsCB.fq {A : Nat → Prop} {h h' : AH} {b : Nat} {B : BK} (F : Fq A h h') (n : ∀ a, A a → 119 ≤ a) (q : IsCB h b B) : IsCB h' b B := by
  have h1 := q.s.hi
  refine q.mv (fun k hk => ⟨F.c _, F.z _, ?_, ?_⟩)
  · funext j; exact F.r _ (by omega)
  · funext j; exact F.I _ (fun e => by have := n _ e; omega)
