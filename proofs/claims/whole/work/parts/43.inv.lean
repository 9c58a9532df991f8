/-- a frame by cell and field -/
def Fz (A : Nat → Nat → Prop) (h h' : AH) : Prop := xn h' = xn h ∧ xs h' = xs h ∧ xc h' = xc h ∧ xz h' = xz h ∧ (∀ a k, ¬ (a = 174 ∧ 7 ≤ k ∨ a = 180 ∧ 1 ≤ k ∨ a = 119) → xR h' a k = xR h a k) ∧ ∀ a k, ¬ A a k → xI h' a k = xI h a k ∧ xL h' a k = xL h a k
theorem Fz.rf {A : Nat → Nat → Prop} {h : AH} : Fz A h h := ⟨rfl, rfl, rfl, rfl, fun _ _ _ => rfl, fun _ _ _ => ⟨rfl, rfl⟩⟩
theorem Fz.tr {A : Nat → Nat → Prop} {h h1 h2 : AH} (p : Fz A h h1) (q : Fz A h1 h2) : Fz A h h2 := ⟨q.1.trans p.1, q.2.1.trans p.2.1, q.2.2.1.trans p.2.2.1, q.2.2.2.1.trans p.2.2.2.1, fun a k n => (q.2.2.2.2.1 a k n).trans (p.2.2.2.2.1 a k n), fun a k n => ⟨(q.2.2.2.2.2 a k n).1.trans (p.2.2.2.2.2 a k n).1, (q.2.2.2.2.2 a k n).2.trans (p.2.2.2.2.2 a k n).2⟩⟩
theorem Fz.mo {A A' : Nat → Nat → Prop} {h h' : AH} (p : Fz A h h') (s : ∀ a k, A a k → A' a k) : Fz A' h h' := ⟨p.1, p.2.1, p.2.2.1, p.2.2.2.1, p.2.2.2.2.1, fun a k n => p.2.2.2.2.2 a k (fun q => n (s a k q))⟩
theorem Fq.f {A : Nat → Prop} {h h' : AH} (p : Fq A h h') : Fz (fun a _ => A a) h h' := ⟨p.1, p.2.1, p.2.2.1, p.2.2.2.1, fun a k n => p.2.2.2.2.1 a k (by omega), fun a k n => ⟨p.I k n, p.L k n⟩⟩
theorem Fz.i {A : Nat → Nat → Prop} {h : AH} {a k : Nat} {v : Int32} (m : A a k) : Fz A h (pI h a k v) := ⟨rfl, rfl, rfl, rfl, fun _ _ _ => rfl, fun b j n => ⟨by rw [xI_pI, if_neg (fun q : b = a ∧ j = k => n (by rw [q.1, q.2]; exact m))], rfl⟩⟩
theorem Fz.l {A : Nat → Nat → Prop} {h : AH} {a k : Nat} {v : Int64} (m : A a k) : Fz A h (pL h a k v) := ⟨rfl, rfl, rfl, rfl, fun _ _ _ => rfl, fun b j n => ⟨rfl, by rw [xL_pL, if_neg (fun q : b = a ∧ j = k => n (by rw [q.1, q.2]; exact m))]⟩⟩
theorem Fz.n {A : Nat → Nat → Prop} {h h' : AH} (p : Fz A h h') : xn h' = xn h := p.1
theorem Fz.s {A : Nat → Nat → Prop} {h h' : AH} (p : Fz A h h') : xs h' = xs h := p.2.1
theorem Fz.c {A : Nat → Nat → Prop} {h h' : AH} (p : Fz A h h') (a : Nat) : xc h' a = xc h a := congrFun p.2.2.1 a
theorem Fz.z {A : Nat → Nat → Prop} {h h' : AH} (p : Fz A h h') (a : Nat) : xz h' a = xz h a := congrFun p.2.2.2.1 a
theorem Fz.r {A : Nat → Nat → Prop} {h h' : AH} (p : Fz A h h') {a : Nat} (k : Nat) (n : a ≠ 174 ∧ a ≠ 180 ∧ a ≠ 119) : xR h' a k = xR h a k := p.2.2.2.2.1 a k (by omega)
theorem Fz.I {A : Nat → Nat → Prop} {h h' : AH} (p : Fz A h h') {a k : Nat} (n : ¬ A a k) : xI h' a k = xI h a k := (p.2.2.2.2.2 a k n).1
theorem Fz.L {A : Nat → Nat → Prop} {h h' : AH} (p : Fz A h h') {a k : Nat} (n : ¬ A a k) : xL h' a k = xL h a k := (p.2.2.2.2.2 a k n).2
theorem tR_ok2 : ∀ q ∈ tR, ¬ (q.1 = 174 ∧ 7 ≤ q.2.1 ∨ q.1 = 180 ∧ 1 ≤ q.2.1 ∨ q.1 = 119) := by decide +kernel
theorem SG.fz {A : Nat → Nat → Prop} {h h' : AH} (F : Fz A h h') (s : SG h) : SG h' := by
  refine ⟨by rw [F.n]; exact s.1, fun a ha => ?_, fun q hq => ?_⟩
  · rw [F.c, F.z]; exact s.2.1 a ha
  · rw [F.2.2.2.2.1 _ _ (tR_ok2 q hq)]; exact s.2.2 q hq
theorem IsN.fz {A : Nat → Nat → Prop} {h h' : AH} {a z : Nat} {l : List Nat} (F : Fz A h h') (e : a ≠ 174 ∧ a ≠ 180 ∧ a ≠ 119) (n0 : ¬ A a 1) (n1 : ∀ k, ¬ A (a + 1) k) (q : IsN h a z l) : IsN h' a z l := by
  refine ⟨by rw [F.c]; exact q.c, by rw [F.r _ e]; exact q.r, by rw [F.c]; exact q.c1, by rw [F.z]; exact q.z1, q.n, q.x, by rw [F.I n0]; exact q.s, fun i hi => by rw [F.I (n1 i)]; exact q.v i hi⟩
theorem IsW.fz {A : Nat → Nat → Prop} {h h' : AH} {wk b : Nat} {p : PR} (F : Fz A h h') (e : wk = 62) (n : ∀ k, ¬ A wk k) (q : IsW h wk b p) : IsW h' wk b p := by
  have e2 : wk ≠ 174 ∧ wk ≠ 180 ∧ wk ≠ 119 := by omega
  unfold IsW at *; simp only [F.c, F.r _ e2, F.I (n _)]; exact q
theorem IsCB.fz {A : Nat → Nat → Prop} {h h' : AH} {b : Nat} {B : BK} (F : Fz A h h') (n : ∀ a k, A a k → a < 2 ∨ 119 ≤ a) (q : IsCB h b B) : IsCB h' b B := by
  have h1 := q.s.hi
  have h2 := q.s.lo
  refine q.mv (fun k hk => ⟨F.c _, F.z _, ?_, ?_⟩)
  · funext j; exact F.r _ (by omega)
  · funext j; exact F.I (fun e => by have := n _ _ e; omega)
theorem IsMB.fz {A : Nat → Nat → Prop} {h h' : AH} {b : Nat} {B : BK} (F : Fz A h h') (n : ∀ k j, k ≤ 18 → ¬ A (b + k) j) (q : IsMB h b B) : IsMB h' b B := by
  have lo := q.s.lo
  have e : b ≠ 174 ∧ b ≠ 180 ∧ b ≠ 119 := by omega
  have n0 : ∀ j, ¬ A b j := fun j => n 0 j (by decide)
  have s := q.s
  refine ⟨?_, q.w, ?_⟩
  · unfold MBS at *; simp only [F.c, F.z, F.r _ e]; exact s
  · simp (disch := decide) only [F.I (n _ _ _), F.I (n0 _)]
    exact q.2.2
abbrev LLn : Type := List (List Nat)
abbrev NN_ : Type := Nat → Nat
/-- a list in an array of the reference -/
def mL (h : AH) (a i0 : Nat) (l : List Nat) : Prop := ∀ i, i < l.length → xI h a (i0 + i) = nI (l.getD i 0)
theorem mL.fz {A : Nat → Nat → Prop} {h h' : AH} {a i0 : Nat} {l : List Nat} (F : Fz A h h') (n : ∀ k, ¬ A a k) (q : mL h a i0 l) : mL h' a i0 l := fun i hi => by rw [F.I (n _)]; exact q i hi
def byt (v : Int32) : Prop := ∃ c : Nat, c < 256 ∧ v = (nI c).toInt8.toInt32
/-- THE TAPE -/
def gT_ (h : AH) (z : Nat) : Prop := (xI h 58 4 = nI z) ∧ (xI h 195 8 = nI z) ∧ (z ≤ 700) ∧ (∀ i, i < z → xI h 59 i = xI h 197 i) ∧ (∀ i, i < z → byt (xI h 59 i))
theorem gT_.f1 {h : AH} {z : Nat} (q_ : gT_ h z) : xI h 58 4 = nI z := q_.1
theorem gT_.f2 {h : AH} {z : Nat} (q_ : gT_ h z) : xI h 195 8 = nI z := q_.2.1
theorem gT_.x {h : AH} {z : Nat} (q_ : gT_ h z) : z ≤ 700 := q_.2.2.1
theorem gT_.e {h : AH} {z : Nat} (q_ : gT_ h z) : ∀ i, i < z → xI h 59 i = xI h 197 i := q_.2.2.2.1
theorem gT_.b {h : AH} {z : Nat} (q_ : gT_ h z) : ∀ i, i < z → byt (xI h 59 i) := q_.2.2.2.2
theorem gT_.fz {A : Nat → Nat → Prop} {h h' : AH} {z : Nat} (F : Fz A h h') (n : ∀ a k, (a = 58 ∧ k = 4 ∨ a = 59 ∨ a = 197 ∨ a = 195 ∧ k = 8) → ¬ A a k) (c : gT_ h z) : gT_ h' z := ⟨by rw [F.I (n _ _ (by omega))]; exact c.f1, by rw [F.I (n _ _ (by omega))]; exact c.f2, c.x, fun i hi => by rw [F.I (n _ _ (by omega)), F.I (n _ _ (by omega))]; exact c.e i hi, fun i hi => by rw [F.I (n _ _ (by omega))]; exact c.b i hi⟩
/-- which book -/
def gG_ (h : AH) (bo : Bool) (b : Nat) : Prop := (xI h 1 13 = bI bo) ∧ (xI h 1 16 = xI h 195 3) ∧ ((b = 2 ∧ xR h 1 12 = 63) ∨ (b = 63 ∧ xR h 1 12 = 2)) ∧ (xR h 62 0 = b)
theorem gG_.hb {h : AH} {bo : Bool} {b : Nat} (q_ : gG_ h bo b) : xI h 1 13 = bI bo := q_.1
theorem gG_.fl {h : AH} {bo : Bool} {b : Nat} (q_ : gG_ h bo b) : xI h 1 16 = xI h 195 3 := q_.2.1
theorem gG_.bk {h : AH} {bo : Bool} {b : Nat} (q_ : gG_ h bo b) : (b = 2 ∧ xR h 1 12 = 63) ∨ (b = 63 ∧ xR h 1 12 = 2) := q_.2.2.1
theorem gG_.wb {h : AH} {bo : Bool} {b : Nat} (q_ : gG_ h bo b) : xR h 62 0 = b := q_.2.2.2
theorem gG_.fz {A : Nat → Nat → Prop} {h h' : AH} {bo : Bool} {b : Nat} (F : Fz A h h') (n : ∀ a k, (a = 1 ∧ (k = 13 ∨ k = 16) ∨ a = 195 ∧ k = 3) → ¬ A a k) (c : gG_ h bo b) : gG_ h' bo b := ⟨by rw [F.I (n _ _ (by omega))]; exact c.hb, by rw [F.I (n _ _ (by omega)), F.I (n _ _ (by omega))]; exact c.fl, by rw [F.r _ (by decide)]; exact c.bk, by rw [F.r _ (by decide)]; exact c.wb⟩
def Bk1 (h : AH) (p : PR) (b m : Nat) : Prop := (IsW h 62 b p) ∧ (IsCB h b p.1) ∧ (IsMB h m p.1) ∧ (xR h 195 4 = m) ∧ (xI h 195 14 = nI (pl p)) ∧ (xI h 195 15 = pS p) ∧ (xI h 195 23 = pK p) ∧ (xI h 195 24 = pA p) ∧ (xI h 195 25 = pb p) ∧ (1 ≤ pl p) ∧ (pl p ≤ 6) ∧ (m + 19 ≤ xn h)
theorem Bk1.w {h : AH} {p : PR} {b m : Nat} (q_ : Bk1 h p b m) : IsW h 62 b p := q_.1
theorem Bk1.q {h : AH} {p : PR} {b m : Nat} (q_ : Bk1 h p b m) : IsCB h b p.1 := q_.2.1
theorem Bk1.mq {h : AH} {p : PR} {b m : Nat} (q_ : Bk1 h p b m) : IsMB h m p.1 := q_.2.2.1
theorem Bk1.mr {h : AH} {p : PR} {b m : Nat} (q_ : Bk1 h p b m) : xR h 195 4 = m := q_.2.2.2.1
theorem Bk1.l {h : AH} {p : PR} {b m : Nat} (q_ : Bk1 h p b m) : xI h 195 14 = nI (pl p) := q_.2.2.2.2.1
theorem Bk1.S {h : AH} {p : PR} {b m : Nat} (q_ : Bk1 h p b m) : xI h 195 15 = pS p := q_.2.2.2.2.2.1
theorem Bk1.K {h : AH} {p : PR} {b m : Nat} (q_ : Bk1 h p b m) : xI h 195 23 = pK p := q_.2.2.2.2.2.2.1
theorem Bk1.A {h : AH} {p : PR} {b m : Nat} (q_ : Bk1 h p b m) : xI h 195 24 = pA p := q_.2.2.2.2.2.2.2.1
theorem Bk1.B {h : AH} {p : PR} {b m : Nat} (q_ : Bk1 h p b m) : xI h 195 25 = pb p := q_.2.2.2.2.2.2.2.2.1
theorem Bk1.n {h : AH} {p : PR} {b m : Nat} (q_ : Bk1 h p b m) : 1 ≤ pl p := q_.2.2.2.2.2.2.2.2.2.1
theorem Bk1.x {h : AH} {p : PR} {b m : Nat} (q_ : Bk1 h p b m) : pl p ≤ 6 := q_.2.2.2.2.2.2.2.2.2.2.1
theorem Bk1.mx {h : AH} {p : PR} {b m : Nat} (q_ : Bk1 h p b m) : m + 19 ≤ xn h := q_.2.2.2.2.2.2.2.2.2.2.2
def Bk0 (h : AH) (b : Nat) : Prop := (∀ k, k ≤ 6 → xI h b k = nI 0) ∧ (xI h 62 1 = nI 0) ∧ (xI h 62 2 = nI 0) ∧ (xR h 195 4 = 0) ∧ (b = 2 ∨ b = 63)
theorem Bk0.z {h : AH} {b : Nat} (q_ : Bk0 h b) : ∀ k, k ≤ 6 → xI h b k = nI 0 := q_.1
theorem Bk0.l {h : AH} {b : Nat} (q_ : Bk0 h b) : xI h 62 1 = nI 0 := q_.2.1
theorem Bk0.S {h : AH} {b : Nat} (q_ : Bk0 h b) : xI h 62 2 = nI 0 := q_.2.2.1
theorem Bk0.mr {h : AH} {b : Nat} (q_ : Bk0 h b) : xR h 195 4 = 0 := q_.2.2.2.1
theorem Bk0.hb {h : AH} {b : Nat} (q_ : Bk0 h b) : b = 2 ∨ b = 63 := q_.2.2.2.2
theorem Bk1.fz {A : Nat → Nat → Prop} {h h' : AH} {p : PR} {b m : Nat} (F : Fz A h h') (n : ∀ a k, (2 ≤ a ∧ a ≤ 57 ∨ a = 62 ∨ 63 ≤ a ∧ a ≤ 118 ∨ a = 195 ∧ (k = 14 ∨ k = 15 ∨ k = 23 ∨ k = 24 ∨ k = 25) ∨ m ≤ a ∧ a ≤ m + 18) → ¬ A a k) (hb : b = 2 ∨ b = 63) (c : Bk1 h p b m) : Bk1 h' p b m := by
  have h1 := c.q.s
  refine ⟨c.w.fz F rfl (fun k => n _ _ (by omega)), c.q.mv (fun k hk => ⟨F.c _, F.z _, ?_, ?_⟩), c.mq.fz F (fun k j hk => n _ _ (by omega)), by rw [F.r _ (by decide)]; exact c.mr, by rw [F.I (n _ _ (by omega))]; exact c.l, by rw [F.I (n _ _ (by omega))]; exact c.S, by rw [F.I (n _ _ (by omega))]; exact c.K, by rw [F.I (n _ _ (by omega))]; exact c.A, by rw [F.I (n _ _ (by omega))]; exact c.B, c.n, c.x, by rw [F.n]; exact c.mx⟩
  · funext j; exact F.r _ (by omega)
  · funext j; exact F.I (n _ _ (by omega))
theorem Bk0.fz {A : Nat → Nat → Prop} {h h' : AH} {b : Nat} (F : Fz A h h') (n : ∀ a k, (2 ≤ a ∧ a ≤ 57 ∨ a = 62 ∨ 63 ≤ a ∧ a ≤ 118) → ¬ A a k) (c : Bk0 h b) : Bk0 h' b := by
  have := c.hb
  refine ⟨fun k hk => by rw [F.I (n _ _ (by omega))]; exact c.z k hk, by rw [F.I (n _ _ (by omega))]; exact c.l, by rw [F.I (n _ _ (by omega))]; exact c.S, by rw [F.r _ (by decide)]; exact c.mr, c.hb⟩
/-- the book -/
def gB_ (h : AH) (bo : Bool) (p : PR) (b m : Nat) : Prop := (bo = true → Bk1 h p b m) ∧ (bo = false → Bk0 h b)
theorem gB_.b1 {h : AH} {bo : Bool} {p : PR} {b m : Nat} (q_ : gB_ h bo p b m) : bo = true → Bk1 h p b m := q_.1
theorem gB_.b0 {h : AH} {bo : Bool} {p : PR} {b m : Nat} (q_ : gB_ h bo p b m) : bo = false → Bk0 h b := q_.2
theorem gB_.fz {A : Nat → Nat → Prop} {h h' : AH} {bo : Bool} {p : PR} {b m : Nat} (F : Fz A h h') (n : ∀ a k, (2 ≤ a ∧ a ≤ 57 ∨ a = 62 ∨ 63 ≤ a ∧ a ≤ 118 ∨ a = 195 ∧ (k = 14 ∨ k = 15 ∨ k = 23 ∨ k = 24 ∨ k = 25) ∨ 227 ≤ a ∧ m ≤ a ∧ a ≤ m + 18) → ¬ A a k) (hb : b = 2 ∨ b = 63) (c : gB_ h bo p b m) : gB_ h' bo p b m := ⟨fun e => (c.b1 e).fz F (fun a k q => n a k (by have := (c.b1 e).mq.s.lo; omega)) hb, fun e => (c.b0 e).fz F (fun a k q => n a k (by omega))⟩
/-- falls told -/
def gF_ (h : AH) (l : List Nat) : Prop := (IsN h 120 6 l) ∧ (xI h 195 16 = nI l.length) ∧ (mL h 199 0 l) ∧ (∀ d, d ∈ l → OKf d)
theorem gF_.n {h : AH} {l : List Nat} (q_ : gF_ h l) : IsN h 120 6 l := q_.1
theorem gF_.m {h : AH} {l : List Nat} (q_ : gF_ h l) : xI h 195 16 = nI l.length := q_.2.1
theorem gF_.f {h : AH} {l : List Nat} (q_ : gF_ h l) : mL h 199 0 l := q_.2.2.1
theorem gF_.o {h : AH} {l : List Nat} (q_ : gF_ h l) : ∀ d, d ∈ l → OKf d := q_.2.2.2
theorem gF_.fz {A : Nat → Nat → Prop} {h h' : AH} {l : List Nat} (F : Fz A h h') (n : ∀ a k, (a = 120 ∨ a = 121 ∨ a = 199 ∨ a = 195 ∧ k = 16) → ¬ A a k) (c : gF_ h l) : gF_ h' l := ⟨c.n.fz F (by decide) (n _ _ (by omega)) (fun k => n _ _ (by omega)), by rw [F.I (n _ _ (by omega))]; exact c.m, c.f.fz F (fun k => n _ _ (by omega)), c.o⟩
/-- mends told -/
def gM_ (h : AH) (l : List Nat) : Prop := (IsN h 126 6 l) ∧ (xI h 195 17 = nI l.length) ∧ (∀ i, i < l.length → xI h 224 i = nI (l.getD i 0 / 10)) ∧ (∀ i, i < l.length → xI h 225 i = nI (l.getD i 0 % 10)) ∧ (∀ d, d ∈ l → d < 30)
theorem gM_.n {h : AH} {l : List Nat} (q_ : gM_ h l) : IsN h 126 6 l := q_.1
theorem gM_.m {h : AH} {l : List Nat} (q_ : gM_ h l) : xI h 195 17 = nI l.length := q_.2.1
theorem gM_.f {h : AH} {l : List Nat} (q_ : gM_ h l) : ∀ i, i < l.length → xI h 224 i = nI (l.getD i 0 / 10) := q_.2.2.1
theorem gM_.g {h : AH} {l : List Nat} (q_ : gM_ h l) : ∀ i, i < l.length → xI h 225 i = nI (l.getD i 0 % 10) := q_.2.2.2.1
theorem gM_.o {h : AH} {l : List Nat} (q_ : gM_ h l) : ∀ d, d ∈ l → d < 30 := q_.2.2.2.2
theorem gM_.fz {A : Nat → Nat → Prop} {h h' : AH} {l : List Nat} (F : Fz A h h') (n : ∀ a k, (a = 126 ∨ a = 127 ∨ a = 224 ∨ a = 225 ∨ a = 195 ∧ k = 17) → ¬ A a k) (c : gM_ h l) : gM_ h' l := ⟨c.n.fz F (by decide) (n _ _ (by omega)) (fun k => n _ _ (by omega)), by rw [F.I (n _ _ (by omega))]; exact c.m, fun i hi => by rw [F.I (n _ _ (by omega))]; exact c.f i hi, fun i hi => by rw [F.I (n _ _ (by omega))]; exact c.g i hi, c.o⟩
/-- kept sets -/
def gK_ (h : AH) (s : LLn) : Prop := (xI h 1 14 = nI s.length) ∧ (xI h 195 18 = nI s.length) ∧ (s.length ≤ 8) ∧ (∀ i, i < s.length → IsN h (129 + 2 * i) 6 (s.getD i [])) ∧ (∀ i, i < s.length → xI h 200 i = nI (s.getD i []).length) ∧ (∀ i, i < s.length → mL h 201 (6 * i) (s.getD i [])) ∧ (∀ l, l ∈ s → ∀ d, d ∈ l → OKf d)
theorem gK_.c {h : AH} {s : LLn} (q_ : gK_ h s) : xI h 1 14 = nI s.length := q_.1
theorem gK_.m {h : AH} {s : LLn} (q_ : gK_ h s) : xI h 195 18 = nI s.length := q_.2.1
theorem gK_.x {h : AH} {s : LLn} (q_ : gK_ h s) : s.length ≤ 8 := q_.2.2.1
theorem gK_.n {h : AH} {s : LLn} (q_ : gK_ h s) : ∀ i, i < s.length → IsN h (129 + 2 * i) 6 (s.getD i []) := q_.2.2.2.1
theorem gK_.k {h : AH} {s : LLn} (q_ : gK_ h s) : ∀ i, i < s.length → xI h 200 i = nI (s.getD i []).length := q_.2.2.2.2.1
theorem gK_.f {h : AH} {s : LLn} (q_ : gK_ h s) : ∀ i, i < s.length → mL h 201 (6 * i) (s.getD i []) := q_.2.2.2.2.2.1
theorem gK_.o {h : AH} {s : LLn} (q_ : gK_ h s) : ∀ l, l ∈ s → ∀ d, d ∈ l → OKf d := q_.2.2.2.2.2.2
theorem gK_.fz {A : Nat → Nat → Prop} {h h' : AH} {s : LLn} (F : Fz A h h') (n : ∀ a k, (a = 1 ∧ k = 14 ∨ 129 ≤ a ∧ a ≤ 144 ∨ a = 200 ∨ a = 201 ∨ a = 195 ∧ k = 18) → ¬ A a k) (c : gK_ h s) : gK_ h' s := by
  have := c.x
  exact ⟨by rw [F.I (n _ _ (by omega))]; exact c.c, by rw [F.I (n _ _ (by omega))]; exact c.m, c.x, fun i hi => (c.n i hi).fz F (by omega) (n _ _ (by omega)) (fun k => n _ _ (by omega)), fun i hi => by rw [F.I (n _ _ (by omega))]; exact c.k i hi, fun i hi => (c.f i hi).fz F (fun k => n _ _ (by omega)), c.o⟩
/-- THE PURSE -/
def gU_ (h : AH) (r : NN_) : Prop := (∀ k, k < 4 → xI h 147 k = nI (r k)) ∧ (∀ k, k < 4 → xI h 198 k = nI (r k)) ∧ (r 0 + r 1 + r 2 + r 3 ≤ 3)
theorem gU_.a {h : AH} {r : NN_} (q_ : gU_ h r) : ∀ k, k < 4 → xI h 147 k = nI (r k) := q_.1
theorem gU_.b {h : AH} {r : NN_} (q_ : gU_ h r) : ∀ k, k < 4 → xI h 198 k = nI (r k) := q_.2.1
theorem gU_.x {h : AH} {r : NN_} (q_ : gU_ h r) : r 0 + r 1 + r 2 + r 3 ≤ 3 := q_.2.2
theorem gU_.fz {A : Nat → Nat → Prop} {h h' : AH} {r : NN_} (F : Fz A h h') (n : ∀ a k, (a = 147 ∨ a = 198) → ¬ A a k) (c : gU_ h r) : gU_ h' r := ⟨fun k hk => by rw [F.I (n _ _ (by omega))]; exact c.a k hk, fun k hk => by rw [F.I (n _ _ (by omega))]; exact c.b k hk, c.x⟩
/-- tried, known, thinness -/
def gR_ (h : AH) : Prop := (xI h 145 10 = xI h 195 40) ∧ (xI h 145 11 = xI h 195 41) ∧ (xI h 145 12 = xI h 195 47)
theorem gR_.a {h : AH} (q_ : gR_ h) : xI h 145 10 = xI h 195 40 := q_.1
theorem gR_.b {h : AH} (q_ : gR_ h) : xI h 145 11 = xI h 195 41 := q_.2.1
theorem gR_.c {h : AH} (q_ : gR_ h) : xI h 145 12 = xI h 195 47 := q_.2.2
theorem gR_.fz {A : Nat → Nat → Prop} {h h' : AH} (F : Fz A h h') (n : ∀ a k, (a = 145 ∨ a = 195 ∧ (k = 40 ∨ k = 41 ∨ k = 47)) → ¬ A a k) (c : gR_ h) : gR_ h' := ⟨by rw [F.I (n _ _ (by omega)), F.I (n _ _ (by omega))]; exact c.a, by rw [F.I (n _ _ (by omega)), F.I (n _ _ (by omega))]; exact c.b, by rw [F.I (n _ _ (by omega)), F.I (n _ _ (by omega))]; exact c.c⟩
/-- found -/
def gO_ (h : AH) (l : List Nat) : Prop := (IsN h 162 3 l) ∧ (xI h 195 42 = nI l.length) ∧ (mL h 220 0 l)
theorem gO_.n {h : AH} {l : List Nat} (q_ : gO_ h l) : IsN h 162 3 l := q_.1
theorem gO_.m {h : AH} {l : List Nat} (q_ : gO_ h l) : xI h 195 42 = nI l.length := q_.2.1
theorem gO_.f {h : AH} {l : List Nat} (q_ : gO_ h l) : mL h 220 0 l := q_.2.2
theorem gO_.fz {A : Nat → Nat → Prop} {h h' : AH} {l : List Nat} (F : Fz A h h') (n : ∀ a k, (a = 162 ∨ a = 163 ∨ a = 220 ∨ a = 195 ∧ k = 42) → ¬ A a k) (c : gO_ h l) : gO_ h' l := ⟨c.n.fz F (by decide) (n _ _ (by omega)) (fun k => n _ _ (by omega)), by rw [F.I (n _ _ (by omega))]; exact c.m, c.f.fz F (fun k => n _ _ (by omega))⟩
/-- exactly -/
def gE_ (h : AH) (l : List Nat) : Prop := (IsN h 164 3 l) ∧ (xI h 195 43 = nI l.length) ∧ (mL h 221 0 l)
theorem gE_.n {h : AH} {l : List Nat} (q_ : gE_ h l) : IsN h 164 3 l := q_.1
theorem gE_.m {h : AH} {l : List Nat} (q_ : gE_ h l) : xI h 195 43 = nI l.length := q_.2.1
theorem gE_.f {h : AH} {l : List Nat} (q_ : gE_ h l) : mL h 221 0 l := q_.2.2
theorem gE_.fz {A : Nat → Nat → Prop} {h h' : AH} {l : List Nat} (F : Fz A h h') (n : ∀ a k, (a = 164 ∨ a = 165 ∨ a = 221 ∨ a = 195 ∧ k = 43) → ¬ A a k) (c : gE_ h l) : gE_ h' l := ⟨c.n.fz F (by decide) (n _ _ (by omega)) (fun k => n _ _ (by omega)), by rw [F.I (n _ _ (by omega))]; exact c.m, c.f.fz F (fun k => n _ _ (by omega))⟩
/-- the empty sets -/
def gZ_ (h : AH) : Prop := (xI h 122 1 = nI 0) ∧ (xI h 166 1 = nI 0)
theorem gZ_.a {h : AH} (q_ : gZ_ h) : xI h 122 1 = nI 0 := q_.1
theorem gZ_.b {h : AH} (q_ : gZ_ h) : xI h 166 1 = nI 0 := q_.2
theorem gZ_.fz {A : Nat → Nat → Prop} {h h' : AH} (F : Fz A h h') (n : ∀ a k, (a = 122 ∨ a = 166) → ¬ A a k) (c : gZ_ h) : gZ_ h' := ⟨by rw [F.I (n _ _ (by omega))]; exact c.a, by rw [F.I (n _ _ (by omega))]; exact c.b⟩
theorem TrS.fz {A : Nat → Nat → Prop} {h h' : AH} {a : Nat} (F : Fz A h h') (q : TrS h a) : TrS h' a := by
  have := q.w
  have e : a ≠ 174 ∧ a ≠ 180 ∧ a ≠ 119 := by omega
  unfold TrS at *; simp only [F.c, F.z, F.r _ e]; exact q
/-- the formulas that were made: apart from each other and from the reference's book -/
def Fm (h : AH) (bo : Bool) (m : Nat) : Prop := (xR h 159 0 = 168) ∧ (∀ i, 1 ≤ i → i < 101 → xR h 159 i ≠ 0 → TrS h (xR h 159 i) ∧ 227 ≤ xR h 159 i ∧ xR h 159 i + 6 ≤ xn h) ∧ (∀ i j, 1 ≤ i → i < j → j < 101 → xR h 159 i ≠ 0 → xR h 159 j ≠ 0 → xR h 159 i + 6 ≤ xR h 159 j ∨ xR h 159 j + 6 ≤ xR h 159 i) ∧ (bo = true → ∀ i, 1 ≤ i → i < 101 → xR h 159 i ≠ 0 → xR h 159 i + 6 ≤ m ∨ m + 19 ≤ xR h 159 i)
theorem Fm.z {h : AH} {bo : Bool} {m : Nat} (q_ : Fm h bo m) : xR h 159 0 = 168 := q_.1
theorem Fm.t {h : AH} {bo : Bool} {m : Nat} (q_ : Fm h bo m) : ∀ i, 1 ≤ i → i < 101 → xR h 159 i ≠ 0 → TrS h (xR h 159 i) ∧ 227 ≤ xR h 159 i ∧ xR h 159 i + 6 ≤ xn h := q_.2.1
theorem Fm.d {h : AH} {bo : Bool} {m : Nat} (q_ : Fm h bo m) : ∀ i j, 1 ≤ i → i < j → j < 101 → xR h 159 i ≠ 0 → xR h 159 j ≠ 0 → xR h 159 i + 6 ≤ xR h 159 j ∨ xR h 159 j + 6 ≤ xR h 159 i := q_.2.2.1
theorem Fm.m {h : AH} {bo : Bool} {m : Nat} (q_ : Fm h bo m) : bo = true → ∀ i, 1 ≤ i → i < 101 → xR h 159 i ≠ 0 → xR h 159 i + 6 ≤ m ∨ m + 19 ≤ xR h 159 i := q_.2.2.2
theorem Fm.fz {A : Nat → Nat → Prop} {h h' : AH} {bo : Bool} {m : Nat} (F : Fz A h h') (c : Fm h bo m) : Fm h' bo m := by
  have e : ∀ i, xR h' 159 i = xR h 159 i := fun i => F.r _ (by decide)
  refine ⟨by rw [e]; exact c.z, fun i h1 h2 h3 => ?_, fun i j h1 h2 h3 => ?_, fun hb i h1 h2 h3 => ?_⟩
  · rw [e] at *
    have := c.t i h1 h2 h3
    exact ⟨this.1.fz F, this.2.1, by rw [F.n]; exact this.2.2⟩
  · rw [e, e]; exact c.d i j h1 h2 h3
  · rw [e] at *; exact c.m hb i h1 h2 h3
def Sts (h : AH) : Prop := xI h 1 15 = xI h 195 1 ∧ xI h 195 2 = if xI h 1 15 = nI 4 then xI h 1 17 else -1
/-- what both have: has a book, the book, its places, bytes fed, falls told, mends told, kept sets, the purse, found, exact -/
def INV (h : AH) (bo : Bool) (p : PR) (b m z : Nat) (l lm : List Nat) (s : LLn) (r : NN_) (lo lx : List Nat) : Prop := (SG h) ∧ (gT_ h z) ∧ (gG_ h bo b) ∧ (gB_ h bo p b m) ∧ (gF_ h l) ∧ (gM_ h lm) ∧ (gK_ h s) ∧ (gU_ h r) ∧ (gR_ h) ∧ (gO_ h lo) ∧ (gE_ h lx) ∧ (gZ_ h) ∧ (bo = false → l = [] ∧ lm = [] ∧ s = [] ∧ ∀ k, k < 4 → r k = 0) ∧ (Fm h bo m) ∧ (Sts h)
theorem INV.g {h : AH} {bo : Bool} {p : PR} {b m z : Nat} {l lm : List Nat} {s : LLn} {r : NN_} {lo lx : List Nat} (q_ : INV h bo p b m z l lm s r lo lx) : SG h := q_.1
theorem INV.t {h : AH} {bo : Bool} {p : PR} {b m z : Nat} {l lm : List Nat} {s : LLn} {r : NN_} {lo lx : List Nat} (q_ : INV h bo p b m z l lm s r lo lx) : gT_ h z := q_.2.1
theorem INV.q {h : AH} {bo : Bool} {p : PR} {b m z : Nat} {l lm : List Nat} {s : LLn} {r : NN_} {lo lx : List Nat} (q_ : INV h bo p b m z l lm s r lo lx) : gG_ h bo b := q_.2.2.1
theorem INV.b {h : AH} {bo : Bool} {p : PR} {b m z : Nat} {l lm : List Nat} {s : LLn} {r : NN_} {lo lx : List Nat} (q_ : INV h bo p b m z l lm s r lo lx) : gB_ h bo p b m := q_.2.2.2.1
theorem INV.f {h : AH} {bo : Bool} {p : PR} {b m z : Nat} {l lm : List Nat} {s : LLn} {r : NN_} {lo lx : List Nat} (q_ : INV h bo p b m z l lm s r lo lx) : gF_ h l := q_.2.2.2.2.1
theorem INV.m {h : AH} {bo : Bool} {p : PR} {b m z : Nat} {l lm : List Nat} {s : LLn} {r : NN_} {lo lx : List Nat} (q_ : INV h bo p b m z l lm s r lo lx) : gM_ h lm := q_.2.2.2.2.2.1
theorem INV.k {h : AH} {bo : Bool} {p : PR} {b m z : Nat} {l lm : List Nat} {s : LLn} {r : NN_} {lo lx : List Nat} (q_ : INV h bo p b m z l lm s r lo lx) : gK_ h s := q_.2.2.2.2.2.2.1
theorem INV.u {h : AH} {bo : Bool} {p : PR} {b m z : Nat} {l lm : List Nat} {s : LLn} {r : NN_} {lo lx : List Nat} (q_ : INV h bo p b m z l lm s r lo lx) : gU_ h r := q_.2.2.2.2.2.2.2.1
theorem INV.r {h : AH} {bo : Bool} {p : PR} {b m z : Nat} {l lm : List Nat} {s : LLn} {r : NN_} {lo lx : List Nat} (q_ : INV h bo p b m z l lm s r lo lx) : gR_ h := q_.2.2.2.2.2.2.2.2.1
theorem INV.o {h : AH} {bo : Bool} {p : PR} {b m z : Nat} {l lm : List Nat} {s : LLn} {r : NN_} {lo lx : List Nat} (q_ : INV h bo p b m z l lm s r lo lx) : gO_ h lo := q_.2.2.2.2.2.2.2.2.2.1
theorem INV.e {h : AH} {bo : Bool} {p : PR} {b m z : Nat} {l lm : List Nat} {s : LLn} {r : NN_} {lo lx : List Nat} (q_ : INV h bo p b m z l lm s r lo lx) : gE_ h lx := q_.2.2.2.2.2.2.2.2.2.2.1
theorem INV.z {h : AH} {bo : Bool} {p : PR} {b m z : Nat} {l lm : List Nat} {s : LLn} {r : NN_} {lo lx : List Nat} (q_ : INV h bo p b m z l lm s r lo lx) : gZ_ h := q_.2.2.2.2.2.2.2.2.2.2.2.1
theorem INV.n {h : AH} {bo : Bool} {p : PR} {b m z : Nat} {l lm : List Nat} {s : LLn} {r : NN_} {lo lx : List Nat} (q_ : INV h bo p b m z l lm s r lo lx) : bo = false → l = [] ∧ lm = [] ∧ s = [] ∧ ∀ k, k < 4 → r k = 0 := q_.2.2.2.2.2.2.2.2.2.2.2.2.1
theorem INV.fm {h : AH} {bo : Bool} {p : PR} {b m z : Nat} {l lm : List Nat} {s : LLn} {r : NN_} {lo lx : List Nat} (q_ : INV h bo p b m z l lm s r lo lx) : Fm h bo m := q_.2.2.2.2.2.2.2.2.2.2.2.2.2.1
theorem INV.st {h : AH} {bo : Bool} {p : PR} {b m z : Nat} {l lm : List Nat} {s : LLn} {r : NN_} {lo lx : List Nat} (q_ : INV h bo p b m z l lm s r lo lx) : Sts h := q_.2.2.2.2.2.2.2.2.2.2.2.2.2.2
/-- where a call may write without a change of what both have -/
def SCR (m : Nat) (a k : Nat) : Prop := (a = 1 ∧ k = 15) ∨ a = 119 ∨ a = 124 ∨ a = 125 ∨ a = 146 ∨ (148 ≤ a ∧ a ≤ 158) ∨ a = 160 ∨ a = 161 ∨ (168 ≤ a ∧ a ≤ 194) ∨ (a = 195 ∧ (k ≤ 2 ∨ (9 ≤ k ∧ k ≤ 13) ∨ k = 33 ∨ k = 36)) ∨ (202 ≤ a ∧ a ≤ 219) ∨ a = 222 ∨ a = 223 ∨ a = 226 ∨ (227 ≤ a ∧ ¬ (m ≤ a ∧ a ≤ m + 18))
theorem sT_ {m a k : Nat} (q : (a = 58 ∧ k = 4 ∨ a = 59 ∨ a = 197 ∨ a = 195 ∧ k = 8)) : ¬ SCR m a k := by unfold SCR; omega
theorem sG_ {m a k : Nat} (q : (a = 1 ∧ (k = 13 ∨ k = 16) ∨ a = 195 ∧ k = 3)) : ¬ SCR m a k := by unfold SCR; omega
theorem sB_ {m a k : Nat} (q : (2 ≤ a ∧ a ≤ 57 ∨ a = 62 ∨ 63 ≤ a ∧ a ≤ 118 ∨ a = 195 ∧ (k = 14 ∨ k = 15 ∨ k = 23 ∨ k = 24 ∨ k = 25) ∨ 227 ≤ a ∧ m ≤ a ∧ a ≤ m + 18)) : ¬ SCR m a k := by unfold SCR; omega
theorem sF_ {m a k : Nat} (q : (a = 120 ∨ a = 121 ∨ a = 199 ∨ a = 195 ∧ k = 16)) : ¬ SCR m a k := by unfold SCR; omega
theorem sM_ {m a k : Nat} (q : (a = 126 ∨ a = 127 ∨ a = 224 ∨ a = 225 ∨ a = 195 ∧ k = 17)) : ¬ SCR m a k := by unfold SCR; omega
theorem sK_ {m a k : Nat} (q : (a = 1 ∧ k = 14 ∨ 129 ≤ a ∧ a ≤ 144 ∨ a = 200 ∨ a = 201 ∨ a = 195 ∧ k = 18)) : ¬ SCR m a k := by unfold SCR; omega
theorem sU_ {m a k : Nat} (q : (a = 147 ∨ a = 198)) : ¬ SCR m a k := by unfold SCR; omega
theorem sR_ {m a k : Nat} (q : (a = 145 ∨ a = 195 ∧ (k = 40 ∨ k = 41 ∨ k = 47))) : ¬ SCR m a k := by unfold SCR; omega
theorem sO_ {m a k : Nat} (q : (a = 162 ∨ a = 163 ∨ a = 220 ∨ a = 195 ∧ k = 42)) : ¬ SCR m a k := by unfold SCR; omega
theorem sE_ {m a k : Nat} (q : (a = 164 ∨ a = 165 ∨ a = 221 ∨ a = 195 ∧ k = 43)) : ¬ SCR m a k := by unfold SCR; omega
theorem sZ_ {m a k : Nat} (q : (a = 122 ∨ a = 166)) : ¬ SCR m a k := by unfold SCR; omega
theorem scA {m : Nat} : SCR m 1 15 := .inl ⟨rfl, rfl⟩
theorem sc0 {m : Nat} : SCR m 195 0 := by unfold SCR; omega
theorem sc1 {m : Nat} : SCR m 195 1 := by unfold SCR; omega
theorem sc2 {m : Nat} : SCR m 195 2 := by unfold SCR; omega
theorem sc33 {m : Nat} : SCR m 195 33 := by unfold SCR; omega
theorem sc36 {m : Nat} : SCR m 195 36 := by unfold SCR; omega
theorem INV.bb {h : AH} {bo : Bool} {p : PR} {b m z : Nat} {l lm : List Nat} {s : LLn} {r : NN_} {lo lx : List Nat} (i : INV h bo p b m z l lm s r lo lx) : b = 2 ∨ b = 63 := by have := i.q.bk; omega
theorem INV.fz {h h' : AH} {bo : Bool} {p : PR} {b m z : Nat} {l lm : List Nat} {s : LLn} {r : NN_} {lo lx : List Nat} (F : Fz (SCR m) h h') (i : INV h bo p b m z l lm s r lo lx) (st : Sts h') : INV h' bo p b m z l lm s r lo lx := ⟨i.g.fz F, i.t.fz F (fun a k q => sT_ q), i.q.fz F (fun a k q => sG_ q), i.b.fz F (fun a k q => sB_ q) i.bb, i.f.fz F (fun a k q => sF_ q), i.m.fz F (fun a k q => sM_ q), i.k.fz F (fun a k q => sK_ q), i.u.fz F (fun a k q => sU_ q), i.r.fz F (fun a k q => sR_ q), i.o.fz F (fun a k q => sO_ q), i.e.fz F (fun a k q => sE_ q), i.z.fz F (fun a k q => sZ_ q), i.n, i.fm.fz F, st⟩
/-- a call of the class and one of the reference: the same answer, and both have the same again -/
def Pair (cl mo : AH → Option (Int32 × AH)) (h : AH) : Prop := ∃ v h1 h2, cl h = some (v, h1) ∧ xc h1 195 = 15 ∧ mo h1 = some (v, h2) ∧ (∃ bo p b m z l lm s r lo lx, INV h2 bo p b m z l lm s r lo lx) ∧ xn h2 ≤ xn h + 640 ∧ xs h2 ≤ xs h + 11400
