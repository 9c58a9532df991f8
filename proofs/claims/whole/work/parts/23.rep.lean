def askB (B : BK) (c r : Nat) : Bool := (List.range (B 14 c)).any fun i => B (20 + c) i == r && B (40 + c) i == 0
def notB (B : BK) (c r : Nat) : Bool := (List.range (B 14 c)).any fun i => B (20 + c) i == r && !(B (40 + c) i == 0)
/-- the form of a Clause, of a Book -/
def CLS (h : AH) (a : Nat) : Prop := (xc h a = 1) ∧ (xR h a 0 = a + 1) ∧ (xR h a 1 = a + 2) ∧ (xc h (a + 1) = 16) ∧ (xz h (a + 1) = 3) ∧ (xc h (a + 2) = 19) ∧ (xz h (a + 2) = 3)
theorem CLS.c {h : AH} {a : Nat} (q_ : CLS h a) : xc h a = 1 := q_.1
theorem CLS.r0 {h : AH} {a : Nat} (q_ : CLS h a) : xR h a 0 = a + 1 := q_.2.1
theorem CLS.r1 {h : AH} {a : Nat} (q_ : CLS h a) : xR h a 1 = a + 2 := q_.2.2.1
theorem CLS.c1 {h : AH} {a : Nat} (q_ : CLS h a) : xc h (a + 1) = 16 := q_.2.2.2.1
theorem CLS.z1 {h : AH} {a : Nat} (q_ : CLS h a) : xz h (a + 1) = 3 := q_.2.2.2.2.1
theorem CLS.c2 {h : AH} {a : Nat} (q_ : CLS h a) : xc h (a + 2) = 19 := q_.2.2.2.2.2.1
theorem CLS.z2 {h : AH} {a : Nat} (q_ : CLS h a) : xz h (a + 2) = 3 := q_.2.2.2.2.2.2
def BS (h : AH) (b : Nat) : Prop := (2 ≤ b) ∧ (b ≤ 63) ∧ (xc h b = 0) ∧ (xR h b 7 = b + 1) ∧ (xR h b 8 = b + 2) ∧ (xR h b 9 = b + 3) ∧ (xR h b 10 = b + 4) ∧ (xR h b 11 = b + 5) ∧ (xR h b 12 = b + 6) ∧ (xR h b 13 = b + 7) ∧ (xc h (b + 1) = 16) ∧ (xc h (b + 2) = 16) ∧ (xc h (b + 3) = 16) ∧ (xc h (b + 4) = 20) ∧ (xc h (b + 5) = 20) ∧ (xc h (b + 6) = 16) ∧ (xc h (b + 7) = 16) ∧ (xz h (b + 1) = 10) ∧ (xz h (b + 2) = 10) ∧ (xz h (b + 3) = 10) ∧ (xz h (b + 4) = 10) ∧ (xz h (b + 5) = 6) ∧ (xz h (b + 6) = 3) ∧ (xz h (b + 7) = 3) ∧ (∀ i, i < 10 → xR h (b + 4) i = b + 8 + 3 * i) ∧ (∀ i, i < 6 → xR h (b + 5) i = b + 38 + 3 * i) ∧ (∀ i, i < 10 → CLS h (b + 8 + 3 * i)) ∧ (∀ i, i < 6 → CLS h (b + 38 + 3 * i))
theorem BS.lo {h : AH} {b : Nat} (q_ : BS h b) : 2 ≤ b := q_.1
theorem BS.hi {h : AH} {b : Nat} (q_ : BS h b) : b ≤ 63 := q_.2.1
theorem BS.c {h : AH} {b : Nat} (q_ : BS h b) : xc h b = 0 := q_.2.2.1
theorem BS.r7 {h : AH} {b : Nat} (q_ : BS h b) : xR h b 7 = b + 1 := q_.2.2.2.1
theorem BS.r8 {h : AH} {b : Nat} (q_ : BS h b) : xR h b 8 = b + 2 := q_.2.2.2.2.1
theorem BS.r9 {h : AH} {b : Nat} (q_ : BS h b) : xR h b 9 = b + 3 := q_.2.2.2.2.2.1
theorem BS.r10 {h : AH} {b : Nat} (q_ : BS h b) : xR h b 10 = b + 4 := q_.2.2.2.2.2.2.1
theorem BS.r11 {h : AH} {b : Nat} (q_ : BS h b) : xR h b 11 = b + 5 := q_.2.2.2.2.2.2.2.1
theorem BS.r12 {h : AH} {b : Nat} (q_ : BS h b) : xR h b 12 = b + 6 := q_.2.2.2.2.2.2.2.2.1
theorem BS.r13 {h : AH} {b : Nat} (q_ : BS h b) : xR h b 13 = b + 7 := q_.2.2.2.2.2.2.2.2.2.1
theorem BS.c1 {h : AH} {b : Nat} (q_ : BS h b) : xc h (b + 1) = 16 := q_.2.2.2.2.2.2.2.2.2.2.1
theorem BS.c2 {h : AH} {b : Nat} (q_ : BS h b) : xc h (b + 2) = 16 := q_.2.2.2.2.2.2.2.2.2.2.2.1
theorem BS.c3 {h : AH} {b : Nat} (q_ : BS h b) : xc h (b + 3) = 16 := q_.2.2.2.2.2.2.2.2.2.2.2.2.1
theorem BS.c4 {h : AH} {b : Nat} (q_ : BS h b) : xc h (b + 4) = 20 := q_.2.2.2.2.2.2.2.2.2.2.2.2.2.1
theorem BS.c5 {h : AH} {b : Nat} (q_ : BS h b) : xc h (b + 5) = 20 := q_.2.2.2.2.2.2.2.2.2.2.2.2.2.2.1
theorem BS.c6 {h : AH} {b : Nat} (q_ : BS h b) : xc h (b + 6) = 16 := q_.2.2.2.2.2.2.2.2.2.2.2.2.2.2.2.1
theorem BS.c7 {h : AH} {b : Nat} (q_ : BS h b) : xc h (b + 7) = 16 := q_.2.2.2.2.2.2.2.2.2.2.2.2.2.2.2.2.1
theorem BS.z1 {h : AH} {b : Nat} (q_ : BS h b) : xz h (b + 1) = 10 := q_.2.2.2.2.2.2.2.2.2.2.2.2.2.2.2.2.2.1
theorem BS.z2 {h : AH} {b : Nat} (q_ : BS h b) : xz h (b + 2) = 10 := q_.2.2.2.2.2.2.2.2.2.2.2.2.2.2.2.2.2.2.1
theorem BS.z3 {h : AH} {b : Nat} (q_ : BS h b) : xz h (b + 3) = 10 := q_.2.2.2.2.2.2.2.2.2.2.2.2.2.2.2.2.2.2.2.1
theorem BS.z4 {h : AH} {b : Nat} (q_ : BS h b) : xz h (b + 4) = 10 := q_.2.2.2.2.2.2.2.2.2.2.2.2.2.2.2.2.2.2.2.2.1
theorem BS.z5 {h : AH} {b : Nat} (q_ : BS h b) : xz h (b + 5) = 6 := q_.2.2.2.2.2.2.2.2.2.2.2.2.2.2.2.2.2.2.2.2.2.1
theorem BS.z6 {h : AH} {b : Nat} (q_ : BS h b) : xz h (b + 6) = 3 := q_.2.2.2.2.2.2.2.2.2.2.2.2.2.2.2.2.2.2.2.2.2.2.1
theorem BS.z7 {h : AH} {b : Nat} (q_ : BS h b) : xz h (b + 7) = 3 := q_.2.2.2.2.2.2.2.2.2.2.2.2.2.2.2.2.2.2.2.2.2.2.2.1
theorem BS.ru {h : AH} {b : Nat} (q_ : BS h b) : ∀ i, i < 10 → xR h (b + 4) i = b + 8 + 3 * i := q_.2.2.2.2.2.2.2.2.2.2.2.2.2.2.2.2.2.2.2.2.2.2.2.2.1
theorem BS.se {h : AH} {b : Nat} (q_ : BS h b) : ∀ i, i < 6 → xR h (b + 5) i = b + 38 + 3 * i := q_.2.2.2.2.2.2.2.2.2.2.2.2.2.2.2.2.2.2.2.2.2.2.2.2.2.1
theorem BS.rc {h : AH} {b : Nat} (q_ : BS h b) : ∀ i, i < 10 → CLS h (b + 8 + 3 * i) := q_.2.2.2.2.2.2.2.2.2.2.2.2.2.2.2.2.2.2.2.2.2.2.2.2.2.2.1
theorem BS.sc {h : AH} {b : Nat} (q_ : BS h b) : ∀ i, i < 6 → CLS h (b + 38 + 3 * i) := q_.2.2.2.2.2.2.2.2.2.2.2.2.2.2.2.2.2.2.2.2.2.2.2.2.2.2.2
def WB (B : BK) : Prop := (B 0 0 ≤ 4) ∧ (B 1 0 ≤ 10) ∧ (B 2 0 ≤ 10) ∧ (B 3 0 ≤ 10) ∧ (B 4 0 ≤ 6) ∧ (B 5 0 ≤ 10) ∧ (B 6 0 < 1024) ∧ (∀ i, i < B 2 0 → B 7 i < B 1 0) ∧ (∀ i, i < B 2 0 → B 8 i < B 0 0) ∧ (∀ i, i < B 2 0 → B 9 i ≤ B 5 0) ∧ (∀ i, i < B 3 0 → WC B i) ∧ (∀ i, i < B 4 0 → WC B (10 + i)) ∧ (∀ i, i < B 3 0 → B 13 i ≤ 1) ∧ (∀ i, i < B 3 0 → B 13 i = 1 → ∀ k, k < B 14 i → B (40 + i) k = 0) ∧ (∀ i, i < B 4 0 → 1 ≤ B 11 (10 + i)) ∧ (∀ i, i < B 4 0 → B 12 (10 + i) < B 0 0) ∧ (B 60 0 ≤ 3) ∧ (B 61 0 ≤ 3) ∧ (∀ i, i < B 60 0 → B 62 i < B 1 0) ∧ (∀ i, i < B 60 0 → B 63 i < B 0 0) ∧ (∀ i, i < B 61 0 → B 64 i < B 1 0) ∧ (∀ i, i < B 61 0 → B 65 i < B 0 0)
theorem WB.m {B : BK} (q_ : WB B) : B 0 0 ≤ 4 := q_.1
theorem WB.r {B : BK} (q_ : WB B) : B 1 0 ≤ 10 := q_.2.1
theorem WB.f {B : BK} (q_ : WB B) : B 2 0 ≤ 10 := q_.2.2.1
theorem WB.u {B : BK} (q_ : WB B) : B 3 0 ≤ 10 := q_.2.2.2.1
theorem WB.s {B : BK} (q_ : WB B) : B 4 0 ≤ 6 := q_.2.2.2.2.1
theorem WB.y {B : BK} (q_ : WB B) : B 5 0 ≤ 10 := q_.2.2.2.2.2.1
theorem WB.k {B : BK} (q_ : WB B) : B 6 0 < 1024 := q_.2.2.2.2.2.2.1
theorem WB.fr {B : BK} (q_ : WB B) : ∀ i, i < B 2 0 → B 7 i < B 1 0 := q_.2.2.2.2.2.2.2.1
theorem WB.fm {B : BK} (q_ : WB B) : ∀ i, i < B 2 0 → B 8 i < B 0 0 := q_.2.2.2.2.2.2.2.2.1
theorem WB.fy {B : BK} (q_ : WB B) : ∀ i, i < B 2 0 → B 9 i ≤ B 5 0 := q_.2.2.2.2.2.2.2.2.2.1
theorem WB.ru {B : BK} (q_ : WB B) : ∀ i, i < B 3 0 → WC B i := q_.2.2.2.2.2.2.2.2.2.2.1
theorem WB.se {B : BK} (q_ : WB B) : ∀ i, i < B 4 0 → WC B (10 + i) := q_.2.2.2.2.2.2.2.2.2.2.2.1
theorem WB.nw {B : BK} (q_ : WB B) : ∀ i, i < B 3 0 → B 13 i ≤ 1 := q_.2.2.2.2.2.2.2.2.2.2.2.2.1
theorem WB.nn {B : BK} (q_ : WB B) : ∀ i, i < B 3 0 → B 13 i = 1 → ∀ k, k < B 14 i → B (40 + i) k = 0 := q_.2.2.2.2.2.2.2.2.2.2.2.2.2.1
theorem WB.sp {B : BK} (q_ : WB B) : ∀ i, i < B 4 0 → 1 ≤ B 11 (10 + i) := q_.2.2.2.2.2.2.2.2.2.2.2.2.2.2.1
theorem WB.st {B : BK} (q_ : WB B) : ∀ i, i < B 4 0 → B 12 (10 + i) < B 0 0 := q_.2.2.2.2.2.2.2.2.2.2.2.2.2.2.2.1
theorem WB.ne {B : BK} (q_ : WB B) : B 60 0 ≤ 3 := q_.2.2.2.2.2.2.2.2.2.2.2.2.2.2.2.2.1
theorem WB.no {B : BK} (q_ : WB B) : B 61 0 ≤ 3 := q_.2.2.2.2.2.2.2.2.2.2.2.2.2.2.2.2.2.1
theorem WB.er {B : BK} (q_ : WB B) : ∀ i, i < B 60 0 → B 62 i < B 1 0 := q_.2.2.2.2.2.2.2.2.2.2.2.2.2.2.2.2.2.2.1
theorem WB.ea {B : BK} (q_ : WB B) : ∀ i, i < B 60 0 → B 63 i < B 0 0 := q_.2.2.2.2.2.2.2.2.2.2.2.2.2.2.2.2.2.2.2.1
theorem WB.or {B : BK} (q_ : WB B) : ∀ i, i < B 61 0 → B 64 i < B 1 0 := q_.2.2.2.2.2.2.2.2.2.2.2.2.2.2.2.2.2.2.2.2.1
theorem WB.oa {B : BK} (q_ : WB B) : ∀ i, i < B 61 0 → B 65 i < B 0 0 := q_.2.2.2.2.2.2.2.2.2.2.2.2.2.2.2.2.2.2.2.2.2
/-- a Clause, a Book of the class -/
def IsCl (h : AH) (a : Nat) (B : BK) (c : Nat) : Prop := (CLS h a) ∧ (xI h a 2 = nI (B 14 c)) ∧ (xI h a 3 = nI (B 10 c)) ∧ (xI h a 6 = nI (B 11 c) - nI 1) ∧ (c < 10 → xI h a 8 = nI (B 13 c)) ∧ (10 ≤ c → xI h a 7 = nI (B 12 c)) ∧ (∀ i, i < B 14 c → xI h (a + 1) i = nI (B (20 + c) i)) ∧ (∀ i, i < B 14 c → xI h (a + 2) i = nI (B (40 + c) i)) ∧ (∀ r, r < 32 → bt (xI h a 4) r = askB B c r) ∧ (∀ r, r < 32 → bt (xI h a 5) r = notB B c r)
theorem IsCl.s {h : AH} {a : Nat} {B : BK} {c : Nat} (q_ : IsCl h a B c) : CLS h a := q_.1
theorem IsCl.n {h : AH} {a : Nat} {B : BK} {c : Nat} (q_ : IsCl h a B c) : xI h a 2 = nI (B 14 c) := q_.2.1
theorem IsCl.row {h : AH} {a : Nat} {B : BK} {c : Nat} (q_ : IsCl h a B c) : xI h a 3 = nI (B 10 c) := q_.2.2.1
theorem IsCl.pl {h : AH} {a : Nat} {B : BK} {c : Nat} (q_ : IsCl h a B c) : xI h a 6 = nI (B 11 c) - nI 1 := q_.2.2.2.1
theorem IsCl.now {h : AH} {a : Nat} {B : BK} {c : Nat} (q_ : IsCl h a B c) : c < 10 → xI h a 8 = nI (B 13 c) := q_.2.2.2.2.1
theorem IsCl.tg {h : AH} {a : Nat} {B : BK} {c : Nat} (q_ : IsCl h a B c) : 10 ≤ c → xI h a 7 = nI (B 12 c) := q_.2.2.2.2.2.1
theorem IsCl.cr {h : AH} {a : Nat} {B : BK} {c : Nat} (q_ : IsCl h a B c) : ∀ i, i < B 14 c → xI h (a + 1) i = nI (B (20 + c) i) := q_.2.2.2.2.2.2.1
theorem IsCl.cn {h : AH} {a : Nat} {B : BK} {c : Nat} (q_ : IsCl h a B c) : ∀ i, i < B 14 c → xI h (a + 2) i = nI (B (40 + c) i) := q_.2.2.2.2.2.2.2.1
theorem IsCl.ask {h : AH} {a : Nat} {B : BK} {c : Nat} (q_ : IsCl h a B c) : ∀ r, r < 32 → bt (xI h a 4) r = askB B c r := q_.2.2.2.2.2.2.2.2.1
theorem IsCl.nt {h : AH} {a : Nat} {B : BK} {c : Nat} (q_ : IsCl h a B c) : ∀ r, r < 32 → bt (xI h a 5) r = notB B c r := q_.2.2.2.2.2.2.2.2.2
def IsCB (h : AH) (b : Nat) (B : BK) : Prop := (BS h b) ∧ (WB B) ∧ (xI h b 0 = nI (B 0 0)) ∧ (xI h b 1 = nI (B 1 0)) ∧ (xI h b 2 = nI (B 2 0)) ∧ (xI h b 3 = nI (B 3 0)) ∧ (xI h b 4 = nI (B 4 0)) ∧ (xI h b 5 = nI (B 5 0)) ∧ (xI h b 6 = nI (B 6 0)) ∧ (xI h b 14 = nI (B 60 0)) ∧ (xI h b 15 = nI (B 61 0)) ∧ (∀ i, i < B 2 0 → xI h (b + 1) i = nI (B 7 i)) ∧ (∀ i, i < B 2 0 → xI h (b + 2) i = nI (B 8 i)) ∧ (∀ i, i < B 2 0 → xI h (b + 3) i = if B 9 i = 0 then nI 0 else nI 1 <<< (nI (B 9 i - 1) &&& 31)) ∧ (∀ i, i < B 3 0 → IsCl h (b + 8 + 3 * i) B i) ∧ (∀ i, i < B 4 0 → IsCl h (b + 38 + 3 * i) B (10 + i)) ∧ (∀ i, i < B 60 0 → xI h (b + 6) i = nI (B 63 i * 10 + B 62 i)) ∧ (∀ i, i < B 61 0 → xI h (b + 7) i = nI (B 65 i * 10 + B 64 i))
theorem IsCB.s {h : AH} {b : Nat} {B : BK} (q_ : IsCB h b B) : BS h b := q_.1
theorem IsCB.w {h : AH} {b : Nat} {B : BK} (q_ : IsCB h b B) : WB B := q_.2.1
theorem IsCB.m {h : AH} {b : Nat} {B : BK} (q_ : IsCB h b B) : xI h b 0 = nI (B 0 0) := q_.2.2.1
theorem IsCB.r {h : AH} {b : Nat} {B : BK} (q_ : IsCB h b B) : xI h b 1 = nI (B 1 0) := q_.2.2.2.1
theorem IsCB.f {h : AH} {b : Nat} {B : BK} (q_ : IsCB h b B) : xI h b 2 = nI (B 2 0) := q_.2.2.2.2.1
theorem IsCB.u {h : AH} {b : Nat} {B : BK} (q_ : IsCB h b B) : xI h b 3 = nI (B 3 0) := q_.2.2.2.2.2.1
theorem IsCB.sn {h : AH} {b : Nat} {B : BK} (q_ : IsCB h b B) : xI h b 4 = nI (B 4 0) := q_.2.2.2.2.2.2.1
theorem IsCB.y {h : AH} {b : Nat} {B : BK} (q_ : IsCB h b B) : xI h b 5 = nI (B 5 0) := q_.2.2.2.2.2.2.2.1
theorem IsCB.k {h : AH} {b : Nat} {B : BK} (q_ : IsCB h b B) : xI h b 6 = nI (B 6 0) := q_.2.2.2.2.2.2.2.2.1
theorem IsCB.ne {h : AH} {b : Nat} {B : BK} (q_ : IsCB h b B) : xI h b 14 = nI (B 60 0) := q_.2.2.2.2.2.2.2.2.2.1
theorem IsCB.no {h : AH} {b : Nat} {B : BK} (q_ : IsCB h b B) : xI h b 15 = nI (B 61 0) := q_.2.2.2.2.2.2.2.2.2.2.1
theorem IsCB.fw {h : AH} {b : Nat} {B : BK} (q_ : IsCB h b B) : ∀ i, i < B 2 0 → xI h (b + 1) i = nI (B 7 i) := q_.2.2.2.2.2.2.2.2.2.2.2.1
theorem IsCB.fm {h : AH} {b : Nat} {B : BK} (q_ : IsCB h b B) : ∀ i, i < B 2 0 → xI h (b + 2) i = nI (B 8 i) := q_.2.2.2.2.2.2.2.2.2.2.2.2.1
theorem IsCB.fb {h : AH} {b : Nat} {B : BK} (q_ : IsCB h b B) : ∀ i, i < B 2 0 → xI h (b + 3) i = if B 9 i = 0 then nI 0 else nI 1 <<< (nI (B 9 i - 1) &&& 31) := q_.2.2.2.2.2.2.2.2.2.2.2.2.2.1
theorem IsCB.ru {h : AH} {b : Nat} {B : BK} (q_ : IsCB h b B) : ∀ i, i < B 3 0 → IsCl h (b + 8 + 3 * i) B i := q_.2.2.2.2.2.2.2.2.2.2.2.2.2.2.1
theorem IsCB.se {h : AH} {b : Nat} {B : BK} (q_ : IsCB h b B) : ∀ i, i < B 4 0 → IsCl h (b + 38 + 3 * i) B (10 + i) := q_.2.2.2.2.2.2.2.2.2.2.2.2.2.2.2.1
theorem IsCB.ah {h : AH} {b : Nat} {B : BK} (q_ : IsCB h b B) : ∀ i, i < B 60 0 → xI h (b + 6) i = nI (B 63 i * 10 + B 62 i) := q_.2.2.2.2.2.2.2.2.2.2.2.2.2.2.2.2.1
theorem IsCB.be {h : AH} {b : Nat} {B : BK} (q_ : IsCB h b B) : ∀ i, i < B 61 0 → xI h (b + 7) i = nI (B 65 i * 10 + B 64 i) := q_.2.2.2.2.2.2.2.2.2.2.2.2.2.2.2.2.2
/-- frames -/
theorem CLS.fr {A : Nat → Prop} {h h' : AH} {a : Nat} (F : Fr A h h') (q : CLS h a) : CLS h' a := by
  unfold CLS at *; simp only [F.c, F.z, F.r]; exact q
theorem BS.fr {A : Nat → Prop} {h h' : AH} {b : Nat} (F : Fr A h h') (q : BS h b) : BS h' b := by
  unfold BS CLS at *; simp only [F.c, F.z, F.r]; exact q
theorem IsCl.fr {A : Nat → Prop} {h h' : AH} {a c : Nat} {B : BK} (F : Fr A h h') (n0 : ¬ A a) (n1 : ¬ A (a + 1)) (n2 : ¬ A (a + 2)) (q : IsCl h a B c) : IsCl h' a B c := by
  refine ⟨q.s.fr F, ?_⟩
  simp only [F.I _ n0, F.I _ n1, F.I _ n2]
  exact q.2
theorem IsCB.fr {A : Nat → Prop} {h h' : AH} {b : Nat} {B : BK} (F : Fr A h h') (n : ∀ a, A a → 119 ≤ a) (q : IsCB h b B) : IsCB h' b B := by
  have hb := q.s.hi
  have na : ∀ k, k < 56 → ¬ A (b + k) := fun k hk hA => by have := n _ hA; omega
  refine ⟨q.s.fr F, q.w, ?_, ?_, ?_, ?_, ?_, ?_, ?_, ?_, ?_, ?_, ?_, ?_, ?_, ?_, ?_, ?_⟩
  · rw [F.I (a := b) _ (na 0 (by omega))]; exact q.m
  · rw [F.I (a := b) _ (na 0 (by omega))]; exact q.r
  · rw [F.I (a := b) _ (na 0 (by omega))]; exact q.f
  · rw [F.I (a := b) _ (na 0 (by omega))]; exact q.u
  · rw [F.I (a := b) _ (na 0 (by omega))]; exact q.sn
  · rw [F.I (a := b) _ (na 0 (by omega))]; exact q.y
  · rw [F.I (a := b) _ (na 0 (by omega))]; exact q.k
  · rw [F.I (a := b) _ (na 0 (by omega))]; exact q.ne
  · rw [F.I (a := b) _ (na 0 (by omega))]; exact q.no
  · intro i hi; rw [F.I _ (na 1 (by omega))]; exact q.fw i hi
  · intro i hi; rw [F.I _ (na 2 (by omega))]; exact q.fm i hi
  · intro i hi; rw [F.I _ (na 3 (by omega))]; exact q.fb i hi
  · intro i hi
    have := q.w.u
    refine (q.ru i hi).fr F ?_ ?_ ?_
    · rw [show b + 8 + 3 * i = b + (8 + 3 * i) by omega]; exact na _ (by omega)
    · rw [show b + 8 + 3 * i + 1 = b + (9 + 3 * i) by omega]; exact na _ (by omega)
    · rw [show b + 8 + 3 * i + 2 = b + (10 + 3 * i) by omega]; exact na _ (by omega)
  · intro i hi
    have := q.w.s
    refine (q.se i hi).fr F ?_ ?_ ?_
    · rw [show b + 38 + 3 * i = b + (38 + 3 * i) by omega]; exact na _ (by omega)
    · rw [show b + 38 + 3 * i + 1 = b + (39 + 3 * i) by omega]; exact na _ (by omega)
    · rw [show b + 38 + 3 * i + 2 = b + (40 + 3 * i) by omega]; exact na _ (by omega)
  · intro i hi; rw [F.I _ (na 6 (by omega))]; exact q.ah i hi
  · intro i hi; rw [F.I _ (na 7 (by omega))]; exact q.be i hi
