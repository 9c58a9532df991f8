/-- the form of a Book of the reference, and the Book -/
def MBS (h : AH) (b : Nat) : Prop := (227 ≤ b) ∧ (xc h b = 12) ∧ (xR h b 8 = b + 1) ∧ (xR h b 9 = b + 2) ∧ (xR h b 10 = b + 3) ∧ (xR h b 11 = b + 4) ∧ (xR h b 12 = b + 5) ∧ (xR h b 13 = b + 6) ∧ (xR h b 14 = b + 7) ∧ (xR h b 15 = b + 8) ∧ (xR h b 16 = b + 9) ∧ (xR h b 17 = b + 10) ∧ (xR h b 18 = b + 11) ∧ (xR h b 19 = b + 12) ∧ (xR h b 20 = b + 13) ∧ (xR h b 21 = b + 14) ∧ (xR h b 24 = b + 15) ∧ (xR h b 25 = b + 16) ∧ (xR h b 26 = b + 17) ∧ (xR h b 27 = b + 18) ∧ (xc h (b + 1) = 17) ∧ (xc h (b + 2) = 19) ∧ (xc h (b + 3) = 16) ∧ (xc h (b + 4) = 16) ∧ (xc h (b + 5) = 16) ∧ (xc h (b + 6) = 16) ∧ (xc h (b + 7) = 16) ∧ (xc h (b + 8) = 16) ∧ (xc h (b + 9) = 19) ∧ (xc h (b + 10) = 16) ∧ (xc h (b + 11) = 16) ∧ (xc h (b + 12) = 16) ∧ (xc h (b + 13) = 16) ∧ (xc h (b + 14) = 16) ∧ (xc h (b + 15) = 16) ∧ (xc h (b + 16) = 16) ∧ (xc h (b + 17) = 16) ∧ (xc h (b + 18) = 16) ∧ (xz h (b + 1) = 14) ∧ (xz h (b + 2) = 14) ∧ (xz h (b + 3) = 14) ∧ (xz h (b + 4) = 10) ∧ (xz h (b + 5) = 10) ∧ (xz h (b + 6) = 10) ∧ (xz h (b + 7) = 10) ∧ (xz h (b + 8) = 10) ∧ (xz h (b + 9) = 10) ∧ (xz h (b + 10) = 6) ∧ (xz h (b + 11) = 6) ∧ (xz h (b + 12) = 6) ∧ (xz h (b + 13) = 16) ∧ (xz h (b + 14) = 16) ∧ (xz h (b + 15) = 3) ∧ (xz h (b + 16) = 3) ∧ (xz h (b + 17) = 3) ∧ (xz h (b + 18) = 3)
theorem MBS.lo {h : AH} {b : Nat} (q_ : MBS h b) : 227 ≤ b := q_.1
theorem MBS.c {h : AH} {b : Nat} (q_ : MBS h b) : xc h b = 12 := q_.2.1
theorem MBS.r8 {h : AH} {b : Nat} (q_ : MBS h b) : xR h b 8 = b + 1 := q_.2.2.1
theorem MBS.r9 {h : AH} {b : Nat} (q_ : MBS h b) : xR h b 9 = b + 2 := q_.2.2.2.1
theorem MBS.r10 {h : AH} {b : Nat} (q_ : MBS h b) : xR h b 10 = b + 3 := q_.2.2.2.2.1
theorem MBS.r11 {h : AH} {b : Nat} (q_ : MBS h b) : xR h b 11 = b + 4 := q_.2.2.2.2.2.1
theorem MBS.r12 {h : AH} {b : Nat} (q_ : MBS h b) : xR h b 12 = b + 5 := q_.2.2.2.2.2.2.1
theorem MBS.r13 {h : AH} {b : Nat} (q_ : MBS h b) : xR h b 13 = b + 6 := q_.2.2.2.2.2.2.2.1
theorem MBS.r14 {h : AH} {b : Nat} (q_ : MBS h b) : xR h b 14 = b + 7 := q_.2.2.2.2.2.2.2.2.1
theorem MBS.r15 {h : AH} {b : Nat} (q_ : MBS h b) : xR h b 15 = b + 8 := q_.2.2.2.2.2.2.2.2.2.1
theorem MBS.r16 {h : AH} {b : Nat} (q_ : MBS h b) : xR h b 16 = b + 9 := q_.2.2.2.2.2.2.2.2.2.2.1
theorem MBS.r17 {h : AH} {b : Nat} (q_ : MBS h b) : xR h b 17 = b + 10 := q_.2.2.2.2.2.2.2.2.2.2.2.1
theorem MBS.r18 {h : AH} {b : Nat} (q_ : MBS h b) : xR h b 18 = b + 11 := q_.2.2.2.2.2.2.2.2.2.2.2.2.1
theorem MBS.r19 {h : AH} {b : Nat} (q_ : MBS h b) : xR h b 19 = b + 12 := q_.2.2.2.2.2.2.2.2.2.2.2.2.2.1
theorem MBS.r20 {h : AH} {b : Nat} (q_ : MBS h b) : xR h b 20 = b + 13 := q_.2.2.2.2.2.2.2.2.2.2.2.2.2.2.1
theorem MBS.r21 {h : AH} {b : Nat} (q_ : MBS h b) : xR h b 21 = b + 14 := q_.2.2.2.2.2.2.2.2.2.2.2.2.2.2.2.1
theorem MBS.r24 {h : AH} {b : Nat} (q_ : MBS h b) : xR h b 24 = b + 15 := q_.2.2.2.2.2.2.2.2.2.2.2.2.2.2.2.2.1
theorem MBS.r25 {h : AH} {b : Nat} (q_ : MBS h b) : xR h b 25 = b + 16 := q_.2.2.2.2.2.2.2.2.2.2.2.2.2.2.2.2.2.1
theorem MBS.r26 {h : AH} {b : Nat} (q_ : MBS h b) : xR h b 26 = b + 17 := q_.2.2.2.2.2.2.2.2.2.2.2.2.2.2.2.2.2.2.1
theorem MBS.r27 {h : AH} {b : Nat} (q_ : MBS h b) : xR h b 27 = b + 18 := q_.2.2.2.2.2.2.2.2.2.2.2.2.2.2.2.2.2.2.2.1
theorem MBS.c1 {h : AH} {b : Nat} (q_ : MBS h b) : xc h (b + 1) = 17 := q_.2.2.2.2.2.2.2.2.2.2.2.2.2.2.2.2.2.2.2.2.1
theorem MBS.c2 {h : AH} {b : Nat} (q_ : MBS h b) : xc h (b + 2) = 19 := q_.2.2.2.2.2.2.2.2.2.2.2.2.2.2.2.2.2.2.2.2.2.1
theorem MBS.c3 {h : AH} {b : Nat} (q_ : MBS h b) : xc h (b + 3) = 16 := q_.2.2.2.2.2.2.2.2.2.2.2.2.2.2.2.2.2.2.2.2.2.2.1
theorem MBS.c4 {h : AH} {b : Nat} (q_ : MBS h b) : xc h (b + 4) = 16 := q_.2.2.2.2.2.2.2.2.2.2.2.2.2.2.2.2.2.2.2.2.2.2.2.1
theorem MBS.c5 {h : AH} {b : Nat} (q_ : MBS h b) : xc h (b + 5) = 16 := q_.2.2.2.2.2.2.2.2.2.2.2.2.2.2.2.2.2.2.2.2.2.2.2.2.1
theorem MBS.c6 {h : AH} {b : Nat} (q_ : MBS h b) : xc h (b + 6) = 16 := q_.2.2.2.2.2.2.2.2.2.2.2.2.2.2.2.2.2.2.2.2.2.2.2.2.2.1
theorem MBS.c7 {h : AH} {b : Nat} (q_ : MBS h b) : xc h (b + 7) = 16 := q_.2.2.2.2.2.2.2.2.2.2.2.2.2.2.2.2.2.2.2.2.2.2.2.2.2.2.1
theorem MBS.c8 {h : AH} {b : Nat} (q_ : MBS h b) : xc h (b + 8) = 16 := q_.2.2.2.2.2.2.2.2.2.2.2.2.2.2.2.2.2.2.2.2.2.2.2.2.2.2.2.1
theorem MBS.c9 {h : AH} {b : Nat} (q_ : MBS h b) : xc h (b + 9) = 19 := q_.2.2.2.2.2.2.2.2.2.2.2.2.2.2.2.2.2.2.2.2.2.2.2.2.2.2.2.2.1
theorem MBS.c10 {h : AH} {b : Nat} (q_ : MBS h b) : xc h (b + 10) = 16 := q_.2.2.2.2.2.2.2.2.2.2.2.2.2.2.2.2.2.2.2.2.2.2.2.2.2.2.2.2.2.1
theorem MBS.c11 {h : AH} {b : Nat} (q_ : MBS h b) : xc h (b + 11) = 16 := q_.2.2.2.2.2.2.2.2.2.2.2.2.2.2.2.2.2.2.2.2.2.2.2.2.2.2.2.2.2.2.1
theorem MBS.c12 {h : AH} {b : Nat} (q_ : MBS h b) : xc h (b + 12) = 16 := q_.2.2.2.2.2.2.2.2.2.2.2.2.2.2.2.2.2.2.2.2.2.2.2.2.2.2.2.2.2.2.2.1
theorem MBS.c13 {h : AH} {b : Nat} (q_ : MBS h b) : xc h (b + 13) = 16 := q_.2.2.2.2.2.2.2.2.2.2.2.2.2.2.2.2.2.2.2.2.2.2.2.2.2.2.2.2.2.2.2.2.1
theorem MBS.c14 {h : AH} {b : Nat} (q_ : MBS h b) : xc h (b + 14) = 16 := q_.2.2.2.2.2.2.2.2.2.2.2.2.2.2.2.2.2.2.2.2.2.2.2.2.2.2.2.2.2.2.2.2.2.1
theorem MBS.c15 {h : AH} {b : Nat} (q_ : MBS h b) : xc h (b + 15) = 16 := q_.2.2.2.2.2.2.2.2.2.2.2.2.2.2.2.2.2.2.2.2.2.2.2.2.2.2.2.2.2.2.2.2.2.2.1
theorem MBS.c16 {h : AH} {b : Nat} (q_ : MBS h b) : xc h (b + 16) = 16 := q_.2.2.2.2.2.2.2.2.2.2.2.2.2.2.2.2.2.2.2.2.2.2.2.2.2.2.2.2.2.2.2.2.2.2.2.1
theorem MBS.c17 {h : AH} {b : Nat} (q_ : MBS h b) : xc h (b + 17) = 16 := q_.2.2.2.2.2.2.2.2.2.2.2.2.2.2.2.2.2.2.2.2.2.2.2.2.2.2.2.2.2.2.2.2.2.2.2.2.1
theorem MBS.c18 {h : AH} {b : Nat} (q_ : MBS h b) : xc h (b + 18) = 16 := q_.2.2.2.2.2.2.2.2.2.2.2.2.2.2.2.2.2.2.2.2.2.2.2.2.2.2.2.2.2.2.2.2.2.2.2.2.2.1
theorem MBS.z1 {h : AH} {b : Nat} (q_ : MBS h b) : xz h (b + 1) = 14 := q_.2.2.2.2.2.2.2.2.2.2.2.2.2.2.2.2.2.2.2.2.2.2.2.2.2.2.2.2.2.2.2.2.2.2.2.2.2.2.1
theorem MBS.z2 {h : AH} {b : Nat} (q_ : MBS h b) : xz h (b + 2) = 14 := q_.2.2.2.2.2.2.2.2.2.2.2.2.2.2.2.2.2.2.2.2.2.2.2.2.2.2.2.2.2.2.2.2.2.2.2.2.2.2.2.1
theorem MBS.z3 {h : AH} {b : Nat} (q_ : MBS h b) : xz h (b + 3) = 14 := q_.2.2.2.2.2.2.2.2.2.2.2.2.2.2.2.2.2.2.2.2.2.2.2.2.2.2.2.2.2.2.2.2.2.2.2.2.2.2.2.2.1
theorem MBS.z4 {h : AH} {b : Nat} (q_ : MBS h b) : xz h (b + 4) = 10 := q_.2.2.2.2.2.2.2.2.2.2.2.2.2.2.2.2.2.2.2.2.2.2.2.2.2.2.2.2.2.2.2.2.2.2.2.2.2.2.2.2.2.1
theorem MBS.z5 {h : AH} {b : Nat} (q_ : MBS h b) : xz h (b + 5) = 10 := q_.2.2.2.2.2.2.2.2.2.2.2.2.2.2.2.2.2.2.2.2.2.2.2.2.2.2.2.2.2.2.2.2.2.2.2.2.2.2.2.2.2.2.1
theorem MBS.z6 {h : AH} {b : Nat} (q_ : MBS h b) : xz h (b + 6) = 10 := q_.2.2.2.2.2.2.2.2.2.2.2.2.2.2.2.2.2.2.2.2.2.2.2.2.2.2.2.2.2.2.2.2.2.2.2.2.2.2.2.2.2.2.2.1
theorem MBS.z7 {h : AH} {b : Nat} (q_ : MBS h b) : xz h (b + 7) = 10 := q_.2.2.2.2.2.2.2.2.2.2.2.2.2.2.2.2.2.2.2.2.2.2.2.2.2.2.2.2.2.2.2.2.2.2.2.2.2.2.2.2.2.2.2.2.1
theorem MBS.z8 {h : AH} {b : Nat} (q_ : MBS h b) : xz h (b + 8) = 10 := q_.2.2.2.2.2.2.2.2.2.2.2.2.2.2.2.2.2.2.2.2.2.2.2.2.2.2.2.2.2.2.2.2.2.2.2.2.2.2.2.2.2.2.2.2.2.1
theorem MBS.z9 {h : AH} {b : Nat} (q_ : MBS h b) : xz h (b + 9) = 10 := q_.2.2.2.2.2.2.2.2.2.2.2.2.2.2.2.2.2.2.2.2.2.2.2.2.2.2.2.2.2.2.2.2.2.2.2.2.2.2.2.2.2.2.2.2.2.2.1
theorem MBS.z10 {h : AH} {b : Nat} (q_ : MBS h b) : xz h (b + 10) = 6 := q_.2.2.2.2.2.2.2.2.2.2.2.2.2.2.2.2.2.2.2.2.2.2.2.2.2.2.2.2.2.2.2.2.2.2.2.2.2.2.2.2.2.2.2.2.2.2.2.1
theorem MBS.z11 {h : AH} {b : Nat} (q_ : MBS h b) : xz h (b + 11) = 6 := q_.2.2.2.2.2.2.2.2.2.2.2.2.2.2.2.2.2.2.2.2.2.2.2.2.2.2.2.2.2.2.2.2.2.2.2.2.2.2.2.2.2.2.2.2.2.2.2.2.1
theorem MBS.z12 {h : AH} {b : Nat} (q_ : MBS h b) : xz h (b + 12) = 6 := q_.2.2.2.2.2.2.2.2.2.2.2.2.2.2.2.2.2.2.2.2.2.2.2.2.2.2.2.2.2.2.2.2.2.2.2.2.2.2.2.2.2.2.2.2.2.2.2.2.2.1
theorem MBS.z13 {h : AH} {b : Nat} (q_ : MBS h b) : xz h (b + 13) = 16 := q_.2.2.2.2.2.2.2.2.2.2.2.2.2.2.2.2.2.2.2.2.2.2.2.2.2.2.2.2.2.2.2.2.2.2.2.2.2.2.2.2.2.2.2.2.2.2.2.2.2.2.1
theorem MBS.z14 {h : AH} {b : Nat} (q_ : MBS h b) : xz h (b + 14) = 16 := q_.2.2.2.2.2.2.2.2.2.2.2.2.2.2.2.2.2.2.2.2.2.2.2.2.2.2.2.2.2.2.2.2.2.2.2.2.2.2.2.2.2.2.2.2.2.2.2.2.2.2.2.1
theorem MBS.z15 {h : AH} {b : Nat} (q_ : MBS h b) : xz h (b + 15) = 3 := q_.2.2.2.2.2.2.2.2.2.2.2.2.2.2.2.2.2.2.2.2.2.2.2.2.2.2.2.2.2.2.2.2.2.2.2.2.2.2.2.2.2.2.2.2.2.2.2.2.2.2.2.2.1
theorem MBS.z16 {h : AH} {b : Nat} (q_ : MBS h b) : xz h (b + 16) = 3 := q_.2.2.2.2.2.2.2.2.2.2.2.2.2.2.2.2.2.2.2.2.2.2.2.2.2.2.2.2.2.2.2.2.2.2.2.2.2.2.2.2.2.2.2.2.2.2.2.2.2.2.2.2.2.1
theorem MBS.z17 {h : AH} {b : Nat} (q_ : MBS h b) : xz h (b + 17) = 3 := q_.2.2.2.2.2.2.2.2.2.2.2.2.2.2.2.2.2.2.2.2.2.2.2.2.2.2.2.2.2.2.2.2.2.2.2.2.2.2.2.2.2.2.2.2.2.2.2.2.2.2.2.2.2.2.1
theorem MBS.z18 {h : AH} {b : Nat} (q_ : MBS h b) : xz h (b + 18) = 3 := q_.2.2.2.2.2.2.2.2.2.2.2.2.2.2.2.2.2.2.2.2.2.2.2.2.2.2.2.2.2.2.2.2.2.2.2.2.2.2.2.2.2.2.2.2.2.2.2.2.2.2.2.2.2.2.2
def IsMB (h : AH) (b : Nat) (B : BK) : Prop := (MBS h b) ∧ (WB B) ∧ (xI h b 1 = nI (B 0 0)) ∧ (xI h b 2 = nI (B 1 0)) ∧ (xI h b 3 = nI (B 2 0)) ∧ (xI h b 4 = nI (B 5 0)) ∧ (xI h b 5 = nI (B 3 0)) ∧ (xI h b 6 = nI (B 4 0)) ∧ (xI h b 7 = nI (B 6 0)) ∧ (xI h b 22 = nI (B 60 0)) ∧ (xI h b 23 = nI (B 61 0)) ∧ (∀ i, i < B 2 0 → xI h (b + 4) i = nI (B 7 i)) ∧ (∀ i, i < B 2 0 → xI h (b + 5) i = nI (B 8 i)) ∧ (∀ i, i < B 2 0 → xI h (b + 6) i = nI (B 9 i) - nI 1) ∧ (∀ i, i < B 3 0 → xI h (b + 7) i = nI (B 10 i)) ∧ (∀ i, i < B 3 0 → xI h (b + 8) i = nI (B 11 i) - nI 1) ∧ (∀ i, i < B 3 0 → xI h (b + 9) i = nI (B 13 i)) ∧ (∀ i, i < B 4 0 → xI h (b + 10) i = nI (B 10 (10 + i))) ∧ (∀ i, i < B 4 0 → xI h (b + 11) i = nI (B 12 (10 + i))) ∧ (∀ i, i < B 4 0 → xI h (b + 12) i = nI (B 11 (10 + i)) - nI 1) ∧ (∀ c, (c < B 3 0 ∨ (10 ≤ c ∧ c < 10 + B 4 0)) → ∀ r, r < 32 → bt (xI h (b + 13) c) r = askB B c r) ∧ (∀ c, (c < B 3 0 ∨ (10 ≤ c ∧ c < 10 + B 4 0)) → ∀ r, r < 32 → bt (xI h (b + 14) c) r = notB B c r) ∧ (∀ i, i < B 60 0 → xI h (b + 15) i = nI (B 62 i)) ∧ (∀ i, i < B 60 0 → xI h (b + 16) i = nI (B 63 i)) ∧ (∀ i, i < B 61 0 → xI h (b + 17) i = nI (B 64 i)) ∧ (∀ i, i < B 61 0 → xI h (b + 18) i = nI (B 65 i))
theorem IsMB.s {h : AH} {b : Nat} {B : BK} (q_ : IsMB h b B) : MBS h b := q_.1
theorem IsMB.w {h : AH} {b : Nat} {B : BK} (q_ : IsMB h b B) : WB B := q_.2.1
theorem IsMB.m {h : AH} {b : Nat} {B : BK} (q_ : IsMB h b B) : xI h b 1 = nI (B 0 0) := q_.2.2.1
theorem IsMB.r {h : AH} {b : Nat} {B : BK} (q_ : IsMB h b B) : xI h b 2 = nI (B 1 0) := q_.2.2.2.1
theorem IsMB.f {h : AH} {b : Nat} {B : BK} (q_ : IsMB h b B) : xI h b 3 = nI (B 2 0) := q_.2.2.2.2.1
theorem IsMB.y {h : AH} {b : Nat} {B : BK} (q_ : IsMB h b B) : xI h b 4 = nI (B 5 0) := q_.2.2.2.2.2.1
theorem IsMB.u {h : AH} {b : Nat} {B : BK} (q_ : IsMB h b B) : xI h b 5 = nI (B 3 0) := q_.2.2.2.2.2.2.1
theorem IsMB.sn {h : AH} {b : Nat} {B : BK} (q_ : IsMB h b B) : xI h b 6 = nI (B 4 0) := q_.2.2.2.2.2.2.2.1
theorem IsMB.k {h : AH} {b : Nat} {B : BK} (q_ : IsMB h b B) : xI h b 7 = nI (B 6 0) := q_.2.2.2.2.2.2.2.2.1
theorem IsMB.ne {h : AH} {b : Nat} {B : BK} (q_ : IsMB h b B) : xI h b 22 = nI (B 60 0) := q_.2.2.2.2.2.2.2.2.2.1
theorem IsMB.no {h : AH} {b : Nat} {B : BK} (q_ : IsMB h b B) : xI h b 23 = nI (B 61 0) := q_.2.2.2.2.2.2.2.2.2.2.1
theorem IsMB.fw {h : AH} {b : Nat} {B : BK} (q_ : IsMB h b B) : ∀ i, i < B 2 0 → xI h (b + 4) i = nI (B 7 i) := q_.2.2.2.2.2.2.2.2.2.2.2.1
theorem IsMB.fm {h : AH} {b : Nat} {B : BK} (q_ : IsMB h b B) : ∀ i, i < B 2 0 → xI h (b + 5) i = nI (B 8 i) := q_.2.2.2.2.2.2.2.2.2.2.2.2.1
theorem IsMB.fy {h : AH} {b : Nat} {B : BK} (q_ : IsMB h b B) : ∀ i, i < B 2 0 → xI h (b + 6) i = nI (B 9 i) - nI 1 := q_.2.2.2.2.2.2.2.2.2.2.2.2.2.1
theorem IsMB.rr {h : AH} {b : Nat} {B : BK} (q_ : IsMB h b B) : ∀ i, i < B 3 0 → xI h (b + 7) i = nI (B 10 i) := q_.2.2.2.2.2.2.2.2.2.2.2.2.2.2.1
theorem IsMB.ra {h : AH} {b : Nat} {B : BK} (q_ : IsMB h b B) : ∀ i, i < B 3 0 → xI h (b + 8) i = nI (B 11 i) - nI 1 := q_.2.2.2.2.2.2.2.2.2.2.2.2.2.2.2.1
theorem IsMB.rn {h : AH} {b : Nat} {B : BK} (q_ : IsMB h b B) : ∀ i, i < B 3 0 → xI h (b + 9) i = nI (B 13 i) := q_.2.2.2.2.2.2.2.2.2.2.2.2.2.2.2.2.1
theorem IsMB.sr {h : AH} {b : Nat} {B : BK} (q_ : IsMB h b B) : ∀ i, i < B 4 0 → xI h (b + 10) i = nI (B 10 (10 + i)) := q_.2.2.2.2.2.2.2.2.2.2.2.2.2.2.2.2.2.1
theorem IsMB.st {h : AH} {b : Nat} {B : BK} (q_ : IsMB h b B) : ∀ i, i < B 4 0 → xI h (b + 11) i = nI (B 12 (10 + i)) := q_.2.2.2.2.2.2.2.2.2.2.2.2.2.2.2.2.2.2.1
theorem IsMB.sa {h : AH} {b : Nat} {B : BK} (q_ : IsMB h b B) : ∀ i, i < B 4 0 → xI h (b + 12) i = nI (B 11 (10 + i)) - nI 1 := q_.2.2.2.2.2.2.2.2.2.2.2.2.2.2.2.2.2.2.2.1
theorem IsMB.ka {h : AH} {b : Nat} {B : BK} (q_ : IsMB h b B) : ∀ c, (c < B 3 0 ∨ (10 ≤ c ∧ c < 10 + B 4 0)) → ∀ r, r < 32 → bt (xI h (b + 13) c) r = askB B c r := q_.2.2.2.2.2.2.2.2.2.2.2.2.2.2.2.2.2.2.2.2.1
theorem IsMB.kn {h : AH} {b : Nat} {B : BK} (q_ : IsMB h b B) : ∀ c, (c < B 3 0 ∨ (10 ≤ c ∧ c < 10 + B 4 0)) → ∀ r, r < 32 → bt (xI h (b + 14) c) r = notB B c r := q_.2.2.2.2.2.2.2.2.2.2.2.2.2.2.2.2.2.2.2.2.2.1
theorem IsMB.er {h : AH} {b : Nat} {B : BK} (q_ : IsMB h b B) : ∀ i, i < B 60 0 → xI h (b + 15) i = nI (B 62 i) := q_.2.2.2.2.2.2.2.2.2.2.2.2.2.2.2.2.2.2.2.2.2.2.1
theorem IsMB.ea {h : AH} {b : Nat} {B : BK} (q_ : IsMB h b B) : ∀ i, i < B 60 0 → xI h (b + 16) i = nI (B 63 i) := q_.2.2.2.2.2.2.2.2.2.2.2.2.2.2.2.2.2.2.2.2.2.2.2.1
theorem IsMB.or {h : AH} {b : Nat} {B : BK} (q_ : IsMB h b B) : ∀ i, i < B 61 0 → xI h (b + 17) i = nI (B 64 i) := q_.2.2.2.2.2.2.2.2.2.2.2.2.2.2.2.2.2.2.2.2.2.2.2.2.1
theorem IsMB.oa {h : AH} {b : Nat} {B : BK} (q_ : IsMB h b B) : ∀ i, i < B 61 0 → xI h (b + 18) i = nI (B 65 i) := q_.2.2.2.2.2.2.2.2.2.2.2.2.2.2.2.2.2.2.2.2.2.2.2.2.2
theorem MBS.fr {A : Nat → Prop} {h h' : AH} {b : Nat} (F : Fr A h h') (q : MBS h b) : MBS h' b := by
  unfold MBS at *; simp only [F.c, F.z, F.r]; exact q
theorem IsMB.fr {A : Nat → Prop} {h h' : AH} {b : Nat} {B : BK} (F : Fr A h h') (n : ∀ a, A a → a < 227) (q : IsMB h b B) : IsMB h' b B := by
  have hb := q.s.lo
  have na : ∀ k, ¬ A (b + k) := fun k hA => by have := n _ hA; omega
  have n0 : ¬ A b := na 0
  refine ⟨q.s.fr F, q.w, ?_⟩
  simp only [F.I _ (na _), F.I _ n0]
  exact q.2.2
theorem MBS.fq {A : Nat → Prop} {h h' : AH} {b : Nat} (F : Fq A h h') (q : MBS h b) : MBS h' b := by
  have := q.lo
  have e : b ≠ 174 ∧ b ≠ 180 := by omega
  unfold MBS at *; simp only [F.c, F.z, F.r _ e]; exact q
theorem IsMB.fq {A : Nat → Prop} {h h' : AH} {b : Nat} {B : BK} (F : Fq A h h') (n : ∀ k, k ≤ 18 → ¬ A (b + k)) (q : IsMB h b B) : IsMB h' b B := by
  have n0 : ¬ A b := n 0 (by decide)
  refine ⟨q.s.fq F, q.w, ?_⟩
  simp (disch := decide) only [F.I _ (n _ _), F.I _ n0]
  exact q.2.2
def MoX (h : AH) (b : Nat) (p : PR) : Prop := (SG h) ∧ (IsMB h b p.1) ∧ (xR h 195 4 = b) ∧ (xI h 195 14 = nI (pl p)) ∧ (xI h 195 15 = pS p) ∧ (xI h 195 23 = pK p) ∧ (xI h 195 24 = pA p) ∧ (xI h 195 25 = pb p) ∧ (1 ≤ pl p) ∧ (pl p ≤ 6)
theorem MoX.s {h : AH} {b : Nat} {p : PR} (q_ : MoX h b p) : SG h := q_.1
theorem MoX.q {h : AH} {b : Nat} {p : PR} (q_ : MoX h b p) : IsMB h b p.1 := q_.2.1
theorem MoX.r4 {h : AH} {b : Nat} {p : PR} (q_ : MoX h b p) : xR h 195 4 = b := q_.2.2.1
theorem MoX.l {h : AH} {b : Nat} {p : PR} (q_ : MoX h b p) : xI h 195 14 = nI (pl p) := q_.2.2.2.1
theorem MoX.S {h : AH} {b : Nat} {p : PR} (q_ : MoX h b p) : xI h 195 15 = pS p := q_.2.2.2.2.1
theorem MoX.K {h : AH} {b : Nat} {p : PR} (q_ : MoX h b p) : xI h 195 23 = pK p := q_.2.2.2.2.2.1
theorem MoX.A {h : AH} {b : Nat} {p : PR} (q_ : MoX h b p) : xI h 195 24 = pA p := q_.2.2.2.2.2.2.1
theorem MoX.B {h : AH} {b : Nat} {p : PR} (q_ : MoX h b p) : xI h 195 25 = pb p := q_.2.2.2.2.2.2.2.1
theorem MoX.n {h : AH} {b : Nat} {p : PR} (q_ : MoX h b p) : 1 ≤ pl p := q_.2.2.2.2.2.2.2.2.1
theorem MoX.x {h : AH} {b : Nat} {p : PR} (q_ : MoX h b p) : pl p ≤ 6 := q_.2.2.2.2.2.2.2.2.2
theorem MoX.fr {A : Nat → Prop} {h h' : AH} {b : Nat} {p : PR} (F : Fr A h h') (n : ∀ a, A a → a < 227 ∧ a ≠ 195) (C : MoX h b p) : MoX h' b p := by
  have n0 : ¬ A 195 := fun q => (n _ q).2 rfl
  exact ⟨C.s.fr F, C.q.fr F (fun a q => (n a q).1), by rw [F.r]; exact C.r4, by rw [F.I _ n0]; exact C.l, by rw [F.I _ n0]; exact C.S, by rw [F.I _ n0]; exact C.K, by rw [F.I _ n0]; exact C.A, by rw [F.I _ n0]; exact C.B, C.n, C.x⟩
theorem bI_0 {b : Bool} : bI b = nI 0 ↔ b = false := by cases b <;> decide
theorem bI_1 {b : Bool} : bI b = nI 1 ↔ b = true := by cases b <;> decide
theorem has_m {v : Int32} {r : Nat} {h : AH} (hr : r < 32) : X15_has_f v (nI r) h = some (bI (bt v r), h) := by
  unfold X15_has_f
  rw [b_test hr]
  cases bt v r <;> rfl
theorem isDown_m {h : AH} {k t m : Nat} (s : SG h) (hk : k < 104) (ht : t < 7) (hm : m < 32) : X15_isDown_f 195 (nI k) (nI t) (nI m) h = some (bI (bt (xI h 211 (7 * k + t)) m), h) := by
  unfold X15_isDown_f
  simp (disch := omega) only [LT_e, G_T, BN_ok, if_true, if_false, nI_add, pk_mul, G_gx, nI_cl, nI_lI, nI_tI, nI_eI, s.c195, s.r195_29, s.c211, s.z211, b_test1n]
  cases bt (xI h 211 (7 * k + t)) m <;> rfl
theorem rowsAt_m {h : AH} {k t m : Nat} (s : SG h) (hk : k < 104) (ht : t < 7) (hm : m < 4) : X15_rowsAt_f 195 (nI k) (nI t) (nI m) h = some (xI h 210 (28 * k + 4 * t + m), h) := by
  unfold X15_rowsAt_f
  simp (disch := omega) only [LT_e, G_T, BN_ok, if_true, if_false, nI_add, pk_mul, G_gx, nI_cl, nI_lI, nI_tI, nI_eI, s.c195, s.r195_28, s.c210, s.z210]
theorem isThere_m {h : AH} {k t m r : Nat} (s : SG h) (hk : k < 104) (ht : t < 7) (hm : m < 4) (hr : r < 32) : X15_isThere_f 195 (nI k) (nI r) (nI m) (nI t) h = some (bI (bt (xI h 210 (28 * k + 4 * t + m)) r), h) := by
  unfold X15_isThere_f
  have : ∀ b, bz (bI b) := fun b => by cases b <;> decide
  rw [G_t s.c195, rowsAt_m s hk ht hm, BN_ok, has_m hr, BN_ok, G_t (this _)]
theorem isOf_m {h : AH} {b i m : Nat} {p : PR} (C : MoX h b p) (hi : i < p.1 3 0) (hm : m < 4) : X15_isOf_f 195 (nI i) (nI m) h = some (bI (isF p.1 i m), h) := by
  have w := (C.q.w.ru i hi).pl
  have wm := C.q.w.m
  have wu := C.q.w.u
  unfold X15_isOf_f X15_isOf_B26 isF
  simp (disch := omega) only [LT_e, G_T, BN_ok, if_true, if_false, nI_add, pk_mul, G_gx, nI_cl, nI_lI, nI_tI, nI_eI, C.s.c195, C.r4, C.q.s.c, C.q.s.r15, C.q.s.c8, C.q.s.z8, C.q.ra]
  by_cases h0 : p.1 11 i = 0
  · rw [h0, if_pos (by decide)]; rfl
  · simp (disch := omega) only [nI_pm, nI_m1, nI_eI, if_false]
    by_cases h1 : p.1 11 i - 1 = m
    · rw [if_pos h1]
      have : (p.1 11 i == 0 || p.1 11 i == m + 1) = true := by simp; omega
      rw [this]; rfl
    · rw [if_neg h1]
      have : (p.1 11 i == 0 || p.1 11 i == m + 1) = false := by simp; omega
      rw [this]; rfl
theorem holds_m {h : AH} {b k c t m : Nat} {p : PR} (C : MoX h b p) (hc : c < p.1 3 0 ∨ (10 ≤ c ∧ c < 10 + p.1 4 0)) (hk : k < 104) (ht : t < 7) (hm : m < 4) : X15_holds_f 195 (nI k) (nI c) (nI t) (nI m) h = some (bI (!bt (xI h 211 (7 * k + t)) m && cH p.1 c (decide (10 ≤ c) && bt (pb p) (c - 10)) (bt (xI h 210 (28 * k + 4 * t + m)))), h) := by
  have wu := C.q.w.u
  have ws := C.q.w.s
  have wr := C.q.w.r
  have w : WC p.1 c := by
    rcases hc with hc | hc
    · exact C.q.w.ru c hc
    · have := C.q.w.se (c - 10) (by omega)
      rw [show 10 + (c - 10) = c by omega] at this; exact this
  have mk := fun bare v => cH_mask (bare := bare) (v := v) w wr (C.q.ka c hc) (C.q.kn c hc)
  unfold X15_holds_f X15_notsOf_f X15_notsOf_B24
  rw [G_t C.s.c195, rowsAt_m C.s hk ht hm, BN_ok, G_t C.s.c195, isDown_m C.s hk ht (by omega), BN_ok]
  generalize xI h 210 (28 * k + 4 * t + m) = v
  simp (disch := omega) only [nI_z, bI_0, LT_e, G_T, BN_ok, if_true, if_false, nI_add, pk_mul, G_gx, nI_cl, nI_lI, nI_tI, nI_eI, C.s.c195, C.r4, C.q.s.c, C.q.s.r20, C.q.s.c13, C.q.s.z13, C.q.s.r21, C.q.s.c14, C.q.s.z14, C.B]
  cases bt (xI h 211 (7 * k + t)) m
  · simp only [eq_self, Bool.true_eq_false, Bool.false_eq_true, if_true, if_false, Bool.not_false, Bool.true_and]
    by_cases h1 : v &&& xI h (b + 13) c = xI h (b + 13) c
    · simp only [h1, if_true]
      by_cases h2 : c < 10
      · simp only [h2, if_true, BN_ok]
        rw [show (decide (10 ≤ c) && bt (pb p) (c - 10)) = false by rw [decide_eq_false (by omega)]; rfl]
        by_cases h3 : v &&& xI h (b + 14) c = nI 0
        · rw [if_pos h3, (mk false v).mpr ⟨h1, .inr h3⟩]; rfl
        · have : cH p.1 c false (bt v) = false := by
            rw [Bool.eq_false_iff]; intro q
            rcases ((mk false v).mp q).2 with q | q
            · cases q
            · exact h3 q
          rw [if_neg h3, this]; rfl
      · have e10 : nI c - nI 10 = nI (c - 10) := pk_sub (by omega)
        simp (disch := omega) only [h2, if_false, BN_ok, e10, has_m, bI_0]
        rw [show (decide (10 ≤ c) && bt (pb p) (c - 10)) = bt (pb p) (c - 10) by rw [decide_eq_true (by omega)]; rfl]
        cases hb : bt (pb p) (c - 10)
        · simp (disch := omega) only [eq_self, Bool.true_eq_false, Bool.false_eq_true, if_true, if_false, LT_e, G_T, BN_ok, if_true, if_false, nI_add, pk_mul, G_gx, nI_cl, nI_lI, nI_tI, nI_eI, C.s.c195, C.r4, C.q.s.c, C.q.s.r21, C.q.s.c14, C.q.s.z14]
          by_cases h3 : v &&& xI h (b + 14) c = nI 0
          · rw [if_pos h3, (mk false v).mpr ⟨h1, .inr h3⟩]; rfl
          · have : cH p.1 c false (bt v) = false := by
              rw [Bool.eq_false_iff]; intro q
              rcases ((mk false v).mp q).2 with q | q
              · cases q
              · exact h3 q
            rw [if_neg h3, this]; rfl
        · simp only [eq_self, Bool.true_eq_false, Bool.false_eq_true, if_true, if_false, BN_ok]
          have e0 : v &&& nI 0 = nI 0 := by apply b_ext; intro i _; rw [b_and, b_n0]; simp
          rw [if_pos e0, (mk true v).mpr ⟨h1, .inl rfl⟩]; rfl
    · have : ∀ bb, cH p.1 c bb (bt v) = false := by
        intro bb
        rw [Bool.eq_false_iff]; intro q
        exact h1 ((mk bb v).mp q).1
      rw [if_neg h1, this]; rfl
  · simp only [eq_self, Bool.true_eq_false, Bool.false_eq_true, if_true, if_false]; rfl
