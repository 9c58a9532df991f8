theorem byt_k : ∀ c, c < 256 → let v := (nI c).toInt8.toInt32; ((v &&& nI 255) = nI 32 ↔ v = nI 32) ∧ ((v &&& nI 255) = nI 59 ↔ v = nI 59) ∧ (v &&& nI 255) ≠ -1 ∧ ((v &&& nI 255) < nI 97 ∨ nI 122 < (v &&& nI 255) ↔ ¬ (nI 97 ≤ v ∧ v ≤ nI 122)) ∧ ((nI 97 ≤ v ∧ v ≤ nI 122) → (v &&& nI 255) = v ∧ v ≠ nI 59 ∧ v = nI (v.toNatClampNeg - 96 + 96) ∧ 1 ≤ v.toNatClampNeg - 96 ∧ v.toNatClampNeg - 96 ≤ 26 ∧ ((v - nI 97) + nI 1).toInt64 = lN (v.toNatClampNeg - 96)) := by decide +kernel
theorem byt_32 {v : Int32} (b : byt v) : (v &&& nI 255) = nI 32 ↔ v = nI 32 := by
  obtain ⟨c, hc, rfl⟩ := b; exact (byt_k c hc).1
theorem byt_59 {v : Int32} (b : byt v) : (v &&& nI 255) = nI 59 ↔ v = nI 59 := by
  obtain ⟨c, hc, rfl⟩ := b; exact (byt_k c hc).2.1
theorem byt_m1 {v : Int32} (b : byt v) : (v &&& nI 255) ≠ -1 := by
  obtain ⟨c, hc, rfl⟩ := b; exact (byt_k c hc).2.2.1
theorem byt_le {v : Int32} (b : byt v) : (v &&& nI 255) < nI 97 ∨ nI 122 < (v &&& nI 255) ↔ ¬ (nI 97 ≤ v ∧ v ≤ nI 122) := by
  obtain ⟨c, hc, rfl⟩ := b; exact (byt_k c hc).2.2.2.1
theorem byt_lt {v : Int32} (b : byt v) (q : nI 97 ≤ v ∧ v ≤ nI 122) : (v &&& nI 255) = v ∧ v ≠ nI 59 ∧ v = nI (v.toNatClampNeg - 96 + 96) ∧ 1 ≤ v.toNatClampNeg - 96 ∧ v.toNatClampNeg - 96 ≤ 26 ∧ ((v - nI 97) + nI 1).toInt64 = lN (v.toNatClampNeg - 96) := by
  obtain ⟨c, hc, rfl⟩ := b; exact (byt_k c hc).2.2.2.2 q
theorem isLetter_m {h : AH} {v : Int32} : X15_isLetter_f v h = some (bI (decide (¬ (v < nI 97 ∨ nI 122 < v))), h) := by
  unfold X15_isLetter_f bI
  by_cases a : v < nI 97
  · rw [if_pos a, decide_eq_false (fun q => q (.inl a))]; rfl
  · rw [if_neg a]
    by_cases b : nI 122 < v
    · rw [if_pos b, decide_eq_false (fun q => q (.inr b))]; rfl
    · rw [if_neg b, decide_eq_true (show ¬ (v < nI 97 ∨ nI 122 < v) from fun q => q.elim a b)]; rfl
/-- the value of letters, 32 by 32 -/
def wdN (f : Nat → Nat) : Nat → Nat
  | 0 => 0
  | k + 1 => 32 * wdN f k + f k
def ltN (T : Nat → Int32) (p j : Nat) : Nat := (T (p + j)).toNatClampNeg - 96
def wdV (T : Nat → Int32) (n p : Nat) : Int64 := lN (wdN (ltN T p) (tkA T n p - p))
theorem lN_ma {a b : Nat} : (32 : Int64) * lN a + lN b = lN (32 * a + b) := by
  show (32 : Int64) * Int64.ofNat a + Int64.ofNat b = Int64.ofNat (32 * a + b)
  rw [Int64.ofNat_add, Int64.ofNat_mul]; rfl
def mSo (k : Nat) : Nat := if k = 0 then 1 else if k = 1 then 3 else if k = 2 then 2 else 0
def CfM (h : AH) (T : Nat → Int32) (n : Nat) : Prop := (SG h) ∧ (xI h 195 9 = nI n) ∧ (n ≤ 700) ∧ (∀ k, k < n → xI h 197 k = T k) ∧ (∀ k, k < n → byt (T k))
theorem CfM.g {h : AH} {T : Nat → Int32} {n : Nat} (q_ : CfM h T n) : SG h := q_.1
theorem CfM.e {h : AH} {T : Nat → Int32} {n : Nat} (q_ : CfM h T n) : xI h 195 9 = nI n := q_.2.1
theorem CfM.x {h : AH} {T : Nat → Int32} {n : Nat} (q_ : CfM h T n) : n ≤ 700 := q_.2.2.1
theorem CfM.t {h : AH} {T : Nat → Int32} {n : Nat} (q_ : CfM h T n) : ∀ k, k < n → xI h 197 k = T k := q_.2.2.2.1
theorem CfM.b {h : AH} {T : Nat → Int32} {n : Nat} (q_ : CfM h T n) : ∀ k, k < n → byt (T k) := q_.2.2.2.2
def CtM (h : AH) (T : Nat → Int32) (n p : Nat) : Prop := (p ≤ n) ∧ (xI h 195 12 = nI p) ∧ (xI h 195 10 = nI (tkA T n p)) ∧ (xI h 195 11 = nI (mSo (tkK T n p))) ∧ (tkK T n p = 2 → xL h 195 13 = wdV T n p)
theorem CtM.x {h : AH} {T : Nat → Int32} {n p : Nat} (q_ : CtM h T n p) : p ≤ n := q_.1
theorem CtM.a {h : AH} {T : Nat → Int32} {n p : Nat} (q_ : CtM h T n p) : xI h 195 12 = nI p := q_.2.1
theorem CtM.f {h : AH} {T : Nat → Int32} {n p : Nat} (q_ : CtM h T n p) : xI h 195 10 = nI (tkA T n p) := q_.2.2.1
theorem CtM.s {h : AH} {T : Nat → Int32} {n p : Nat} (q_ : CtM h T n p) : xI h 195 11 = nI (mSo (tkK T n p)) := q_.2.2.2.1
theorem CtM.w {h : AH} {T : Nat → Int32} {n p : Nat} (q_ : CtM h T n p) : tkK T n p = 2 → xL h 195 13 = wdV T n p := q_.2.2.2.2
theorem CfM.fz {A : Nat → Nat → Prop} {h h' : AH} {T : Nat → Int32} {n : Nat} (F : Fz A h h') (o : ∀ a k, a = 195 ∧ k = 9 ∨ a = 197 → ¬ A a k) (c : CfM h T n) : CfM h' T n := ⟨c.g.fz F, by rw [F.I (o _ _ (by omega))]; exact c.e, c.x, fun k hk => by rw [F.I (o _ _ (by omega))]; exact c.t k hk, c.b⟩
theorem CtM.fz {A : Nat → Nat → Prop} {h h' : AH} {T : Nat → Int32} {n p : Nat} (F : Fz A h h') (o : ∀ a k, a = 195 ∧ (10 ≤ k ∧ k ≤ 13) → ¬ A a k) (c : CtM h T n p) : CtM h' T n p := ⟨c.x, by rw [F.I (o _ _ (by omega))]; exact c.a, by rw [F.I (o _ _ (by omega))]; exact c.f, by rw [F.I (o _ _ (by omega))]; exact c.s, fun q => by rw [F.L (o _ _ (by omega))]; exact c.w q⟩
def StM : Nat → Nat → Prop := fun a k => a = 195 ∧ (10 ≤ k ∧ k ≤ 13)
theorem byteAt_y {h : AH} {T : Nat → Int32} {n i : Nat} (c : CfM h T n) (hi : i < n) : X15_byteAt_f 195 (nI i) h = some (T i &&& nI 255, h) := by
  have nx := c.x
  unfold X15_byteAt_f
  rw [G_t c.g.c195, c.e, if_neg (by rw [nI_lI (by omega) (by omega)]; omega), G_t c.g.c195, c.g.r195_7, G_t c.g.c197, c.g.z197, G_gx (by omega) (by omega), nI_cl (by omega), c.t i hi]
theorem byteAt_n {h : AH} {T : Nat → Int32} {n i : Nat} (c : CfM h T n) (hi : n ≤ i) (h2 : i < 2147483648) : X15_byteAt_f 195 (nI i) h = some (-1, h) := by
  have nx := c.x
  unfold X15_byteAt_f
  rw [G_t c.g.c195, c.e, if_pos (by rw [nI_lI (by omega) (by omega)]; omega)]
theorem letm_c {h : AH} {T : Nat → Int32} {n p : Nat} (c : CfM h T n) (hp : p ≤ n) (a6 : xI h 195 12 = nI p) (a7 : xI h 195 10 = nI p) (a11 : xI h 195 11 = nI 0) (w13 : xL h 195 13 = lN 0) : ∃ h', X15_next_B75 FU 195 (nI 0) h = X15_next_B138 195 (nI (tkZ T n p - p)) h' ∧ Fz StM h h' ∧ CfM h' T n ∧ xI h' 195 12 = nI p ∧ xI h' 195 10 = nI (tkZ T n p) ∧ xI h' 195 11 = nI 0 ∧ (tkZ T n p - p ≤ 8 → xL h' 195 13 = lN (wdN (ltN T p) (tkZ T n p - p))) := by
  have nx := c.x
  obtain ⟨pa, pb, pc, pd⟩ := tkZ_b (T := T) hp
  have oC : ∀ a k, a = 195 ∧ k = 9 ∨ a = 197 → ¬ StM a k := fun a k => by unfold StM; omega
  have m10 : StM 195 10 := by unfold StM; omega
  have m13 : StM 195 13 := by unfold StM; omega
  obtain ⟨h1, ⟨F1, c1, a1, b1, s1, w1⟩, e1⟩ := loopE (F := fun n k h => X15_next_B75 n 195 (nI k) h) (E := fun h => X15_next_B138 195 (nI (tkZ T n p - p)) h) (tkZ T n p - p) (fun k h' => Fz StM h h' ∧ CfM h' T n ∧ xI h' 195 12 = nI p ∧ xI h' 195 10 = nI (p + k) ∧ xI h' 195 11 = nI 0 ∧ (k ≤ 8 → xL h' 195 13 = lN (wdN (ltN T p) k))) (h := h) (k := 0) (Nat.zero_le _) (by omega) ⟨Fz.rf, c, a6, a7, a11, fun _ => w13⟩
    (by
      rintro m k h' hk ⟨F, c', a', b', s', w'⟩
      have q := pc (p + k) (by omega) (by omega)
      have bt := c'.b (p + k) (by omega)
      obtain ⟨l1, _, l3, l4, l5, l6⟩ := byt_lt bt q
      have ll : ¬ (T (p + k) < nI 97 ∨ nI 122 < T (p + k)) := fun z => z.elim (fun z => absurd q.1 (Int32.not_le.mpr z)) (fun z => absurd q.2 (Int32.not_le.mpr z))
      have hd : X15_next_B75 (m + 1) 195 (nI k) h' = if (nI 8) ≤ nI k then X15_next_B122 (X15_next_B75 m) 195 (nI k) h' else X15_next_B122 (X15_next_B75 m) 195 (nI k) (pL h' 195 13 ((32) * (xL h' 195 13) + lN (ltN T p k))) := by
        rw [X15_next_B75, G_t c'.g.c195, b', byteAt_y c' (by omega), BN_ok, l1, isLetter_m, BN_ok, if_neg (by rw [decide_eq_true ll]; decide), G_t c'.g.c195, b', byteAt_y c' (by omega), BN_ok, G_t c'.g.c195, LT_e, l1, l6]
        rfl
      by_cases k8 : 8 ≤ k
      · refine ⟨pI h' 195 10 (nI (p + (k + 1))), ⟨F.tr (Fz.i m10), c'.fz (Fz.i m10) oC, by rw [xI_ne (by omega)]; exact a', xI_self, by rw [xI_ne (by omega)]; exact s', fun z => absurd z (by omega)⟩, ?_⟩
        show X15_next_B75 (m + 1) 195 (nI k) h' = X15_next_B75 m 195 (nI (k + 1)) _
        rw [hd, if_pos (by rw [nI_lI (by omega) (by omega)]; exact k8)]
        unfold X15_next_B122
        rw [nI_add, LT_e, G_t c'.g.c195, b', nI_add, LT_e]
        rfl
      · obtain ⟨h2, h2e⟩ : ∃ h2, h2 = pL h' 195 13 ((32) * (xL h' 195 13) + lN (ltN T p k)) := ⟨_, rfl⟩
        have F2 : Fz StM h' h2 := by rw [h2e]; exact Fz.l m13
        have c2 := c'.fz F2 oC
        have e2 : ∀ k, xI h2 195 k = xI h' 195 k := fun k => by rw [h2e, xI_pL]
        refine ⟨pI h2 195 10 (nI (p + (k + 1))), ⟨(F.tr F2).tr (Fz.i m10), c2.fz (Fz.i m10) oC, by rw [xI_ne (by omega), e2]; exact a', xI_self, by rw [xI_ne (by omega), e2]; exact s', fun _ => ?_⟩, ?_⟩
        · rw [xL_pI, h2e, xL_pL, if_pos ⟨rfl, rfl⟩, w' (by omega), lN_ma]; rfl
        · show X15_next_B75 (m + 1) 195 (nI k) h' = X15_next_B75 m 195 (nI (k + 1)) _
          rw [hd, if_neg (by rw [nI_lI (by omega) (by omega)]; exact k8), ← h2e]
          unfold X15_next_B122
          rw [nI_add, LT_e, G_t c2.g.c195, e2, b', nI_add, LT_e]
          rfl)
    (by
      rintro m h' ⟨F, c', a', b', s', w'⟩
      show X15_next_B75 (m + 1) 195 (nI (tkZ T n p - p)) h' = _
      have pe : p + (tkZ T n p - p) = tkZ T n p := by omega
      rw [pe] at b'
      rw [X15_next_B75, G_t c'.g.c195, b']
      by_cases q : n ≤ tkZ T n p
      · rw [byteAt_n c' q (by omega), BN_ok, isLetter_m, BN_ok, if_pos (by decide)]
      · rw [byteAt_y c' (by omega), BN_ok, isLetter_m, BN_ok, if_pos (by rw [decide_eq_false (fun z => z ((byt_le (c'.b _ (by omega))).mpr (pd (by omega))))]; decide)])
  refine ⟨h1, e1, F1, c1, a1, ?_, s1, w1⟩
  rw [b1]; congr 1; omega
theorem next_m {h : AH} {T : Nat → Int32} {n i : Nat} (c : CfM h T n) (hi : i ≤ n) (ha : xI h 195 10 = nI i) : ∃ h', X15_next_f 195 h = some ((), h') ∧ Fz StM h h' ∧ CfM h' T n ∧ CtM h' T n (tkP T n i) := by
  have nx := c.x
  obtain ⟨pa, pb, pc, pd⟩ := tkP_b (T := T) hi
  have oC : ∀ a k, a = 195 ∧ k = 9 ∨ a = 197 → ¬ StM a k := fun a k => by unfold StM; omega
  have m10 : StM 195 10 := by unfold StM; omega
  have m11 : StM 195 11 := by unfold StM; omega
  have m12 : StM 195 12 := by unfold StM; omega
  have m13 : StM 195 13 := by unfold StM; omega
  obtain ⟨h1, ⟨F1, c1, a1, _⟩, e1⟩ := loopE (F := fun n _ h => X15_next_B0 n 195 h) (E := fun h => X15_next_B26 195 h) (tkP T n i) (fun k h' => Fz StM h h' ∧ CfM h' T n ∧ xI h' 195 10 = nI k ∧ i ≤ k) (h := h) pa (by omega) ⟨Fz.rf, c, ha, Nat.le_refl _⟩
    (by
      rintro m k h' hk ⟨F, c', a', ki⟩
      refine ⟨pI h' 195 10 (nI (k + 1)), ⟨F.tr (Fz.i m10), c'.fz (Fz.i m10) oC, xI_self, by omega⟩, ?_⟩
      show X15_next_B0 (m + 1) 195 h' = X15_next_B0 m 195 _
      rw [X15_next_B0, G_t c'.g.c195, a', byteAt_y c' (by omega), BN_ok, if_pos ((byt_32 (c'.b k (by omega))).mpr (pc k ki hk)), G_t c'.g.c195, a', nI_add, LT_e])
    (by
      rintro m h' ⟨F, c', a', ki⟩
      show X15_next_B0 (m + 1) 195 h' = _
      rw [X15_next_B0, G_t c'.g.c195, a']
      by_cases q : n ≤ tkP T n i
      · rw [byteAt_n c' q (by omega), BN_ok, if_neg (by decide)]
      · rw [byteAt_y c' (by omega), BN_ok, if_neg (fun z => pd (by omega) ((byt_32 (c'.b _ (by omega))).mp z))])
  have hd : X15_next_f 195 h = X15_next_B26 195 h1 := e1
  rw [hd]
  clear hd e1
  obtain ⟨p, hp⟩ : ∃ p, p = tkP T n i := ⟨_, rfl⟩
  rw [← hp] at pa pb pc pd a1 ⊢
  obtain ⟨h2, h2e⟩ : ∃ h2, h2 = pI h1 195 12 (nI p) := ⟨_, rfl⟩
  have F2 : Fz StM h h2 := by rw [h2e]; exact F1.tr (Fz.i m12)
  have c2 := c.fz F2 oC
  obtain ⟨h3, h3e⟩ : ∃ h3, h3 = pI h2 195 11 (nI 0) := ⟨_, rfl⟩
  have F3 : Fz StM h h3 := by rw [h3e]; exact F2.tr (Fz.i m11)
  have c3 := c.fz F3 oC
  have a3 : xI h3 195 12 = nI p := by rw [h3e, xI_ne (by omega), h2e, xI_self]
  have b3 : xI h3 195 10 = nI p := by rw [h3e, xI_ne (by omega), h2e, xI_ne (by omega)]; exact a1
  have s3 : xI h3 195 11 = nI 0 := by rw [h3e, xI_self]
  unfold X15_next_B26
  rw [G_t c1.g.c195, a1, LT_e, ← h2e, G_t c2.g.c195, LT_e, ← h3e, G_t c3.g.c195, b3]
  by_cases q : n ≤ p
  · have k0 : tkK T n p = 0 := by unfold tkK; rw [if_pos q]
    rw [byteAt_n c3 q (by omega), BN_ok, if_pos rfl, G_t c3.g.c195, LT_e]
    refine ⟨_, rfl, F3.tr (Fz.i m11), c3.fz (Fz.i m11) oC, pb, by rw [xI_ne (by omega)]; exact a3, ?_, ?_, fun z => absurd z (by rw [k0]; decide)⟩
    · rw [xI_ne (by omega), b3]; unfold tkA; rw [if_pos q]
    · rw [xI_self, k0]; rfl
  · have bt := c3.b p (by omega)
    rw [byteAt_y c3 (by omega), BN_ok, if_neg (byt_m1 bt), isLetter_m, BN_ok]
    by_cases l : nI 97 ≤ T p ∧ T p ≤ nI 122
    · have r := (byt_lt bt l).2.1
      rw [if_neg (by rw [decide_eq_true (show ¬ ((T p &&& nI 255) < nI 97 ∨ nI 122 < (T p &&& nI 255)) from fun z => (byt_le bt).mp z l)]; decide), G_t c3.g.c195, LT_e]
      obtain ⟨h4, h4e⟩ : ∃ h4, h4 = pL h3 195 13 (lN 0) := ⟨_, rfl⟩
      have F4 : Fz StM h h4 := by rw [h4e]; exact F3.tr (Fz.l m13)
      have c4 := c.fz F4 oC
      have e4 : ∀ k, xI h4 195 k = xI h3 195 k := fun k => by rw [h4e, xI_pL]
      obtain ⟨h5, e5, F5, c5, a5, b5, s5, w5⟩ := letm_c c4 pb (by rw [e4]; exact a3) (by rw [e4]; exact b3) (by rw [e4]; exact s3) (by rw [h4e, xL_pL, if_pos ⟨rfl, rfl⟩])
      obtain ⟨za, zb, zc, zd⟩ := tkZ_b (T := T) pb
      have z1 : ¬ tkZ T n p - p < 1 := fun z => zd (by omega) (by rw [show tkZ T n p = p by omega]; exact l)
      have ta : tkA T n p = tkZ T n p := by unfold tkA; rw [if_neg q, if_neg r]
      rw [← h4e, e5]
      unfold X15_next_B138
      by_cases w : 8 < tkZ T n p - p
      · have kk : tkK T n p = 3 := by unfold tkK; rw [if_neg q, if_neg r, if_neg z1, if_pos w]
        rw [if_pos (by rw [nI_tI (by omega) (by omega)]; exact w)]
        exact ⟨_, rfl, F4.tr F5, c5, pb, a5, by rw [b5, ta], by rw [s5, kk]; rfl, fun z => absurd z (by rw [kk]; decide)⟩
      · have kk : tkK T n p = 2 := by unfold tkK; rw [if_neg q, if_neg r, if_neg z1, if_neg w]
        rw [if_neg (by rw [nI_tI (by omega) (by omega)]; exact w), G_t c5.g.c195, LT_e]
        refine ⟨_, rfl, (F4.tr F5).tr (Fz.i m11), c5.fz (Fz.i m11) oC, pb, by rw [xI_ne (by omega)]; exact a5, by rw [xI_ne (by omega), b5, ta], by rw [xI_self, kk]; rfl, fun _ => ?_⟩
        rw [xL_pI, w5 (by omega)]
        unfold wdV
        rw [ta]
    · rw [if_pos (by rw [decide_eq_false (fun z => z ((byt_le bt).mpr l))]; rfl)]
      by_cases r : T p = nI 59
      · have kk : tkK T n p = 1 := by unfold tkK; rw [if_neg q, if_pos r]
        rw [if_pos ((byt_59 bt).mpr r), G_t c3.g.c195, LT_e, G_t c3.g.i.c195, xI_ne (by omega), b3, nI_add, LT_e]
        refine ⟨_, rfl, (F3.tr (Fz.i m11)).tr (Fz.i m10), (c3.fz (Fz.i m11) oC).fz (Fz.i m10) oC, pb, by rw [xI_ne (by omega), xI_ne (by omega)]; exact a3, ?_, ?_, fun z => absurd z (by rw [kk]; decide)⟩
        · rw [xI_self]; unfold tkA; rw [if_neg q, if_pos r]
        · rw [xI_ne (by omega), xI_self, kk]; rfl
      · rw [if_neg (fun z => r ((byt_59 bt).mp z))]
        obtain ⟨za, zb, zc, zd⟩ := tkZ_b (T := T) pb
        have ze : tkZ T n p = p := Classical.byContradiction fun z => l (zc p (Nat.le_refl _) (by omega))
        have kk : tkK T n p = 3 := by unfold tkK; rw [if_neg q, if_neg r, if_pos (by omega)]
        refine ⟨_, rfl, F3, c3, pb, a3, ?_, by rw [s3, kk]; rfl, fun z => absurd z (by rw [kk]; decide)⟩
        rw [b3]; unfold tkA; rw [if_neg q, if_neg r, ze]
