def stB (p : PR) (f : FL) (s t : Nat) : Nat := if sntB p f (Tz p f) s t then (if fO f s t then 2 else if pl p < t + (if fA f s t then 3 else 1) ∨ fD f (p.1 12 (10 + s)) (t + (if fA f s t then 3 else 1)) = true then 4 else if fA f s t then 3 else 1) else 0
def agB (p : PR) (f : FL) (s t : Nat) : Bool := sntB p f (Tz p f) s t && !hB p f (Tz p f) s t
def outB (p : PR) (f : FL) : Nat := if preP p (Tz p f) && !posP p (Tz p f) then 2 else if preP p (Tz p f) && posP p (Tz p f) then 0 else 1
def TrS (h : AH) (a : Nat) : Prop := (a = 168 ∨ 182 ≤ a) ∧ (xc h a = 8) ∧ (xR h a 0 = a + 1) ∧ (xR h a 1 = a + 2) ∧ (xR h a 2 = a + 3) ∧ (xR h a 3 = a + 4) ∧ (xR h a 4 = a + 5) ∧ (xc h (a + 1) = 16) ∧ (xc h (a + 2) = 16) ∧ (xc h (a + 3) = 16) ∧ (xc h (a + 4) = 16) ∧ (xc h (a + 5) = 16) ∧ (xz h (a + 1) = 28) ∧ (xz h (a + 2) = 4) ∧ (xz h (a + 3) = 6) ∧ (xz h (a + 4) = 42) ∧ (xz h (a + 5) = 24)
theorem TrS.w {h : AH} {a : Nat} (q_ : TrS h a) : a = 168 ∨ 182 ≤ a := q_.1
theorem TrS.c {h : AH} {a : Nat} (q_ : TrS h a) : xc h a = 8 := q_.2.1
theorem TrS.r0 {h : AH} {a : Nat} (q_ : TrS h a) : xR h a 0 = a + 1 := q_.2.2.1
theorem TrS.r1 {h : AH} {a : Nat} (q_ : TrS h a) : xR h a 1 = a + 2 := q_.2.2.2.1
theorem TrS.r2 {h : AH} {a : Nat} (q_ : TrS h a) : xR h a 2 = a + 3 := q_.2.2.2.2.1
theorem TrS.r3 {h : AH} {a : Nat} (q_ : TrS h a) : xR h a 3 = a + 4 := q_.2.2.2.2.2.1
theorem TrS.r4 {h : AH} {a : Nat} (q_ : TrS h a) : xR h a 4 = a + 5 := q_.2.2.2.2.2.2.1
theorem TrS.c1 {h : AH} {a : Nat} (q_ : TrS h a) : xc h (a + 1) = 16 := q_.2.2.2.2.2.2.2.1
theorem TrS.c2 {h : AH} {a : Nat} (q_ : TrS h a) : xc h (a + 2) = 16 := q_.2.2.2.2.2.2.2.2.1
theorem TrS.c3 {h : AH} {a : Nat} (q_ : TrS h a) : xc h (a + 3) = 16 := q_.2.2.2.2.2.2.2.2.2.1
theorem TrS.c4 {h : AH} {a : Nat} (q_ : TrS h a) : xc h (a + 4) = 16 := q_.2.2.2.2.2.2.2.2.2.2.1
theorem TrS.c5 {h : AH} {a : Nat} (q_ : TrS h a) : xc h (a + 5) = 16 := q_.2.2.2.2.2.2.2.2.2.2.2.1
theorem TrS.z1 {h : AH} {a : Nat} (q_ : TrS h a) : xz h (a + 1) = 28 := q_.2.2.2.2.2.2.2.2.2.2.2.2.1
theorem TrS.z2 {h : AH} {a : Nat} (q_ : TrS h a) : xz h (a + 2) = 4 := q_.2.2.2.2.2.2.2.2.2.2.2.2.2.1
theorem TrS.z3 {h : AH} {a : Nat} (q_ : TrS h a) : xz h (a + 3) = 6 := q_.2.2.2.2.2.2.2.2.2.2.2.2.2.2.1
theorem TrS.z4 {h : AH} {a : Nat} (q_ : TrS h a) : xz h (a + 4) = 42 := q_.2.2.2.2.2.2.2.2.2.2.2.2.2.2.2.1
theorem TrS.z5 {h : AH} {a : Nat} (q_ : TrS h a) : xz h (a + 5) = 24 := q_.2.2.2.2.2.2.2.2.2.2.2.2.2.2.2.2
theorem TrS.fr {A : Nat → Prop} {h h' : AH} {a : Nat} (F : Fr A h h') (q : TrS h a) : TrS h' a := by
  unfold TrS at *; simp only [F.c, F.z, F.r]; exact q
theorem TrS.fq {A : Nat → Prop} {h h' : AH} {a : Nat} (F : Fq A h h') (q : TrS h a) : TrS h' a := by
  have := q.w
  have e : a ≠ 174 ∧ a ≠ 180 := by omega
  unfold TrS at *; simp only [F.c, F.z, F.r _ e]; exact q
theorem SG.t0 {h : AH} (s : SG h) : TrS h 168 → TrS h 168 := id
theorem SG.t1 {h : AH} (s : SG h) : TrS h 182 := ⟨.inr (by decide), s.c182, s.r182_0, s.r182_1, s.r182_2, s.r182_3, s.r182_4, s.c183, s.c184, s.c185, s.c186, s.c187, s.z183, s.z184, s.z185, s.z186, s.z187⟩
theorem SG.t2 {h : AH} (s : SG h) : TrS h 188 := ⟨.inr (by decide), s.c188, s.r188_0, s.r188_1, s.r188_2, s.r188_3, s.r188_4, s.c189, s.c190, s.c191, s.c192, s.c193, s.z189, s.z190, s.z191, s.z192, s.z193⟩
theorem SG.t3 {h : AH} (s : SG h) : TrS h 168 := ⟨.inl rfl, s.c168, s.r168_0, s.r168_1, s.r168_2, s.r168_3, s.r168_4, s.c169, s.c170, s.c171, s.c172, s.c173, s.z169, s.z170, s.z171, s.z172, s.z173⟩
/-- one run, as a Trace has it -/
def IsTr (h : AH) (a : Nat) (p : PR) (f : FL) : Prop := (TrS h a) ∧ (∀ t m, t ≤ pl p → m < p.1 0 0 → ∀ r, r < 32 → bt (xI h (a + 1) (t * 4 + m)) r = (decide (r < p.1 1 0) && Tz p f t m r)) ∧ (∀ m t, m < p.1 0 0 → t ≤ pl p → bt (xI h (a + 2) m) t = fD f m t) ∧ (∀ s t, s < p.1 4 0 → t < pl p → bt (xI h (a + 3) s) t = agB p f s t) ∧ (∀ s t, s < p.1 4 0 → t < pl p → xI h (a + 4) (s * 7 + t) = nI (stB p f s t)) ∧ (xI h a 6 = nI (outB p f))
theorem IsTr.s {h : AH} {a : Nat} {p : PR} {f : FL} (q_ : IsTr h a p f) : TrS h a := q_.1
theorem IsTr.T {h : AH} {a : Nat} {p : PR} {f : FL} (q_ : IsTr h a p f) : ∀ t m, t ≤ pl p → m < p.1 0 0 → ∀ r, r < 32 → bt (xI h (a + 1) (t * 4 + m)) r = (decide (r < p.1 1 0) && Tz p f t m r) := q_.2.1
theorem IsTr.D {h : AH} {a : Nat} {p : PR} {f : FL} (q_ : IsTr h a p f) : ∀ m t, m < p.1 0 0 → t ≤ pl p → bt (xI h (a + 2) m) t = fD f m t := q_.2.2.1
theorem IsTr.A {h : AH} {a : Nat} {p : PR} {f : FL} (q_ : IsTr h a p f) : ∀ s t, s < p.1 4 0 → t < pl p → bt (xI h (a + 3) s) t = agB p f s t := q_.2.2.2.1
theorem IsTr.W {h : AH} {a : Nat} {p : PR} {f : FL} (q_ : IsTr h a p f) : ∀ s t, s < p.1 4 0 → t < pl p → xI h (a + 4) (s * 7 + t) = nI (stB p f s t) := q_.2.2.2.2.1
theorem IsTr.V {h : AH} {a : Nat} {p : PR} {f : FL} (q_ : IsTr h a p f) : xI h a 6 = nI (outB p f) := q_.2.2.2.2.2
theorem IsTr.fr {A : Nat → Prop} {h h' : AH} {a : Nat} {p : PR} {f : FL} (F : Fr A h h') (n : ∀ k, k < 5 → ¬ A (a + k)) (q : IsTr h a p f) : IsTr h' a p f := by
  refine ⟨q.s.fr F, ?_⟩
  simp only [F.I _ (n 1 (by decide)), F.I _ (n 2 (by decide)), F.I _ (n 3 (by decide)), F.I _ (n 4 (by decide)), F.I (a := a) _ (n 0 (by decide))]
  exact q.2
theorem IsTr.fq {A : Nat → Prop} {h h' : AH} {a : Nat} {p : PR} {f : FL} (F : Fq A h h') (n : ∀ k, k < 5 → ¬ A (a + k)) (q : IsTr h a p f) : IsTr h' a p f := by
  refine ⟨q.s.fq F, ?_⟩
  simp only [F.I _ (n 1 (by decide)), F.I _ (n 2 (by decide)), F.I _ (n 3 (by decide)), F.I _ (n 4 (by decide)), F.I (a := a) _ (n 0 (by decide))]
  exact q.2
theorem cH_mask {B : BK} {c : Nat} {bare : Bool} {v A N : Int32} (w : WC B c) (hr : B 1 0 ≤ 10) (ha : ∀ r, r < 32 → bt A r = askB B c r) (hn : ∀ r, r < 32 → bt N r = notB B c r) : cH B c bare (bt v) = true ↔ (v &&& A) = A ∧ (bare = true ∨ (v &&& N) = 0) := by
  rw [b_sub, b_dis]
  unfold cH cHf
  rw [List.all_eq_true]
  simp only [List.mem_range, Nat.sub_zero, Nat.zero_add]
  constructor
  · intro h
    refine ⟨fun i hi hb => ?_, ?_⟩
    · rw [ha i hi] at hb
      unfold askB at hb
      rw [List.any_eq_true] at hb
      obtain ⟨k, hk, e⟩ := hb
      have hk := List.mem_range.mp hk
      rw [Bool.and_eq_true, beq_iff_eq, beq_iff_eq] at e
      have := h k hk
      rw [if_pos e.2, e.1] at this
      exact this
    · cases bare
      · right
        intro i hi hb
        rw [hn i hi] at hb
        unfold notB at hb
        rw [List.any_eq_true] at hb
        obtain ⟨k, hk, e⟩ := hb
        have hk := List.mem_range.mp hk
        rw [Bool.and_eq_true, beq_iff_eq] at e
        have := h k hk
        rw [if_neg (by simpa using e.2), e.1] at this
        simpa using this
      · left; rfl
  · rintro ⟨h1, h2⟩ k hk
    have h3 := w.cr k hk
    by_cases e : B (40 + c) k = 0
    · rw [if_pos e]
      apply h1 _ (by omega)
      rw [ha _ (by omega)]
      unfold askB
      rw [List.any_eq_true]
      exact ⟨k, List.mem_range.mpr hk, by simp [e]⟩
    · rw [if_neg e]
      rcases h2 with h2 | h2
      · rw [h2]; rfl
      · rw [h2 _ (by omega) (by
          rw [hn _ (by omega)]
          unfold notB
          rw [List.any_eq_true]
          exact ⟨k, List.mem_range.mpr hk, by simp [e]⟩)]
        simp
theorem holdsAmong_ok {h : AH} {a c : Nat} {B : BK} {v bare : Int32} (q : IsCl h a B c) (w : WC B c) (hr : B 1 0 ≤ 10) : X1_holdsAmong_f a v bare h = some (if cH B c (!decide (bare = nI 0)) (bt v) = true then nI 1 else nI 0, h) := by
  unfold X1_holdsAmong_f X1_holdsAmong_B26
  simp only [q.s.c, LT_e, G_T, BN_ok, if_true, if_false, cH_mask w hr q.ask q.nt, nI_z]
  by_cases h1 : v &&& xI h a 4 = xI h a 4
  · by_cases h2 : bare = nI 0
    · by_cases h3 : v &&& xI h a 5 = nI 0
      · simp [h1, h2, h3]
      · simp [h1, h2, h3]
    · simp [h1, h2]
  · simp [h1]
theorem b_shb {x : Int64} {r : Nat} (hr : r < 32) {i : Nat} (hi : i < 32) : bt (((x &&& lN 1).toInt32) <<< (nI r &&& 31)) i = (decide (i = r) && tl x 0) := by
  rw [tl_and1i]
  cases tl x 0
  · simp only [Bool.false_eq_true, if_false]
    rw [b_shl r hr _ hi, b_0]; simp
  · simp only [if_true]
    rw [show (1 : Int32) = nI 1 from rfl, b_bit hr]; simp
theorem takeRows_ok {h : AH} {a e n : Nat} (s : SG h) (q : TrS h a) (hn : n ≤ 10) (he : e ≤ 27) : ∃ h', X8_takeRows_f a (nI n) (nI e) 174 h = some ((), h') ∧ Fr (fun x => x = a + 1) h h' ∧ (∀ i, i ≠ e → xI h' (a + 1) i = xI h (a + 1) i) ∧ ∀ r, r < 32 → bt (xI h' (a + 1) e) r = (decide (r < n) && tl (xL h 175 (e * 10 + r)) 0) := by
  have loop : ∀ m k v, k ≤ n → n - k < m → (∀ r, r < 32 → bt v r = (decide (r < k) && tl (xL h 175 (e * 10 + r)) 0)) → ∃ u, X8_takeRows_B6 m a (nI n) (nI e) 174 v (nI k) h = X8_takeRows_B41 a (nI e) u h ∧ ∀ r, r < 32 → bt u r = (decide (r < n) && tl (xL h 175 (e * 10 + r)) 0) := by
    intro m
    induction m with
    | zero => intro k v _ h; exact absurd h (Nat.not_lt_zero _)
    | succ m ih =>
      intro k v hk hm hv
      rcases Nat.lt_or_ge k n with hk | hk
      · have hk' : ¬ n ≤ k := by omega
        obtain ⟨u, e1, e2⟩ := ih (k + 1) (v ||| (xL h 175 (e * 10 + k) &&& lN 1).toInt32 <<< (nI k &&& 31)) (by omega) (by omega) (fun r hr => by
          rw [b_or, hv r hr, b_shb (by omega) hr]
          by_cases er : r = k
          · subst er; simp
          · rw [decide_eq_false er, Bool.false_and, Bool.or_false]
            congr 1
            apply decide_eq_decide.mpr
            omega)
        refine ⟨u, ?_, e2⟩
        rw [← e1]
        simp (disch := omega) only [X8_takeRows_B6, LT_e, G_T, BN_ok, if_true, if_false, nI_add, pk_mul, G_gx, nI_cl, nI_lI, nI_tI, nI_eI, hk', s.c174, s.r174_0, s.c175, s.z175]
      · have : k = n := by omega
        subst this
        refine ⟨v, ?_, hv⟩
        simp (disch := omega) only [X8_takeRows_B6, LT_e, G_T, BN_ok, if_true, if_false, nI_add, pk_mul, G_gx, nI_cl, nI_lI, nI_tI, nI_eI, Nat.le_refl]
  obtain ⟨u, e1, e2⟩ := loop FU 0 (nI 0) (Nat.zero_le _) (FU_gt (by omega)) (fun r _ => by rw [b_n0]; simp)
  have e3 : X8_takeRows_f a (nI n) (nI e) 174 h = X8_takeRows_B41 a (nI e) u h := e1
  rw [e3]
  unfold X8_takeRows_B41
  simp (disch := omega) only [LT_e, G_T, BN_ok, if_true, if_false, nI_add, pk_mul, G_gx, nI_cl, nI_lI, nI_tI, nI_eI, q.c, q.r0, q.c1, q.z1]
  refine ⟨_, rfl, Fr.i rfl, fun i hi => ?_, fun r hr => ?_⟩
  · rw [xI_pI, if_neg (fun q => hi q.2)]
  · rw [xI_pI, if_pos ⟨rfl, rfl⟩]; exact e2 r hr
