/-- how far a run goes -/
def rnT (q : Nat → Bool) : Nat → Nat → Nat
  | 0, i => i
  | f + 1, i => if q i then rnT q f (i + 1) else i
theorem rnT_b {q : Nat → Bool} : ∀ f i, i ≤ rnT q f i ∧ rnT q f i ≤ i + f ∧ (∀ k, i ≤ k → k < rnT q f i → q k = true) ∧ (rnT q f i < i + f → q (rnT q f i) = false) := by
  intro f
  induction f with
  | zero => intro i; exact ⟨Nat.le_refl _, Nat.le_refl _, fun k a b => absurd b (by show ¬ k < i; omega), fun a => absurd a (by show ¬ i < i + 0; omega)⟩
  | succ f ih =>
    intro i
    obtain ⟨a, b, c, d⟩ := ih (i + 1)
    by_cases e : q i = true
    · have r : rnT q (f + 1) i = rnT q f (i + 1) := by rw [rnT, if_pos e]
      rw [r]
      refine ⟨by omega, by omega, fun k ka kb => ?_, fun l => d (by omega)⟩
      by_cases ek : k = i
      · rw [ek]; exact e
      · exact c k (by omega) kb
    · have r : rnT q (f + 1) i = i := by rw [rnT, if_neg e]
      rw [r]
      exact ⟨Nat.le_refl _, by omega, fun k a b => absurd b (by omega), fun _ => by simpa using e⟩
def spce (T : Nat → Int32) (k : Nat) : Bool := decide (T k = nI 32)
def lttr (T : Nat → Int32) (k : Nat) : Bool := decide (nI 97 ≤ T k ∧ T k ≤ nI 122)
/-- where the token after i begins; where letters at p end; its sort; where it ends -/
def tkP (T : Nat → Int32) (n i : Nat) : Nat := rnT (spce T) (n - i) i
def tkZ (T : Nat → Int32) (n p : Nat) : Nat := rnT (lttr T) (n - p) p
def tkK (T : Nat → Int32) (n p : Nat) : Nat := if n ≤ p then 0 else if T p = nI 59 then 1 else if tkZ T n p - p < 1 then 3 else if 8 < tkZ T n p - p then 3 else 2
def tkA (T : Nat → Int32) (n p : Nat) : Nat := if n ≤ p then p else if T p = nI 59 then p + 1 else tkZ T n p
theorem tkP_b {T : Nat → Int32} {n i : Nat} (h : i ≤ n) : i ≤ tkP T n i ∧ tkP T n i ≤ n ∧ (∀ k, i ≤ k → k < tkP T n i → T k = nI 32) ∧ (tkP T n i < n → T (tkP T n i) ≠ nI 32) := by
  obtain ⟨a, b, c, d⟩ := rnT_b (q := spce T) (n - i) i
  refine ⟨a, by show rnT (spce T) (n - i) i ≤ n; omega, fun k x y => of_decide_eq_true (c k x y), fun l => of_decide_eq_false (d ?_)⟩
  have : rnT (spce T) (n - i) i < n := l
  omega
theorem tkZ_b {T : Nat → Int32} {n p : Nat} (h : p ≤ n) : p ≤ tkZ T n p ∧ tkZ T n p ≤ n ∧ (∀ k, p ≤ k → k < tkZ T n p → nI 97 ≤ T k ∧ T k ≤ nI 122) ∧ (tkZ T n p < n → ¬ (nI 97 ≤ T (tkZ T n p) ∧ T (tkZ T n p) ≤ nI 122)) := by
  obtain ⟨a, b, c, d⟩ := rnT_b (q := lttr T) (n - p) p
  refine ⟨a, by show rnT (lttr T) (n - p) p ≤ n; omega, fun k x y => of_decide_eq_true (c k x y), fun l => of_decide_eq_false (d ?_)⟩
  have : rnT (lttr T) (n - p) p < n := l
  omega
theorem tkA_b {T : Nat → Int32} {n p : Nat} (h : p ≤ n) : p ≤ tkA T n p ∧ tkA T n p ≤ n := by
  have := tkZ_b (T := T) h
  unfold tkA
  by_cases c : n ≤ p
  · rw [if_pos c]; omega
  · rw [if_neg c]
    by_cases d : T p = nI 59
    · rw [if_pos d]; omega
    · rw [if_neg d]; omega
theorem tkK_2 {T : Nat → Int32} {n p : Nat} (h : tkK T n p = 2) : p < n ∧ tkA T n p = tkZ T n p ∧ 1 ≤ tkZ T n p - p ∧ tkZ T n p - p ≤ 8 := by
  unfold tkK at h
  unfold tkA
  by_cases c : n ≤ p
  · rw [if_pos c] at h; exact absurd h (by decide)
  · rw [if_neg c] at h ⊢
    by_cases d : T p = nI 59
    · rw [if_pos d] at h; exact absurd h (by decide)
    · rw [if_neg d] at h ⊢
      by_cases e : tkZ T n p - p < 1
      · rw [if_pos e] at h; exact absurd h (by decide)
      · rw [if_neg e] at h
        by_cases f : 8 < tkZ T n p - p
        · rw [if_pos f] at h; exact absurd h (by decide)
        · exact ⟨by omega, rfl, by omega, by omega⟩
/-- the class's reader: what stays, and where it stands -/
def CfC (h : AH) (T : Nat → Int32) (n : Nat) : Prop := (SG h) ∧ (xI h 58 5 = nI n) ∧ (n ≤ 700) ∧ (∀ k, k < n → xI h 59 k = T k) ∧ (∀ k, k < n → byt (T k))
theorem CfC.g {h : AH} {T : Nat → Int32} {n : Nat} (q_ : CfC h T n) : SG h := q_.1
theorem CfC.e {h : AH} {T : Nat → Int32} {n : Nat} (q_ : CfC h T n) : xI h 58 5 = nI n := q_.2.1
theorem CfC.x {h : AH} {T : Nat → Int32} {n : Nat} (q_ : CfC h T n) : n ≤ 700 := q_.2.2.1
theorem CfC.t {h : AH} {T : Nat → Int32} {n : Nat} (q_ : CfC h T n) : ∀ k, k < n → xI h 59 k = T k := q_.2.2.2.1
theorem CfC.b {h : AH} {T : Nat → Int32} {n : Nat} (q_ : CfC h T n) : ∀ k, k < n → byt (T k) := q_.2.2.2.2
def CtC (h : AH) (T : Nat → Int32) (n p : Nat) : Prop := (p ≤ n) ∧ (xI h 58 6 = nI p) ∧ (xI h 58 7 = nI (tkA T n p)) ∧ (xI h 58 8 = nI (tkK T n p))
theorem CtC.x {h : AH} {T : Nat → Int32} {n p : Nat} (q_ : CtC h T n p) : p ≤ n := q_.1
theorem CtC.a {h : AH} {T : Nat → Int32} {n p : Nat} (q_ : CtC h T n p) : xI h 58 6 = nI p := q_.2.1
theorem CtC.f {h : AH} {T : Nat → Int32} {n p : Nat} (q_ : CtC h T n p) : xI h 58 7 = nI (tkA T n p) := q_.2.2.1
theorem CtC.s {h : AH} {T : Nat → Int32} {n p : Nat} (q_ : CtC h T n p) : xI h 58 8 = nI (tkK T n p) := q_.2.2.2
theorem CfC.fz {A : Nat → Nat → Prop} {h h' : AH} {T : Nat → Int32} {n : Nat} (F : Fz A h h') (o : ∀ a k, a = 58 ∧ k = 5 ∨ a = 59 → ¬ A a k) (c : CfC h T n) : CfC h' T n := ⟨c.g.fz F, by rw [F.I (o _ _ (by omega))]; exact c.e, c.x, fun k hk => by rw [F.I (o _ _ (by omega))]; exact c.t k hk, c.b⟩
theorem CtC.fz {A : Nat → Nat → Prop} {h h' : AH} {T : Nat → Int32} {n p : Nat} (F : Fz A h h') (o : ∀ a k, a = 58 ∧ (k = 6 ∨ k = 7 ∨ k = 8) → ¬ A a k) (c : CtC h T n p) : CtC h' T n p := ⟨c.x, by rw [F.I (o _ _ (by omega))]; exact c.a, by rw [F.I (o _ _ (by omega))]; exact c.f, by rw [F.I (o _ _ (by omega))]; exact c.s⟩
def StA : Nat → Nat → Prop := fun a k => a = 58 ∧ (k = 6 ∨ k = 7 ∨ k = 8)
theorem let_c {h : AH} {T : Nat → Int32} {n p : Nat} (c : CfC h T n) (hp : p ≤ n) (a6 : xI h 58 6 = nI p) (a7 : xI h 58 7 = nI p) : ∃ h', X6_step_B105 FU 58 h = X6_step_B157 58 h' ∧ Fz StA h h' ∧ CfC h' T n ∧ xI h' 58 6 = nI p ∧ xI h' 58 7 = nI (tkZ T n p) := by
  have nx := c.x
  obtain ⟨pa, pb, pc, pd⟩ := tkZ_b (T := T) hp
  have oC : ∀ a k, a = 58 ∧ k = 5 ∨ a = 59 → ¬ StA a k := fun a k => by unfold StA; omega
  have m7 : StA 58 7 := by unfold StA; omega
  obtain ⟨h1, ⟨F1, c1, a1, b1, _⟩, e1⟩ := loopE (F := fun n _ h => X6_step_B105 n 58 h) (E := fun h => X6_step_B157 58 h) (tkZ T n p) (fun k h' => Fz StA h h' ∧ CfC h' T n ∧ xI h' 58 6 = nI p ∧ xI h' 58 7 = nI k ∧ p ≤ k) (h := h) pa (by omega) ⟨Fz.rf, c, a6, a7, Nat.le_refl _⟩
    (by
      rintro m k h' hk ⟨F, c', a', b', ki⟩
      have q := pc k ki hk
      have tv : xI h' 59 (nI k).toNatClampNeg = T k := by rw [nI_cl (by omega)]; exact c'.t k (by omega)
      refine ⟨pI h' 58 7 (nI (k + 1)), ⟨F.tr (Fz.i m7), c'.fz (Fz.i m7) oC, by rw [xI_ne (by omega)]; exact a', xI_self, by omega⟩, ?_⟩
      show X6_step_B105 (m + 1) 58 h' = X6_step_B105 m 58 _
      rw [X6_step_B105, G_t c'.g.c58, c'.e, b', if_neg (by rw [nI_lI (by omega) (by omega)]; omega), G_t c'.g.c58, c'.g.r58_0, G_t c'.g.c59, c'.g.z59, G_gx (by omega) (by omega), tv, if_neg (Int32.not_lt.mpr q.1), G_t c'.g.c58, G_t c'.g.c59, G_gx (by omega) (by omega), if_neg (Int32.not_lt.mpr q.2), G_t c'.g.c58, nI_add, LT_e])
    (by
      rintro m h' ⟨F, c', a', b', ki⟩
      show X6_step_B105 (m + 1) 58 h' = _
      rw [X6_step_B105, G_t c'.g.c58, c'.e, b']
      by_cases q : n ≤ tkZ T n p
      · rw [if_pos (by rw [nI_lI (by omega) (by omega)]; exact q)]
      · rw [if_neg (by rw [nI_lI (by omega) (by omega)]; exact q), G_t c'.g.c58, c'.g.r58_0, G_t c'.g.c59, c'.g.z59, G_gx (by omega) (by omega), show xI h' 59 (nI (tkZ T n p)).toNatClampNeg = T (tkZ T n p) by rw [nI_cl (by omega)]; exact c'.t _ (by omega)]
        by_cases r : T (tkZ T n p) < nI 97
        · rw [if_pos r]
        · rw [if_neg r, G_t c'.g.c58, G_t c'.g.c59, G_gx (by omega) (by omega), if_pos (Int32.not_le.mp (fun z => pd (by omega) ⟨Int32.not_lt.mp r, z⟩))])
  exact ⟨h1, e1, F1, c1, a1, b1⟩
theorem step_c {h : AH} {T : Nat → Int32} {n i : Nat} (c : CfC h T n) (hi : i ≤ n) (ha : xI h 58 7 = nI i) : ∃ h', X6_step_f 58 h = some ((), h') ∧ Fz StA h h' ∧ CfC h' T n ∧ CtC h' T n (tkP T n i) := by
  have nx := c.x
  obtain ⟨pa, pb, pc, pd⟩ := tkP_b (T := T) hi
  have oC : ∀ a k, a = 58 ∧ k = 5 ∨ a = 59 → ¬ StA a k := fun a k => by unfold StA; omega
  have m6 : StA 58 6 := by unfold StA; omega
  have m7 : StA 58 7 := by unfold StA; omega
  have m8 : StA 58 8 := by unfold StA; omega
  obtain ⟨h1, ⟨F1, c1, a1, _⟩, e1⟩ := loopE (F := fun n _ h => X6_step_B8 n 58 h) (E := fun h => X6_step_B46 58 h) (tkP T n i) (fun k h' => Fz StA h h' ∧ CfC h' T n ∧ xI h' 58 6 = nI k ∧ i ≤ k) (h := pI h 58 6 (nI i)) pa (by omega) ⟨Fz.i m6, c.fz (Fz.i m6) oC, xI_self, Nat.le_refl _⟩
    (by
      rintro m k h' hk ⟨F, c', a', ki⟩
      refine ⟨pI h' 58 6 (nI (k + 1)), ⟨F.tr (Fz.i m6), c'.fz (Fz.i m6) oC, xI_self, by omega⟩, ?_⟩
      show X6_step_B8 (m + 1) 58 h' = X6_step_B8 m 58 _
      rw [X6_step_B8, G_t c'.g.c58, c'.e, a', if_neg (by rw [nI_lI (by omega) (by omega)]; omega), G_t c'.g.c58, c'.g.r58_0, G_t c'.g.c59, c'.g.z59, G_gx (by omega) (by omega), nI_cl (by omega), c'.t k (by omega), if_pos (pc k ki hk), G_t c'.g.c58, nI_add, LT_e])
    (by
      rintro m h' ⟨F, c', a', ki⟩
      show X6_step_B8 (m + 1) 58 h' = _
      rw [X6_step_B8, G_t c'.g.c58, c'.e, a']
      by_cases q : n ≤ tkP T n i
      · rw [if_pos (by rw [nI_lI (by omega) (by omega)]; exact q)]
      · rw [if_neg (by rw [nI_lI (by omega) (by omega)]; exact q), G_t c'.g.c58, c'.g.r58_0, G_t c'.g.c59, c'.g.z59, G_gx (by omega) (by omega), nI_cl (by omega), c'.t _ (by omega), if_neg (pd (by omega))])
  have hd : X6_step_f 58 h = X6_step_B46 58 h1 := by
    unfold X6_step_f
    rw [G_t c.g.c58, ha, LT_e]
    exact e1
  rw [hd]
  clear hd e1
  obtain ⟨p, hp⟩ : ∃ p, p = tkP T n i := ⟨_, rfl⟩
  rw [← hp] at pa pb pc pd a1 ⊢
  obtain ⟨h2, h2e⟩ : ∃ h2, h2 = pI h1 58 7 (nI p) := ⟨_, rfl⟩
  have F2 : Fz StA h h2 := by rw [h2e]; exact F1.tr (Fz.i m7)
  have c2 := c.fz F2 oC
  have a2 : xI h2 58 6 = nI p := by rw [h2e, xI_ne (by omega)]; exact a1
  have b2 : xI h2 58 7 = nI p := by rw [h2e, xI_self]
  unfold X6_step_B46
  rw [G_t c1.g.c58, a1, LT_e, ← h2e, G_t c2.g.c58, a2, c2.e]
  by_cases q : n ≤ p
  · rw [if_neg (by rw [nI_tI (by omega) (by omega)]; omega), G_t c2.g.c58, LT_e]
    refine ⟨_, rfl, F2.tr (Fz.i m8), c2.fz (Fz.i m8) oC, pb, by rw [xI_ne (by omega)]; exact a2, ?_, ?_⟩
    · rw [xI_ne (by omega), b2]; unfold tkA; rw [if_pos q]
    · rw [xI_self]; unfold tkK; rw [if_pos q]
  · rw [if_pos (by rw [nI_tI (by omega) (by omega)]; omega), G_t c2.g.c58, c2.g.r58_0, G_t c2.g.c59, c2.g.z59, G_gx (by omega) (by omega), nI_cl (by omega), c2.t p (by omega)]
    by_cases r : T p = nI 59
    · rw [if_pos r, G_t c2.g.c58, LT_e, G_t c2.g.i.c58, xI_ne (by omega), a2, nI_add, LT_e]
      refine ⟨_, rfl, (F2.tr (Fz.i m8)).tr (Fz.i m7), (c2.fz (Fz.i m8) oC).fz (Fz.i m7) oC, pb, by rw [xI_ne (by omega), xI_ne (by omega)]; exact a2, ?_, ?_⟩
      · rw [xI_self]; unfold tkA; rw [if_neg q, if_pos r]
      · rw [xI_ne (by omega), xI_self]; unfold tkK; rw [if_neg q, if_pos r]
    · rw [if_neg r]
      obtain ⟨h3, e3, F3, c3, a3, b3⟩ := let_c c2 pb a2 b2
      obtain ⟨za, zb, zc, zd⟩ := tkZ_b (T := T) pb
      rw [e3]
      unfold X6_step_B157
      rw [G_t c3.g.c58, a3, b3, pk_sub (by omega), LT_e]
      have fin : ∀ v, nI v = nI (tkK T n p) → ∃ h', X6_step_B184 (nI v) 58 h3 = some ((), h') ∧ Fz StA h h' ∧ CfC h' T n ∧ CtC h' T n p := fun v hv => by
        unfold X6_step_B184
        rw [G_t c3.g.c58, LT_e]
        refine ⟨_, rfl, (F2.tr F3).tr (Fz.i m8), c3.fz (Fz.i m8) oC, pb, by rw [xI_ne (by omega)]; exact a3, ?_, ?_⟩
        · rw [xI_ne (by omega), b3]; unfold tkA; rw [if_neg q, if_neg r]
        · rw [xI_self]; exact hv
      by_cases u : tkZ T n p - p < 1
      · rw [if_pos (by rw [nI_tI (by omega) (by omega)]; exact u)]
        exact fin 3 (by unfold tkK; rw [if_neg q, if_neg r, if_pos u])
      · rw [if_neg (by rw [nI_tI (by omega) (by omega)]; exact u)]
        by_cases w : 8 < tkZ T n p - p
        · rw [if_pos (by rw [nI_tI (by omega) (by omega)]; exact w)]
          exact fin 3 (by unfold tkK; rw [if_neg q, if_neg r, if_neg u, if_pos w])
        · rw [if_neg (by rw [nI_tI (by omega) (by omega)]; exact w)]
          exact fin 2 (by unfold tkK; rw [if_neg q, if_neg r, if_neg u, if_neg w])
