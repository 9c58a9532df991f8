theorem wdN_lt {f : Nat → Nat} : ∀ k, (∀ j, j < k → f j < 32) → wdN f k < 32 ^ k := by
  intro k
  induction k with
  | zero => intro _; exact Nat.one_pos
  | succ k ih =>
    intro h
    have := ih (fun j hj => h j (by omega))
    have := h k (by omega)
    rw [wdN, Nat.pow_succ]
    omega
theorem wdN_inj {f g : Nat → Nat} : ∀ k k', (∀ j, j < k → 1 ≤ f j ∧ f j < 32) → (∀ j, j < k' → 1 ≤ g j ∧ g j < 32) → wdN f k = wdN g k' → k = k' ∧ ∀ j, j < k → f j = g j := by
  intro k
  induction k with
  | zero =>
    intro k' _ hg e
    cases k' with
    | zero => exact ⟨rfl, fun j hj => absurd hj (Nat.not_lt_zero _)⟩
    | succ k' =>
      have := hg k' (by omega)
      rw [wdN, wdN] at e
      omega
  | succ k ih =>
    intro k' hf hg e
    have u := hf k (by omega)
    cases k' with
    | zero => rw [wdN, wdN] at e; omega
    | succ k' =>
      have v := hg k' (by omega)
      rw [wdN, wdN] at e
      obtain ⟨e1, e2⟩ := ih k' (fun j hj => hf j (by omega)) (fun j hj => hg j (by omega)) (by omega)
      subst e1
      refine ⟨rfl, fun j hj => ?_⟩
      by_cases q : j = k
      · subst q; omega
      · exact e2 j (by omega)
theorem wdN_cg {f g : Nat → Nat} : ∀ k, (∀ j, j < k → f j = g j) → wdN f k = wdN g k := by
  intro k
  induction k with
  | zero => intro _; rfl
  | succ k ih => intro h; rw [wdN, wdN, ih (fun j hj => h j (by omega)), h k (by omega)]
theorem lN_inj {a b : Nat} (ha : a < 2 ^ 40) (hb : b < 2 ^ 40) (h : lN a = lN b) : a = b := by
  have e : (lN a).toBitVec.toNat = (lN b).toBitVec.toNat := by rw [h]
  have ea : (lN a).toBitVec.toNat = a % 2 ^ 64 := rfl
  have eb : (lN b).toBitVec.toNat = b % 2 ^ 64 := rfl
  rw [ea, eb] at e
  omega
def sCh (s j : Nat) : Nat := (strT.getD s []).getD j 0
def sLt (s j : Nat) : Nat := sCh s j - 96
def wOf (s : Nat) : Int64 := lN (wdN (sLt s) (strL s))
theorem str_f : ∀ s, s < 17 → s < strT.length ∧ 1 ≤ strL s ∧ strL s ≤ 8 ∧ ∀ j, j < strL s → 97 ≤ sCh s j ∧ sCh s j ≤ 122 ∧ strC s (nI j) = nI (sCh s j) ∧ ((nI (sCh s j) - nI 97) + nI 1).toInt64 = lN (sLt s j) := by decide +kernel
theorem wordOf_m {h : AH} {s : Nat} (hs : s < 17) : X15_wordOf_f s h = some (wOf s, h) := by
  obtain ⟨s0, s1, s2, s3⟩ := str_f s hs
  obtain ⟨v, h', ⟨rfl, rfl⟩, e⟩ := loopEV (F := fun n k v h => X15_wordOf_B4 n s v (nI k) h) (E := fun v h => some (v, h)) (strL s) (fun k v h' => h' = h ∧ v = lN (wdN (sLt s) k)) (k := 0) (v := lN 0) (h := h) (Nat.zero_le _) (by omega) ⟨rfl, rfl⟩
    (by
      rintro n k v h' hk ⟨rfl, rfl⟩
      obtain ⟨_, _, u, w⟩ := s3 k hk
      refine ⟨_, _, ⟨rfl, rfl⟩, ?_⟩
      show X15_wordOf_B4 (n + 1) s _ (nI k) h' = X15_wordOf_B4 n s _ (nI (k + 1)) h'
      rw [X15_wordOf_B4, G_t s0, BN_ok, if_neg (by rw [nI_lI (by omega) (by omega)]; omega), G_t s0, G_gx hk (by omega), BN_ok, u, w, lN_ma, nI_add, LT_e, LT_e]
      rfl)
    (by
      rintro n v h' ⟨rfl, rfl⟩
      show X15_wordOf_B4 (n + 1) s _ (nI (strL s)) h' = _
      rw [X15_wordOf_B4, G_t s0, BN_ok, if_pos (by rw [nI_lI (by omega) (by omega)]; omega)])
  exact e
def isW (T : Nat → Int32) (n p s : Nat) : Bool := decide (tkK T n p = 2 ∧ wdV T n p = wOf s)
theorem ltN_b {T : Nat → Int32} {n p : Nat} (b : ∀ k, k < n → byt (T k)) (k : tkK T n p = 2) : ∀ j, j < tkA T n p - p → T (p + j) = nI (ltN T p j + 96) ∧ 1 ≤ ltN T p j ∧ ltN T p j ≤ 26 ∧ ((T (p + j) - nI 97) + nI 1).toInt64 = lN (ltN T p j) := by
  intro j hj
  obtain ⟨k1, k2, k3, k4⟩ := tkK_2 k
  obtain ⟨za, zb, zc, zd⟩ := tkZ_b (T := T) (show p ≤ n by omega)
  obtain ⟨_, _, a, b, c, d⟩ := byt_lt (b (p + j) (by omega)) (zc (p + j) (by omega) (by omega))
  exact ⟨a, b, c, d⟩
theorem isW_iff {T : Nat → Int32} {n p s : Nat} (b : ∀ k, k < n → byt (T k)) (k : tkK T n p = 2) (hs : s < 17) : wdV T n p = wOf s ↔ tkA T n p - p = strL s ∧ ∀ j, j < strL s → T (p + j) = strC s (nI j) := by
  obtain ⟨s0, s1, s2, s3⟩ := str_f s hs
  obtain ⟨k1, k2, k3, k4⟩ := tkK_2 k
  have lb := ltN_b b k
  constructor
  · intro e
    have u : wdN (ltN T p) (tkA T n p - p) < 2 ^ 40 := by
      refine Nat.lt_of_lt_of_le (wdN_lt _ (fun j hj => by have := lb j hj; omega)) ?_
      exact Nat.le_trans (Nat.pow_le_pow_right (by decide) (show tkA T n p - p ≤ 8 by omega)) (by decide)
    have v : wdN (sLt s) (strL s) < 2 ^ 40 := by
      refine Nat.lt_of_lt_of_le (wdN_lt _ (fun j hj => by have := s3 j hj; unfold sLt; omega)) ?_
      exact Nat.le_trans (Nat.pow_le_pow_right (by decide) s2) (by decide)
    obtain ⟨e1, e2⟩ := wdN_inj _ _ (fun j hj => by have := lb j hj; omega) (fun j hj => by have := s3 j hj; unfold sLt; omega) (lN_inj u v e)
    refine ⟨e1, fun j hj => ?_⟩
    have a := lb j (by omega)
    have c := s3 j hj
    have d := e2 j (by omega)
    rw [a.1, c.2.2.1, d]
    unfold sLt
    congr 1
    omega
  · rintro ⟨e1, e2⟩
    unfold wdV wOf
    rw [e1]
    congr 1
    refine wdN_cg _ (fun j hj => ?_)
    have a := lb j (by omega)
    have c := s3 j hj
    have d := e2 j hj
    rw [a.1, c.2.2.1, nI_eI (by omega) (by omega)] at d
    unfold sLt
    omega
theorem isWord_m {h : AH} {T : Nat → Int32} {n p s : Nat} (c : CfM h T n) (t : CtM h T n p) (hs : s < 17) : X15_isWord_f 195 s h = some (bI (isW T n p s), h) := by
  unfold X15_isWord_f isW
  rw [G_t c.g.c195, t.s]
  by_cases k : tkK T n p = 2
  · rw [if_pos (by rw [k]; rfl), G_t c.g.c195, wordOf_m hs, BN_ok, t.w k]
    by_cases w : wdV T n p = wOf s
    · rw [if_pos (cmpE.mpr w), decide_eq_true ⟨k, w⟩]; rfl
    · rw [if_neg (fun z => w (cmpE.mp z)), decide_eq_false (fun z => w z.2)]; rfl
  · have : ¬ nI (mSo (tkK T n p)) = nI 2 := by
      unfold mSo
      by_cases a : tkK T n p = 0
      · rw [if_pos a]; decide
      · rw [if_neg a]
        by_cases d : tkK T n p = 1
        · rw [if_pos d]; decide
        · rw [if_neg d, if_neg k]; decide
    rw [if_neg this, decide_eq_false (fun z => k z.1)]; rfl
theorem tkK_le {T : Nat → Int32} {n p : Nat} : tkK T n p ≤ 3 := by
  unfold tkK
  by_cases a : n ≤ p
  · rw [if_pos a]; decide
  · rw [if_neg a]
    by_cases b : T p = nI 59
    · rw [if_pos b]; decide
    · rw [if_neg b]
      by_cases c : tkZ T n p - p < 1
      · rw [if_pos c]; decide
      · rw [if_neg c]
        by_cases d : 8 < tkZ T n p - p
        · rw [if_pos d]; decide
        · rw [if_neg d]; decide
theorem spells_c {h : AH} {T : Nat → Int32} {n p s : Nat} (c : CfC h T n) (t : CtC h T n p) (hs : s < 17) : X6_spells_f 58 s h = some (bI (isW T n p s), h) := by
  have nx := c.x
  have px := t.x
  have kl := tkK_le (T := T) (n := n) (p := p)
  obtain ⟨s0, s1, s2, s3⟩ := str_f s hs
  obtain ⟨ta, tb⟩ := tkA_b (T := T) px
  unfold X6_spells_f isW
  rw [G_t c.g.c58, t.s]
  by_cases k : tkK T n p = 2
  · obtain ⟨k1, k2, k3, k4⟩ := tkK_2 k
    have ii := isW_iff c.b k hs
    rw [if_pos (by rw [k]), G_t c.g.c58, G_t s0, BN_ok, t.f, t.a, pk_sub ta]
    by_cases l : tkA T n p - p = strL s
    · rw [if_pos (by rw [l])]
      refine loopH (F := fun n k h => X6_spells_B28 n 58 s (nI k) h) (strL s) (fun j h' => h' = h ∧ ∀ i, i < j → T (p + i) = strC s (nI i)) (fun o => o = some (bI (decide (tkK T n p = 2 ∧ wdV T n p = wOf s)), h)) ?_ ?_ (Nat.zero_le _) (FU_gt (by omega)) ⟨rfl, fun i hi => absurd hi (Nat.not_lt_zero _)⟩
      · rintro m j h' hj ⟨rfl, a⟩
        have hd : X6_spells_B28 (m + 1) 58 s (nI j) h' = if T (p + j) = strC s (nI j) then X6_spells_B28 m 58 s (nI (j + 1)) h' else some (nI 0, h') := by
          rw [X6_spells_B28, G_t s0, BN_ok, if_neg (by rw [nI_lI (by omega) (by omega)]; omega), G_t c.g.c58, c.g.r58_0, G_t c.g.c59, c.g.z59, t.a, nI_add, G_gx (by omega) (by omega), G_t s0, G_gx hj (by omega), BN_ok, nI_cl (by omega), c.t _ (by omega), nI_add, LT_e]
        by_cases e : T (p + j) = strC s (nI j)
        · refine .inl ⟨h', ⟨rfl, fun i hi => ?_⟩, by show X6_spells_B28 (m + 1) 58 s (nI j) h' = _; rw [hd, if_pos e]⟩
          by_cases q : i = j
          · rw [q]; exact e
          · exact a i (by omega)
        · refine .inr ?_
          show X6_spells_B28 (m + 1) 58 s (nI j) h' = _
          rw [hd, if_neg e, decide_eq_false (fun z => e ((ii.mp z.2).2 j hj))]; rfl
      · rintro m h' ⟨rfl, a⟩
        show X6_spells_B28 (m + 1) 58 s (nI (strL s)) h' = _
        rw [X6_spells_B28, G_t s0, BN_ok, if_pos (by rw [nI_lI (by omega) (by omega)]; omega), decide_eq_true ⟨k, ii.mpr ⟨l, a⟩⟩]; rfl
    · rw [if_neg (by rw [nI_eI (by omega) (by omega)]; exact l), decide_eq_false (fun z => l (ii.mp z.2).1)]; rfl
  · rw [if_neg (by rw [nI_eI (by omega) (by omega)]; exact k), decide_eq_false (fun z => k z.1)]; rfl
theorem spelling_c {h : AH} {T : Nat → Int32} {n p : Nat} (c : CfC h T n) (t : CtC h T n p) (k : tkK T n p = 2) : X6_spelling_f 58 h = some (wdV T n p, h) := by
  have nx := c.x
  have px := t.x
  obtain ⟨ta, tb⟩ := tkA_b (T := T) px
  have lb := ltN_b c.b k
  unfold X6_spelling_f
  rw [LT_e, G_t c.g.c58, t.a, LT_e]
  obtain ⟨v, h', ⟨rfl, rfl⟩, e⟩ := loopEV (F := fun m j v h => X6_spelling_B7 m 58 v (nI (p + j)) h) (E := fun v h => some (v, h)) (tkA T n p - p) (fun j v h' => h' = h ∧ v = lN (wdN (ltN T p) j)) (k := 0) (v := lN 0) (h := h) (Nat.zero_le _) (by omega) ⟨rfl, rfl⟩
    (by
      rintro m j v h' hj ⟨rfl, rfl⟩
      obtain ⟨_, _, _, w⟩ := lb j hj
      refine ⟨_, _, ⟨rfl, rfl⟩, ?_⟩
      show X6_spelling_B7 (m + 1) 58 _ (nI (p + j)) h' = X6_spelling_B7 m 58 _ (nI (p + (j + 1))) h'
      rw [X6_spelling_B7, G_t c.g.c58, t.f, if_neg (by rw [nI_lI (by omega) (by omega)]; omega), G_t c.g.c58, c.g.r58_0, G_t c.g.c59, c.g.z59, G_gx (by omega) (by omega), nI_cl (by omega), c.t _ (by omega), w, Int64.mul_comm, lN_ma, nI_add, LT_e, LT_e]
      rfl)
    (by
      rintro m v h' ⟨rfl, rfl⟩
      show X6_spelling_B7 (m + 1) 58 _ (nI (p + (tkA T n p - p))) h' = _
      rw [X6_spelling_B7, G_t c.g.c58, t.f, if_pos (by rw [nI_lI (by omega) (by omega)]; omega)])
  exact e
theorem ifB {α : Type} {x y : α} {b : Bool} : (if bI b = 0 then x else y) = if b then y else x := by cases b <;> rfl
def isN (T : Nat → Int32) (n p : Nat) : Bool := decide (tkK T n p = 2) && !(isW T n p 6 || (isW T n p 13 || (isW T n p 2 || (isW T n p 14 || (isW T n p 15 || (isW T n p 12 || (isW T n p 9 || (isW T n p 0 || (isW T n p 11 || (isW T n p 1 || isW T n p 4))))))))))
theorem isN_if {α : Type} {x y : α} {a1 a2 a3 a4 a5 a6 a7 a8 a9 a10 a11 : Bool} : (if a1 then y else if a2 then y else if a3 then y else if a4 then y else if a5 then y else if a6 then y else if a7 then y else if a8 then y else if a9 then y else if a10 then y else if a11 then y else x) = if (!(a1 || (a2 || (a3 || (a4 || (a5 || (a6 || (a7 || (a8 || (a9 || (a10 || a11)))))))))) : Bool) then x else y := by
  cases a1; case true => rfl
  cases a2; case true => rfl
  cases a3; case true => rfl
  cases a4; case true => rfl
  cases a5; case true => rfl
  cases a6; case true => rfl
  cases a7; case true => rfl
  cases a8; case true => rfl
  cases a9; case true => rfl
  cases a10; case true => rfl
  cases a11 <;> rfl
theorem isName_c {h : AH} {T : Nat → Int32} {n p : Nat} (c : CfC h T n) (t : CtC h T n p) : X6_isName_f 58 h = some (bI (isN T n p), h) := by
  have kl := tkK_le (T := T) (n := n) (p := p)
  unfold X6_isName_f isN
  rw [G_t c.g.c58, t.s]
  by_cases k : tkK T n p = 2
  · rw [if_pos (by rw [k]), decide_eq_true k]
    simp only [G_t c.g.c58, spells_c c t (show 6 < 17 by decide), spells_c c t (show 13 < 17 by decide), spells_c c t (show 2 < 17 by decide), spells_c c t (show 14 < 17 by decide), spells_c c t (show 15 < 17 by decide), spells_c c t (show 12 < 17 by decide), spells_c c t (show 9 < 17 by decide), spells_c c t (show 0 < 17 by decide), spells_c c t (show 11 < 17 by decide), spells_c c t (show 1 < 17 by decide), spells_c c t (show 4 < 17 by decide), BN_ok, ifB]
    rw [isN_if, Bool.true_and]
    generalize (!(isW T n p 6 || (isW T n p 13 || (isW T n p 2 || (isW T n p 14 || (isW T n p 15 || (isW T n p 12 || (isW T n p 9 || (isW T n p 0 || (isW T n p 11 || (isW T n p 1 || isW T n p 4)))))))))) : Bool) = u
    cases u <;> rfl
  · rw [if_neg (by rw [nI_eI (by omega) (by omega)]; exact k), decide_eq_false k]; rfl
theorem isName_m {h : AH} {T : Nat → Int32} {n p : Nat} (c : CfM h T n) (t : CtM h T n p) : X15_isName_f 195 h = some (bI (isN T n p), h) := by
  unfold X15_isName_f isN
  rw [G_t c.g.c195, t.s]
  by_cases k : tkK T n p = 2
  · rw [if_pos (by rw [k]; rfl), decide_eq_true k]
    simp only [G_t c.g.c195, isWord_m c t (show 6 < 17 by decide), isWord_m c t (show 13 < 17 by decide), isWord_m c t (show 2 < 17 by decide), isWord_m c t (show 14 < 17 by decide), isWord_m c t (show 15 < 17 by decide), isWord_m c t (show 12 < 17 by decide), isWord_m c t (show 9 < 17 by decide), isWord_m c t (show 0 < 17 by decide), isWord_m c t (show 11 < 17 by decide), isWord_m c t (show 1 < 17 by decide), isWord_m c t (show 4 < 17 by decide), BN_ok, ifB]
    rw [isN_if, Bool.true_and]
    generalize (!(isW T n p 6 || (isW T n p 13 || (isW T n p 2 || (isW T n p 14 || (isW T n p 15 || (isW T n p 12 || (isW T n p 9 || (isW T n p 0 || (isW T n p 11 || (isW T n p 1 || isW T n p 4)))))))))) : Bool) = u
    cases u <;> rfl
  · have : ¬ nI (mSo (tkK T n p)) = nI 2 := by
      unfold mSo
      by_cases a : tkK T n p = 0
      · rw [if_pos a]; decide
      · rw [if_neg a]
        by_cases d : tkK T n p = 1
        · rw [if_pos d]; decide
        · rw [if_neg d, if_neg k]; decide
    rw [if_neg this, decide_eq_false k]; rfl
