section
variable {h : AH} {a b : Nat} {p : PR} {f : FL}
theorem isDown_c {m t : Nat} (i : IsTr h a p f) (hm : m < p.1 0 0) (wm : p.1 0 0 ≤ 4) (ht : t ≤ pl p) (hx : pl p ≤ 6) : X8_isDown_f a (nI m) (nI t) h = some (bI (fD f m t), h) := by
  unfold X8_isDown_f
  simp (disch := omega) only [LT_e, G_T, BN_ok, if_true, if_false, i.s.c, i.s.r1, i.s.c2, i.s.z2, nI_add, pk_mul, G_gx, nI_cl, nI_lI, nI_tI, nI_eI, nI_z, b_test0n, i.D m t hm ht]
  cases fD f m t <;> rfl
theorem stB_le {s u : Nat} : stB p f s u ≤ 4 := by
  unfold stB
  repeat' split
  all_goals omega
theorem comesIn_c {s u t : Nat} (i : IsTr h a p f) (hs : s < p.1 4 0) (ws : p.1 4 0 ≤ 6) (hu : u < pl p) (hx : pl p ≤ 6) (ht : t ≤ 6) : X8_comesIn_f a (nI s) (nI u) (nI t) h = some (bI (cbB p f s u t), h) := by
  have h4 := stB_le (p := p) (f := f) (s := s) (u := u)
  unfold X8_comesIn_f X8_comesIn_B26 X8_comesIn_B41 cbB
  simp (disch := omega) only [LT_e, G_T, BN_ok, if_true, if_false, i.s.c, i.s.r3, i.s.c4, i.s.z4, nI_add, pk_mul, G_gx, nI_cl, nI_lI, nI_tI, nI_eI, i.W s u hs hu]
  generalize stB p f s u = x
  by_cases h1 : x = 1
  · subst h1
    by_cases h2 : u + 1 = t
    · simp [h2, bI]
    · simp [h2, bI]
  · by_cases h3 : x = 3
    · subst h3
      by_cases h2 : u + 1 + 2 = t
      · have : u + 3 = t := h2
        simp [h2, this, bI]
      · have : ¬ u + 3 = t := h2
        simp [h2, this, bI]
    · simp [h1, h3, bI]
theorem ag_pos {s u : Nat} (q : agB p f s u = true) : 0 < u := by
  unfold agB sntB at q
  simp only [Bool.and_eq_true, Bool.or_eq_true, Bool.not_eq_true'] at q
  rcases q with ⟨q | q, q2⟩
  · rw [q2] at q; cases q
  · exact of_decide_eq_true q.1.1.2
theorem caseTick_c {s u : Nat} (i : IsTr h a p f) (hs : s < p.1 4 0) (ws : p.1 4 0 ≤ 6) (hu : u < pl p) (hx : pl p ≤ 6) : X8_caseTick_f a (nI s) (nI u) h = some (nI (ctK p f s u), h) := by
  unfold X8_caseTick_f ctK
  simp (disch := omega) only [LT_e, G_T, BN_ok, if_true, if_false, i.s.c, i.s.r2, i.s.c3, i.s.z3, nI_add, pk_mul, G_gx, nI_cl, nI_lI, nI_tI, nI_eI]
  rw [b_test (by omega), i.A s u hs hu]
  cases q : agB p f s u
  · rw [if_neg (by decide), if_neg (by decide)]
    rw [show nI u - 0 = nI u by rw [show (0 : Int32) = nI 0 from rfl, pk_sub (by omega)]; rfl]
  · rw [if_pos rfl, if_pos rfl]
    have := ag_pos q
    rw [show nI u - 1 = nI (u - 1) by rw [show (1 : Int32) = nI 1 from rfl, pk_sub (by omega)]]
theorem tickAhead_c {m t : Nat} (i : IsTr h a p f) (hm : m < p.1 0 0) (wm : p.1 0 0 ≤ 4) (ht : t ≤ pl p) (hx : pl p ≤ 6) : X8_tickAhead_f a (nI m) (nI t) h = some (nI (kf f m t) - nI 1, h) := by
  have loop : ∀ n u, u ≤ pl p → u < n → X8_tickAhead_B4 n a (nI m) (nI u - nI 1) h = some (nI (kf f m u) - nI 1, h) := by
    intro n
    induction n with
    | zero => intro u _ h; exact absurd h (Nat.not_lt_zero _)
    | succ n ih =>
      intro u hu hn
      cases u with
      | zero =>
        rw [X8_tickAhead_B4, if_pos (by decide)]; rfl
      | succ u =>
        have e1 : nI (u + 1) - nI 1 = nI u := by rw [pk_sub (by omega)]; rfl
        have e2 : ¬ nI u < 0 := nI_pos (by omega)
        have e3 : nI u + -1 = nI u - nI 1 := by rw [Int32.sub_eq_add_neg]; rfl
        rw [e1, X8_tickAhead_B4, if_neg e2, G_t i.s.c, isDown_c i hm wm (by omega) hx, BN_ok, kf, LT_e, e3]
        cases fD f m u
        · rw [if_pos (by decide), if_neg (by decide), e1]
        · rw [if_neg (by decide), if_pos rfl]; exact ih u (by omega) (by omega)
  unfold X8_tickAhead_f
  rw [LT_e]
  exact loop FU t (by omega) (FU_gt (by omega))
theorem rows_c {m t : Nat} {c : Nat} {bare : Bool} (i : IsTr h a p f) (w : WC p.1 c) (wr : p.1 1 0 ≤ 10) (hm : m < p.1 0 0) (ht : t ≤ pl p) : cH p.1 c bare (bt (xI h (a + 1) (t * 4 + m))) = cH p.1 c bare (Tz p f t m) :=
  cH_congr w (fun r hr => by rw [i.T t m ht hm r (by omega), decide_eq_true hr, Bool.true_and])
def bxN (p : PR) (f : FL) (k m t : Nat) : Bool := p.1 13 k == 0 && isF p.1 k m && decide (0 < t) && (!fD f m (t - 1) && cH p.1 k false (Tz p f (t - 1) m))
theorem bringsNext_c {m t k : Nat} (i : IsTr h a p f) (q : IsCB h b p.1) (hk : k < p.1 3 0) (hm : m < p.1 0 0) (ht : t ≤ pl p) (hx : pl p ≤ 6) : X8_bringsNext_f a (b + 8 + 3 * k) (nI m) (nI t) h = some (bI (bxN p f k m t), h) := by
  have w := q.w
  have wm := w.m
  have wr := w.r
  have wu := w.u
  have wc := w.ru k hk
  have wp := wc.pl
  have wn := w.nw k hk
  have cl := q.ru k hk
  unfold X8_bringsNext_f bxN
  rw [G_t cl.s.c, cl.now (by omega)]
  by_cases h0 : p.1 13 k = 0
  · rw [h0, if_pos (by decide), G_t cl.s.c, isFor_ok cl (by omega) (by omega), BN_ok]
    cases hf : isF p.1 k m
    · rw [if_pos (by decide)]; rfl
    · rw [if_pos rfl, if_neg (by decide)]
      by_cases ht0 : t = 0
      · subst ht0; rw [if_pos (by decide)]; rfl
      · have e7 : nI t - nI 1 = nI (t - 1) := pk_sub (by omega)
        rw [if_neg (nI_nle (by omega) (by omega)), G_t i.s.c, e7, isDown_c i hm wm (by omega) hx, BN_ok, decide_eq_true (by omega : 0 < t)]
        cases hd : fD f m (t - 1)
        · rw [if_pos (by decide), G_t i.s.c, cell_ok, BN_ok, i.s.r0, G_t i.s.c1, i.s.z1, G_gx (by omega) (by omega), nI_cl (by omega), G_t cl.s.c, holdsAmong_ok cl wc wr, BN_ok, rows_c i wc wr hm (by omega)]
          show (if (if cH p.1 k false (Tz p f (t - 1) m) = true then nI 1 else nI 0) = 0 then _ else _) = _
          cases cH p.1 k false (Tz p f (t - 1) m) <;> rfl
        · rw [if_neg (by decide)]; rfl
  · have h1 : p.1 13 k = 1 := by omega
    rw [h1, if_neg (by decide)]; rfl
def bwN (p : PR) (f : FL) (k m t : Nat) : Bool := p.1 13 k == 1 && isF p.1 k m && cH p.1 k false (Tz p f t m)
theorem bringsNow_c {m t k : Nat} (i : IsTr h a p f) (q : IsCB h b p.1) (hk : k < p.1 3 0) (hm : m < p.1 0 0) (ht : t ≤ pl p) (hx : pl p ≤ 6) : X8_bringsNow_f a (b + 8 + 3 * k) (nI m) (nI t) h = some (bI (bwN p f k m t), h) := by
  have w := q.w
  have wm := w.m
  have wr := w.r
  have wu := w.u
  have wc := w.ru k hk
  have wp := wc.pl
  have wn := w.nw k hk
  have cl := q.ru k hk
  unfold X8_bringsNow_f bwN
  rw [G_t cl.s.c, cl.now (by omega)]
  by_cases h0 : p.1 13 k = 0
  · rw [h0, if_pos (by decide)]; rfl
  · have h1 : p.1 13 k = 1 := by omega
    rw [h1, if_neg (by decide), G_t cl.s.c, isFor_ok cl (by omega) (by omega), BN_ok]
    cases hf : isF p.1 k m
    · rw [if_pos (by decide)]; rfl
    · rw [if_pos rfl, if_neg (by decide), G_t i.s.c, cell_ok, BN_ok, i.s.r0, G_t i.s.c1, i.s.z1, G_gx (by omega) (by omega), nI_cl (by omega), G_t cl.s.c, holdsAmong_ok cl wc wr, BN_ok, rows_c i wc wr hm (by omega)]
      show (if (if cH p.1 k false (Tz p f t m) = true then nI 1 else nI 0) = 0 then _ else _) = _
      cases cH p.1 k false (Tz p f t m) <;> rfl
end
