theorem leastLink_c {v : Int32} {h : AH} {X : Nat → Bool} {m t : Nat} (hv : ∀ r, r < 32 → bt v r = (decide (r < 10) && X r)) : X8_leastLink_f (nI t) (nI m) v h = some (leV (lnk X m t), h) := by
  unfold X8_leastLink_f lnk
  by_cases e : v = 0
  · rw [if_pos e, fsT_z hv e]; rfl
  · obtain ⟨r, hr, _, _, ez⟩ := ntz_X (h := h) hv e
    rw [if_neg e, ez, BN_ok, hr]
    unfold X8_linkOf_f
    rw [BN_ok, pk_mul, pk_mul, nI_add, nI_add]; rfl
theorem linked_m {v : Int32} {h : AH} {X : Nat → Bool} {m t : Nat} (hv : ∀ r, r < 10 → bt v r = X r) : X15_linked_f v (nI m) (nI t) h = some (leV (lnk X m t), h) := by
  unfold X15_linked_f lnk
  rw [leastRow_m hv, BN_ok]
  cases e : fsT X with
  | none => rw [if_pos leV_none]; rfl
  | some r =>
    have := fsF_some 10 0 r e
    show (if nI r = -1 then _ else _) = _
    rw [if_neg (by rw [nI_m1 (by omega)]; exact id)]
    show some (nI 1000 * nI t + nI 100 * nI m + nI r, h) = _
    rw [pk_mul, pk_mul, nI_add, nI_add]; rfl
/-- the first link -/
def frL (p : PR) (f : FL) : Nat → Nat → Option Nat
  | _, 0 => none
  | k, n + 1 => if Tz p f (pl p) (p.1 65 k) (p.1 64 k) then some (1000 * pl p + 100 * p.1 65 k + p.1 64 k) else frL p f (k + 1) n
theorem frL_ok {p : PR} {f : FL} (w : WB p.1) : ∀ n k c, k + n ≤ p.1 61 0 → frL p f k n = some c → LKp p f c := by
  intro n
  induction n with
  | zero => intro k c _ h; exact nomatch h
  | succ n ih =>
    intro k c hk h
    rw [frL] at h
    split at h
    · next e =>
      injection h with h
      rw [← h]
      exact lk_mk w (Nat.le_refl _) (w.oa k (by omega)) (w.or k (by omega)) e
    · exact ih (k + 1) c (by omega) h
theorem firstLink_c {h : AH} {b a : Nat} {p : PR} {f : FL} (C : LrX h b a p f) : X8_firstLink_f a 62 h = some (leV (frL p f 0 (p.1 61 0)), h) := by
  have no := C.q.w.no
  have wm := C.q.w.m
  have wr := C.q.w.r
  have hx := C.x
  have loop : ∀ n k, k ≤ p.1 61 0 → p.1 61 0 - k < n → X8_firstLink_B2 n a 62 (nI k) h = some (leV (frL p f k (p.1 61 0 - k)), h) := by
    intro n
    induction n with
    | zero => intro k _ hn; exact absurd hn (Nat.not_lt_zero _)
    | succ n ih =>
      intro k hk hn
      rw [X8_firstLink_B2]
      rw [G_t C.w.c, C.w.bk, G_t C.q.s.c, C.q.no]
      rcases Nat.lt_or_ge k (p.1 61 0) with q | q
      · have ho := C.q.w.or k q
        have ha := C.q.w.oa k q
        have cl : xI h (b + 7) (nI k).toNatClampNeg = nI (p.1 65 k * 10 + p.1 64 k) := by rw [nI_cl (by omega)]; exact C.q.be k q
        have dv : nI (p.1 65 k * 10 + p.1 64 k) / nI 10 = nI (p.1 65 k) := by rw [pk_div (by omega) (by omega) (by omega), show (p.1 65 k * 10 + p.1 64 k) / 10 = p.1 65 k by omega]
        have dr : nI (p.1 65 k * 10 + p.1 64 k) - nI (p.1 65 k) * nI 10 = nI (p.1 64 k) := by rw [pk_mul, pk_sub (by omega), show p.1 65 k * 10 + p.1 64 k - p.1 65 k * 10 = p.1 64 k by omega]
        rw [if_neg (by rw [nI_lI (by omega) (by omega)]; omega), G_t C.w.c, G_t C.q.s.c, C.q.s.r13, G_t C.q.s.c7, C.q.s.z7, G_gx (by omega) (by omega), cl, dv, LT_e, G_gx (by omega) (by omega), dr, LT_e, G_t C.t.s.c, C.w.l, isThere_c C.t (Nat.le_refl _) hx ha wm ho wr, BN_ok, show p.1 61 0 - k = (p.1 61 0 - (k + 1)) + 1 by omega, frL]
        cases Tz p f (pl p) (p.1 65 k) (p.1 64 k)
        · rw [if_pos (by decide), LT_e, nI_add, ih (k + 1) (by omega) (by omega)]; rfl
        · rw [if_neg (by decide)]
          unfold X8_firstLink_B54 X8_linkOf_f
          rw [G_t C.w.c, BN_ok, C.w.l, pk_mul, pk_mul, nI_add, nI_add]; rfl
      · have : k = p.1 61 0 := by omega
        subst this
        rw [if_pos (by rw [nI_lI (by omega) (by omega)]; omega), Nat.sub_self]; rfl
  exact loop FU 0 (Nat.zero_le _) (FU_gt (by omega))
theorem ask10 {B : BK} {c r : Nat} (w : WB B) (wc : WC B c) (hr : r < 32) : askB B c r = (decide (r < 10) && askB B c r) := by
  cases e : askB B c r
  · rw [Bool.and_false]
  · unfold askB at e
    rw [List.any_eq_true] at e
    obtain ⟨i, hi, e⟩ := e
    have hi := List.mem_range.mp hi
    rw [Bool.and_eq_true, beq_iff_eq] at e
    have := wc.cr i hi
    have := w.r
    rw [decide_eq_true (by omega)]; rfl
theorem linkBehind_c {h : AH} {b a c : Nat} {p : PR} {f : FL} (C : LrX h b a p f) (k : LKp p f c) : ∃ h', X8_linkBehind_f a 62 (nI c) h = some (leV (nxC p f c), h') ∧ Fz (LrA a) h h' := by
  have w := C.q.w
  have wm := w.m
  have wr := w.r
  have wu := w.u
  have ws := w.s
  have hx := C.x
  obtain ⟨k1, k2, k3, k4⟩ := k
  have c7 : c < 7000 := by omega
  obtain ⟨v, L, e, hv, en⟩ := nxC_v w ⟨k1, k2, k3, k4⟩
  obtain ⟨h5, e5, F5, q5⟩ := list_ok C k3 k2 k1
  have C5 := C.fz F5
  rw [e] at q5
  have q0 := q5.2 0 (by show 0 < L.length + 1; omega)
  have q0 : xI h5 (a + 5) 0 = nI v := q0
  have ql : xI h5 a 5 ≠ 0 := by
    have len := rTo_len (p := p) (f := f) (r := c % 100) (m := c / 100 % 10) (t := c / 1000) w
    rw [e] at len
    have len : L.length + 1 ≤ 24 := len
    rw [q5.1]
    exact nI_ne0 (by show 0 < L.length + 1; omega) (by show L.length + 1 < _; omega)
  refine ⟨h5, ?_, F5⟩
  have d1 : nI c / nI 1000 = nI (c / 1000) := pk_div (by omega) (by omega) (by omega)
  have d2 : nI c / nI 100 = nI (c / 100) := pk_div (by omega) (by omega) (by omega)
  have d3 : nI (c / 100) - nI (c / 100) / nI 10 * nI 10 = nI (c / 100 % 10) := pk_rem (by omega) (by omega) (by omega)
  have d4 : nI c - nI (c / 100) * nI 100 = nI (c % 100) := by rw [← d2]; exact pk_rem (by omega) (by omega) (by omega)
  have cl : xI h5 (a + 5) (nI 0).toNatClampNeg = nI v := by rw [nI_cl (by omega)]; exact q0
  have vb : v < 5000 := by
    rcases rsn_mem hv with h | ⟨s, u, h, hs, hu, hc⟩ | ⟨u, h, hu, hc⟩ | ⟨c, h, hc, hb⟩ | ⟨c, h, hc, hb⟩ <;> omega
  have d5 : nI v - nI v / nI 1000 * nI 1000 = nI (v % 1000) := pk_rem (by omega) (by omega) (by omega)
  have d6 : nI v / nI 1000 = nI (v / 1000) := pk_div (by omega) (by omega) (by omega)
  unfold X8_linkBehind_f
  rw [d2, d1, d3, d4, LT_e, LT_e, LT_e, G_t C.t.s.c, e5, BN_ok, G_t C5.t.s.c, if_neg ql, G_t C5.t.s.c, C5.t.s.r4, G_t C5.t.s.c5, C5.t.s.z5, G_gx (by omega) (by omega), cl, d5, LT_e, G_gx (by omega) (by omega), d6, pk_mul, en]
  rcases rsn_mem hv with h' | ⟨s, u, h', hs, hu, hc⟩ | ⟨u, h', hu, hc⟩ | ⟨c', h', hc, hb⟩ | ⟨c', h', hc, hb⟩
  · have en2 : nxV p f (c / 1000) (c / 100 % 10) (c % 100) v = none := by unfold nxV; rw [if_pos (by omega)]
    rw [en2, h', if_neg (by decide), if_neg (by decide), if_neg (by decide), if_neg (by decide)]; rfl
  · have e1 : (v - 1000) / 10 = s := by omega
    have e2 : v % 10 = u := by omega
    have e3 : v / 1000 * 1000 = 1000 := by omega
    have e4 : v % 1000 = 10 * s + u := by omega
    have e5 : nI (10 * s + u) / nI 10 = nI s := by rw [pk_div (by omega) (by omega) (by omega), show (10 * s + u) / 10 = s by omega]
    have e6 : nI (10 * s + u) - nI s * nI 10 = nI u := by rw [pk_mul, pk_sub (by omega), show 10 * s + u - s * 10 = u by omega]
    have cs := C5.q.se s hs
    have sp := w.sp s hs
    have e7 : nI (p.1 11 (10 + s)) - nI 1 = nI (p.1 11 (10 + s) - 1) := pk_sub sp
    have cl2 : xR h5 (b + 5) (nI s).toNatClampNeg = b + 38 + 3 * s := by rw [nI_cl (by omega)]; exact C5.q.s.se s (by omega)
    have en2 : nxV p f (c / 1000) (c / 100 % 10) (c % 100) v = lnk (askB p.1 (10 + s)) (p.1 11 (10 + s) - 1) (ctK p f s u) := by unfold nxV; rw [if_neg (by omega), if_pos (by omega), e1, e2]
    rw [en2, e3, e4, if_pos rfl, G_t C5.w.c, C5.w.bk, G_t C5.q.s.c, C5.q.s.r11, G_t C5.q.s.c5, C5.q.s.z5, e5, G_gx (by omega) (by omega), cl2, LT_e, G_t C5.t.s.c, e6, caseTick_c C5.t hs ws (by omega) hx, BN_ok, G_t cs.s.c, cs.pl, e7, leastLink_c (X := askB p.1 (10 + s)) (fun r hr => by rw [cs.ask r hr]; exact ask10 w (w.se s hs) hr), BN_ok]
  · have e3 : v / 1000 * 1000 = 2000 := by omega
    have en2 : nxV p f (c / 1000) (c / 100 % 10) (c % 100) v = some (1000 * (v - 2000) + 100 * (c / 100 % 10) + c % 100) := by unfold nxV; rw [if_neg (by omega), if_neg (by omega), if_pos (by omega)]
    rw [en2, e3, if_neg (by decide), if_pos rfl]
    unfold X8_linkOf_f
    rw [BN_ok, pk_mul, pk_mul, nI_add, nI_add, show v % 1000 = v - 2000 by omega]; rfl
  · have e3 : v / 1000 * 1000 = 3000 := by omega
    have e4 : v % 1000 = c' := by omega
    have cs := C5.q.ru c' hc
    have t0 : 1 ≤ c / 1000 := by
      unfold bxN at hb
      simp only [Bool.and_eq_true, decide_eq_true_eq] at hb
      exact hb.1.2
    have e7 : nI (c / 1000) - nI 1 = nI (c / 1000 - 1) := pk_sub t0
    have cl2 : xR h5 (b + 4) (nI c').toNatClampNeg = b + 8 + 3 * c' := by rw [nI_cl (by omega)]; exact C5.q.s.ru c' (by omega)
    have en2 : nxV p f (c / 1000) (c / 100 % 10) (c % 100) v = lnk (askB p.1 c') (c / 100 % 10) (c / 1000 - 1) := by unfold nxV; rw [if_neg (by omega), if_neg (by omega), if_neg (by omega), if_pos (by omega), show v - 3000 = c' by omega]
    rw [en2, e3, e4, if_neg (by decide), if_neg (by decide), if_pos rfl, G_t C5.w.c, C5.w.bk, G_t C5.q.s.c, C5.q.s.r10, G_t C5.q.s.c4, C5.q.s.z4, G_gx (by omega) (by omega), cl2, G_t cs.s.c, e7, leastLink_c (X := askB p.1 c') (fun r hr => by rw [cs.ask r hr]; exact ask10 w (w.ru c' hc) hr), BN_ok]
  · have e3 : v / 1000 * 1000 = 4000 := by omega
    have e4 : v % 1000 = c' := by omega
    have cs := C5.q.ru c' hc
    have cl2 : xR h5 (b + 4) (nI c').toNatClampNeg = b + 8 + 3 * c' := by rw [nI_cl (by omega)]; exact C5.q.s.ru c' (by omega)
    have en2 : nxV p f (c / 1000) (c / 100 % 10) (c % 100) v = lnk (askB p.1 c') (c / 100 % 10) (c / 1000) := by unfold nxV; rw [if_neg (by omega), if_neg (by omega), if_neg (by omega), if_neg (by omega), show v - 4000 = c' by omega]
    rw [en2, e3, e4, if_neg (by decide), if_neg (by decide), if_neg (by decide), if_pos rfl, G_t C5.w.c, C5.w.bk, G_t C5.q.s.c, C5.q.s.r10, G_t C5.q.s.c4, C5.q.s.z4, G_gx (by omega) (by omega), cl2, G_t cs.s.c, leastLink_c (X := askB p.1 c') (fun r hr => by rw [cs.ask r hr]; exact ask10 w (w.ru c' hc) hr), BN_ok]
theorem leadsTo_m {h : AH} {b c : Nat} {p : PR} {f : FL} (C : LmX h b 0 p f) (k : LKp p f c) : ∃ h', X15_leadsTo_f 195 (nI (c % 100)) (nI (c / 100 % 10)) (nI (c / 1000)) h = some (leV (nxC p f c), h') ∧ Fz LmA h h' := by
  have w := C.c.q.w
  have wm := w.m
  have wr := w.r
  have wu := w.u
  have ws := w.s
  have hx := C.c.x
  obtain ⟨k1, k2, k3, k4⟩ := k
  obtain ⟨v, L, e, hv, en⟩ := nxC_v w ⟨k1, k2, k3, k4⟩
  obtain ⟨h5, e5, F5, q5⟩ := mlist_ok C k3 k2 k1
  have C5 := C.fz F5
  have M := C5.c
  rw [e] at q5
  have q0 : xI h5 215 0 = nI v := q5.2 0 (by show 0 < L.length + 1; omega)
  refine ⟨h5, ?_, F5⟩
  have cl : xI h5 215 (nI 0).toNatClampNeg = nI v := by rw [nI_cl (by omega)]; exact q0
  have vb : v < 5000 := by
    rcases rsn_mem hv with h | ⟨s, u, h, hs, hu, hc⟩ | ⟨u, h, hu, hc⟩ | ⟨c, h, hc, hb⟩ | ⟨c, h, hc, hb⟩ <;> omega
  unfold X15_leadsTo_f
  rw [G_t C.c.s.c195, e5, BN_ok, G_t M.s.c195, M.s.r195_34, G_t M.s.c215, M.s.z215, G_gx (by omega) (by omega), cl, LT_e, en]
  rcases rsn_mem hv with h' | ⟨s, u, h', hs, hu, hc⟩ | ⟨u, h', hu, hc⟩ | ⟨c', h', hc, hb⟩ | ⟨c', h', hc, hb⟩
  · have en2 : nxV p f (c / 1000) (c / 100 % 10) (c % 100) v = none := by unfold nxV; rw [if_pos (by omega)]
    rw [en2, h', if_pos nI_0]; rfl
  · have e1 : (v - 1000) / 10 = s := by omega
    have e2 : v % 10 = u := by omega
    have e5 : (nI v - nI 1000) / nI 10 = nI s := by rw [pk_sub (by omega), pk_div (by omega) (by omega) (by omega), e1]
    have e6 : nI v - nI v / nI 10 * nI 10 = nI u := by rw [pk_rem (by omega) (by omega) (by omega), e2]
    have sp := w.sp s hs
    have e7 : nI (p.1 11 (10 + s)) - nI 1 = nI (p.1 11 (10 + s) - 1) := pk_sub sp
    have cl1 : xI h5 (b + 12) (nI s).toNatClampNeg = nI (p.1 11 (10 + s) - 1) := by rw [nI_cl (by omega), M.q.sa s hs, e7]
    have cl2 : xI h5 214 (nI (0 + 7 * s + u)).toNatClampNeg = bI (agB p f s u) := by
      have := (C5.i.W s u hs (by omega)).2.2
      rw [nI_cl (by omega), show 0 + 7 * s + u = 42 * 0 + 7 * s + u by omega]; exact this
    have ct : ∀ x, x = xI h5 (b + 13) (10 + s) → X15_leadsTo_B175 (nI (ctK p f s u)) (nI (p.1 11 (10 + s) - 1)) x h5 = some (leV (lnk (askB p.1 (10 + s)) (p.1 11 (10 + s) - 1) (ctK p f s u)), h5) := fun x ex => by
      unfold X15_leadsTo_B175
      rw [linked_m (X := askB p.1 (10 + s)) (fun r hr => by rw [ex]; exact M.q.ka (10 + s) (.inr ⟨by omega, by omega⟩) r (by omega)), BN_ok]
    have cl3 : xI h5 (b + 13) (nI (10 + s)).toNatClampNeg = xI h5 (b + 13) (10 + s) := by rw [nI_cl (by omega)]
    have en2 : nxV p f (c / 1000) (c / 100 % 10) (c % 100) v = lnk (askB p.1 (10 + s)) (p.1 11 (10 + s) - 1) (ctK p f s u) := by unfold nxV; rw [if_neg (by omega), if_pos (by omega), e1, e2]
    rw [en2, if_neg (nI_ne0 (by omega) (by omega)), if_pos (by rw [nI_tI (by omega) (by omega)]; omega), if_pos (by rw [nI_tI (by omega) (by omega)]; omega), if_pos (by rw [nI_tI (by omega) (by omega)]; omega), e5, LT_e, e6, LT_e, G_t M.s.c195, M.r4, G_t M.q.s.c, M.q.s.r20, G_t M.q.s.c13, M.q.s.z13, nI_add, G_gx (by omega) (by omega), M.q.s.r19, G_t M.q.s.c12, M.q.s.z12, G_gx (by omega) (by omega), M.s.r195_32, G_t M.s.c214, M.s.z214, pk_mul, nI_add, nI_add, G_gx (by omega) (by omega), cl2, cl1, cl3]
    unfold ctK at ct ⊢
    cases ea : agB p f s u
    · rw [ea] at ct
      rw [if_pos (by decide)]
      exact ct _ rfl
    · rw [ea] at ct
      have u0 : 1 ≤ u := by
        rcases Nat.eq_zero_or_pos u with q | q
        · subst q
          unfold agB sntB at ea
          simp at ea
        · exact q
      rw [if_neg (by decide), pk_sub u0]
      exact ct _ rfl
  · have en2 : nxV p f (c / 1000) (c / 100 % 10) (c % 100) v = some (1000 * (v - 2000) + 100 * (c / 100 % 10) + c % 100) := by unfold nxV; rw [if_neg (by omega), if_neg (by omega), if_pos (by omega)]
    rw [en2, if_neg (nI_ne0 (by omega) (by omega)), if_pos (by rw [nI_tI (by omega) (by omega)]; omega), if_pos (by rw [nI_tI (by omega) (by omega)]; omega), if_neg (by rw [nI_tI (by omega) (by omega)]; omega), pk_sub (by omega), pk_mul, pk_mul, nI_add, nI_add]; rfl
  · have t0 : 1 ≤ c / 1000 := by
      unfold bxN at hb
      simp only [Bool.and_eq_true, decide_eq_true_eq] at hb
      exact hb.1.2
    have e7 : nI (c / 1000) - nI 1 = nI (c / 1000 - 1) := pk_sub t0
    have e8 : nI v - nI 3000 = nI c' := by rw [pk_sub (by omega), show v - 3000 = c' by omega]
    have cl3 : xI h5 (b + 13) (nI c').toNatClampNeg = xI h5 (b + 13) c' := by rw [nI_cl (by omega)]
    have en2 : nxV p f (c / 1000) (c / 100 % 10) (c % 100) v = lnk (askB p.1 c') (c / 100 % 10) (c / 1000 - 1) := by unfold nxV; rw [if_neg (by omega), if_neg (by omega), if_neg (by omega), if_pos (by omega), show v - 3000 = c' by omega]
    rw [en2, if_neg (nI_ne0 (by omega) (by omega)), if_pos (by rw [nI_tI (by omega) (by omega)]; omega), if_neg (by rw [nI_tI (by omega) (by omega)]; omega), G_t M.s.c195, M.r4, G_t M.q.s.c, M.q.s.r20, G_t M.q.s.c13, M.q.s.z13, e8, G_gx (by omega) (by omega), e7, cl3, linked_m (X := askB p.1 c') (fun r hr => M.q.ka c' (.inl hc) r (by omega)), BN_ok]
  · have e8 : nI v - nI 4000 = nI c' := by rw [pk_sub (by omega), show v - 4000 = c' by omega]
    have cl3 : xI h5 (b + 13) (nI c').toNatClampNeg = xI h5 (b + 13) c' := by rw [nI_cl (by omega)]
    have en2 : nxV p f (c / 1000) (c / 100 % 10) (c % 100) v = lnk (askB p.1 c') (c / 100 % 10) (c / 1000) := by unfold nxV; rw [if_neg (by omega), if_neg (by omega), if_neg (by omega), if_neg (by omega), show v - 4000 = c' by omega]
    rw [en2, if_neg (nI_ne0 (by omega) (by omega)), if_neg (by rw [nI_tI (by omega) (by omega)]; omega), G_t M.s.c195, M.r4, G_t M.q.s.c, M.q.s.r20, G_t M.q.s.c13, M.q.s.z13, e8, G_gx (by omega) (by omega), cl3, linked_m (X := askB p.1 c') (fun r hr => M.q.ka c' (.inl hc) r (by omega)), BN_ok]
