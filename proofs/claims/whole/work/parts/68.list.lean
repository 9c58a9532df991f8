/-- what the list is made from -/
def LrX (h : AH) (b a : Nat) (p : PR) (f : FL) : Prop := (IsTr h a p f) ∧ (IsW h 62 b p) ∧ (IsCB h b p.1) ∧ (pl p ≤ 6)
theorem LrX.t {h : AH} {b a : Nat} {p : PR} {f : FL} (q_ : LrX h b a p f) : IsTr h a p f := q_.1
theorem LrX.w {h : AH} {b a : Nat} {p : PR} {f : FL} (q_ : LrX h b a p f) : IsW h 62 b p := q_.2.1
theorem LrX.q {h : AH} {b a : Nat} {p : PR} {f : FL} (q_ : LrX h b a p f) : IsCB h b p.1 := q_.2.2.1
theorem LrX.x {h : AH} {b a : Nat} {p : PR} {f : FL} (q_ : LrX h b a p f) : pl p ≤ 6 := q_.2.2.2
section
variable {h : AH} {b a : Nat} {p : PR} {f : FL} {r m t : Nat}
def LrA (a : Nat) : Nat → Nat → Prop := fun x k => x = a ∧ k = 5 ∨ x = a + 5
theorem LrX.fz {h' : AH} (F : Fz (LrA a) h h') (C : LrX h b a p f) : LrX h' b a p f := by
  have h1 := C.t.s.w
  refine ⟨C.t.fz F (fun k j c => by unfold LrA; omega), C.w.fz F rfl (fun k => by unfold LrA; omega), C.q.fz F (fun x k c => by unfold LrA at c; omega), C.x⟩
theorem LrX.add {h0 : AH} {l : List Nat} {v : Nat} (C : LrX h b a p f) (F : Fz (LrA a) h0 h) (c : RsC h a l) (hl : l.length < 24) : ∃ h', X8_addReason_f a (nI v) h = some ((), h') ∧ Fz (LrA a) h0 h' ∧ RsC h' a (l ++ [v]) := by
  obtain ⟨h', e, F', c'⟩ := addReason_ok (v := v) C.t.s c hl
  exact ⟨h', e, F.tr F', c'⟩
theorem list_now {L : List Nat} (C : LrX h b a p f) (c : RsC h a L) (hl : L.length + (sel (qN p f r m t) 4000 (p.1 3 0)).length ≤ 24) (hr : r < p.1 1 0) (hm : m < p.1 0 0) (ht : t ≤ pl p) : ∃ h', X8_listReasons_B168 a 62 (nI r) (nI m) (nI t) h = some ((), h') ∧ Fz (LrA a) h h' ∧ RsC h' a (L ++ sel (qN p f r m t) 4000 (p.1 3 0)) := by
  have wu := C.q.w.u
  have wr := C.q.w.r
  obtain ⟨h', ⟨F, c'⟩, e⟩ := loopE (F := fun n k h' => X8_listReasons_B171 n a 62 (nI r) (nI m) (nI t) (nI k) h') (E := fun h' => some ((), h')) (p.1 3 0) (fun k h' => Fz (LrA a) h h' ∧ RsC h' a (L ++ sel (qN p f r m t) 4000 k)) (Nat.zero_le _) (by omega) (h := h) ⟨Fz.rf, by rw [sel_0, List.append_nil]; exact c⟩
    (by
      rintro n k h' hk ⟨F, c'⟩
      have C' := C.fz F
      have w1 := (C'.q.w.ru k hk).row
      have cl := C'.q.ru k hk
      have next : ∀ h2, X8_listReasons_B226 (X8_listReasons_B171 n) a 62 (nI r) (nI m) (nI t) (nI k) h2 = X8_listReasons_B171 n a 62 (nI r) (nI m) (nI t) (nI (k + 1)) h2 := fun h2 => by
        unfold X8_listReasons_B226
        rw [LT_e, nI_add]
      show ∃ h2, _ ∧ X8_listReasons_B171 (n + 1) a 62 (nI r) (nI m) (nI t) (nI k) h' = X8_listReasons_B171 n a 62 (nI r) (nI m) (nI t) (nI (k + 1)) h2
      rw [X8_listReasons_B171]
      rw [G_t C'.w.c, C'.w.bk, G_t C'.q.s.c, C'.q.u, if_neg (by rw [nI_lI (by omega) (by omega)]; omega), G_t C'.w.c, G_t C'.q.s.c, C'.q.s.r10, G_t C'.q.s.c4, C'.q.s.z4, G_gx (by omega) (by omega), LT_e, nI_cl (by omega), C'.q.s.ru k (by omega), G_t cl.s.c, cl.row]
      by_cases e1 : p.1 10 k = r
      · rw [if_pos (by rw [e1]), G_t C'.t.s.c, bringsNow_c C'.t C'.q hk hm ht C.x, BN_ok]
        cases e2 : bwN p f k m t
        · have e3 : qN p f r m t k = false := by unfold qN; rw [e2, Bool.and_false]
          rw [if_pos (by decide), next]
          exact ⟨h', ⟨F, by rw [sel_n e3]; exact c'⟩, rfl⟩
        · have e3 : qN p f r m t k = true := by unfold qN; rw [e2, e1]; simp
          have := sel_lt (c := 4000) hk e3
          obtain ⟨h2, a1, a2, a3⟩ := C'.add (v := 4000 + k) F c' (by rw [List.length_append]; omega)
          rw [if_neg (by decide), G_t C'.t.s.c, nI_add, a1, BN_ok, next]
          exact ⟨h2, ⟨a2, by rw [sel_y e3, ← List.append_assoc]; exact a3⟩, rfl⟩
      · have e3 : qN p f r m t k = false := by unfold qN; simp [e1]
        rw [if_neg (by rw [nI_eI (by omega) (by omega)]; exact e1), next]
        exact ⟨h', ⟨F, by rw [sel_n e3]; exact c'⟩, rfl⟩)
    (by
      rintro n h' ⟨F, c'⟩
      have C' := C.fz F
      show X8_listReasons_B171 (n + 1) a 62 (nI r) (nI m) (nI t) (nI (p.1 3 0)) h' = _
      rw [X8_listReasons_B171]
      rw [G_t C'.w.c, C'.w.bk, G_t C'.q.s.c, C'.q.u, if_pos (by rw [nI_lI (by omega) (by omega)]; omega)])
  exact ⟨h', e, F, c'⟩
theorem list_next {L : List Nat} (C : LrX h b a p f) (c : RsC h a L) (hl : L.length + (sel (qX p f r m t) 3000 (p.1 3 0)).length + (sel (qN p f r m t) 4000 (p.1 3 0)).length ≤ 24) (hr : r < p.1 1 0) (hm : m < p.1 0 0) (ht : t ≤ pl p) : ∃ h', X8_listReasons_B104 a 62 (nI r) (nI m) (nI t) h = some ((), h') ∧ Fz (LrA a) h h' ∧ RsC h' a (L ++ sel (qX p f r m t) 3000 (p.1 3 0) ++ sel (qN p f r m t) 4000 (p.1 3 0)) := by
  have wu := C.q.w.u
  have wr := C.q.w.r
  obtain ⟨h', ⟨F, c'⟩, e⟩ := loopE (F := fun n k h' => X8_listReasons_B107 n a 62 (nI r) (nI m) (nI t) (nI k) h') (E := fun h' => X8_listReasons_B168 a 62 (nI r) (nI m) (nI t) h') (p.1 3 0) (fun k h' => Fz (LrA a) h h' ∧ RsC h' a (L ++ sel (qX p f r m t) 3000 k)) (Nat.zero_le _) (by omega) (h := h) ⟨Fz.rf, by rw [sel_0, List.append_nil]; exact c⟩
    (by
      rintro n k h' hk ⟨F, c'⟩
      have C' := C.fz F
      have w1 := (C'.q.w.ru k hk).row
      have cl := C'.q.ru k hk
      have next : ∀ h2, X8_listReasons_B162 (X8_listReasons_B107 n) a 62 (nI r) (nI m) (nI t) (nI k) h2 = X8_listReasons_B107 n a 62 (nI r) (nI m) (nI t) (nI (k + 1)) h2 := fun h2 => by
        unfold X8_listReasons_B162
        rw [LT_e, nI_add]
      show ∃ h2, _ ∧ X8_listReasons_B107 (n + 1) a 62 (nI r) (nI m) (nI t) (nI k) h' = X8_listReasons_B107 n a 62 (nI r) (nI m) (nI t) (nI (k + 1)) h2
      rw [X8_listReasons_B107]
      rw [G_t C'.w.c, C'.w.bk, G_t C'.q.s.c, C'.q.u, if_neg (by rw [nI_lI (by omega) (by omega)]; omega), G_t C'.w.c, G_t C'.q.s.c, C'.q.s.r10, G_t C'.q.s.c4, C'.q.s.z4, G_gx (by omega) (by omega), LT_e, nI_cl (by omega), C'.q.s.ru k (by omega), G_t cl.s.c, cl.row]
      by_cases e1 : p.1 10 k = r
      · rw [if_pos (by rw [e1]), G_t C'.t.s.c, bringsNext_c C'.t C'.q hk hm ht C.x, BN_ok]
        cases e2 : bxN p f k m t
        · have e3 : qX p f r m t k = false := by unfold qX; rw [e2, Bool.and_false]
          rw [if_pos (by decide), next]
          exact ⟨h', ⟨F, by rw [sel_n e3]; exact c'⟩, rfl⟩
        · have e3 : qX p f r m t k = true := by unfold qX; rw [e2, e1]; simp
          have := sel_lt (c := 3000) hk e3
          obtain ⟨h2, a1, a2, a3⟩ := C'.add (v := 3000 + k) F c' (by rw [List.length_append]; omega)
          rw [if_neg (by decide), G_t C'.t.s.c, nI_add, a1, BN_ok, next]
          exact ⟨h2, ⟨a2, by rw [sel_y e3, ← List.append_assoc]; exact a3⟩, rfl⟩
      · have e3 : qX p f r m t k = false := by unfold qX; simp [e1]
        rw [if_neg (by rw [nI_eI (by omega) (by omega)]; exact e1), next]
        exact ⟨h', ⟨F, by rw [sel_n e3]; exact c'⟩, rfl⟩)
    (by
      rintro n h' ⟨F, c'⟩
      have C' := C.fz F
      show X8_listReasons_B107 (n + 1) a 62 (nI r) (nI m) (nI t) (nI (p.1 3 0)) h' = _
      rw [X8_listReasons_B107]
      rw [G_t C'.w.c, C'.w.bk, G_t C'.q.s.c, C'.q.u, if_pos (by rw [nI_lI (by omega) (by omega)]; omega)])
  obtain ⟨h2, e2, F2, c2⟩ := list_now (C.fz F) c' (by rw [List.length_append]; omega) hr hm ht
  exact ⟨h2, e.trans e2, F.tr F2, c2⟩
theorem list_words {L : List Nat} (C : LrX h b a p f) (c : RsC h a L) (hl : L.length + (rV p f r m t (p.1 4 0)).length ≤ 24) (hr : r < p.1 1 0) (hm : m < p.1 0 0) (ht : t ≤ pl p) : ∃ h', X8_listWords_f a b (nI r) (nI m) (nI t) h = some ((), h') ∧ Fz (LrA a) h h' ∧ RsC h' a (L ++ rV p f r m t (p.1 4 0)) := by
  have ws := C.q.w.s
  have wr := C.q.w.r
  have wm := C.q.w.m
  have px := C.x
  obtain ⟨h', ⟨F, c'⟩, e⟩ := loopE (F := fun n k h' => X8_listWords_B3 n a b (nI r) (nI m) (nI t) (nI k) h') (E := fun h' => some ((), h')) (p.1 4 0) (fun k h' => Fz (LrA a) h h' ∧ RsC h' a (L ++ rV p f r m t k)) (Nat.zero_le _) (by omega) (h := h) ⟨Fz.rf, by rw [rV_0, List.append_nil]; exact c⟩
    (by
      rintro n k h' hk ⟨F, c'⟩
      have C' := C.fz F
      have w1 := (C'.q.w.se k hk).row
      have w2 := C'.q.w.st k hk
      have cl := C'.q.se k hk
      have rs := rV_s (p := p) (f := f) (r := r) (m := m) (t := t) (k := k)
      have lk := rV_le (p := p) (f := f) (r := r) (m := m) (t := t) (k := k + 1) (p.1 4 0) (by omega)
      have next : ∀ h2, X8_listWords_B87 (X8_listWords_B3 n) a b (nI r) (nI m) (nI t) (nI k) h2 = X8_listWords_B3 n a b (nI r) (nI m) (nI t) (nI (k + 1)) h2 := fun h2 => by
        unfold X8_listWords_B87
        rw [LT_e, nI_add]
      show ∃ h2, _ ∧ X8_listWords_B3 (n + 1) a b (nI r) (nI m) (nI t) (nI k) h' = X8_listWords_B3 n a b (nI r) (nI m) (nI t) (nI (k + 1)) h2
      rw [X8_listWords_B3]
      rw [G_t C'.q.s.c, C'.q.sn, if_neg (by rw [nI_lI (by omega) (by omega)]; omega), G_t C'.q.s.c, C'.q.s.r11, G_t C'.q.s.c5, C'.q.s.z5, G_gx (by omega) (by omega), LT_e, nI_cl (by omega), C'.q.s.se k (by omega), G_t cl.s.c, cl.row]
      by_cases e1 : p.1 10 (10 + k) = r
      · rw [if_pos (by rw [e1]), G_t cl.s.c, cl.tg (by omega)]
        by_cases e2 : p.1 12 (10 + k) = m
        · rw [if_pos ⟨e1, e2⟩, rW_e] at rs
          rw [rs, List.length_append] at lk
          rw [if_pos (by rw [e2])]
          obtain ⟨h2, ⟨F2, c2⟩, e3⟩ := loopE (F := fun n2 u h' => X8_listWords_B45 (X8_listWords_B3 n) n2 a b (nI r) (nI m) (nI t) (nI k) (nI u) h') (E := fun h' => X8_listWords_B87 (X8_listWords_B3 n) a b (nI r) (nI m) (nI t) (nI k) h') t (fun u h' => Fz (LrA a) h h' ∧ RsC h' a (L ++ rV p f r m t k ++ sel (fun u => cbB p f k u t) (1000 + 10 * k) u)) (Nat.zero_le _) (by omega) (h := h') ⟨F, by rw [sel_0, List.append_nil]; exact c'⟩
            (by
              rintro n2 u h3 hu ⟨F3, c3⟩
              have C3 := C.fz F3
              have next2 : ∀ h2, X8_listWords_B81 (X8_listWords_B3 n) (X8_listWords_B45 (X8_listWords_B3 n) n2) a b (nI r) (nI m) (nI t) (nI k) (nI u) h2 = X8_listWords_B45 (X8_listWords_B3 n) n2 a b (nI r) (nI m) (nI t) (nI k) (nI (u + 1)) h2 := fun h2 => by
                unfold X8_listWords_B81
                rw [LT_e, nI_add]
              show ∃ h4, _ ∧ X8_listWords_B45 (X8_listWords_B3 n) (n2 + 1) a b (nI r) (nI m) (nI t) (nI k) (nI u) h3 = X8_listWords_B45 (X8_listWords_B3 n) n2 a b (nI r) (nI m) (nI t) (nI k) (nI (u + 1)) h4
              rw [X8_listWords_B45]
              rw [if_neg (by rw [nI_lI (by omega) (by omega)]; omega), G_t C3.t.s.c, comesIn_c C3.t hk ws (by omega) px (by omega), BN_ok]
              cases e4 : cbB p f k u t
              · rw [if_pos (by decide), next2]
                exact ⟨h3, ⟨F3, by rw [sel_n (q := fun u => cbB p f k u t) e4]; exact c3⟩, rfl⟩
              · have := sel_lt (q := fun u => cbB p f k u t) (c := 1000 + 10 * k) hu e4
                obtain ⟨h4, a1, a2, a3⟩ := C3.add (v := 1000 + 10 * k + u) F3 c3 (by rw [List.length_append, List.length_append]; omega)
                rw [if_neg (by decide), G_t C3.t.s.c, pk_mul, nI_add, nI_add, a1, BN_ok, next2]
                exact ⟨h4, ⟨a2, by rw [sel_y (q := fun u => cbB p f k u t) e4, ← List.append_assoc]; exact a3⟩, rfl⟩)
            (by
              rintro n2 h3 ⟨F3, c3⟩
              show X8_listWords_B45 (X8_listWords_B3 n) (n2 + 1) a b (nI r) (nI m) (nI t) (nI k) (nI t) h3 = _
              rw [X8_listWords_B45, if_pos (by rw [nI_lI (by omega) (by omega)]; omega)])
          refine ⟨h2, ⟨F2, ?_⟩, e3.trans (next h2)⟩
          rw [rs, ← List.append_assoc]; exact c2
        · rw [if_neg (fun c => e2 c.2), List.append_nil] at rs
          rw [if_neg (by rw [nI_eI (by omega) (by omega)]; exact e2), next]
          exact ⟨h', ⟨F, by rw [rs]; exact c'⟩, rfl⟩
      · rw [if_neg (fun c => e1 c.1), List.append_nil] at rs
        rw [if_neg (by rw [nI_eI (by omega) (by omega)]; exact e1), next]
        exact ⟨h', ⟨F, by rw [rs]; exact c'⟩, rfl⟩)
    (by
      rintro n h' ⟨F, c'⟩
      have C' := C.fz F
      show X8_listWords_B3 (n + 1) a b (nI r) (nI m) (nI t) (nI (p.1 4 0)) h' = _
      rw [X8_listWords_B3]
      rw [G_t C'.q.s.c, C'.q.sn, if_pos (by rw [nI_lI (by omega) (by omega)]; omega)])
  exact ⟨h', e, F, c'⟩
theorem list_45 {L : List Nat} (C : LrX h b a p f) (c : RsC h a L) (hl : L.length + (rV p f r m t (p.1 4 0)).length + (rK p f r m t).length + (sel (qX p f r m t) 3000 (p.1 3 0)).length + (sel (qN p f r m t) 4000 (p.1 3 0)).length ≤ 24) (hr : r < p.1 1 0) (hm : m < p.1 0 0) (ht : t ≤ pl p) : ∃ h', X8_listReasons_B45 a 62 (nI r) (nI m) (nI t) h = some ((), h') ∧ Fz (LrA a) h h' ∧ RsC h' a (L ++ rV p f r m t (p.1 4 0) ++ rK p f r m t ++ sel (qX p f r m t) 3000 (p.1 3 0) ++ sel (qN p f r m t) 4000 (p.1 3 0)) := by
  have wr := C.q.w.r
  have wm := C.q.w.m
  have px := C.x
  have kl := kf_le (f := f) (m := m) t
  obtain ⟨h1, e1, F1, c1⟩ := list_words (r := r) (m := m) (t := t) C c (by omega) hr hm ht
  have C1 := C.fz F1
  unfold X8_listReasons_B45
  rw [G_t C.w.c, G_t C.t.s.c, C.w.bk, e1, BN_ok, G_t C1.t.s.c, tickAhead_c C1.t hm wm ht px, BN_ok, G_t C1.w.c, C1.w.K]
  by_cases hk : bt (pK p) r = true
  · rw [if_neg (by rw [b_test0 (by omega), hk]; decide)]
    by_cases h0 : kf f m t = 0
    · have e : rK p f r m t = [] := by unfold rK; rw [if_neg (fun c => c.2.1 h0)]
      rw [e, List.length_nil] at hl
      rw [h0, if_pos (by decide), e, List.append_nil]
      obtain ⟨h2, e2, F2, c2⟩ := list_next (r := r) (m := m) (t := t) C1 c1 (by rw [List.length_append]; omega) hr hm ht
      exact ⟨h2, e2, F1.tr F2, c2⟩
    · rw [pk_sub (by omega), if_neg (by rw [nI_m1 (by omega)]; exact id), G_t C1.t.s.c, isThere_c C1.t (by omega) px hm wm hr wr, BN_ok]
      cases h3 : Tz p f (kf f m t - 1) m r
      · have e : rK p f r m t = [] := by unfold rK; rw [if_neg (fun c => by rw [h3] at c; exact absurd c.2.2 (by decide))]
        rw [e, List.length_nil] at hl
        rw [if_pos (by decide), e, List.append_nil]
        obtain ⟨h2, e2, F2, c2⟩ := list_next (r := r) (m := m) (t := t) C1 c1 (by rw [List.length_append]; omega) hr hm ht
        exact ⟨h2, e2, F1.tr F2, c2⟩
      · have e : rK p f r m t = [2000 + (kf f m t - 1)] := by unfold rK; rw [if_pos ⟨hk, h0, h3⟩]
        rw [e, List.length_singleton] at hl
        obtain ⟨h4, a1, a2, a3⟩ := C1.add (v := 2000 + (kf f m t - 1)) F1 c1 (by rw [List.length_append]; omega)
        rw [if_neg (by decide), G_t C1.t.s.c, nI_add, a1, BN_ok, e]
        obtain ⟨h2, e2, F2, c2⟩ := list_next (r := r) (m := m) (t := t) (C.fz a2) a3 (by rw [List.length_append, List.length_append, List.length_singleton]; omega) hr hm ht
        exact ⟨h2, e2, a2.tr F2, c2⟩
  · have e : rK p f r m t = [] := by unfold rK; rw [if_neg (fun c => hk c.1)]
    rw [e, List.length_nil] at hl
    rw [if_pos (by rw [b_test0 (by omega)]; simpa using hk), e, List.append_nil]
    obtain ⟨h2, e2, F2, c2⟩ := list_next (r := r) (m := m) (t := t) C1 c1 (by rw [List.length_append]; omega) hr hm ht
    exact ⟨h2, e2, F1.tr F2, c2⟩
/-- the reasons that are told -/
def rTo (p : PR) (f : FL) (r m t : Nat) : List Nat := if Tz p f t m r = true then rsn p f r m t else []
theorem rTo_up (w : WB p.1) (d : fD f m t = false) : rTo p f r m t = rsn p f r m t := by
  unfold rTo
  cases e : Tz p f t m r
  · rw [if_neg (by decide), rsn_nil w d e]
  · rw [if_pos rfl]
theorem rTo_down (d : fD f m t = true) : rTo p f r m t = [] := by
  unfold rTo
  rw [Tz_eq, d]; rfl
theorem rTo_len (w : WB p.1) : (rTo p f r m t).length ≤ 24 := by
  unfold rTo
  split
  · exact rsn_len w
  · exact Nat.zero_le _
theorem list_ok (C : LrX h b a p f) (hr : r < p.1 1 0) (hm : m < p.1 0 0) (ht : t ≤ pl p) : ∃ h', X8_listReasons_f a 62 (nI r) (nI m) (nI t) h = some ((), h') ∧ Fz (LrA a) h h' ∧ RsC h' a (rTo p f r m t) := by
  have wr := C.q.w.r
  have wm := C.q.w.m
  have px := C.x
  have F0 : Fz (LrA a) h (pI h a 5 (nI 0)) := Fz.i (.inl ⟨rfl, rfl⟩)
  have C0 := C.fz F0
  have c0 : RsC (pI h a 5 (nI 0)) a [] := ⟨xI_self, fun i hi => absurd hi (Nat.not_lt_zero _)⟩
  unfold X8_listReasons_f
  rw [G_t C.t.s.c, LT_e, G_t C0.t.s.c, isDown_c C0.t hm wm ht px, BN_ok]
  cases d : fD f m t
  · have len := rsn_len (p := p) (f := f) (r := r) (m := m) (t := t) C.q.w
    have er : rsn p f r m t = rF p r m t ++ rV p f r m t (p.1 4 0) ++ rK p f r m t ++ sel (qX p f r m t) 3000 (p.1 3 0) ++ sel (qN p f r m t) 4000 (p.1 3 0) := rfl
    rw [if_pos (by decide), rTo_up C.q.w d, er]
    rw [er] at len
    simp only [List.length_append] at len
    by_cases t0 : t = 0
    · obtain ⟨u, i1, i2⟩ := factsAt_ok C0.q (m := m) (by omega)
      have br := i2 r (by omega)
      rw [if_pos (by rw [t0]; exact nI_0), G_t C0.w.c, C0.w.bk, G_t C0.q.s.c, C0.w.S, i1, BN_ok]
      cases hf : factB p m r
      · have e : rF p r m t = [] := by unfold rF; rw [if_neg (fun c => by rw [hf] at c; exact absurd c.2 (by decide))]
        rw [e, List.length_nil] at len
        rw [if_pos (by rw [b_test0 (by omega), br, hf]), e]
        obtain ⟨h2, e2, F2, c2⟩ := list_45 (r := r) (m := m) (t := t) C0 c0 (by rw [List.length_nil]; omega) hr hm ht
        exact ⟨h2, e2, F0.tr F2, c2⟩
      · have e : rF p r m t = [0] := by unfold rF; rw [if_pos ⟨t0, hf⟩]
        rw [e, List.length_singleton] at len
        obtain ⟨h4, a1, a2, a3⟩ := C0.add (v := 0) F0 c0 (by rw [List.length_nil]; omega)
        rw [if_neg (by rw [b_test0 (by omega), br, hf]; decide), G_t C0.t.s.c, a1, BN_ok, e]
        obtain ⟨h2, e2, F2, c2⟩ := list_45 (r := r) (m := m) (t := t) (C.fz a2) a3 (by rw [List.nil_append, List.length_singleton]; omega) hr hm ht
        exact ⟨h2, e2, a2.tr F2, c2⟩
    · have e : rF p r m t = [] := by unfold rF; rw [if_neg (fun c => t0 c.1)]
      rw [e, List.length_nil] at len
      rw [if_neg (nI_ne0 (by omega) (by omega)), e]
      obtain ⟨h2, e2, F2, c2⟩ := list_45 (r := r) (m := m) (t := t) C0 c0 (by rw [List.length_nil]; omega) hr hm ht
      exact ⟨h2, e2, F0.tr F2, c2⟩
  · rw [if_neg (by decide), rTo_down d]
    exact ⟨_, rfl, F0, c0⟩
end
