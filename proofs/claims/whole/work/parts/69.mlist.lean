/-- what the reference's list is made from -/
def LmX (h : AH) (b k : Nat) (p : PR) (f : FL) : Prop := (MoX h b p) ∧ (IsSl h k p f) ∧ (k < 104)
theorem LmX.c {h : AH} {b k : Nat} {p : PR} {f : FL} (q_ : LmX h b k p f) : MoX h b p := q_.1
theorem LmX.i {h : AH} {b k : Nat} {p : PR} {f : FL} (q_ : LmX h b k p f) : IsSl h k p f := q_.2.1
theorem LmX.k {h : AH} {b k : Nat} {p : PR} {f : FL} (q_ : LmX h b k p f) : k < 104 := q_.2.2
def LmA : Nat → Nat → Prop := fun x k => x = 195 ∧ k = 33 ∨ x = 215
section
variable {h : AH} {b k : Nat} {p : PR} {f : FL} {r m t : Nat}
theorem LmX.fz {h' : AH} (F : Fz LmA h h') (C : LmX h b k p f) : LmX h' b k p f := by
  have lo := C.c.q.s.lo
  have nA : ∀ x j, ¬ (x = 195 ∧ j = 33 ∨ x = 215) → ¬ LmA x j := fun x j q c => q c
  refine ⟨⟨C.c.s.fz F, C.c.q.fz F (fun k j hk => nA _ _ (by omega)), by rw [F.r _ (by decide)]; exact C.c.r4, by rw [F.I (nA _ _ (by decide))]; exact C.c.l, by rw [F.I (nA _ _ (by decide))]; exact C.c.S, by rw [F.I (nA _ _ (by decide))]; exact C.c.K, by rw [F.I (nA _ _ (by decide))]; exact C.c.A, by rw [F.I (nA _ _ (by decide))]; exact C.c.B, C.c.n, C.c.x⟩, ⟨fun t m ht hm r hr => ?_, fun m t hm ht => ?_, fun s u hs hu => ?_⟩, C.k⟩
  · rw [F.I (nA _ _ (by omega))]; exact C.i.T t m ht hm r hr
  · rw [F.I (nA _ _ (by omega))]; exact C.i.D m t hm ht
  · rw [F.I (nA _ _ (by omega)), F.I (nA _ _ (by omega)), F.I (nA _ _ (by omega))]; exact C.i.W s u hs hu
theorem LmX.add {h0 : AH} {l : List Nat} {v : Nat} (C : LmX h b k p f) (F : Fz LmA h0 h) (c : RsM h l) (hl : l.length < 24) : ∃ h', X15_tells_f 195 (nI v) h = some ((), h') ∧ Fz LmA h0 h' ∧ RsM h' (l ++ [v]) := by
  obtain ⟨h', e, F', c'⟩ := tells_ok (v := v) C.c.s c hl
  exact ⟨h', e, F.tr F', c'⟩
theorem mlist_now {L : List Nat} (C : LmX h b k p f) (c : RsM h L) (hl : L.length + (sel (qN p f r m t) 4000 (p.1 3 0)).length ≤ 24) (hr : r < p.1 1 0) (hm : m < p.1 0 0) (ht : t ≤ pl p) : ∃ h', X15_reasonsOf_B278 195 (nI k) (nI r) (nI m) (nI t) h = some ((), h') ∧ Fz LmA h h' ∧ RsM h' (L ++ sel (qN p f r m t) 4000 (p.1 3 0)) := by
  have w := C.c.q.w
  have wu := w.u
  have wr := w.r
  have wm := w.m
  have px := C.c.x
  have hk0 := C.k
  obtain ⟨h', ⟨F, c'⟩, e⟩ := loopE (F := fun n j h' => X15_reasonsOf_B281 n 195 (nI k) (nI r) (nI m) (nI t) (nI j) h') (E := fun h' => some ((), h')) (p.1 3 0) (fun j h' => Fz LmA h h' ∧ RsM h' (L ++ sel (qN p f r m t) 4000 j)) (Nat.zero_le _) (by omega) (h := h) ⟨Fz.rf, by rw [sel_0, List.append_nil]; exact c⟩
    (by
      rintro n j h' hj ⟨F, c'⟩
      have C' := C.fz F
      have w1 := (w.ru j hj).row
      have wn := w.nw j hj
      have cl : (nI j).toNatClampNeg = j := nI_cl (by omega)
      have v9 : xI h' (b + 9) (nI j).toNatClampNeg = nI (p.1 13 j) := by rw [cl]; exact C'.c.q.rn j hj
      have v7 : xI h' (b + 7) (nI j).toNatClampNeg = nI (p.1 10 j) := by rw [cl]; exact C'.c.q.rr j hj
      have next : ∀ h2, X15_reasonsOf_B372 (X15_reasonsOf_B281 n) 195 (nI k) (nI r) (nI m) (nI t) (nI j) h2 = X15_reasonsOf_B281 n 195 (nI k) (nI r) (nI m) (nI t) (nI (j + 1)) h2 := fun h2 => by
        unfold X15_reasonsOf_B372
        rw [LT_e, nI_add]
      show ∃ h2, _ ∧ X15_reasonsOf_B281 (n + 1) 195 (nI k) (nI r) (nI m) (nI t) (nI j) h' = X15_reasonsOf_B281 n 195 (nI k) (nI r) (nI m) (nI t) (nI (j + 1)) h2
      rw [X15_reasonsOf_B281]
      rw [G_t C'.c.s.c195, C'.c.r4, G_t C'.c.q.s.c, C'.c.q.u, if_neg (by rw [nI_lI (by omega) (by omega)]; omega), G_t C'.c.s.c195, G_t C'.c.q.s.c, C'.c.q.s.r16, G_t C'.c.q.s.c9, C'.c.q.s.z9, G_gx (by omega) (by omega), v9]
      by_cases e0 : p.1 13 j = 0
      · have e3 : qN p f r m t j = false := by unfold qN bwN; rw [e0]; simp
        rw [if_pos (by rw [e0]; exact nI_0), next]
        exact ⟨h', ⟨F, by rw [sel_n e3]; exact c'⟩, rfl⟩
      · have e0' : p.1 13 j = 1 := by omega
        rw [if_neg (nI_ne0 (by omega) (by omega)), G_t C'.c.s.c195, G_t C'.c.q.s.c, C'.c.q.s.r14, G_t C'.c.q.s.c7, C'.c.q.s.z7, G_gx (by omega) (by omega), v7]
        by_cases e1 : p.1 10 j = r
        · rw [if_pos (by rw [e1]), G_t C'.c.s.c195, isOf_m C'.c hj (by omega), BN_ok]
          cases e2 : isF p.1 j m
          · have e3 : qN p f r m t j = false := by unfold qN bwN; rw [e2]; simp
            rw [if_pos (by decide), next]
            exact ⟨h', ⟨F, by rw [sel_n e3]; exact c'⟩, rfl⟩
          · have mk := cH_mask (bare := true) (v := xI h' 210 (28 * k + 4 * t + m)) (w.ru j hj) wr (C'.c.q.ka j (.inl hj)) (C'.c.q.kn j (.inl hj))
            rw [cH_now (b' := false) (w.nn j hj e0'), cH_congr (w.ru j hj) (fun r hr => C'.i.T t m ht hm r (by omega))] at mk
            have v13 : xI h' (b + 13) (nI j).toNatClampNeg = xI h' (b + 13) j := by rw [cl]
            rw [if_neg (by decide), G_t C'.c.s.c195, rowsAt_m C'.c.s hk0 (by omega) (by omega), BN_ok, G_t C'.c.s.c195, C'.c.r4, G_t C'.c.q.s.c, C'.c.q.s.r20, G_t C'.c.q.s.c13, C'.c.q.s.z13, G_gx (by omega) (by omega), G_gx (by omega) (by omega), v13]
            by_cases e4 : xI h' 210 (28 * k + 4 * t + m) &&& xI h' (b + 13) j = xI h' (b + 13) j
            · have e5 := mk.mpr ⟨e4, .inl rfl⟩
              have e3 : qN p f r m t j = true := by unfold qN bwN; rw [e0', e1, e2, e5]; simp
              have := sel_lt (c := 4000) hj e3
              obtain ⟨h2, a1, a2, a3⟩ := C'.add (v := 4000 + j) F c' (by rw [List.length_append]; omega)
              rw [if_pos e4, G_t C'.c.s.c195, nI_add, a1, BN_ok, next]
              exact ⟨h2, ⟨a2, by rw [sel_y e3, ← List.append_assoc]; exact a3⟩, rfl⟩
            · have e5 : cH p.1 j false (Tz p f t m) = false := by
                cases q : cH p.1 j false (Tz p f t m)
                · rfl
                · exact absurd (mk.mp q).1 e4
              have e3 : qN p f r m t j = false := by unfold qN bwN; rw [e5]; simp
              rw [if_neg e4, next]
              exact ⟨h', ⟨F, by rw [sel_n e3]; exact c'⟩, rfl⟩
        · have e3 : qN p f r m t j = false := by unfold qN; simp [e1]
          rw [if_neg (by rw [nI_eI (by omega) (by omega)]; exact e1), next]
          exact ⟨h', ⟨F, by rw [sel_n e3]; exact c'⟩, rfl⟩)
    (by
      rintro n h' ⟨F, c'⟩
      have C' := C.fz F
      show X15_reasonsOf_B281 (n + 1) 195 (nI k) (nI r) (nI m) (nI t) (nI (p.1 3 0)) h' = _
      rw [X15_reasonsOf_B281]
      rw [G_t C'.c.s.c195, C'.c.r4, G_t C'.c.q.s.c, C'.c.q.u, if_pos (by rw [nI_lI (by omega) (by omega)]; omega)])
  exact ⟨h', e, F, c'⟩
theorem mlist_next {L : List Nat} (C : LmX h b k p f) (c : RsM h L) (hl : L.length + (sel (qX p f r m t) 3000 (p.1 3 0)).length + (sel (qN p f r m t) 4000 (p.1 3 0)).length ≤ 24) (hr : r < p.1 1 0) (hm : m < p.1 0 0) (ht : t ≤ pl p) : ∃ h', X15_reasonsOf_B190 195 (nI k) (nI r) (nI m) (nI t) h = some ((), h') ∧ Fz LmA h h' ∧ RsM h' (L ++ sel (qX p f r m t) 3000 (p.1 3 0) ++ sel (qN p f r m t) 4000 (p.1 3 0)) := by
  have w := C.c.q.w
  have wu := w.u
  have wr := w.r
  have wm := w.m
  have px := C.c.x
  have hk0 := C.k
  obtain ⟨h', ⟨F, c'⟩, e⟩ := loopE (F := fun n j h' => X15_reasonsOf_B193 n 195 (nI k) (nI r) (nI m) (nI t) (nI j) h') (E := fun h' => X15_reasonsOf_B278 195 (nI k) (nI r) (nI m) (nI t) h') (p.1 3 0) (fun j h' => Fz LmA h h' ∧ RsM h' (L ++ sel (qX p f r m t) 3000 j)) (Nat.zero_le _) (by omega) (h := h) ⟨Fz.rf, by rw [sel_0, List.append_nil]; exact c⟩
    (by
      rintro n j h' hj ⟨F, c'⟩
      have C' := C.fz F
      have w1 := (w.ru j hj).row
      have wn := w.nw j hj
      have cl : (nI j).toNatClampNeg = j := nI_cl (by omega)
      have v9 : xI h' (b + 9) (nI j).toNatClampNeg = nI (p.1 13 j) := by rw [cl]; exact C'.c.q.rn j hj
      have v7 : xI h' (b + 7) (nI j).toNatClampNeg = nI (p.1 10 j) := by rw [cl]; exact C'.c.q.rr j hj
      have next : ∀ h2, X15_reasonsOf_B272 (X15_reasonsOf_B193 n) 195 (nI k) (nI r) (nI m) (nI t) (nI j) h2 = X15_reasonsOf_B193 n 195 (nI k) (nI r) (nI m) (nI t) (nI (j + 1)) h2 := fun h2 => by
        unfold X15_reasonsOf_B272
        rw [LT_e, nI_add]
      show ∃ h2, _ ∧ X15_reasonsOf_B193 (n + 1) 195 (nI k) (nI r) (nI m) (nI t) (nI j) h' = X15_reasonsOf_B193 n 195 (nI k) (nI r) (nI m) (nI t) (nI (j + 1)) h2
      rw [X15_reasonsOf_B193]
      rw [G_t C'.c.s.c195, C'.c.r4, G_t C'.c.q.s.c, C'.c.q.u, if_neg (by rw [nI_lI (by omega) (by omega)]; omega), G_t C'.c.s.c195, G_t C'.c.q.s.c, C'.c.q.s.r16, G_t C'.c.q.s.c9, C'.c.q.s.z9, G_gx (by omega) (by omega), v9]
      by_cases e0 : p.1 13 j = 0
      · rw [if_pos (by rw [e0]; exact nI_0), G_t C'.c.s.c195, G_t C'.c.q.s.c, C'.c.q.s.r14, G_t C'.c.q.s.c7, C'.c.q.s.z7, G_gx (by omega) (by omega), v7]
        by_cases e1 : p.1 10 j = r
        · rw [if_pos (by rw [e1]), G_t C'.c.s.c195, isOf_m C'.c hj (by omega), BN_ok]
          cases e2 : isF p.1 j m
          · have e3 : qX p f r m t j = false := by unfold qX bxN; rw [e2]; simp
            rw [if_pos (by decide), next]
            exact ⟨h', ⟨F, by rw [sel_n e3]; exact c'⟩, rfl⟩
          · rw [if_neg (by decide)]
            by_cases t0 : t = 0
            · have e3 : qX p f r m t j = false := by unfold qX bxN; rw [t0]; simp
              rw [if_pos (by rw [t0]; decide), next]
              exact ⟨h', ⟨F, by rw [sel_n e3]; exact c'⟩, rfl⟩
            · have hol := holds_m C'.c (k := k) (c := j) (t := t - 1) (m := m) (.inl hj) hk0 (by omega) (by omega)
              rw [C'.i.D m (t - 1) (by omega) (by omega), decide_eq_false (by omega : ¬ 10 ≤ j), Bool.false_and, cH_congr (w.ru j hj) (fun r hr => C'.i.T (t - 1) m (by omega) hm r (by omega))] at hol
              rw [if_neg (nI_nle (by omega) (by omega)), G_t C'.c.s.c195, pk_sub (by omega), hol, BN_ok]
              cases e4 : !fD f m (t - 1) && cH p.1 j false (Tz p f (t - 1) m)
              · have e3 : qX p f r m t j = false := by unfold qX bxN; rw [e4]; simp
                rw [if_pos (by decide), next]
                exact ⟨h', ⟨F, by rw [sel_n e3]; exact c'⟩, rfl⟩
              · have e3 : qX p f r m t j = true := by unfold qX bxN; rw [e0, e1, e2, e4, decide_eq_true (by omega : 0 < t)]; simp
                have := sel_lt (c := 3000) hj e3
                obtain ⟨h2, a1, a2, a3⟩ := C'.add (v := 3000 + j) F c' (by rw [List.length_append]; omega)
                rw [if_neg (by decide), G_t C'.c.s.c195, nI_add, a1, BN_ok, next]
                exact ⟨h2, ⟨a2, by rw [sel_y e3, ← List.append_assoc]; exact a3⟩, rfl⟩
        · have e3 : qX p f r m t j = false := by unfold qX; simp [e1]
          rw [if_neg (by rw [nI_eI (by omega) (by omega)]; exact e1), next]
          exact ⟨h', ⟨F, by rw [sel_n e3]; exact c'⟩, rfl⟩
      · have e3 : qX p f r m t j = false := by unfold qX bxN; simp [e0]
        rw [if_neg (nI_ne0 (by omega) (by omega)), next]
        exact ⟨h', ⟨F, by rw [sel_n e3]; exact c'⟩, rfl⟩)
    (by
      rintro n h' ⟨F, c'⟩
      have C' := C.fz F
      show X15_reasonsOf_B193 (n + 1) 195 (nI k) (nI r) (nI m) (nI t) (nI (p.1 3 0)) h' = _
      rw [X15_reasonsOf_B193]
      rw [G_t C'.c.s.c195, C'.c.r4, G_t C'.c.q.s.c, C'.c.q.u, if_pos (by rw [nI_lI (by omega) (by omega)]; omega)])
  obtain ⟨h2, e2, F2, c2⟩ := mlist_now (C.fz F) c' (by rw [List.length_append]; omega) hr hm ht
  exact ⟨h2, e.trans e2, F.tr F2, c2⟩
theorem mlist_141 {L : List Nat} (C : LmX h b k p f) (c : RsM h L) (hl : L.length + (rK p f r m t).length + (sel (qX p f r m t) 3000 (p.1 3 0)).length + (sel (qN p f r m t) 4000 (p.1 3 0)).length ≤ 24) (hr : r < p.1 1 0) (hm : m < p.1 0 0) (ht : t ≤ pl p) : ∃ h', X15_reasonsOf_B141 195 (nI k) (nI r) (nI m) (nI t) h = some ((), h') ∧ Fz LmA h h' ∧ RsM h' (L ++ rK p f r m t ++ sel (qX p f r m t) 3000 (p.1 3 0) ++ sel (qN p f r m t) 4000 (p.1 3 0)) := by
  have wr := C.c.q.w.r
  have wm := C.c.q.w.m
  have px := C.c.x
  have hk0 := C.k
  have kl := kf_le (f := f) (m := m) t
  have fin : rK p f r m t = [] → ∃ h', X15_reasonsOf_B190 195 (nI k) (nI r) (nI m) (nI t) h = some ((), h') ∧ Fz LmA h h' ∧ RsM h' (L ++ rK p f r m t ++ sel (qX p f r m t) 3000 (p.1 3 0) ++ sel (qN p f r m t) 4000 (p.1 3 0)) := fun e => by
    rw [e, List.append_nil]
    exact mlist_next C c (by omega) hr hm ht
  unfold X15_reasonsOf_B141
  rw [G_t C.c.s.c195, keptFrom_m C.c.s C.i.D hk0 (by omega) (by omega), BN_ok]
  by_cases h0 : kf f m t = 0
  · rw [h0, if_pos (by decide)]
    exact fin (by unfold rK; rw [if_neg (fun c => c.2.1 h0)])
  · rw [pk_sub (by omega), if_neg (by rw [nI_m1 (by omega)]; exact id), G_t C.c.s.c195, C.c.K, has_m (by omega), BN_ok]
    cases hK : bt (pK p) r
    · rw [if_pos (by decide)]
      exact fin (by unfold rK; rw [if_neg (fun c => by rw [hK] at c; exact absurd c.1 (by decide))])
    · rw [if_neg (by decide), G_t C.c.s.c195, isThere_m C.c.s hk0 (by omega) (by omega) (by omega), BN_ok, C.i.T _ m (by omega) hm r (by omega)]
      cases h3 : Tz p f (kf f m t - 1) m r
      · rw [if_pos (by decide)]
        exact fin (by unfold rK; rw [if_neg (fun c => by rw [h3] at c; exact absurd c.2.2 (by decide))])
      · have e : rK p f r m t = [2000 + (kf f m t - 1)] := by unfold rK; rw [if_pos ⟨hK, h0, h3⟩]
        rw [e, List.length_singleton] at hl
        obtain ⟨h4, a1, a2, a3⟩ := C.add (v := 2000 + (kf f m t - 1)) Fz.rf c (by omega)
        rw [if_neg (by decide), G_t C.c.s.c195, nI_add, a1, BN_ok, e]
        obtain ⟨h2, e2, F2, c2⟩ := mlist_next (r := r) (m := m) (t := t) (C.fz a2) a3 (by rw [List.length_append, List.length_singleton]; omega) hr hm ht
        exact ⟨h2, e2, a2.tr F2, c2⟩
end
