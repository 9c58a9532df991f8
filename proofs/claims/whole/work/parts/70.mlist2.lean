section
variable {h : AH} {b k : Nat} {p : PR} {f : FL} {r m t : Nat}
def rVp (p : PR) (f : FL) (r m t j u : Nat) : List Nat := if p.1 10 (10 + j) = r ∧ p.1 12 (10 + j) = m then sel (fun u => cbB p f j u t) (1000 + 10 * j) u else []
theorem rVp_y {j u : Nat} (c : p.1 10 (10 + j) = r ∧ p.1 12 (10 + j) = m) : rVp p f r m t j u = sel (fun u => cbB p f j u t) (1000 + 10 * j) u := if_pos c
theorem rVp_n {j u : Nat} (c : ¬ (p.1 10 (10 + j) = r ∧ p.1 12 (10 + j) = m)) : rVp p f r m t j u = [] := if_neg c
theorem rVp_0 {j : Nat} : rVp p f r m t j 0 = [] := by unfold rVp; rw [sel_0, ite_self]
theorem rV_t {j : Nat} : rV p f r m t (j + 1) = rV p f r m t j ++ rVp p f r m t j t := rV_s
theorem mlist_words {L : List Nat} (C : LmX h b k p f) (c : RsM h L) (hl : L.length + (rV p f r m t (p.1 4 0)).length ≤ 24) (hr : r < p.1 1 0) (hm : m < p.1 0 0) (ht : t ≤ pl p) : ∃ h', X15_reasonsOf_B37 195 (nI k) (nI r) (nI m) (nI t) h = X15_reasonsOf_B141 195 (nI k) (nI r) (nI m) (nI t) h' ∧ Fz LmA h h' ∧ RsM h' (L ++ rV p f r m t (p.1 4 0)) := by
  have w := C.c.q.w
  have ws := w.s
  have wr := w.r
  have wm := w.m
  have px := C.c.x
  have hk0 := C.k
  obtain ⟨h', ⟨F, c'⟩, e⟩ := loopE (F := fun n j h' => X15_reasonsOf_B40 n 195 (nI k) (nI r) (nI m) (nI t) (nI j) h') (E := fun h' => X15_reasonsOf_B141 195 (nI k) (nI r) (nI m) (nI t) h') (p.1 4 0) (fun j h' => Fz LmA h h' ∧ RsM h' (L ++ rV p f r m t j)) (Nat.zero_le _) (by omega) (h := h) ⟨Fz.rf, by rw [rV_0, List.append_nil]; exact c⟩
    (by
      rintro n j h' hj ⟨F, c'⟩
      have C' := C.fz F
      have w1 := (w.se j hj).row
      have w2 := w.st j hj
      have cl : (nI j).toNatClampNeg = j := nI_cl (by omega)
      have rs := rV_t (p := p) (f := f) (r := r) (m := m) (t := t) (j := j)
      have lk := rV_le (p := p) (f := f) (r := r) (m := m) (t := t) (k := j + 1) (p.1 4 0) (by omega)
      have next : ∀ h2, X15_reasonsOf_B135 (X15_reasonsOf_B40 n) 195 (nI k) (nI r) (nI m) (nI t) (nI j) h2 = X15_reasonsOf_B40 n 195 (nI k) (nI r) (nI m) (nI t) (nI (j + 1)) h2 := fun h2 => by
        unfold X15_reasonsOf_B135
        rw [LT_e, nI_add]
      obtain ⟨h2, ⟨F2, c2⟩, e3⟩ := loopE (F := fun n2 u h' => X15_reasonsOf_B55 (X15_reasonsOf_B40 n) n2 195 (nI k) (nI r) (nI m) (nI t) (nI j) (nI u) h') (E := fun h' => X15_reasonsOf_B135 (X15_reasonsOf_B40 n) 195 (nI k) (nI r) (nI m) (nI t) (nI j) h') t (fun u h' => Fz LmA h h' ∧ RsM h' (L ++ rV p f r m t j ++ rVp p f r m t j u)) (Nat.zero_le _) (by omega) (h := h') ⟨F, by rw [rVp_0, List.append_nil]; exact c'⟩
        (by
          rintro n2 u h3 hu ⟨F3, c3⟩
          have C3 := C.fz F3
          have v11 : xI h3 (b + 11) (nI j).toNatClampNeg = nI (p.1 12 (10 + j)) := by rw [cl]; exact C3.c.q.st j hj
          have v10 : xI h3 (b + 10) (nI j).toNatClampNeg = nI (p.1 10 (10 + j)) := by rw [cl]; exact C3.c.q.sr j hj
          have ix : nI 42 * nI k + nI 7 * nI j + nI u = nI (42 * k + 7 * j + u) := by rw [pk_mul, pk_mul, nI_add, nI_add]
          have next2 : ∀ h2, X15_reasonsOf_B129 (X15_reasonsOf_B40 n) (X15_reasonsOf_B55 (X15_reasonsOf_B40 n) n2) 195 (nI k) (nI r) (nI m) (nI t) (nI j) (nI u) h2 = X15_reasonsOf_B55 (X15_reasonsOf_B40 n) n2 195 (nI k) (nI r) (nI m) (nI t) (nI j) (nI (u + 1)) h2 := fun h2 => by
            unfold X15_reasonsOf_B129
            rw [LT_e, nI_add]
          show ∃ h4, _ ∧ X15_reasonsOf_B55 (X15_reasonsOf_B40 n) (n2 + 1) 195 (nI k) (nI r) (nI m) (nI t) (nI j) (nI u) h3 = X15_reasonsOf_B55 (X15_reasonsOf_B40 n) n2 195 (nI k) (nI r) (nI m) (nI t) (nI j) (nI (u + 1)) h4
          rw [X15_reasonsOf_B55]
          rw [if_neg (by rw [nI_lI (by omega) (by omega)]; omega), G_t C3.c.s.c195, C3.c.r4, G_t C3.c.q.s.c, C3.c.q.s.r18, G_t C3.c.q.s.c11, C3.c.q.s.z11, G_gx (by omega) (by omega), v11]
          by_cases e2 : p.1 12 (10 + j) = m
          · rw [if_pos (by rw [e2]), G_t C3.c.s.c195, G_t C3.c.q.s.c, C3.c.q.s.r17, G_t C3.c.q.s.c10, C3.c.q.s.z10, G_gx (by omega) (by omega), v10]
            by_cases e1 : p.1 10 (10 + j) = r
            · rw [rVp_y ⟨e1, e2⟩] at c3
              rw [rVp_y ⟨e1, e2⟩] at rs
              rw [rs, List.length_append] at lk
              have vc : xI h3 212 (nI (42 * k + 7 * j + u)).toNatClampNeg = cmV p f j u := by rw [nI_cl (by omega)]; exact (C3.i.W j u hj (by omega)).2.1
              rw [if_pos (by rw [e1]), G_t C3.c.s.c195, C3.c.s.r195_30, G_t C3.c.s.c212, C3.c.s.z212, ix, G_gx (by omega) (by omega), vc]
              cases e4 : cbB p f j u t
              · rw [if_neg (by rw [cmV_cb (by omega) (by omega), e4]; decide), next2]
                exact ⟨h3, ⟨F3, by rw [rVp_y ⟨e1, e2⟩, sel_n (q := fun u => cbB p f j u t) e4]; exact c3⟩, rfl⟩
              · have := sel_lt (q := fun u => cbB p f j u t) (c := 1000 + 10 * j) hu e4
                obtain ⟨h4, a1, a2, a3⟩ := C3.add (v := 1000 + 10 * j + u) F3 c3 (by rw [List.length_append, List.length_append]; omega)
                rw [if_pos (by rw [cmV_cb (by omega) (by omega)]; exact e4), G_t C3.c.s.c195, pk_mul, nI_add, nI_add, a1, BN_ok, next2]
                exact ⟨h4, ⟨a2, by rw [rVp_y ⟨e1, e2⟩, sel_y (q := fun u => cbB p f j u t) e4, ← List.append_assoc]; exact a3⟩, rfl⟩
            · rw [rVp_n (fun c => e1 c.1)] at c3
              rw [if_neg (by rw [nI_eI (by omega) (by omega)]; exact e1), next2]
              exact ⟨h3, ⟨F3, by rw [rVp_n (fun c => e1 c.1)]; exact c3⟩, rfl⟩
          · rw [rVp_n (fun c => e2 c.2)] at c3
            rw [if_neg (by rw [nI_eI (by omega) (by omega)]; exact e2), next2]
            exact ⟨h3, ⟨F3, by rw [rVp_n (fun c => e2 c.2)]; exact c3⟩, rfl⟩)
        (by
          rintro n2 h3 ⟨F3, c3⟩
          show X15_reasonsOf_B55 (X15_reasonsOf_B40 n) (n2 + 1) 195 (nI k) (nI r) (nI m) (nI t) (nI j) (nI t) h3 = _
          rw [X15_reasonsOf_B55, if_pos (by rw [nI_lI (by omega) (by omega)]; omega)])
      refine ⟨h2, ⟨F2, ?_⟩, ?_⟩
      · rw [rs, ← List.append_assoc]; exact c2
      · show X15_reasonsOf_B40 (n + 1) 195 (nI k) (nI r) (nI m) (nI t) (nI j) h' = _
        rw [X15_reasonsOf_B40]
        rw [G_t C'.c.s.c195, C'.c.r4, G_t C'.c.q.s.c, C'.c.q.sn, if_neg (by rw [nI_lI (by omega) (by omega)]; omega)]
        exact e3.trans (next h2))
    (by
      rintro n h' ⟨F, c'⟩
      have C' := C.fz F
      show X15_reasonsOf_B40 (n + 1) 195 (nI k) (nI r) (nI m) (nI t) (nI (p.1 4 0)) h' = _
      rw [X15_reasonsOf_B40]
      rw [G_t C'.c.s.c195, C'.c.r4, G_t C'.c.q.s.c, C'.c.q.sn, if_pos (by rw [nI_lI (by omega) (by omega)]; omega)])
  exact ⟨h', e, F, c'⟩
theorem mlist_37 {L : List Nat} (C : LmX h b k p f) (c : RsM h L) (hl : L.length + (rV p f r m t (p.1 4 0)).length + (rK p f r m t).length + (sel (qX p f r m t) 3000 (p.1 3 0)).length + (sel (qN p f r m t) 4000 (p.1 3 0)).length ≤ 24) (hr : r < p.1 1 0) (hm : m < p.1 0 0) (ht : t ≤ pl p) : ∃ h', X15_reasonsOf_B37 195 (nI k) (nI r) (nI m) (nI t) h = some ((), h') ∧ Fz LmA h h' ∧ RsM h' (L ++ rV p f r m t (p.1 4 0) ++ rK p f r m t ++ sel (qX p f r m t) 3000 (p.1 3 0) ++ sel (qN p f r m t) 4000 (p.1 3 0)) := by
  obtain ⟨h1, e1, F1, c1⟩ := mlist_words (r := r) (m := m) (t := t) C c (by omega) hr hm ht
  obtain ⟨h2, e2, F2, c2⟩ := mlist_141 (r := r) (m := m) (t := t) (C.fz F1) c1 (by rw [List.length_append]; omega) hr hm ht
  exact ⟨h2, e1.trans e2, F1.tr F2, c2⟩
theorem mlist_ok (C : LmX h b k p f) (hr : r < p.1 1 0) (hm : m < p.1 0 0) (ht : t ≤ pl p) : ∃ h', X15_reasonsOf_f 195 (nI k) (nI r) (nI m) (nI t) h = some ((), h') ∧ Fz LmA h h' ∧ RsM h' (rTo p f r m t) := by
  have wr := C.c.q.w.r
  have wm := C.c.q.w.m
  have px := C.c.x
  have hk0 := C.k
  have F0 : Fz LmA h (pI h 195 33 (nI 0)) := Fz.i (.inl ⟨rfl, rfl⟩)
  have C0 := C.fz F0
  have c0 : RsM (pI h 195 33 (nI 0)) [] := ⟨xI_self, fun i hi => absurd hi (Nat.not_lt_zero _)⟩
  unfold X15_reasonsOf_f rTo
  rw [G_t C.c.s.c195, LT_e, G_t C0.c.s.c195, isThere_m C0.c.s hk0 (by omega) (by omega) (by omega), BN_ok, C0.i.T t m ht hm r (by omega)]
  cases d : Tz p f t m r
  · rw [if_pos (by decide), if_neg (by decide)]
    exact ⟨_, rfl, F0, c0⟩
  · have len := rsn_len (p := p) (f := f) (r := r) (m := m) (t := t) C.c.q.w
    have er : rsn p f r m t = rF p r m t ++ rV p f r m t (p.1 4 0) ++ rK p f r m t ++ sel (qX p f r m t) 3000 (p.1 3 0) ++ sel (qN p f r m t) 4000 (p.1 3 0) := rfl
    rw [if_neg (by decide), if_pos rfl, er]
    rw [er] at len
    simp only [List.length_append] at len
    by_cases t0 : t = 0
    · rw [if_pos (by rw [t0]; exact nI_0), G_t C0.c.s.c195, isFact_m C0.c (by omega) (by omega), BN_ok]
      cases hf : factB p m r
      · have e : rF p r m t = [] := by unfold rF; rw [if_neg (fun c => by rw [hf] at c; exact absurd c.2 (by decide))]
        rw [e, List.length_nil] at len
        rw [if_pos (by decide), e]
        obtain ⟨h2, e2, F2, c2⟩ := mlist_37 (r := r) (m := m) (t := t) C0 c0 (by rw [List.length_nil]; omega) hr hm ht
        exact ⟨h2, e2, F0.tr F2, c2⟩
      · have e : rF p r m t = [0] := by unfold rF; rw [if_pos ⟨t0, hf⟩]
        rw [e, List.length_singleton] at len
        obtain ⟨h4, a1, a2, a3⟩ := C0.add (v := 0) F0 c0 (by rw [List.length_nil]; omega)
        rw [if_neg (by decide), G_t C0.c.s.c195, a1, BN_ok, e]
        obtain ⟨h2, e2, F2, c2⟩ := mlist_37 (r := r) (m := m) (t := t) (C.fz a2) a3 (by rw [List.nil_append, List.length_singleton]; omega) hr hm ht
        exact ⟨h2, e2, a2.tr F2, c2⟩
    · have e : rF p r m t = [] := by unfold rF; rw [if_neg (fun c => t0 c.1)]
      rw [e, List.length_nil] at len
      rw [if_neg (nI_ne0 (by omega) (by omega)), e]
      obtain ⟨h2, e2, F2, c2⟩ := mlist_37 (r := r) (m := m) (t := t) C0 c0 (by rw [List.length_nil]; omega) hr hm ht
      exact ⟨h2, e2, F0.tr F2, c2⟩
end
theorem pr_reasons {h : AH} {bo : Bool} {p : PR} {b m z : Nat} {l lm : List Nat} {s : LLn} {r : NN_} {lo lx : List Nat} (i : INV h bo p b m z l lm s r lo lx) (x y t : Int32) : Pair (X11_reasons_f 1 x y t) (X15_reasons_f 195 x y t) h := by
  have gi := fun (v : Int32) => (i.g.i (a := 1) (k := 15) (v := v))
  have Fi : ∀ v : Int32, Fz (SCR m) h (pI (pI h 1 15 v) 195 0 (nI 0)) := fun v => (Fz.i scA).tr (Fz.i sc0)
  rcases place_chk i x y t with ⟨r', n', u, rfl, hr, hn, hu, rfl, rfl, rfl, ew, em⟩ | ⟨ew, em⟩ | ⟨ew, em⟩
  · have B := i.b.b1 rfl
    have hx := B.x
    obtain ⟨h1, e1, F1, t1⟩ := q_play i rfl
    have g1 := i.g.fq F1
    have Fs1 : Fz (SCR m) h h1 := F1.scr (by intro a q; omega)
    have B1 := (i.b.fz Fs1 (fun a k q => sB_ q) i.bb).b1 rfl
    obtain ⟨h2, e2, F2, c2⟩ := list_ok (r := r') (m := n') (t := u) (b := b) ⟨t1, B1.w, B1.q, hx⟩ hr hn hu
    have g2 := g1.fz F2
    have Fs2 : Fz (SCR m) h h2 := Fs1.tr (F2.mo (fun a k q => by unfold LrA at q; unfold SCR; omega))
    have FF : Fz (SCR m) h (pI (pI h2 1 15 (nI 0)) 195 0 (nI 0)) := (Fs2.tr (Fz.i scA)).tr (Fz.i sc0)
    have gg := i.g.fz FF
    obtain ⟨k2, e3, F3, s3⟩ := q_runs i rfl FF
    have g3 := gg.fr F3
    have Fs3 : Fz (SCR m) h k2 := FF.tr (F3.q.scr (by intro a q; omega))
    have B3 := (i.b.fz Fs3 (fun a k q => sB_ q) i.bb).b1 rfl
    obtain ⟨k4, e4, F4, c4⟩ := mlist_ok (r := r') (m := n') (t := u) (b := m) (k := 0) ⟨B3.mox g3, s3, by decide⟩ hr hn hu
    have g4 := g3.fz F4
    have Fs4 : Fz (SCR m) h k4 := Fs3.tr (F4.mo (fun a k q => by unfold LmA at q; unfold SCR; omega))
    obtain ⟨em1, em2, em3⟩ := em _ FF
    have ml : xI (pI (pI h2 1 15 (nI 0)) 195 0 (nI 0)) 195 16 = nI l.length := (i.f.fz FF (fun a k q => sF_ q)).m
    refine ⟨nI (rTo p (flOf l) r' n' u).length, pI h2 1 15 (nI 0), pI (pI k4 195 1 (nI 0)) 195 2 (-1), ?_, g2.i.c195, ?_, ⟨_, _, _, _, _, _, _, _, _, _, _, i.fin Fs4 n4_0 (by rw [F4.I (by unfold LmA; omega), F3.I _ (by decide), xI_ne (by omega), xI_self])⟩, by show xn k4 ≤ _; rw [Fs4.n]; omega, by show xs k4 ≤ _; rw [Fs4.s]; omega⟩
    · unfold X11_reasons_f
      rw [G_t i.g.c1, ew, BN_ok, if_pos nI_0, G_t i.g.c1, i.g.r1_8, G_t i.g.c145, i.g.r1_1, i.g.r1_3, i.g.r1_9, e1, BN_ok, G_t g1.c1, g1.r1_9, G_t g1.c182, g1.r1_1, e2, BN_ok, G_t g2.c1, g2.r1_9, G_t g2.c182, c2.1, grant_c g2, BN_ok]
    · unfold X15_reasons_f
      rw [G_t g2.i.c195, LT_e, G_t gg.c195, em1, BN_ok, if_neg (by decide), G_t gg.c195, em2, BN_ok, if_neg (by decide), G_t gg.c195, em3, BN_ok, if_neg (by decide), G_t gg.c195, gg.r195_20, ml, e3, BN_ok, G_t g3.c195, e4, BN_ok, G_t g4.c195, c4.1, done_m g4, BN_ok]
  · refine Pair.no i (nI 1) (-1) n4_1 ?_ ?_
    · unfold X11_reasons_f
      rw [G_t i.g.c1, ew, BN_ok, if_neg (by decide), G_t i.g.c1, refuse_c i.g, BN_ok]
    · unfold X15_reasons_f X15_reasons_B21
      rcases em with em | em
      · rw [G_t (gi _).c195, LT_e, G_t (gi _).i.c195, em _ (Fi _), BN_ok, if_pos nI_0, G_t (gi _).i.c195, refused_m (gi _).i, BN_ok]
      · rw [G_t (gi _).c195, LT_e, G_t (gi _).i.c195, (em _ (Fi _)).1, BN_ok, if_neg (by decide), G_t (gi _).i.c195, (em _ (Fi _)).2, BN_ok, if_pos nI_0, G_t (gi _).i.c195, refused_m (gi _).i, BN_ok]
  · refine Pair.no i (nI 2) (-1) n4_2 ?_ ?_
    · unfold X11_reasons_f
      rw [G_t i.g.c1, ew, BN_ok, if_neg (by decide), G_t i.g.c1, refuse_c i.g, BN_ok]
    · obtain ⟨em1, em2, em3⟩ := em _ (Fi (nI 2))
      unfold X15_reasons_f
      rw [G_t (gi _).c195, LT_e, G_t (gi _).i.c195, em1, BN_ok, if_neg (by decide), G_t (gi _).i.c195, em2, BN_ok, if_neg (by decide), G_t (gi _).i.c195, em3, BN_ok, if_pos nI_0, G_t (gi _).i.c195, refused_m (gi _).i, BN_ok]
