theorem sp_sub {p : PR} {f g : FL} (w : WB p.1) {t m r : Nat} (q : spB p f g (Sz p f g) t m r = true) : preB p f (Tz p f) t m r = true := by
  unfold spB at q
  unfold preB
  simp only [Bool.or_eq_true] at q ⊢
  rcases q with ((q | q) | q) | q
  · exact .inl (.inl (.inl q))
  · refine .inl (.inl (.inr ?_))
    unfold swB at q
    unfold arrB
    rw [List.any_eq_true] at q ⊢
    obtain ⟨s, hs, q⟩ := q
    refine ⟨s, hs, ?_⟩
    simp only [Bool.and_eq_true] at q ⊢
    refine ⟨q.1, ?_⟩
    have q2 := q.2
    rw [List.any_eq_true] at q2 ⊢
    obtain ⟨u, hu, q2⟩ := q2
    rw [Bool.and_eq_true] at q2
    exact ⟨u, hu, cb_cm q2.1⟩
  · refine .inl (.inr ?_)
    unfold skB at q
    unfold kpB
    simp only [Bool.and_eq_true] at q ⊢
    exact ⟨q.1.1, q.1.2, Sz_sub w _ _ _ q.2⟩
  · refine .inr ?_
    unfold snB at q
    unfold nxB
    simp only [Bool.and_eq_true] at q ⊢
    have q2 := q.2
    rw [List.any_eq_true] at q2
    obtain ⟨i, hi, q2⟩ := q2
    simp only [Bool.and_eq_true] at q2
    refine ⟨⟨q.1, q2.1.2.1⟩, ?_⟩
    rw [List.any_eq_true]
    exact ⟨i, hi, by simp only [Bool.and_eq_true]; exact ⟨q2.1.1, q2.1.2.2⟩⟩
/-- the reference puts falls g to slot k -/
def MuX (h : AH) (b k : Nat) (p : PR) (f g : FL) : Prop := (MoX h b p) ∧ (IsSl h k p f) ∧ (IsH h 206 g) ∧ (k < 104)
theorem MuX.m {h : AH} {b k : Nat} {p : PR} {f g : FL} (q_ : MuX h b k p f g) : MoX h b p := q_.1
theorem MuX.s {h : AH} {b k : Nat} {p : PR} {f g : FL} (q_ : MuX h b k p f g) : IsSl h k p f := q_.2.1
theorem MuX.h {h : AH} {b k : Nat} {p : PR} {f g : FL} (q_ : MuX h b k p f g) : IsH h 206 g := q_.2.2.1
theorem MuX.k {h : AH} {b k : Nat} {p : PR} {f g : FL} (q_ : MuX h b k p f g) : k < 104 := q_.2.2.2
theorem MuX.fr {A : Nat → Prop} {h h' : AH} {b k : Nat} {p : PR} {f g : FL} (F : Fr A h h') (n : ∀ x, A x → x = 216) (C : MuX h b k p f g) : MuX h' b k p f g := ⟨C.m.fr F (fun x q => by have := n x q; omega), C.s.fr F (fun x q1 q2 q => by have := n x q; omega), C.h.fr F (fun k q1 q2 q => by have := n _ q; omega), C.k⟩
theorem isDownH_m {h : AH} {g : FL} {t m : Nat} (i : IsH h 206 g) (ht : t < 7) (hm : m < 4) : X13_isDown_f 206 (nI t) (nI m) h = some (bI (fD g m t), h) := by
  unfold X13_isDown_f
  simp (disch := omega) only [LT_e, G_T, BN_ok, if_true, if_false, nI_add, pk_mul, G_gx, nI_cl, nI_lI, nI_tI, nI_eI, i.s.c, i.s.r2, i.s.c3, i.s.z3, b_test1n, i.D m t hm ht]
  cases fD g m t <;> rfl
theorem wc_of {h : AH} {b : Nat} {B : BK} (q : IsMB h b B) {c : Nat} (hc : c < B 3 0 ∨ (10 ≤ c ∧ c < 10 + B 4 0)) : WC B c := by
  rcases hc with hc | hc
  · exact q.w.ru c hc
  · have := q.w.se (c - 10) (by omega)
    rw [show 10 + (c - 10) = c by omega] at this; exact this
theorem isStanding_m {h : AH} {b c t m : Nat} {p : PR} (C : MoX h b p) (hc : c < p.1 3 0 ∨ (10 ≤ c ∧ c < 10 + p.1 4 0)) (ht : t < 7) (hm : m < 4) : X15_isStanding_f 195 (nI c) (nI t) (nI m) h = some (bI (cH p.1 c true (bt (xI h 216 (4 * t + m)))), h) := by
  have wu := C.q.w.u
  have ws := C.q.w.s
  have mk := cH_mask (bare := true) (v := xI h 216 (4 * t + m)) (wc_of C.q hc) C.q.w.r (C.q.ka c hc) (C.q.kn c hc)
  unfold X15_isStanding_f
  simp (disch := omega) only [LT_e, G_T, BN_ok, if_true, if_false, nI_add, pk_mul, G_gx, nI_cl, nI_lI, nI_tI, nI_eI, C.s.c195, C.s.r195_35, C.s.c216, C.s.z216, C.r4, C.q.s.c, C.q.s.r20, C.q.s.c13, C.q.s.z13]
  by_cases h1 : xI h 216 (4 * t + m) &&& xI h (b + 13) c = xI h (b + 13) c
  · rw [if_pos h1, mk.mpr ⟨h1, .inl rfl⟩]; rfl
  · have : cH p.1 c true (bt (xI h 216 (4 * t + m))) = false := by rw [Bool.eq_false_iff]; exact fun q => h1 (mk.mp q).1
    rw [if_neg h1, this]; rfl
theorem isWordStanding_m {h : AH} {b k s u : Nat} {p : PR} {f g : FL} {S : Nat → Nat → Nat → Bool} (C : MuX h b k p f g) (hs : s < p.1 4 0) (hu : u < pl p) (hS : ∀ v n r, v ≤ u → n < p.1 0 0 → r < p.1 1 0 → bt (xI h 216 (4 * v + n)) r = S v n r) : X15_isWordStanding_f 195 (nI k) (nI s) (nI u) h = some (bI (wsB p f g S s u), h) := by
  have M := C.m
  have w := M.q.w
  have ws := w.s
  have wm := w.m
  have hx := M.x
  have hk := C.k
  have wc := w.se s hs
  have w2 := wc.pl
  have w3 := w.sp s hs
  have e6 : nI (p.1 11 (10 + s)) - nI 1 = nI (p.1 11 (10 + s) - 1) := pk_sub w3
  have sO := C.h.O s u (by omega) (by omega)
  have sA := C.h.A s u (by omega) (by omega)
  have sg := (C.s.W s u hs hu).2.2
  have cc : ∀ v, v ≤ u → cH p.1 (10 + s) true (bt (xI h 216 (4 * v + (p.1 11 (10 + s) - 1)))) = cH p.1 (10 + s) true (S v (p.1 11 (10 + s) - 1)) := fun v hv => cH_congr wc (fun r hr => hS v _ r hv (by omega) hr)
  have fin : ∀ v, v ≤ u → X15_isWordStanding_B85 (nI (p.1 11 (10 + s) - 1)) (nI v) (nI (10 + s)) 195 h = some (bI (cH p.1 (10 + s) true (S v (p.1 11 (10 + s) - 1))), h) := by
    intro v hv
    unfold X15_isWordStanding_B85
    rw [G_t M.s.c195, isStanding_m M (.inr (by omega)) (by omega) (by omega), BN_ok, cc v hv]
    cases cH p.1 (10 + s) true (S v (p.1 11 (10 + s) - 1)) <;> rfl
  have sg' : xI h 214 (42 * k + (7 * s + u)) = bI (agB p f s u) := by rw [← Nat.add_assoc]; exact sg
  unfold X15_isWordStanding_f wsB
  simp (disch := omega) only [LT_e, G_T, BN_ok, if_true, if_false, nI_add, pk_mul, G_gx, nI_cl, nI_lI, nI_tI, nI_eI, M.s.c195, M.r4, M.q.s.c, M.q.s.r19, M.q.s.c12, M.q.s.z12, M.q.sa, e6, M.s.r195_27, M.s.c206, M.s.r206_0, M.s.c207, M.s.z207, sO, M.s.r206_1, M.s.c208, M.s.z208, sA, nI_z, bI_0, isDownH_m C.h (by omega : u < 7) (by omega : p.1 11 (10 + s) - 1 < 4), M.s.r195_32, M.s.c214, M.s.z214, sg']
  cases hO : fO g s u
  · cases hA : fA g s u
    · cases hd : fD g (p.1 11 (10 + s) - 1) u
      · unfold ctK
        cases hg : agB p f s u
        · simp only [eq_self, Bool.true_eq_false, Bool.false_eq_true, if_true, if_false]
          rw [fin u (Nat.le_refl u)]; rfl
        · have := ag_pos hg
          have e7 : nI u - nI 1 = nI (u - 1) := pk_sub (by omega)
          simp only [eq_self, Bool.true_eq_false, Bool.false_eq_true, if_true, if_false]
          rw [e7, fin (u - 1) (by omega)]; rfl
      · simp only [eq_self, Bool.true_eq_false, Bool.false_eq_true, if_true, if_false]; rfl
    · simp only [eq_self, Bool.true_eq_false, Bool.false_eq_true, if_true, if_false]; rfl
  · simp only [eq_self, Bool.true_eq_false, Bool.false_eq_true, if_true, if_false]; rfl
/-- the loops of puts, up to the closing; E goes on with the rows that are up -/
theorem puts_f {h : AH} {b k t m : Nat} {p : PR} {f g : FL} {i4 i6 : Int32} (k2 : Nat → Int32 → Int32 → AH → Option (Unit × AH)) (k12 : Nat → Int32 → Int32 → Int32 → AH → Option (Unit × AH)) (C : MuX h b k p f g) (hm : m < p.1 0 0) (ht : t ≤ 6) : ∃ v, X15_puts_B62 k2 k12 195 (nI k) (nI t) (nI m) i4 (nI 0) i6 h = X15_puts_B112 k2 k12 195 (nI k) (nI t) (nI m) i4 v i6 h ∧ ∀ r, r < 32 → bt v r = (decide (t = 0) && factB p m r) := by
  have M := C.m
  have w := M.q.w
  have wr := w.r
  have wm := w.m
  by_cases h0 : t = 0
  · obtain ⟨v, h', ⟨e1, e2⟩, e3⟩ := loopEV (F := fun n i v h' => X15_puts_B67 k2 k12 n 195 (nI k) (nI t) (nI m) i4 v i6 (nI i) h') (E := fun v h' => X15_puts_B112 k2 k12 195 (nI k) (nI t) (nI m) i4 v i6 h') (p.1 1 0) (fun i v h' => h' = h ∧ ∀ r, r < 32 → bt v r = (decide (r < i) && factB p m r)) (Nat.zero_le _) (by omega) (v := nI 0) (h := h) ⟨rfl, fun r _ => by rw [b_n0]; simp⟩
      (by
        rintro n i v h' hi ⟨rfl, e⟩
        have hi' : ¬ p.1 1 0 ≤ i := by omega
        simp (disch := omega) only [X15_puts_B67, X15_puts_B103, LT_e, G_T, BN_ok, if_true, if_false, nI_add, pk_mul, G_gx, nI_cl, nI_lI, nI_tI, nI_eI, M.s.c195, M.r4, M.q.s.c, M.q.r, hi', h0, nI_z, isFact_m M (by omega : i < 10) (by omega : m < 4), bI_0]
        cases hf : factB p m i
        · refine ⟨v ||| nI 0, h', ⟨rfl, fun r hr => ?_⟩, by simp only [eq_self, Bool.true_eq_false, Bool.false_eq_true, if_true, if_false]⟩
          rw [b_or, b_n0, Bool.or_false, e r hr]
          by_cases er : r = i
          · subst er; rw [hf]; simp
          · congr 1; apply decide_eq_decide.mpr; omega
        · refine ⟨v ||| nI 1 <<< (nI i &&& 31), h', ⟨rfl, fun r hr => ?_⟩, by simp only [eq_self, Bool.true_eq_false, Bool.false_eq_true, if_true, if_false]⟩
          rw [b_or, b_bit (by omega), e r hr]
          by_cases er : r = i
          · subst er; rw [hf]; simp
          · rw [decide_eq_false er, Bool.or_false]; congr 1; apply decide_eq_decide.mpr; omega)
      (by
        rintro n v h' ⟨rfl, e⟩
        simp (disch := omega) only [X15_puts_B67, LT_e, G_T, BN_ok, if_true, if_false, nI_add, pk_mul, G_gx, nI_cl, nI_lI, nI_tI, nI_eI, M.s.c195, M.r4, M.q.s.c, M.q.r, Nat.le_refl])
    subst e1
    refine ⟨v, e3, fun r hr => ?_⟩
    rw [e2 r hr, decide_eq_true h0]
    by_cases hb : r < p.1 1 0
    · rw [decide_eq_true hb]
    · rw [factB_big w (by omega)]; simp
  · refine ⟨nI 0, ?_, fun r _ => by rw [b_n0, decide_eq_false h0]; rfl⟩
    have : ∀ n, X15_puts_B67 k2 k12 (n + 1) 195 (nI k) (nI t) (nI m) i4 (nI 0) i6 (nI 0) h = X15_puts_B112 k2 k12 195 (nI k) (nI t) (nI m) i4 (nI 0) i6 h := by
      intro n
      by_cases h1 : p.1 1 0 ≤ 0
      · simp (disch := omega) only [X15_puts_B67, LT_e, G_T, BN_ok, if_true, if_false, nI_add, pk_mul, G_gx, nI_cl, nI_lI, nI_tI, nI_eI, M.s.c195, M.r4, M.q.s.c, M.q.r, h1]
      · simp (disch := omega) only [X15_puts_B67, LT_e, G_T, BN_ok, if_true, if_false, nI_add, pk_mul, G_gx, nI_cl, nI_lI, nI_tI, nI_eI, M.s.c195, M.r4, M.q.s.c, M.q.r, h1, nI_z, h0]
    exact this 3999999
theorem cmV_cb {p : PR} {f : FL} {s u t : Nat} (hu : u < 6) (ht : t ≤ 6) : cmV p f s u = nI t ↔ cbB p f s u t = true := by
  unfold cmV cbB
  have m1 : ¬ ((-1 : Int32) = nI t) := fun q => by
    have := nI_m1 (n := t) (by omega)
    rw [← this]; exact q.symm
  by_cases h1 : stB p f s u = 1
  · rw [if_pos h1, h1, nI_eI (by omega) (by omega)]; simp
  · rw [if_neg h1]
    by_cases h3 : stB p f s u = 3
    · rw [if_pos h3, h3, nI_eI (by omega) (by omega)]; simp
    · rw [if_neg h3]; simp [m1, h1, h3]
theorem puts_w {h : AH} {b k t m : Nat} {p : PR} {f g : FL} {i4 i6 v : Int32} {S : Nat → Nat → Nat → Bool} (k2 : Nat → Int32 → Int32 → AH → Option (Unit × AH)) (k12 : Nat → Int32 → Int32 → Int32 → AH → Option (Unit × AH)) (C : MuX h b k p f g) (hm : m < p.1 0 0) (ht : t ≤ pl p) (hS : ∀ v n r, v < t → n < p.1 0 0 → r < p.1 1 0 → bt (xI h 216 (4 * v + n)) r = S v n r) : ∃ v', X15_puts_B112 k2 k12 195 (nI k) (nI t) (nI m) i4 v i6 h = X15_puts_B217 k2 k12 195 (nI k) (nI t) (nI m) i4 v' i6 h ∧ ∀ r, r < 32 → bt v' r = (bt v r || swB p f g S t m r) := by
  have M := C.m
  have w := M.q.w
  have wr := w.r
  have wm := w.m
  have ws := w.s
  have hx := M.x
  have hk := C.k
  obtain ⟨v', h', ⟨e1, e2⟩, e3⟩ := loopEV (F := fun n i v h' => X15_puts_B115 k2 k12 n 195 (nI k) (nI t) (nI m) i4 v i6 (nI i) h') (E := fun v h' => X15_puts_B217 k2 k12 195 (nI k) (nI t) (nI m) i4 v i6 h') (p.1 4 0) (fun i v' h' => h' = h ∧ ∀ r, r < 32 → bt v' r = (bt v r || (List.range i).any fun s => p.1 12 (10 + s) == m && p.1 10 (10 + s) == r && (List.range t).any fun u => cbB p f s u t && wsB p f g S s u)) (Nat.zero_le _) (by omega) (v := v) (h := h) ⟨rfl, fun r _ => by simp⟩
    (by
      rintro n s v1 h' hs ⟨rfl, e⟩
      have hs' : ¬ p.1 4 0 ≤ s := by omega
      have w1 := w.st s hs
      have w2 := (w.se s hs).row
      have step : ∃ v2, X15_puts_B130 k2 k12 (X15_puts_B115 k2 k12 n) FU 195 (nI k) (nI t) (nI m) i4 v1 i6 (nI s) (nI 0) h' = X15_puts_B115 k2 k12 n 195 (nI k) (nI t) (nI m) i4 v2 i6 (nI (s + 1)) h' ∧ ∀ r, r < 32 → bt v2 r = (bt v1 r || (p.1 12 (10 + s) == m && p.1 10 (10 + s) == r && (List.range t).any fun u => cbB p f s u t && wsB p f g S s u)) := by
        by_cases hg : p.1 12 (10 + s) = m
        · obtain ⟨v2, h2, ⟨f1, f2⟩, f3⟩ := loopEV (F := fun n' i v h' => X15_puts_B130 k2 k12 (X15_puts_B115 k2 k12 n) n' 195 (nI k) (nI t) (nI m) i4 v i6 (nI s) (nI i) h') (E := fun v h' => X15_puts_B115 k2 k12 n 195 (nI k) (nI t) (nI m) i4 v i6 (nI (s + 1)) h') t (fun i v' h2 => h2 = h' ∧ ∀ r, r < 32 → bt v' r = (bt v1 r || (p.1 10 (10 + s) == r && (List.range i).any fun u => cbB p f s u t && wsB p f g S s u))) (Nat.zero_le _) (by omega) (v := v1) (h := h') ⟨rfl, fun r _ => by simp⟩
            (by
              rintro n' u v3 h2 hu ⟨rfl, e⟩
              have hu' : ¬ t ≤ u := by omega
              have sc := (C.s.W s u hs (by omega)).2.1
              have cv := cmV_cb (p := p) (f := f) (s := s) (u := u) (t := t) (by omega) (by omega)
              simp (disch := omega) only [X15_puts_B130, X15_puts_B201, X15_puts_B202, LT_e, G_T, BN_ok, if_true, if_false, nI_add, pk_mul, G_gx, nI_cl, nI_lI, nI_tI, nI_eI, hu', M.s.c195, M.r4, M.q.s.c, M.q.s.r18, M.q.s.c11, M.q.s.z11, M.q.st, hg, M.s.r195_30, M.s.c212, M.s.z212, sc, cv, isWordStanding_m (S := S) C hs (by omega : u < pl p) (fun v n r hv hn hr => hS v n r (by omega) hn hr), nI_z, bI_0, M.q.s.r17, M.q.s.c10, M.q.s.z10, M.q.sr]
              have nothing : (cbB p f s u t && wsB p f g S s u) = false → ∀ r, r < 32 → bt (v3 ||| nI 0) r = (bt v1 r || (p.1 10 (10 + s) == r && (List.range (u + 1)).any fun u => cbB p f s u t && wsB p f g S s u)) := by
                intro q r hr
                rw [b_or, b_n0, e r hr, rany_succ, q]; simp
              cases hc : cbB p f s u t
              · exact ⟨_, h2, ⟨rfl, nothing (by rw [hc]; rfl)⟩, by simp only [eq_self, Bool.true_eq_false, Bool.false_eq_true, if_true, if_false]⟩
              · cases hw : wsB p f g S s u
                · exact ⟨_, h2, ⟨rfl, nothing (by rw [hw]; simp)⟩, by simp only [eq_self, Bool.true_eq_false, Bool.false_eq_true, if_true, if_false]⟩
                · refine ⟨v3 ||| nI 1 <<< (nI (p.1 10 (10 + s)) &&& 31), h2, ⟨rfl, fun r hr => ?_⟩, by simp only [eq_self, Bool.true_eq_false, Bool.false_eq_true, if_true, if_false]⟩
                  rw [b_or, b_bit (by omega), e r hr, rany_succ, hc, hw]
                  by_cases er : r = p.1 10 (10 + s)
                  · rw [er]; simp
                  · have : (p.1 10 (10 + s) == r) = false := by simp; omega
                    rw [this, decide_eq_false er]; simp)
            (by
              rintro n' v3 h2 ⟨rfl, e⟩
              simp (disch := omega) only [X15_puts_B130, X15_puts_B211, LT_e, G_T, BN_ok, if_true, if_false, nI_add, pk_mul, G_gx, nI_cl, nI_lI, nI_tI, nI_eI, Nat.le_refl])
          subst f1
          refine ⟨v2, f3, fun r hr => ?_⟩
          rw [f2 r hr, hg]; simp
        · refine ⟨v1, ?_, fun r hr => by
            have : (p.1 12 (10 + s) == m) = false := by simp [hg]
            rw [this]; simp⟩
          have : ∀ n', X15_puts_B130 k2 k12 (X15_puts_B115 k2 k12 n) (n' + 1) 195 (nI k) (nI t) (nI m) i4 v1 i6 (nI s) (nI 0) h' = X15_puts_B115 k2 k12 n 195 (nI k) (nI t) (nI m) i4 v1 i6 (nI (s + 1)) h' := by
            intro n'
            by_cases h0 : t ≤ 0
            · simp (disch := omega) only [X15_puts_B130, X15_puts_B211, LT_e, G_T, BN_ok, if_true, if_false, nI_add, pk_mul, G_gx, nI_cl, nI_lI, nI_tI, nI_eI, h0]
            · simp (disch := omega) only [X15_puts_B130, X15_puts_B211, LT_e, G_T, BN_ok, if_true, if_false, nI_add, pk_mul, G_gx, nI_cl, nI_lI, nI_tI, nI_eI, h0, M.s.c195, M.r4, M.q.s.c, M.q.s.r18, M.q.s.c11, M.q.s.z11, M.q.st, hg]
          exact this 3999999
      obtain ⟨v2, g1, g2⟩ := step
      refine ⟨v2, h', ⟨rfl, fun r hr => ?_⟩, ?_⟩
      · rw [g2 r hr, e r hr, rany_succ, Bool.or_assoc]
      · simp (disch := omega) only [X15_puts_B115, LT_e, G_T, BN_ok, if_true, if_false, nI_add, pk_mul, G_gx, nI_cl, nI_lI, nI_tI, nI_eI, M.s.c195, M.r4, M.q.s.c, M.q.sn, hs']
        exact g1)
    (by
      rintro n v1 h' ⟨rfl, e⟩
      simp (disch := omega) only [X15_puts_B115, LT_e, G_T, BN_ok, if_true, if_false, nI_add, pk_mul, G_gx, nI_cl, nI_lI, nI_tI, nI_eI, M.s.c195, M.r4, M.q.s.c, M.q.sn, Nat.le_refl])
  subst e1
  exact ⟨v', e3, e2⟩
