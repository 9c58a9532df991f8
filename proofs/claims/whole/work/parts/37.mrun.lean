theorem isFact_m {h : AH} {b r m : Nat} {p : PR} (C : MoX h b p) (hr : r < 10) (hm : m < 4) : X15_isFact_f 195 (nI r) (nI m) h = some (bI (factB p m r), h) := by
  have w := C.q.w
  have w1 := w.f
  have w2 := w.r
  have w3 := w.m
  have w4 := w.y
  have loop : ∀ n k, k ≤ p.1 2 0 → p.1 2 0 - k < n → X15_isFact_B2 n 195 (nI r) (nI m) (nI k) h = some (bI (anyF (fun i => p.1 7 i == r && p.1 8 i == m && (p.1 9 i == 0 || bt (pS p) (p.1 9 i - 1))) k (p.1 2 0)), h) := by
    intro n
    induction n with
    | zero => intro k _ h; exact absurd h (Nat.not_lt_zero _)
    | succ n ih =>
      intro k hk hn
      rcases Nat.lt_or_ge k (p.1 2 0) with hk | hk
      · have h1 := w.fr k hk
        have h2 := w.fm k hk
        have h3 := w.fy k hk
        have hk' : ¬ p.1 2 0 ≤ k := by omega
        have ih := ih (k + 1) (by omega) (by omega)
        rw [anyF_step hk]
        simp (disch := omega) only [X15_isFact_B2, X15_isFact_B73, LT_e, G_T, BN_ok, if_true, if_false, nI_add, pk_mul, G_gx, nI_cl, nI_lI, nI_tI, nI_eI, C.s.c195, C.r4, C.q.s.c, C.q.f, hk', C.q.s.r11, C.q.s.c4, C.q.s.z4, C.q.fw, C.q.s.r12, C.q.s.c5, C.q.s.z5, C.q.fm, C.q.s.r13, C.q.s.c6, C.q.s.z6, C.q.fy, C.S, ih]
        by_cases e1 : p.1 7 k = r
        · by_cases e2 : p.1 8 k = m
          · rw [if_pos e1, if_pos e2, e1, e2, beq_self_eq_true, beq_self_eq_true]
            by_cases e3 : p.1 9 k = 0
            · rw [e3, if_pos (by decide)]; simp [bI]
            · simp (disch := omega) only [nI_pm, nI_m1, if_false, has_m, BN_ok, nI_z, bI_0]
              have : (p.1 9 k == 0) = false := by simp [e3]
              rw [this]
              cases bt (pS p) (p.1 9 k - 1)
              · simp [ih]
              · simp [bI]
          · have : (p.1 8 k == m) = false := by simp [e2]
            rw [if_pos e1, if_neg e2, this]; simp
        · have : (p.1 7 k == r) = false := by simp [e1]
          rw [if_neg e1, this]; simp
      · have : k = p.1 2 0 := by omega
        subst this
        rw [anyF_end (Nat.le_refl _)]
        simp (disch := omega) only [X15_isFact_B2, LT_e, G_T, BN_ok, if_true, if_false, nI_add, pk_mul, G_gx, nI_cl, nI_lI, nI_tI, nI_eI, C.s.c195, C.r4, C.q.s.c, C.q.f, Nat.le_refl]
        rfl
  unfold X15_isFact_f factB
  rw [loop FU 0 (Nat.zero_le _) (FU_gt (by omega)), anyF_0]
/-- the downs of a slot -/
def SlD (h : AH) (k : Nat) (f : FL) : Prop := ∀ m t, m < 4 → t < 7 → bt (xI h 211 (7 * k + t)) m = fD f m t
theorem keptFrom_m {h : AH} {k t m : Nat} {f : FL} (s : SG h) (d : SlD h k f) (hk : k < 104) (ht : t ≤ 6) (hm : m < 4) : X15_keptFrom_f 195 (nI k) (nI t) (nI m) h = some (nI (kf f m t) - nI 1, h) := by
  have loop : ∀ n u, u ≤ 6 → u < n → X15_keptFrom_B5 n 195 (nI k) (nI m) (nI u - nI 1) h = some (nI (kf f m u) - nI 1, h) := by
    intro n
    induction n with
    | zero => intro u _ h; exact absurd h (Nat.not_lt_zero _)
    | succ n ih =>
      intro u hu hn
      cases u with
      | zero =>
        rw [X15_keptFrom_B5, if_pos (by decide)]; rfl
      | succ u =>
        have e1 : nI (u + 1) - nI 1 = nI u := by rw [pk_sub (by omega)]; rfl
        have e2 : ¬ nI u < 0 := nI_pos (by omega)
        have e3 : nI u + -1 = nI u - nI 1 := by rw [Int32.sub_eq_add_neg]; rfl
        rw [e1, X15_keptFrom_B5, if_neg e2, G_t s.c195, isDown_m s hk (by omega) (by omega), BN_ok, d m u hm (by omega), kf, LT_e, e3]
        cases fD f m u
        · rw [if_pos (by decide), if_neg (by decide), e1]
        · rw [if_neg (by decide), if_pos rfl]; exact ih u (by omega) (by omega)
  unfold X15_keptFrom_f
  rw [LT_e]
  exact loop FU t (by omega) (FU_gt (by omega))
theorem cH_now {B : BK} {c : Nat} {b b' : Bool} {X : Nat → Bool} (h : ∀ k, k < B 14 c → B (40 + c) k = 0) : cH B c b X = cH B c b' X := by
  unfold cH cHf
  apply all_congr
  intro i hi
  have hi := List.mem_range.mp hi
  rw [h (0 + i) (by omega), if_pos rfl, if_pos rfl]
theorem closed_m {h : AH} {b m : Nat} {p : PR} {v : Int32} (C : MoX h b p) (hm : m < 4) : ∃ u, X15_closed_f 195 v (nI m) h = some (u, h) ∧ bt u = clo p.1 m 10 (bt v) := by
  have w := C.q.w
  have wu := w.u
  have wr := w.r
  have inn : ∀ (k5 : Nat → Int32 → Int32 → Int32 → AH → Option (Int32 × AH)) (rd : Nat) (v : Int32), rd < 10 → ∃ u, X15_closed_B15 k5 FU 195 (nI m) v (nI rd) (nI 0) h = k5 195 (nI m) u (nI (rd + 1)) h ∧ bt u = pas p.1 m (bt v) (p.1 3 0) := by
    intro k5 rd v hrd
    obtain ⟨u, h', ⟨e1, e2⟩, e3⟩ := loopEV (F := fun n k u h' => X15_closed_B15 k5 n 195 (nI m) u (nI rd) (nI k) h') (E := fun u h' => k5 195 (nI m) u (nI (rd + 1)) h') (p.1 3 0) (fun k u h' => h' = h ∧ bt u = pas p.1 m (bt v) k) (Nat.zero_le _) (by omega) (v := v) (h := h) ⟨rfl, rfl⟩
      (by
        rintro n k u h' hk ⟨rfl, e⟩
        have wn := w.nw k hk
        have w1 := w.ru k hk
        have w2 := w1.row
        have hk' : ¬ p.1 3 0 ≤ k := by omega
        simp (disch := omega) only [X15_closed_B15, X15_closed_B90, LT_e, G_T, BN_ok, if_true, if_false, nI_add, pk_mul, G_gx, nI_cl, nI_lI, nI_tI, nI_eI, C.s.c195, C.r4, C.q.s.c, C.q.u, hk', C.q.s.r16, C.q.s.c9, C.q.s.z9, C.q.rn, nI_z, isOf_m C hk hm, bI_0, C.q.s.r20, C.q.s.c13, C.q.s.z13, C.q.s.r14, C.q.s.c7, C.q.s.z7, C.q.rr]
        by_cases e1 : p.1 13 k = 0
        · exact ⟨u, h', ⟨rfl, by rw [pas_skip (by omega)]; exact e⟩, by rw [if_pos e1]⟩
        · by_cases e2 : isF p.1 k m = true
          · have e3 : p.1 13 k = 1 := by omega
            have mk := cH_mask (bare := true) (v := u) w1 wr (C.q.ka k (.inl hk)) (C.q.kn k (.inl hk))
            rw [cH_now (b' := false) (w.nn k hk e3)] at mk
            have e2' : ¬ isF p.1 k m = false := by simp [e2]
            simp (disch := omega) only [e1, e2', eq_self, Bool.true_eq_false, Bool.false_eq_true, if_true, if_false, LT_e, G_T, BN_ok, if_true, if_false, nI_add, pk_mul, G_gx, nI_cl, nI_lI, nI_tI, nI_eI, C.s.c195, C.r4, C.q.s.c, C.q.s.r20, C.q.s.c13, C.q.s.z13, C.q.s.r14, C.q.s.c7, C.q.s.z7, C.q.rr]
            by_cases e4 : u &&& xI h' (b + 13) k = xI h' (b + 13) k
            · refine ⟨u ||| nI 1 <<< (nI (p.1 10 k) &&& 31), h', ⟨rfl, ?_⟩, by rw [if_pos e4]⟩
              have e5 : cH p.1 k false (pas p.1 m (bt v) k) = true := by rw [← e]; exact mk.mpr ⟨e4, .inl rfl⟩
              rw [pas, if_pos ⟨e3, e2, e5⟩, ← e]
              funext r
              rw [b_or, b_bit (by omega)]
              congr 1
            · refine ⟨u, h', ⟨rfl, ?_⟩, by rw [if_neg e4]⟩
              have e5 : ¬ cH p.1 k false (pas p.1 m (bt v) k) = true := by rw [← e]; exact fun q => e4 (mk.mp q).1
              rw [pas, if_neg (fun q => e5 q.2.2)]; exact e
          · have e2' : isF p.1 k m = false := by simpa using e2
            exact ⟨u, h', ⟨rfl, by rw [pas_skip (fun q => e2 q.2)]; exact e⟩, by rw [if_neg e1, if_pos e2']⟩)
      (by
        rintro n u h' ⟨rfl, e⟩
        simp (disch := omega) only [X15_closed_B15, X15_closed_B96, LT_e, G_T, BN_ok, if_true, if_false, nI_add, pk_mul, G_gx, nI_cl, nI_lI, nI_tI, nI_eI, C.s.c195, C.r4, C.q.s.c, C.q.u, Nat.le_refl])
    subst e1
    exact ⟨u, e3, e2⟩
  obtain ⟨u, h', ⟨e1, e2⟩, e3⟩ := loopEV (F := fun n k u h' => X15_closed_B5 n 195 (nI m) u (nI k) h') (E := fun u h' => some (u, h')) 10 (fun k u h' => h' = h ∧ clo p.1 m (10 - k) (bt u) = clo p.1 m 10 (bt v)) (Nat.zero_le _) (by omega) (v := v) (h := h) ⟨rfl, rfl⟩
    (by
      rintro n k u h' hk ⟨rfl, e⟩
      obtain ⟨u2, e4, e5⟩ := inn (X15_closed_B5 n) k u hk
      have hk' : ¬ 10 ≤ k := by omega
      refine ⟨u2, h', ⟨rfl, ?_⟩, ?_⟩
      · rw [← e, e5, show 10 - k = (10 - (k + 1)) + 1 by omega]; rfl
      · simp (disch := omega) only [X15_closed_B5, nI_add, pk_mul, G_gx, nI_cl, nI_lI, nI_tI, nI_eI, hk', if_false]
        exact e4)
    (by
      rintro n u h' ⟨rfl, e⟩
      simp (disch := omega) only [X15_closed_B5, nI_add, pk_mul, G_gx, nI_cl, nI_lI, nI_tI, nI_eI, Nat.le_refl, if_true])
  subst e1
  exact ⟨u, e3, e2⟩
