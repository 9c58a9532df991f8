def MS (h' : AH) (k : Nat) (p : PR) (f : FL) (t q : Nat) : Prop := (SlD h' k f) ∧ (IsH h' 202 f) ∧ (∀ u n, u ≤ t → n < p.1 0 0 → ∀ r, r < 32 → bt (xI h' 210 (28 * k + 4 * u + n)) r = Tz p f u n r) ∧ (∀ u n, u < 7 → n < 4 → t < u → xI h' 210 (28 * k + 4 * u + n) = nI 0) ∧ (∀ s u, s < p.1 4 0 → (u < t ∨ (u = t ∧ s < q)) → u < pl p → xI h' 213 (42 * k + 7 * s + u) = nI (stB p f s u) ∧ xI h' 212 (42 * k + 7 * s + u) = cmV p f s u ∧ xI h' 214 (42 * k + 7 * s + u) = bI (agB p f s u)) ∧ (∀ s u, s < 6 → u < 7 → (t < u ∨ (u = t ∧ q ≤ s)) → xI h' 213 (42 * k + 7 * s + u) = nI 0 ∧ xI h' 212 (42 * k + 7 * s + u) = -1 ∧ xI h' 214 (42 * k + 7 * s + u) = nI 0)
theorem MS.D {h' : AH} {k : Nat} {p : PR} {f : FL} {t q : Nat} (q_ : MS h' k p f t q) : SlD h' k f := q_.1
theorem MS.H {h' : AH} {k : Nat} {p : PR} {f : FL} {t q : Nat} (q_ : MS h' k p f t q) : IsH h' 202 f := q_.2.1
theorem MS.T {h' : AH} {k : Nat} {p : PR} {f : FL} {t q : Nat} (q_ : MS h' k p f t q) : ∀ u n, u ≤ t → n < p.1 0 0 → ∀ r, r < 32 → bt (xI h' 210 (28 * k + 4 * u + n)) r = Tz p f u n r := q_.2.2.1
theorem MS.Z {h' : AH} {k : Nat} {p : PR} {f : FL} {t q : Nat} (q_ : MS h' k p f t q) : ∀ u n, u < 7 → n < 4 → t < u → xI h' 210 (28 * k + 4 * u + n) = nI 0 := q_.2.2.2.1
theorem MS.W {h' : AH} {k : Nat} {p : PR} {f : FL} {t q : Nat} (q_ : MS h' k p f t q) : ∀ s u, s < p.1 4 0 → (u < t ∨ (u = t ∧ s < q)) → u < pl p → xI h' 213 (42 * k + 7 * s + u) = nI (stB p f s u) ∧ xI h' 212 (42 * k + 7 * s + u) = cmV p f s u ∧ xI h' 214 (42 * k + 7 * s + u) = bI (agB p f s u) := q_.2.2.2.2.1
theorem MS.Y {h' : AH} {k : Nat} {p : PR} {f : FL} {t q : Nat} (q_ : MS h' k p f t q) : ∀ s u, s < 6 → u < 7 → (t < u ∨ (u = t ∧ q ≤ s)) → xI h' 213 (42 * k + 7 * s + u) = nI 0 ∧ xI h' 212 (42 * k + 7 * s + u) = -1 ∧ xI h' 214 (42 * k + 7 * s + u) = nI 0 := q_.2.2.2.2.2
theorem MI_MS {h : AH} {k t m : Nat} {p : PR} {f : FL} (hm : p.1 0 0 ≤ m) (g : MI h k p f t m) : MS h k p f t 0 := ⟨g.D, g.H, fun u n hu hn => g.T u n (by omega), fun u n hu hn ht => g.Z u n hu hn (.inl ht), fun s u hs hu hl => g.W s u hs (by omega) hl, fun s u hs hu ht => g.Y s u hs hu (by omega)⟩
theorem MS_MI {h : AH} {k t : Nat} {p : PR} {f : FL} (g : MS h k p f t (p.1 4 0)) (ws : p.1 4 0 ≤ 6) : MI h k p f (t + 1) 0 := ⟨g.D, g.H, fun u n hu => g.T u n (by omega) (by omega), fun u n hu hn ht => g.Z u n hu hn (by omega), fun s u hs hu hl => g.W s u hs (by omega) hl, fun s u hs hu ht => g.Y s u hs hu (by omega)⟩
theorem m_B104 {h : AH} {b k s t : Nat} {p : PR} {f : FL} {ag : Bool} (C : MoX h b p) (hk : k < 104) (hs : s < p.1 4 0) (ht : t < pl p) (d : SlD h k f) (i : IsH h 202 f) (hsn : sntB p f (Tz p f) s t = true) (hc : xI h 212 (42 * k + 7 * s + t) = -1) : ∃ h', X15_sends_B104 195 (nI k) (nI s) (nI t) (nI (42 * k + 7 * s + t)) (bI ag) h = some ((), h') ∧ FrS k h h' ∧ (∀ a j, ¬ (212 ≤ a ∧ a ≤ 214 ∧ j = 42 * k + 7 * s + t) → xI h' a j = xI h a j) ∧ xI h' 213 (42 * k + 7 * s + t) = nI (stB p f s t) ∧ xI h' 212 (42 * k + 7 * s + t) = cmV p f s t ∧ xI h' 214 (42 * k + 7 * s + t) = bI ag := by
  have hx := C.x
  have w := C.q.w
  have ws := w.s
  have wm := w.m
  have w4 := w.st s hs
  have nar : vp_nar .boolean (bI ag) = bI ag := by cases ag <;> rfl
  have F0 : Fr (fun x => x = 214) h (pI h 214 (42 * k + 7 * s + t) (bI ag)) := Fr.i rfl
  have C0 := C.fr F0 (by intro a q; omega)
  have iO := i.O s t (by omega) (by omega)
  have iA := i.A s t (by omega) (by omega)
  have D0 : ∀ c, c ≤ pl p → bt (xI (pI h 214 (42 * k + 7 * s + t) (bI ag)) 211 (7 * k + c)) (p.1 12 (10 + s)) = fD f (p.1 12 (10 + s)) c := fun c hc => by rw [xI_ne (by omega)]; exact d _ _ (by omega) (by omega)
  have two : ∀ c v : Nat, nI c = nI (stB p f s t) → nI v = cmV p f s t → ∃ h', some ((), pI (pI (pI h 214 (42 * k + 7 * s + t) (bI ag)) 213 (42 * k + 7 * s + t) (nI c)) 212 (42 * k + 7 * s + t) (nI v)) = some ((), h') ∧ FrS k h h' ∧ (∀ a j, ¬ (212 ≤ a ∧ a ≤ 214 ∧ j = 42 * k + 7 * s + t) → xI h' a j = xI h a j) ∧ xI h' 213 (42 * k + 7 * s + t) = nI (stB p f s t) ∧ xI h' 212 (42 * k + 7 * s + t) = cmV p f s t ∧ xI h' 214 (42 * k + 7 * s + t) = bI ag := by
    intro c v h1 h2
    refine ⟨_, rfl, ((FrS.w (by omega)).tr (FrS.w (by omega))).tr (FrS.w (by omega)), fun a j hn => ?_, ?_, ?_, ?_⟩
    · rw [xI_ne (by omega), xI_ne (by omega), xI_ne (by omega)]
    · rw [xI_ne (by omega), xI_self, h1]
    · rw [xI_self, h2]
    · rw [xI_ne (by omega), xI_ne (by omega), xI_self]
  have one : ∀ c : Nat, nI c = nI (stB p f s t) → cmV p f s t = -1 → ∃ h', some ((), pI (pI h 214 (42 * k + 7 * s + t) (bI ag)) 213 (42 * k + 7 * s + t) (nI c)) = some ((), h') ∧ FrS k h h' ∧ (∀ a j, ¬ (212 ≤ a ∧ a ≤ 214 ∧ j = 42 * k + 7 * s + t) → xI h' a j = xI h a j) ∧ xI h' 213 (42 * k + 7 * s + t) = nI (stB p f s t) ∧ xI h' 212 (42 * k + 7 * s + t) = cmV p f s t ∧ xI h' 214 (42 * k + 7 * s + t) = bI ag := by
    intro c h1 h2
    refine ⟨_, rfl, (FrS.w (by omega)).tr (FrS.w (by omega)), fun a j hn => ?_, ?_, ?_, ?_⟩
    · rw [xI_ne (by omega), xI_ne (by omega)]
    · rw [xI_self, h1]
    · rw [xI_ne (by omega), xI_ne (by omega), hc, h2]
    · rw [xI_ne (by omega), xI_self]
  unfold X15_sends_B104 X15_sends_B140 X15_sends_B195 X15_sends_B230
  simp (disch := omega) only [LT_e, G_T, BN_ok, if_true, if_false, nI_add, pk_mul, G_gx, nI_cl, nI_lI, nI_tI, nI_eI, xc_pI, xz_pI, xR_pI, xL_pI, xc_pL, xz_pL, xR_pL, xI_pL, xn_pI, xn_pL, C.s.c195, C.s.r195_32, C.s.c214, C.s.z214, nar, C.s.r195_26, C.s.c202, C.s.r202_1, C.s.c204, C.s.z204, C.s.r202_0, C.s.c203, C.s.z203, C.r4, C.q.s.c, C.q.s.r18, C.q.s.c11, C.q.s.z11, C.s.r195_31, C.s.c213, C.s.z213, C.s.r195_30, C.s.c212, C.s.z212, xI_ne (by omega : ¬ (204 = 214 ∧ 7 * s + t = 42 * k + 7 * s + t)), xI_ne (by omega : ¬ (203 = 214 ∧ 7 * s + t = 42 * k + 7 * s + t)), iO, iA, nI_z, bI_0, C0.l, C0.q.st, C0.s]
  cases hO : fO f s t
  · cases hA : fA f s t
    · simp only [eq_self, Bool.true_eq_false, Bool.false_eq_true, if_true, if_false]
      by_cases h1 : pl p < t + 1
      · simp only [h1, if_true]
        have e1 : stB p f s t = 4 := by unfold stB; simp [hsn, hO, hA, h1]
        exact one 4 (by rw [e1]) (by unfold cmV; rw [e1]; rfl)
      · simp only [h1, if_false]
        rw [isDown_m C0.s hk (by omega) (by omega), BN_ok, D0 _ (by omega)]
        cases hd : fD f (p.1 12 (10 + s)) (t + 1)
        · have e1 : stB p f s t = 1 := by unfold stB; simp [hsn, hO, hA, h1, hd]
          simp (disch := omega) only [bI_0, eq_self, Bool.true_eq_false, Bool.false_eq_true, if_true, if_false, LT_e, G_T, BN_ok, if_true, if_false, nI_add, pk_mul, G_gx, nI_cl, nI_lI, nI_tI, nI_eI, xc_pI, xz_pI, xR_pI, xL_pI, xc_pL, xz_pL, xR_pL, xI_pL, xn_pI, xn_pL, xI_ne (by omega : ¬ (204 = 214 ∧ 7 * s + t = 42 * k + 7 * s + t)), iA, hA, C.s.c195, C.s.r195_26, C.s.c202, C.s.r202_1, C.s.c204, C.s.z204, C.s.r195_31, C.s.c213, C.s.z213, C.s.r195_30, C.s.c212, C.s.z212]
          exact two 1 (t + 1) (by rw [e1]) (by unfold cmV; rw [e1]; rfl)
        · have e1 : stB p f s t = 4 := by unfold stB; simp [hsn, hO, hA, hd]
          simp (disch := omega) only [bI_0, eq_self, Bool.true_eq_false, Bool.false_eq_true, if_true, if_false, LT_e, G_T, BN_ok, if_true, if_false, nI_add, pk_mul, G_gx, nI_cl, nI_lI, nI_tI, nI_eI, xc_pI, xz_pI, xR_pI, xL_pI, xc_pL, xz_pL, xR_pL, xI_pL, xn_pI, xn_pL, C.s.c195, C.s.r195_31, C.s.c213, C.s.z213]
          exact one 4 (by rw [e1]) (by unfold cmV; rw [e1]; rfl)
    · simp only [eq_self, Bool.true_eq_false, Bool.false_eq_true, if_true, if_false]
      by_cases h1 : pl p < t + 3
      · simp only [h1, if_true]
        have e1 : stB p f s t = 4 := by unfold stB; simp [hsn, hO, hA, h1]
        exact one 4 (by rw [e1]) (by unfold cmV; rw [e1]; rfl)
      · simp only [h1, if_false]
        rw [isDown_m C0.s hk (by omega) (by omega), BN_ok, D0 _ (by omega)]
        cases hd : fD f (p.1 12 (10 + s)) (t + 3)
        · have e1 : stB p f s t = 3 := by unfold stB; simp [hsn, hO, hA, h1, hd]
          simp (disch := omega) only [bI_0, eq_self, Bool.true_eq_false, Bool.false_eq_true, if_true, if_false, LT_e, G_T, BN_ok, if_true, if_false, nI_add, pk_mul, G_gx, nI_cl, nI_lI, nI_tI, nI_eI, xc_pI, xz_pI, xR_pI, xL_pI, xc_pL, xz_pL, xR_pL, xI_pL, xn_pI, xn_pL, xI_ne (by omega : ¬ (204 = 214 ∧ 7 * s + t = 42 * k + 7 * s + t)), iA, hA, C.s.c195, C.s.r195_26, C.s.c202, C.s.r202_1, C.s.c204, C.s.z204, C.s.r195_31, C.s.c213, C.s.z213, C.s.r195_30, C.s.c212, C.s.z212]
          exact two 3 (t + 3) (by rw [e1]) (by unfold cmV; rw [e1]; rfl)
        · have e1 : stB p f s t = 4 := by unfold stB; simp [hsn, hO, hA, hd]
          simp (disch := omega) only [bI_0, eq_self, Bool.true_eq_false, Bool.false_eq_true, if_true, if_false, LT_e, G_T, BN_ok, if_true, if_false, nI_add, pk_mul, G_gx, nI_cl, nI_lI, nI_tI, nI_eI, xc_pI, xz_pI, xR_pI, xL_pI, xc_pL, xz_pL, xR_pL, xI_pL, xn_pI, xn_pL, C.s.c195, C.s.r195_31, C.s.c213, C.s.z213]
          exact one 4 (by rw [e1]) (by unfold cmV; rw [e1]; rfl)
  · have e1 : stB p f s t = 2 := by unfold stB; simp [hsn, hO]
    cases hA : fA f s t
    · simp only [eq_self, Bool.true_eq_false, Bool.false_eq_true, if_true, if_false]
      exact one 2 (by rw [e1]) (by unfold cmV; rw [e1]; rfl)
    · simp only [eq_self, Bool.true_eq_false, Bool.false_eq_true, if_true, if_false]
      exact one 2 (by rw [e1]) (by unfold cmV; rw [e1]; rfl)
theorem MS_send {h : AH} {b k t q : Nat} {p : PR} {f : FL} (C : MoX h b p) (hk : k < 104) (ht : t < pl p) (hq : q < p.1 4 0) (g : MS h k p f t q) : ∃ h2, X15_sends_f 195 (nI k) (nI q) (nI t) h = some ((), h2) ∧ FrS k h h2 ∧ MS h2 k p f t (q + 1) := by
  have hx := C.x
  have w := C.q.w
  have ws := w.s
  have wm := w.m
  have wr := w.r
  have w1 := w.se q hq
  have w2 := w1.pl
  have w3 := w.sp q hq
  have e6 : nI (p.1 11 (10 + q)) - nI 1 = nI (p.1 11 (10 + q) - 1) := pk_sub w3
  have hh : ∀ u, u ≤ t → X15_holds_f 195 (nI k) (nI (10 + q)) (nI u) (nI (p.1 11 (10 + q) - 1)) h = some (bI (hB p f (Tz p f) q u), h) := by
    intro u hu
    rw [holds_m C (.inr (by omega)) hk (by omega) (by omega), g.D _ _ (by omega) (by omega), decide_eq_true (by omega), Nat.add_sub_cancel_left]
    unfold hB
    rw [cH_congr w1 (Y := Tz p f u (p.1 11 (10 + q) - 1)) (fun r hr => g.T u _ hu (by omega) r (by omega))]
    rfl
  -- what is done with a word that is sent, or not
  have fin : ∀ ag : Bool, sntB p f (Tz p f) q t = true → ag = agB p f q t → ∃ h2, X15_sends_B104 195 (nI k) (nI q) (nI t) (nI (42 * k + 7 * q + t)) (bI ag) h = some ((), h2) ∧ FrS k h h2 ∧ MS h2 k p f t (q + 1) := by
    intro ag hs ha
    obtain ⟨h2, e, F, o, v1, v2, v3⟩ := m_B104 (ag := ag) C hk hq ht g.D g.H hs (g.Y q t (by omega) (by omega) (by omega)).2.1
    refine ⟨h2, e, F, fun m t hm ht => ?_, g.H.fr F.F (by intro k _ _; omega), fun u n hu hn r hr => ?_, fun u n hu hn ht => ?_, fun s u hs hu hl => ?_, fun s u hs hu hl => ?_⟩
    · rw [o _ _ (by omega)]; exact g.D m t hm ht
    · rw [o _ _ (by omega)]; exact g.T u n hu hn r hr
    · rw [o _ _ (by omega)]; exact g.Z u n hu hn ht
    · by_cases e : s = q ∧ u = t
      · rw [e.1, e.2]; exact ⟨v1, v2, by rw [v3, ha]⟩
      · rw [o _ _ (by omega), o _ _ (by omega), o _ _ (by omega)]; exact g.W s u hs (by omega) hl
    · rw [o _ _ (by omega), o _ _ (by omega), o _ _ (by omega)]; exact g.Y s u hs hu (by omega)
  have non : sntB p f (Tz p f) q t = false → MS h k p f t (q + 1) := by
    intro hs
    have y := g.Y q t (by omega) (by omega) (by omega)
    have e1 : stB p f q t = 0 := by unfold stB; rw [hs]; rfl
    refine ⟨g.D, g.H, g.T, g.Z, fun s u hs' hu hl => ?_, fun s u hs hu hl => g.Y s u hs hu (by omega)⟩
    by_cases e : s = q ∧ u = t
    · rw [e.1, e.2, e1]
      refine ⟨y.1, ?_, ?_⟩
      · unfold cmV; rw [e1]; exact y.2.1
      · unfold agB; rw [hs]; exact y.2.2
    · exact g.W s u hs' (by omega) hl
  have b0 : X15_sends_B90 195 (nI k) (nI q) (nI t) (nI (42 * k + 7 * q + t)) (nI 0) h = some ((), h) := by
    unfold X15_sends_B90 X15_sends_B91
    rw [if_pos (by decide), if_pos (by decide)]
  have b1 : X15_sends_B90 195 (nI k) (nI q) (nI t) (nI (42 * k + 7 * q + t)) (nI 1) h = X15_sends_B104 195 (nI k) (nI q) (nI t) (nI (42 * k + 7 * q + t)) (nI 0) h := by
    unfold X15_sends_B90 X15_sends_B91
    rw [if_neg (by decide)]
  have b2 : X15_sends_B91 195 (nI k) (nI q) (nI t) (nI (42 * k + 7 * q + t)) (nI 0) (nI 1) h = X15_sends_B104 195 (nI k) (nI q) (nI t) (nI (42 * k + 7 * q + t)) (nI 1) h := by
    unfold X15_sends_B91
    rw [if_pos (by decide), if_neg (by decide)]
  have e0 : X15_sends_f 195 (nI k) (nI q) (nI t) h = (if bI (hB p f (Tz p f) q t) = 0 then (G (xc h 195 = 15) <| BN (X15_has_f (xI h 195 24) (nI q) h) fun v11 h10 => if v11 = 0 then (X15_sends_B90 195 (nI k) (nI q) (nI t) (nI (42 * k + 7 * q + t)) (bI (hB p f (Tz p f) q t)) h10) else (if nI t ≤ 0 then (X15_sends_B90 195 (nI k) (nI q) (nI t) (nI (42 * k + 7 * q + t)) (bI (hB p f (Tz p f) q t)) h10) else (G (xc h10 195 = 15) <| BN (X15_isDown_f 195 (nI k) (nI t) (nI (p.1 11 (10 + q) - 1)) h10) fun v14 h13 => if v14 = 0 then (G (xc h13 195 = 15) <| BN (X15_holds_f 195 (nI k) (nI (10 + q)) (nI t - nI 1) (nI (p.1 11 (10 + q) - 1)) h13) fun v17 h16 => if v17 = 0 then (X15_sends_B90 195 (nI k) (nI q) (nI t) (nI (42 * k + 7 * q + t)) (bI (hB p f (Tz p f) q t)) h16) else (X15_sends_B91 195 (nI k) (nI q) (nI t) (nI (42 * k + 7 * q + t)) (bI (hB p f (Tz p f) q t)) (nI 1) h16)) else (X15_sends_B90 195 (nI k) (nI q) (nI t) (nI (42 * k + 7 * q + t)) (bI (hB p f (Tz p f) q t)) h13)))) else (X15_sends_B90 195 (nI k) (nI q) (nI t) (nI (42 * k + 7 * q + t)) (bI (hB p f (Tz p f) q t)) h)) := by
    unfold X15_sends_f
    rw [C.s.c195, C.r4, C.q.s.c, C.q.s.r19, C.q.s.c12, C.q.s.z12, G_t rfl, G_t rfl, G_t rfl, G_gx (by omega) (by omega), nI_cl (by omega), C.q.sa q hq, e6, LT_e, LT_e, nI_add, hh t (Nat.le_refl t), BN_ok, pk_mul, pk_mul, nI_add, nI_add, C.s.c195]
  rw [e0]
  cases hv : hB p f (Tz p f) q t
  · rw [if_pos (by decide), G_t C.s.c195, C.A, has_m (by omega), BN_ok]
    show ∃ h2, (if bI (bt (pA p) q) = 0 then (X15_sends_B90 195 (nI k) (nI q) (nI t) (nI (42 * k + 7 * q + t)) (nI 0) h) else _) = _ ∧ _
    cases hA : bt (pA p) q
    · rw [if_pos (by decide), b0]
      exact ⟨h, rfl, FrS.rf, non (by unfold sntB; rw [hv, hA]; simp)⟩
    · rw [if_neg (by decide)]
      by_cases h0 : t = 0
      · rw [h0, if_pos (by decide), ← h0]
        refine ⟨h, b0, FrS.rf, non (by unfold sntB; rw [hv, decide_eq_false (by omega : ¬ 0 < t)]; simp)⟩
      · have e7 : nI t - nI 1 = nI (t - 1) := pk_sub (by omega)
        rw [if_neg (nI_nle (by omega) (by omega)), G_t C.s.c195, isDown_m C.s hk (by omega) (by omega), BN_ok, g.D _ _ (by omega) (by omega)]
        cases hd : fD f (p.1 11 (10 + q) - 1) t
        · rw [if_pos (by decide), e7, G_t C.s.c195, hh (t - 1) (by omega), BN_ok]
          cases hw : hB p f (Tz p f) q (t - 1)
          · rw [if_pos (by decide)]
            exact ⟨h, b0, FrS.rf, non (by unfold sntB; rw [hv, hw]; simp)⟩
          · rw [if_neg (by decide)]
            have hs : sntB p f (Tz p f) q t = true := by unfold sntB; rw [hv, hA, hw, hd, decide_eq_true (by omega : 0 < t)]; rfl
            show ∃ h2, X15_sends_B91 195 (nI k) (nI q) (nI t) (nI (42 * k + 7 * q + t)) (nI 0) (nI 1) h = _ ∧ _
            rw [b2]
            exact fin true hs (by unfold agB; rw [hs, hv]; rfl)
        · rw [if_neg (by decide)]
          exact ⟨h, b0, FrS.rf, non (by unfold sntB; rw [hv, hd]; simp)⟩
  · rw [if_neg (by decide)]
    have hs : sntB p f (Tz p f) q t = true := by unfold sntB; rw [hv]; rfl
    show ∃ h2, X15_sends_B90 195 (nI k) (nI q) (nI t) (nI (42 * k + 7 * q + t)) (nI 1) h = _ ∧ _
    rw [b1]
    exact fin false hs (by unfold agB; rw [hs, hv]; rfl)
