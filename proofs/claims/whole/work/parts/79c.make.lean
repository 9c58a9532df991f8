/-- one mend; the mends of a mask -/
def mdS (d : Nat) (x : Int32 × Int32 × Int32) : Int32 × Int32 × Int32 := if d / 10 = 0 then (x.1 ||| nI 1 <<< (nI (d % 10) &&& 31), x.2) else if d / 10 = 1 then (x.1, x.2.1 ||| nI 1 <<< (nI (d % 10) &&& 31), x.2.2) else (x.1, x.2.1, x.2.2 ||| nI 1 <<< (nI (d % 10) &&& 31))
def mdN (l : List Nat) (v : Int32) : Nat → Int32 × Int32 × Int32 → Int32 × Int32 × Int32
  | 0, x => x
  | k + 1, x => if bt v k then mdS (l.getD k 0) (mdN l v k x) else mdN l v k x
def mdQ (l : List Nat) (v : Int32) (k : Nat) (p : PR) : PR := (p.1, p.2.1, p.2.2.1, mdN l v k p.2.2.2)
theorem shl1 : ∀ n, n < 31 → nI 1 <<< (nI n &&& 31) = nI (2 ^ n) := by decide +kernel
theorem atL_n {l : List Nat} {k : Nat} (hk : k < l.length) (hl : l.length < 1000) : atL l (nI k) = nI (l.getD k 0) := by
  unfold atL
  rw [if_neg (by
    rintro (q | q)
    · exact nI_pos (by omega) q
    · rw [nI_lI (by omega) (by omega)] at q; omega), nI_cl (by omega)]
theorem change_ok {h : AH} {wk b d : Nat} {p : PR} (w : IsW h wk b p) (hd : d < 30) : ∃ h', X10_change_f wk (nI d) h = some ((), h') ∧ Fr (fun x => x = wk) h h' ∧ IsW h' wk b (p.1, p.2.1, p.2.2.1, mdS d p.2.2.2) := by
  have c0 := w.c
  have dv : nI d / nI 10 = nI (d / 10) := pk_div (by omega) (by omega) (by omega)
  have dr : nI d - nI d / nI 10 * nI 10 = nI (d % 10) := pk_rem (by omega) (by omega) (by omega)
  unfold X10_change_f
  rw [dr, dv, LT_e]
  have e3 : d / 10 = 0 ∨ d / 10 = 1 ∨ d / 10 = 2 := by omega
  rcases e3 with e | e | e
  · have hm : mdS d p.2.2.2 = (pK p ||| nI 1 <<< (nI (d % 10) &&& 31), pA p, pb p) := by unfold mdS; rw [if_pos e]; rfl
    rw [hm, e, if_pos rfl, G_t c0, LT_e, w.K]
    exact ⟨_, rfl, Fr.i rfl, w.w, w.c, w.bk, by rw [xI_ne (by omega)]; exact w.l, by rw [xI_ne (by omega)]; exact w.S, by rw [xI_self]; rfl, by rw [xI_ne (by omega)]; exact w.A, by rw [xI_ne (by omega)]; exact w.B⟩
  · have hm : mdS d p.2.2.2 = (pK p, pA p ||| nI 1 <<< (nI (d % 10) &&& 31), pb p) := by unfold mdS; rw [if_neg (by omega), if_pos e]; rfl
    rw [hm, e, if_neg (by decide), if_pos rfl, G_t c0, LT_e, w.A]
    exact ⟨_, rfl, Fr.i rfl, w.w, w.c, w.bk, by rw [xI_ne (by omega)]; exact w.l, by rw [xI_ne (by omega)]; exact w.S, by rw [xI_ne (by omega)]; exact w.K, by rw [xI_self]; rfl, by rw [xI_ne (by omega)]; exact w.B⟩
  · have hm : mdS d p.2.2.2 = (pK p, pA p, pb p ||| nI 1 <<< (nI (d % 10) &&& 31)) := by unfold mdS; rw [if_neg (by omega), if_neg (by omega)]; rfl
    rw [hm, e, if_neg (by decide), if_neg (by decide), if_pos rfl, G_t c0, LT_e, w.B]
    exact ⟨_, rfl, Fr.i rfl, w.w, w.c, w.bk, by rw [xI_ne (by omega)]; exact w.l, by rw [xI_ne (by omega)]; exact w.S, by rw [xI_ne (by omega)]; exact w.K, by rw [xI_ne (by omega)]; exact w.A, by rw [xI_self]; rfl⟩
theorem mendAll_ok {h : AH} {wk b : Nat} {p : PR} {l : List Nat} (v : Int32) (g : SG h) (n : IsN h 126 6 l) (o : ∀ d, d ∈ l → d < 30) (w : IsW h wk b p) : ∃ h', X11_mendAll_f 1 wk v h = some ((), h') ∧ Fr (fun x => x = wk) h h' ∧ IsW h' wk b (mdQ l v l.length p) := by
  have l6 := n.n
  have hw := w.w
  obtain ⟨h', ⟨F, w'⟩, e⟩ := loopE (F := fun n k h' => X11_mendAll_B2 n 1 wk v (nI k) h') (E := fun h' => some ((), h')) l.length (fun k h' => Fr (fun x => x = wk) h h' ∧ IsW h' wk b (mdQ l v k p)) (Nat.zero_le _) (by omega) (h := h) ⟨Fr.rf, w⟩
    (by
      rintro m k h' hk ⟨F, w'⟩
      have g' := g.fr F
      have n' : IsN h' 126 6 l := n.fr F (by omega) (by omega)
      have next : ∀ h2, X11_mendAll_B33 (X11_mendAll_B2 m) 1 wk v (nI k) h2 = X11_mendAll_B2 m 1 wk v (nI (k + 1)) h2 := fun h2 => by
        unfold X11_mendAll_B33
        rw [LT_e, nI_add]
      show ∃ h2, _ ∧ X11_mendAll_B2 (m + 1) 1 wk v (nI k) h' = X11_mendAll_B2 m 1 wk v (nI (k + 1)) h2
      rw [X11_mendAll_B2]
      rw [G_t g'.c1, g'.r1_6, G_t n'.c, n'.s, if_neg (by rw [nI_lI (by omega) (by omega)]; omega)]
      cases hv : bt v k
      · have hm : mdQ l v (k + 1) p = mdQ l v k p := by unfold mdQ; rw [mdN, hv]; rfl
        rw [if_pos ((b_test0 (by omega)).mpr hv), next, hm]
        exact ⟨h', ⟨F, w'⟩, rfl⟩
      · have hm : mdQ l v (k + 1) p = ((mdQ l v k p).1, (mdQ l v k p).2.1, (mdQ l v k p).2.2.1, mdS (l.getD k 0) (mdQ l v k p).2.2.2) := by unfold mdQ; rw [mdN, if_pos hv]
        obtain ⟨h2, e2, F2, w2⟩ := change_ok (d := l.getD k 0) w' (o _ (getD_mem hk))
        rw [if_neg (fun q => by rw [b_test0 (by omega), hv] at q; exact nomatch q), G_t g'.c1, G_t n'.c, at_ok n', BN_ok, atL_n hk (by omega), G_t w'.c, e2, BN_ok, next, hm]
        exact ⟨h2, ⟨F.tr F2, w2⟩, rfl⟩)
    (by
      rintro m h' ⟨F, w'⟩
      have g' := g.fr F
      have n' : IsN h' 126 6 l := n.fr F (by omega) (by omega)
      show X11_mendAll_B2 (m + 1) 1 wk v (nI l.length) h' = _
      rw [X11_mendAll_B2]
      rw [G_t g'.c1, g'.r1_6, G_t n'.c, n'.s, if_pos (by rw [nI_lI (by omega) (by omega)]; omega)])
  exact ⟨h', e, F, w'⟩
/-- the same of the reference -/
def R3 (h : AH) (x : Int32 × Int32 × Int32) : Prop := xI h 195 23 = x.1 ∧ xI h 195 24 = x.2.1 ∧ xI h 195 25 = x.2.2
def MkA : Nat → Nat → Prop := fun a k => a = 195 ∧ (k = 23 ∨ k = 24 ∨ k = 25)
theorem makes_m {h : AH} {x : Int32 × Int32 × Int32} {l : List Nat} (v : Int32) (g : SG h) (m7 : xI h 195 17 = nI l.length) (f1 : ∀ i, i < l.length → xI h 224 i = nI (l.getD i 0 / 10)) (f2 : ∀ i, i < l.length → xI h 225 i = nI (l.getD i 0 % 10)) (o : ∀ d, d ∈ l → d < 30) (l6 : l.length ≤ 6) (r : R3 h x) : ∃ h', X15_makes_f 195 v h = some ((), h') ∧ Fz MkA h h' ∧ xL h' = xL h ∧ R3 h' (mdN l v l.length x) := by
  obtain ⟨h', ⟨F, xl, w'⟩, e⟩ := loopE (F := fun n k h' => X15_makes_B2 n 195 v (nI k) h') (E := fun h' => some ((), h')) l.length (fun k h' => Fz MkA h h' ∧ xL h' = xL h ∧ R3 h' (mdN l v k x)) (Nat.zero_le _) (by omega) (h := h) ⟨Fz.rf, rfl, r⟩
    (by
      rintro m k h' hk ⟨F, xl, w'⟩
      have g' := g.fz F
      have nA : ∀ a k, ¬ (a = 195 ∧ (k = 23 ∨ k = 24 ∨ k = 25)) → ¬ MkA a k := fun _ _ q => q
      have hd := o _ (getD_mem hk)
      have m7' : xI h' 195 17 = nI l.length := by rw [F.I (nA _ _ (by omega))]; exact m7
      have v1 : xI h' 224 (nI k).toNatClampNeg = nI (l.getD k 0 / 10) := by rw [nI_cl (by omega), F.I (nA _ _ (by omega))]; exact f1 k hk
      have v2 : xI h' 225 (nI k).toNatClampNeg = nI (l.getD k 0 % 10) := by rw [nI_cl (by omega), F.I (nA _ _ (by omega))]; exact f2 k hk
      obtain ⟨w1, w2, w3⟩ := w'
      have next : ∀ h2, X15_makes_B97 (X15_makes_B2 m) 195 v (nI k) h2 = X15_makes_B2 m 195 v (nI (k + 1)) h2 := fun h2 => by
        unfold X15_makes_B97
        rw [LT_e, nI_add]
      show ∃ h2, _ ∧ X15_makes_B2 (m + 1) 195 v (nI k) h' = X15_makes_B2 m 195 v (nI (k + 1)) h2
      rw [X15_makes_B2]
      rw [G_t g'.c195, m7', if_neg (by rw [nI_lI (by omega) (by omega)]; omega), has_m (by omega), BN_ok]
      cases hv : bt v k
      · have hm : mdN l v (k + 1) x = mdN l v k x := by rw [mdN, hv]; rfl
        rw [if_pos (by decide), next, hm]
        exact ⟨h', ⟨F, xl, w1, w2, w3⟩, rfl⟩
      · have hm : mdN l v (k + 1) x = mdS (l.getD k 0) (mdN l v k x) := by rw [mdN, if_pos hv]
        rw [if_neg (by decide), G_t g'.c195, g'.r195_49, G_t g'.c224, g'.z224, G_gx (by omega) (by omega), v1, g'.r195_50, G_t g'.c225, g'.z225, G_gx (by omega) (by omega), v2, G_t g'.c195, hm]
        generalize hy : mdN l v k x = y at w1 w2 w3
        have e3 : l.getD k 0 / 10 = 0 ∨ l.getD k 0 / 10 = 1 ∨ l.getD k 0 / 10 = 2 := by omega
        rcases e3 with e | e | e
        · have hs : mdS (l.getD k 0) y = (y.1 ||| nI 1 <<< (nI (l.getD k 0 % 10) &&& 31), y.2) := by unfold mdS; rw [if_pos e]
          rw [hs, e, if_pos nI_0, LT_e, w1, next]
          exact ⟨_, ⟨F.tr (Fz.i (by unfold MkA; omega)), xl, xI_self, by rw [xI_ne (by omega)]; exact w2, by rw [xI_ne (by omega)]; exact w3⟩, rfl⟩
        · have hs : mdS (l.getD k 0) y = (y.1, y.2.1 ||| nI 1 <<< (nI (l.getD k 0 % 10) &&& 31), y.2.2) := by unfold mdS; rw [if_neg (by omega), if_pos e]
          rw [hs, e, if_neg (by decide), G_t g'.c195, G_t g'.c224, G_gx (by omega) (by omega), if_pos rfl, G_t g'.c195, G_t g'.c225, G_gx (by omega) (by omega), LT_e, w2, next]
          exact ⟨_, ⟨F.tr (Fz.i (by unfold MkA; omega)), xl, by rw [xI_ne (by omega)]; exact w1, xI_self, by rw [xI_ne (by omega)]; exact w3⟩, rfl⟩
        · have hs : mdS (l.getD k 0) y = (y.1, y.2.1, y.2.2 ||| nI 1 <<< (nI (l.getD k 0 % 10) &&& 31)) := by unfold mdS; rw [if_neg (by omega), if_neg (by omega)]
          rw [hs, e, if_neg (by decide), G_t g'.c195, G_t g'.c224, G_gx (by omega) (by omega), if_neg (by decide), G_t g'.c195, G_t g'.c225, G_gx (by omega) (by omega), LT_e, w3, next]
          exact ⟨_, ⟨F.tr (Fz.i (by unfold MkA; omega)), xl, by rw [xI_ne (by omega)]; exact w1, by rw [xI_ne (by omega)]; exact w2, xI_self⟩, rfl⟩)
    (by
      rintro m h' ⟨F, xl, w'⟩
      have g' := g.fz F
      have m7' : xI h' 195 17 = nI l.length := by rw [F.I (by unfold MkA; omega)]; exact m7
      show X15_makes_B2 (m + 1) 195 v (nI l.length) h' = _
      rw [X15_makes_B2]
      rw [G_t g'.c195, m7', if_pos (by rw [nI_lI (by omega) (by omega)]; omega)])
  exact ⟨h', e, F, xl, w'⟩
theorem areMends_c {h : AH} {l : List Nat} (g : SG h) (n : IsN h 126 6 l) (x : Int32) : (∃ j, j < 2 ^ l.length ∧ j < 64 ∧ x = nI j ∧ X11_areMends_f 1 x h = some (nI 1, h)) ∨ ((x < 0 ∨ nI (2 ^ l.length) ≤ x) ∧ X11_areMends_f 1 x h = some (nI 0, h)) := by
  have l6 := n.n
  have p6 : 2 ^ l.length ≤ 2 ^ 6 := Nat.pow_le_pow_right (by decide) l6
  have run : ¬ x < 0 → X11_areMends_f 1 x h = if nI (2 ^ l.length) ≤ x then some (nI 0, h) else some (nI 1, h) := fun q => by
    unfold X11_areMends_f
    rw [if_neg q, G_t g.c1, g.r1_6, G_t n.c, n.s, shl1 _ (by omega)]
  rcases pk_ix x (n := 2 ^ l.length) (by omega) with q | q | ⟨j, hj, rfl⟩
  · refine .inr ⟨.inl q, ?_⟩
    unfold X11_areMends_f
    rw [if_pos q]
  · by_cases q0 : x < 0
    · refine .inr ⟨.inl q0, ?_⟩
      unfold X11_areMends_f
      rw [if_pos q0]
    · refine .inr ⟨.inr q, ?_⟩
      rw [run q0, if_pos q]
  · refine .inl ⟨j, hj, by omega, rfl, ?_⟩
    rw [run (nI_pos (by omega)), if_neg (by rw [nI_lI (by omega) (by omega)]; omega)]
