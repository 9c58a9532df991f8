/-- the cases of a clause: row, not -/
abbrev CsL : Type := List (Nat × Bool)
def csA (l : CsL) (ng : Bool) (r : Nat) : Bool := l.any fun x => x.1 == r && x.2 == ng
def csG (l : CsL) (i : Nat) : Nat × Bool := l.getD i (0, false)
theorem csG_l {l : CsL} {x : Nat × Bool} {i : Nat} (h : i < l.length) : csG (l ++ [x]) i = csG l i := by
  unfold csG
  rw [List.getD_eq_getElem?_getD, List.getD_eq_getElem?_getD, List.getElem?_append_left h]
theorem csG_r {l : CsL} {x : Nat × Bool} : csG (l ++ [x]) l.length = x := by
  unfold csG
  rw [List.getD_eq_getElem?_getD, List.getElem?_append_right (Nat.le_refl _), Nat.sub_self]
  rfl
theorem csA_a {l : CsL} {x : Nat × Bool} {ng : Bool} {r : Nat} : csA (l ++ [x]) ng r = (csA l ng r || (x.1 == r && x.2 == ng)) := by
  unfold csA
  rw [List.any_append, List.any_cons, List.any_nil, Bool.or_false]
def CsC (h : AH) (a : Nat) (l : CsL) : Prop := (CLS h a) ∧ (xI h a 2 = nI l.length) ∧ (∀ i, i < l.length → xI h (a + 1) i = nI (csG l i).1) ∧ (∀ i, i < l.length → xI h (a + 2) i = bI (csG l i).2) ∧ (∀ r, r < 32 → bt (xI h a 4) r = csA l false r) ∧ (∀ r, r < 32 → bt (xI h a 5) r = csA l true r)
theorem CsC.s {h : AH} {a : Nat} {l : CsL} (q_ : CsC h a l) : CLS h a := q_.1
theorem CsC.n {h : AH} {a : Nat} {l : CsL} (q_ : CsC h a l) : xI h a 2 = nI l.length := q_.2.1
theorem CsC.cr {h : AH} {a : Nat} {l : CsL} (q_ : CsC h a l) : ∀ i, i < l.length → xI h (a + 1) i = nI (csG l i).1 := q_.2.2.1
theorem CsC.cn {h : AH} {a : Nat} {l : CsL} (q_ : CsC h a l) : ∀ i, i < l.length → xI h (a + 2) i = bI (csG l i).2 := q_.2.2.2.1
theorem CsC.k {h : AH} {a : Nat} {l : CsL} (q_ : CsC h a l) : ∀ r, r < 32 → bt (xI h a 4) r = csA l false r := q_.2.2.2.2.1
theorem CsC.t {h : AH} {a : Nat} {l : CsL} (q_ : CsC h a l) : ∀ r, r < 32 → bt (xI h a 5) r = csA l true r := q_.2.2.2.2.2
/-- what reading cases may change -/
def CsW (a : Nat) : Nat → Nat → Prop := fun x k => x = a ∧ (k = 2 ∨ k = 4 ∨ k = 5) ∨ x = a + 1 ∨ x = a + 2
theorem CLS.fz {A : Nat → Nat → Prop} {h h' : AH} {a : Nat} (F : Fz A h h') (e : a ≠ 174 ∧ a ≠ 180 ∧ a ≠ 119) (q : CLS h a) : CLS h' a := by
  unfold CLS at *; simp only [F.c, F.z, F.r _ e]; exact q
theorem CsC.fz {A : Nat → Nat → Prop} {h h' : AH} {a : Nat} {l : CsL} (F : Fz A h h') (e : a ≠ 174 ∧ a ≠ 180 ∧ a ≠ 119) (o : ∀ x k, CsW a x k → ¬ A x k) (c : CsC h a l) : CsC h' a l := ⟨c.s.fz F e, by rw [F.I (o _ _ (by unfold CsW; omega))]; exact c.n, fun i hi => by rw [F.I (o _ _ (by unfold CsW; omega))]; exact c.cr i hi, fun i hi => by rw [F.I (o _ _ (by unfold CsW; omega))]; exact c.cn i hi, fun r hr => by rw [F.I (o _ _ (by unfold CsW; omega))]; exact c.k r hr, fun r hr => by rw [F.I (o _ _ (by unfold CsW; omega))]; exact c.t r hr⟩
theorem addCase_c {h : AH} {a r : Nat} {l : CsL} {ng : Bool} (c : CsC h a l) (e : a ≠ 174 ∧ a ≠ 180 ∧ a ≠ 119) (hl : l.length < 3) (hr : r < 10) : ∃ h', X1_addCase_f a (nI r) (bI ng) h = some ((), h') ∧ Fz (CsW a) h h' ∧ CsC h' a (l ++ [(r, ng)]) := by
  have s := c.s
  have ll : (l ++ [(r, ng)]).length = l.length + 1 := by rw [List.length_append]; rfl
  have nar : vp_nar .boolean (bI ng) = bI ng := by cases ng <;> rfl
  unfold X1_addCase_f
  rw [G_t s.c, c.n, if_neg (by rw [nI_eI (by omega) (by omega)]; omega), G_t s.c, s.r0, G_t s.c1, s.z1, G_gx (by omega) (by omega), nI_cl (by omega), LT_e]
  obtain ⟨h1, h1e⟩ : ∃ h1, h1 = pI h (a + 1) l.length (nI r) := ⟨_, rfl⟩
  have F1 : Fz (fun x k => x = a + 1) h h1 := by rw [h1e]; exact Fz.i rfl
  have s1 := s.fz F1 e
  have n1 : xI h1 a 2 = nI l.length := by rw [F1.I (by omega)]; exact c.n
  rw [← h1e, G_t s1.c, s1.r1, G_t s1.c2, s1.z2, n1, G_gx (by omega) (by omega), nI_cl (by omega), nar, LT_e]
  obtain ⟨h2, h2e⟩ : ∃ h2, h2 = pI h1 (a + 2) l.length (bI ng) := ⟨_, rfl⟩
  have F2 : Fz (fun x k => x = a + 2) h1 h2 := by rw [h2e]; exact Fz.i rfl
  have s2 := s1.fz F2 e
  have n2 : xI h2 a 2 = nI l.length := by rw [F2.I (by omega)]; exact n1
  rw [← h2e, G_t s2.c, n2, nI_add, LT_e]
  obtain ⟨h3, h3e⟩ : ∃ h3, h3 = pI h2 a 2 (nI (l.length + 1)) := ⟨_, rfl⟩
  have F3 : Fz (fun x k => x = a ∧ k = 2) h2 h3 := by rw [h3e]; exact Fz.i ⟨rfl, rfl⟩
  have s3 := s2.fz F3 e
  have Fa : Fz (CsW a) h h3 := ((F1.mo (fun x k q => by unfold CsW; omega)).tr (F2.mo (fun x k q => by unfold CsW; omega))).tr (F3.mo (fun x k q => by unfold CsW; omega))
  have k3 : xI h3 a 4 = xI h a 4 := by rw [F3.I (by omega), F2.I (by omega), F1.I (by omega)]
  have t3 : xI h3 a 5 = xI h a 5 := by rw [F3.I (by omega), F2.I (by omega), F1.I (by omega)]
  have r3 : ∀ i, i < l.length + 1 → xI h3 (a + 1) i = nI (csG (l ++ [(r, ng)]) i).1 := fun i hi => by
    rw [F3.I (by omega), F2.I (by omega)]
    by_cases j : i = l.length
    · rw [j, csG_r, h1e, xI_self]
    · rw [csG_l (by omega), h1e, xI_ne (by omega)]; exact c.cr i (by omega)
  have m3 : ∀ i, i < l.length + 1 → xI h3 (a + 2) i = bI (csG (l ++ [(r, ng)]) i).2 := fun i hi => by
    rw [F3.I (by omega)]
    by_cases j : i = l.length
    · rw [j, csG_r, h2e, xI_self]
    · rw [csG_l (by omega), h2e, xI_ne (by omega), F1.I (by omega)]; exact c.cn i (by omega)
  have dec : ∀ x, decide (x = r) = (r == x) := fun x => by
    by_cases q : x = r
    · rw [decide_eq_true q, q]; exact (beq_self_eq_true r).symm
    · rw [decide_eq_false q]; exact (beq_false_of_ne (fun z => q z.symm)).symm
  rw [← h3e, ifB]
  cases ng with
  | false =>
    rw [if_neg (by decide), G_t s3.c, k3, LT_e]
    have F4 : Fz (fun x k => x = a ∧ k = 4) h3 (pI h3 a 4 (xI h a 4 ||| nI 1 <<< (nI r &&& 31))) := Fz.i ⟨rfl, rfl⟩
    refine ⟨_, rfl, Fa.tr (F4.mo (fun x k q => by unfold CsW; omega)), s3.fz F4 e, ?_, fun i hi => ?_, fun i hi => ?_, fun x hx => ?_, fun x hx => ?_⟩
    · rw [ll, F4.I (by omega), h3e, xI_self]
    · rw [F4.I (by omega)]; exact r3 i (by omega)
    · rw [F4.I (by omega)]; exact m3 i (by omega)
    · rw [xI_self, b_or, c.k x hx, b_bit (by omega), csA_a, dec]
      show _ = (csA l false x || ((r == x) && true))
      rw [Bool.and_true]
    · rw [F4.I (by omega), t3, c.t x hx, csA_a]
      show _ = (csA l true x || ((r == x) && false))
      rw [Bool.and_false, Bool.or_false]
  | true =>
    rw [if_pos rfl, G_t s3.c, t3, LT_e]
    have F4 : Fz (fun x k => x = a ∧ k = 5) h3 (pI h3 a 5 (xI h a 5 ||| nI 1 <<< (nI r &&& 31))) := Fz.i ⟨rfl, rfl⟩
    refine ⟨_, rfl, Fa.tr (F4.mo (fun x k q => by unfold CsW; omega)), s3.fz F4 e, ?_, fun i hi => ?_, fun i hi => ?_, fun x hx => ?_, fun x hx => ?_⟩
    · rw [ll, F4.I (by omega), h3e, xI_self]
    · rw [F4.I (by omega)]; exact r3 i (by omega)
    · rw [F4.I (by omega)]; exact m3 i (by omega)
    · rw [F4.I (by omega), k3, c.k x hx, csA_a]
      show _ = (csA l false x || ((r == x) && false))
      rw [Bool.and_false, Bool.or_false]
    · rw [xI_self, b_or, c.t x hx, b_bit (by omega), csA_a, dec]
      show _ = (csA l true x || ((r == x) && true))
      rw [Bool.and_true]
/-- reading cases from the token q on, r more at most: the fault (0: none), where it ends, the cases -/
def csY (T : Nat → Int32) (n : Nat) (N : NmL) (q : Nat) (ng : Bool) (x : Nat × Nat × CsL) : Nat × Nat × CsL := if faR T n N q = 0 then (if isW T n (nxT T n q) 0 = true then (x.1, x.2.1, (lkV N (wdV T n q) - 4, ng) :: x.2.2) else (0, nxT T n q, [(lkV N (wdV T n q) - 4, ng)])) else (faR T n N q, q, [])
def csN (T : Nat → Int32) (n : Nat) (no : Bool) (q : Nat) : Bool := no && isW T n q 9
def csQ (T : Nat → Int32) (n : Nat) (no : Bool) (q : Nat) : Nat := if csN T n no q = true then nxT T n q else q
def csX (T : Nat → Int32) (n : Nat) (N : NmL) (no : Bool) : Nat → Nat → Nat × Nat × CsL
  | 0, q => if csN T n no q = true then (5, q, []) else if faR T n N q = 0 then (5, q, []) else (faR T n N q, q, [])
  | r + 1, q => csY T n N (csQ T n no q) (csN T n no q) (csX T n N no r (nxT T n (nxT T n (csQ T n no q))))
def CcA (a : Nat) : Nat → Nat → Prop := fun x k => FlA x k ∨ CsW a x k
def CsO (h h' : AH) (T : Nat → Int32) (n a : Nat) (l : CsL) (w : Int32) (x : Nat × Nat × CsL) : Prop := Fz (CcA a) h h' ∧ CfC h' T n ∧ CtC h' T n x.2.1 ∧ (x.1 = 0 → w = nI 1 ∧ CsC h' a (l ++ x.2.2)) ∧ (x.1 ≠ 0 → w = nI 0 ∧ xI h' 58 9 = nI x.1)
theorem case_h {h : AH} {T : Nat → Int32} {n p a i f : Nat} {no : Bool} (c : CfC h T n) (t : CtC h T n p) (hi : i ≤ 3) : ∃ h1, X6_readCases_B2 (f + 1) 58 a (bI no) (nI i) h = X6_readCases_B29 (X6_readCases_B2 f) 58 a (bI no) (nI i) (bI (csN T n no (nxT T n p))) h1 ∧ Fz FlA h h1 ∧ CfC h1 T n ∧ CtC h1 T n (nxT T n p) := by
  obtain ⟨h1, e1, F1, c1, t1⟩ := step_c c (tkA_b t.x).2 t.f
  have t1' : CtC h1 T n (nxT T n p) := t1
  refine ⟨h1, ?_, F1.mo (fun a k => StA_Fl), c1, t1⟩
  rw [X6_readCases_B2, if_neg (by rw [nI_tI (by omega) (by omega)]; omega), G_t c.g.c58, e1, BN_ok, ifB]
  unfold csN
  cases no with
  | false => rw [if_neg (by decide)]; rfl
  | true =>
    rw [if_pos rfl, G_t c1.g.c58, spells_c c1 t1' (by decide), BN_ok, ifB, Bool.true_and]
    cases isW T n (nxT T n p) 9 <;> rfl
theorem case_s {h : AH} {T : Nat → Int32} {n q a : Nat} {i : Int32} {no ng : Bool} {k : Nat → Nat → Int32 → Int32 → AH → Option (Int32 × AH)} (c : CfC h T n) (t : CtC h T n q) : ∃ h1, X6_readCases_B47 k 58 a (bI no) i (bI ng) h = X6_readCases_B56 k 58 a (bI no) i (bI ng) h1 ∧ Fz FlA h h1 ∧ CfC h1 T n ∧ CtC h1 T n (if ng = true then nxT T n q else q) := by
  unfold X6_readCases_B47
  rw [ifB]
  cases ng with
  | false => exact ⟨h, rfl, Fz.rf, c, t⟩
  | true =>
    obtain ⟨h1, e1, F1, c1, t1⟩ := step_c c (tkA_b t.x).2 t.f
    rw [if_pos rfl, G_t c.g.c58, e1, BN_ok]
    exact ⟨h1, rfl, F1.mo (fun a k => StA_Fl), c1, t1⟩
theorem nI_nm {k : Nat} (h : k < 14) : ¬ nI k = -1 := by
  have : ∀ k, k < 14 → ¬ nI k = -1 := by decide +kernel
  exact this k h
theorem cases_c {T : Nat → Int32} {n a : Nat} {N : NmL} {no : Bool} (ha : 2 ≤ a ∧ a + 2 < 58 ∨ 63 ≤ a ∧ a + 2 < 119) : ∀ r i l h p f, i + r = 3 → l.length = i → r < f → CfC h T n → CtC h T n p → NmC h N → CsC h a l → ∃ w h', X6_readCases_B2 f 58 a (bI no) (nI i) h = some (w, h') ∧ CsO h h' T n a l w (csX T n N no r (nxT T n p)) := by
  have e : a ≠ 174 ∧ a ≠ 180 ∧ a ≠ 119 := by omega
  have oF : ∀ x k, CsW a x k → ¬ FlA x k := fun x k => by unfold CsW FlA; omega
  have oC : ∀ x k, x = 58 ∧ k = 5 ∨ x = 59 → ¬ CsW a x k := fun x k => by unfold CsW; omega
  have oT : ∀ x k, x = 58 ∧ (k = 6 ∨ k = 7 ∨ k = 8) → ¬ CsW a x k := fun x k => by unfold CsW; omega
  have oN : ∀ x k, x = 58 ∧ k = 3 ∨ x = 60 ∨ x = 61 → ¬ CsW a x k := fun x k => by unfold CsW; omega
  have mF : ∀ x k, FlA x k → CcA a x k := fun x k q => .inl q
  have mC : ∀ x k, CsW a x k → CcA a x k := fun x k q => .inr q
  intro r
  induction r with
  | zero =>
    intro i l h p f hi hl hf c t u v
    obtain ⟨f, rfl⟩ : ∃ g, f = g + 1 := ⟨f - 1, by omega⟩
    obtain ⟨h1, e1, F1, c1, t1⟩ := case_h (f := f) (a := a) (i := i) (no := no) c t (by omega)
    have i3 : i = 3 := by omega
    rw [e1]
    generalize nxT T n p = q at *
    unfold X6_readCases_B29 csX
    rw [ifB]
    cases ng : csN T n no q with
    | true =>
      obtain ⟨h2, e2, F2, c2, t2, w2⟩ := flawed_c (v := nI 5) c1 t1
      rw [if_pos rfl, if_pos rfl, if_pos (by rw [i3])]
      unfold X6_readCases_B41
      rw [G_t c1.g.c58, e2, BN_ok, G_t (by decide)]
      exact ⟨_, _, rfl, (F1.tr F2).mo mF, c2, t2, fun z => absurd z (by show ¬ (5 : Nat) = 0; decide), fun _ => ⟨rfl, w2⟩⟩
    | false =>
      rw [if_neg (by decide), if_neg (by decide)]
      obtain ⟨h2, e2, F2, c2, t2⟩ := case_s (k := X6_readCases_B2 f) (a := a) (i := nI i) (no := no) (ng := false) c1 t1
      rw [if_neg (by decide)] at t2
      obtain ⟨w, h3, e3, F3, c3, t3, x3, y3⟩ := rowHere_c c2 t2 ((u.fz F1 (fun a k => flN)).fz F2 (fun a k => flN))
      rw [e2]
      unfold X6_readCases_B56
      rw [G_t c2.g.c58, e3, BN_ok]
      by_cases z : faR T n N q = 0
      · obtain ⟨w3, a3, b3⟩ := x3 z
        obtain ⟨h4, e4, F4, c4, t4, w4⟩ := flawed_c (v := nI 5) c3 t3
        rw [w3, if_neg (nI_nm (by omega)), if_pos (by rw [i3]), if_pos z]
        unfold X6_readCases_B75
        rw [G_t c3.g.c58, e4, BN_ok, G_t (by decide)]
        exact ⟨_, _, rfl, (((F1.tr F2).tr F3).tr F4).mo mF, c4, t4, fun z => absurd z (by show ¬ (5 : Nat) = 0; decide), fun _ => ⟨rfl, w4⟩⟩
      · obtain ⟨w3, y3⟩ := y3 z
        rw [w3, if_pos rfl, if_neg z]
        exact ⟨_, _, rfl, ((F1.tr F2).tr F3).mo mF, c3, t3, fun y => absurd y z, fun _ => ⟨rfl, y3⟩⟩
  | succ r ih =>
    intro i l h p f hi hl hf c t u v
    obtain ⟨f, rfl⟩ : ∃ g, f = g + 1 := ⟨f - 1, by omega⟩
    obtain ⟨h1, e1, F1, c1, t1⟩ := case_h (f := f) (a := a) (i := i) (no := no) c t (by omega)
    rw [e1]
    generalize nxT T n p = q at *
    have i3 : ¬ nI i = nI 3 := by rw [nI_eI (by omega) (by omega)]; omega
    have hd : X6_readCases_B29 (X6_readCases_B2 f) 58 a (bI no) (nI i) (bI (csN T n no q)) h1 = X6_readCases_B47 (X6_readCases_B2 f) 58 a (bI no) (nI i) (bI (csN T n no q)) h1 := by
      unfold X6_readCases_B29
      rw [if_neg i3]
      by_cases y : bI (csN T n no q) = 0
      · rw [if_pos y]
      · rw [if_neg y]
    rw [hd]
    obtain ⟨h2, e2, F2, c2, t2⟩ := case_s (k := X6_readCases_B2 f) (a := a) (i := nI i) (no := no) (ng := csN T n no q) c1 t1
    rw [e2]
    have t2' : CtC h2 T n (csQ T n no q) := t2
    clear t2
    unfold csX
    generalize csN T n no q = ng at *
    generalize csQ T n no q = q' at *
    have u2 := (u.fz F1 (fun a k => flN)).fz F2 (fun a k => flN)
    obtain ⟨w, h3, e3, F3, c3, t3, x3, y3⟩ := rowHere_c c2 t2' u2
    unfold X6_readCases_B56 csY
    rw [G_t c2.g.c58, e3, BN_ok]
    have Fa := (F1.tr F2).tr F3
    by_cases z : faR T n N q' = 0
    · obtain ⟨w3, a3, b3⟩ := x3 z
      have v3 := v.fz Fa e oF
      have u3 := u2.fz F3 (fun a k => flN)
      obtain ⟨h4, e4, F4, v4⟩ := addCase_c (r := lkV N (wdV T n q') - 4) (ng := ng) v3 e (by omega) (by omega)
      have c4 := c3.fz F4 oC
      have t4 := t3.fz F4 oT
      have u4 := u3.fz F4 oN
      obtain ⟨h5, e5, F5, c5, t5⟩ := step_c c4 (tkA_b t4.x).2 t4.f
      have G5 := F5.mo (fun a k => StA_Fl)
      have t5' : CtC h5 T n (nxT T n q') := t5
      have v5 := v4.fz G5 e oF
      have u5 := u4.fz G5 (fun a k => flN)
      have Fb : Fz (CcA a) h h5 := ((Fa.mo mF).tr (F4.mo mC)).tr (G5.mo mF)
      rw [w3, if_neg (nI_nm (by omega)), if_neg i3, G_t v3.s.c, e4, BN_ok, G_t c4.g.c58, e5, BN_ok, G_t c5.g.c58, spells_c c5 t5' (by decide), BN_ok, ifB, if_pos z]
      by_cases y : isW T n (nxT T n q') 0 = true
      · rw [if_pos y, if_pos y, nI_add, LT_e]
        obtain ⟨w', h6, e6, F6, c6, t6, x6, y6⟩ := ih (i + 1) (l ++ [(lkV N (wdV T n q') - 4, ng)]) h5 (nxT T n q') f (by omega) (by rw [List.length_append, hl]; rfl) (by omega) c5 t5' u5 v5
        rw [e6]
        refine ⟨w', h6, rfl, Fb.tr F6, c6, t6, fun o => ?_, y6⟩
        obtain ⟨o1, o2⟩ := x6 o
        refine ⟨o1, ?_⟩
        rw [List.append_assoc] at o2
        exact o2
      · rw [if_neg y, if_neg y]
        exact ⟨_, _, rfl, Fb, c5, t5', fun _ => ⟨rfl, v5⟩, fun o => absurd rfl o⟩
    · obtain ⟨w3, y3⟩ := y3 z
      rw [w3, if_pos rfl, if_neg z]
      exact ⟨_, _, rfl, Fa.mo mF, c3, t3, fun y => absurd y z, fun _ => ⟨rfl, y3⟩⟩
