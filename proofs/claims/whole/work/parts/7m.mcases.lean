def CsM (h : AH) (m c : Nat) (l : CsL) : Prop := (∀ r, r < 32 → bt (xI h (m + 13) c) r = csA l false r) ∧ (∀ r, r < 32 → bt (xI h (m + 14) c) r = csA l true r)
theorem CsM.k {h : AH} {m c : Nat} {l : CsL} (q_ : CsM h m c l) : ∀ r, r < 32 → bt (xI h (m + 13) c) r = csA l false r := q_.1
theorem CsM.t {h : AH} {m c : Nat} {l : CsL} (q_ : CsM h m c l) : ∀ r, r < 32 → bt (xI h (m + 14) c) r = csA l true r := q_.2
def MkM (m c : Nat) : Nat → Nat → Prop := fun x k => (x = m + 13 ∨ x = m + 14) ∧ k = c
def CmM (m c : Nat) : Nat → Nat → Prop := fun x k => TlM x k ∨ MkM m c x k
theorem CsM.fz {A : Nat → Nat → Prop} {h h' : AH} {m c : Nat} {l : CsL} (F : Fz A h h') (o : ∀ x k, MkM m c x k → ¬ A x k) (v : CsM h m c l) : CsM h' m c l := ⟨fun r hr => by rw [F.I (o _ _ (by unfold MkM; omega))]; exact v.k r hr, fun r hr => by rw [F.I (o _ _ (by unfold MkM; omega))]; exact v.t r hr⟩
theorem here_m {h : AH} {T : Nat → Int32} {n q m : Nat} {N : NmL} (c : CfM h T n) (t : CtM h T n q) (b : BkM h m N) (z : faR T n N q = 0) : X15_isName_f 195 h = some (bI true, h) ∧ 4 ≤ lkV N (wdV T n q) ∧ lkV N (wdV T n q) < 14 ∧ xL h 195 13 = wdV T n q ∧ ∃ j, j < 14 ∧ X12_find_f m (wdV T n q) h = some (nI j, h) ∧ xI h (m + 2) j = nI 1 ∧ xI h (m + 3) j = nI (lkV N (wdV T n q) - 4) := by
  unfold faR at z
  by_cases k : isN T n q = true
  · rw [if_pos k] at z
    by_cases w : 4 ≤ lkV N (wdV T n q) ∧ lkV N (wdV T n q) < 99
    · have x := b.u.x
      rcases find_m (w := wdV T n q) b.s b.u with ⟨e, f⟩ | ⟨i, hi, e, f⟩
      · omega
      · have iv := b.u.v i hi
        refine ⟨by rw [isName_m c t, k], w.1, by omega, t.w (isN_2 k), i, by omega, f, ?_, ?_⟩
        · rw [b.u.b i hi, e, decide_eq_true w.1]; rfl
        · rw [b.u.m i hi, e, if_pos w.1]
    · rw [if_neg w] at z; exact absurd z (by decide)
  · rw [if_neg k] at z; exact absurd z (by decide)
theorem mask_m {h : AH} {m c r : Nat} {l : CsL} {ng : Bool} (s : MBS h m) (v : CsM h m c l) (hr : r < 10) : Fz (MkM m c) h (pI h (m + (if ng = true then 14 else 13)) c (xI h (m + (if ng = true then 14 else 13)) c ||| nI 1 <<< (nI r &&& 31))) ∧ CsM (pI h (m + (if ng = true then 14 else 13)) c (xI h (m + (if ng = true then 14 else 13)) c ||| nI 1 <<< (nI r &&& 31))) m c (l ++ [(r, ng)]) := by
  have dec : ∀ x, decide (x = r) = (r == x) := fun x => by
    by_cases q : x = r
    · rw [decide_eq_true q, q]; exact (beq_self_eq_true r).symm
    · rw [decide_eq_false q]; exact (beq_false_of_ne (fun z => q z.symm)).symm
  cases ng with
  | false =>
    refine ⟨Fz.i ⟨.inl rfl, rfl⟩, fun x hx => ?_, fun x hx => ?_⟩
    · show bt (xI (pI h (m + 13) c (xI h (m + 13) c ||| nI 1 <<< (nI r &&& 31))) (m + 13) c) x = _
      rw [xI_self, b_or, v.k x hx, b_bit (by omega), csA_a, dec]
      show _ = (csA l false x || ((r == x) && true))
      rw [Bool.and_true]
    · show bt (xI (pI h (m + 13) c (xI h (m + 13) c ||| nI 1 <<< (nI r &&& 31))) (m + 14) c) x = _
      rw [xI_ne (by omega), v.t x hx, csA_a]
      show _ = (csA l true x || ((r == x) && false))
      rw [Bool.and_false, Bool.or_false]
  | true =>
    refine ⟨Fz.i ⟨.inr rfl, rfl⟩, fun x hx => ?_, fun x hx => ?_⟩
    · show bt (xI (pI h (m + 14) c (xI h (m + 14) c ||| nI 1 <<< (nI r &&& 31))) (m + 13) c) x = _
      rw [xI_ne (by omega), v.k x hx, csA_a]
      show _ = (csA l false x || ((r == x) && false))
      rw [Bool.and_false, Bool.or_false]
    · show bt (xI (pI h (m + 14) c (xI h (m + 14) c ||| nI 1 <<< (nI r &&& 31))) (m + 14) c) x = _
      rw [xI_self, b_or, v.t x hx, b_bit (by omega), csA_a, dec]
      show _ = (csA l true x || ((r == x) && true))
      rw [Bool.and_true]
/-- one case, at its row -/
theorem case_m {h : AH} {T : Nat → Int32} {n q m c : Nat} {i : Nat} {N : NmL} {l : CsL} {no ng : Bool} {k : Nat → Int32 → Int32 → Int32 → Int32 → AH → Option ((Unit ⊕ Nat) × AH)} (C : CfM h T n) (t : CtM h T n q) (b : BkM h m N) (v : CsM h m c l) (hc : c < 16) (hi : i ≤ 3) : (faR T n N q ≠ 0 → ∃ h', X15_readCases_B50 k 195 (nI c) (bI no) (nI i) (bI ng) h = some (.inr 196, h') ∧ Fz TlM h h' ∧ MFt h' (faR T n N q) q) ∧ (faR T n N q = 0 → i = 3 → ∃ h', X15_readCases_B50 k 195 (nI c) (bI no) (nI i) (bI ng) h = some (.inr 196, h') ∧ Fz TlM h h' ∧ MFt h' 5 q) ∧ (faR T n N q = 0 → i ≠ 3 → ∃ h', X15_readCases_B50 k 195 (nI c) (bI no) (nI i) (bI ng) h = X15_readCases_B168 k 195 (nI c) (bI no) (nI i) h' ∧ Fz (MkM m c) h h' ∧ CsM h' m c (l ++ [(lkV N (wdV T n q) - 4, ng)])) := by
  have g := C.g
  refine ⟨fun z => ?_, fun z e => ?_, fun z e => ?_⟩
  · unfold X15_readCases_B50
    unfold faR at z ⊢
    rw [G_t g.c195, isName_m C t, BN_ok, ifB]
    by_cases y : isN T n q = true
    · rw [if_pos y] at z ⊢
      rw [if_pos y, G_t g.c195, b.r, G_t b.s.c, t.w (isN_2 y)]
      have bad : ∃ h', X15_readCases_B95 195 h = some (.inr 196, h') ∧ Fz TlM h h' ∧ MFt h' 2 q := by
        obtain ⟨h1, e1, F1, x1, w1⟩ := stop_m (k := 2) C t.a
        unfold X15_readCases_B95
        rw [G_t g.c195, e1, BN_ok, G_t x1]
        exact ⟨_, rfl, F1.mo (fun a k q => .inr q), w1⟩
      by_cases w : 4 ≤ lkV N (wdV T n q) ∧ lkV N (wdV T n q) < 99
      · rw [if_pos w] at z; exact absurd rfl z
      · rw [if_neg w]
        rcases find_m (w := wdV T n q) b.s b.u with ⟨e, f⟩ | ⟨j, hj, e, f⟩
        · rw [f, BN_ok, if_pos rfl]; exact bad
        · have x := b.u.x
          have iv := b.u.v j hj
          rw [f, BN_ok, if_neg (nI_nm (by omega)), G_t g.c195, b.r, G_t b.s.c, b.s.r9, G_t b.s.c2, b.s.z2, G_gx (by omega) (by omega), show xI h (m + 2) (nI j).toNatClampNeg = bI false by rw [nI_cl (by omega), b.u.b j hj, e, decide_eq_false (by omega)], if_pos (by decide)]
          exact bad
    · rw [if_neg y, if_neg y]
      obtain ⟨h1, e1, F1, x1, w1⟩ := stop_m (k := 1) C t.a
      unfold X15_readCases_B57
      rw [G_t g.c195, e1, BN_ok, G_t x1]
      exact ⟨_, rfl, F1.mo (fun a k q => .inr q), w1⟩
  · obtain ⟨a1, a2, a3, a4, j, hj, f, b2, b3⟩ := here_m C t b z
    obtain ⟨h1, e1, F1, x1, w1⟩ := stop_m (k := 5) C t.a
    unfold X15_readCases_B50
    rw [G_t g.c195, a1, BN_ok, if_neg (by decide), G_t g.c195, b.r, G_t b.s.c, a4, f, BN_ok, if_neg (nI_nm hj), G_t g.c195, b.r, G_t b.s.c, b.s.r9, G_t b.s.c2, b.s.z2, G_gx (by omega) (by omega), show xI h (m + 2) (nI j).toNatClampNeg = nI 1 by rw [nI_cl (by omega)]; exact b2, if_neg (by decide), if_pos (by rw [e])]
    unfold X15_readCases_B106
    rw [G_t g.c195, e1, BN_ok, G_t x1]
    exact ⟨_, rfl, F1.mo (fun a k q => .inr q), w1⟩
  · obtain ⟨a1, a2, a3, a4, j, hj, f, b2, b3⟩ := here_m C t b z
    obtain ⟨F, V⟩ := mask_m (r := lkV N (wdV T n q) - 4) (ng := ng) b.s v (by omega)
    refine ⟨_, ?_, F, V⟩
    unfold X15_readCases_B50
    rw [G_t g.c195, a1, BN_ok, if_neg (by decide), G_t g.c195, b.r, G_t b.s.c, a4, f, BN_ok, if_neg (nI_nm hj), G_t g.c195, b.r, G_t b.s.c, b.s.r9, G_t b.s.c2, b.s.z2, G_gx (by omega) (by omega), show xI h (m + 2) (nI j).toNatClampNeg = nI 1 by rw [nI_cl (by omega)]; exact b2, if_neg (by decide), if_neg (by rw [nI_eI (by omega) (by omega)]; exact e), ifB]
    cases ng with
    | false =>
      rw [if_neg (by decide), G_t g.c195, G_t b.s.c, b.s.r20, G_t b.s.c13, b.s.z13, G_gx hc (by omega), b.s.r10, G_t b.s.c3, b.s.z3, G_gx hj (by omega), G_gx hc (by omega), nI_cl (by omega), nI_cl (by omega), b3, LT_e]
      rfl
    | true =>
      rw [if_pos rfl, G_t g.c195, G_t b.s.c, b.s.r21, G_t b.s.c14, b.s.z14, G_gx hc (by omega), b.s.r10, G_t b.s.c3, b.s.z3, G_gx hj (by omega), G_gx hc (by omega), nI_cl (by omega), nI_cl (by omega), b3, LT_e]
      rfl
def CmO (h h' : AH) (T : Nat → Int32) (n m c : Nat) (l : CsL) (y : Unit ⊕ Nat) (x : Nat × Nat × CsL) : Prop := Fz (CmM m c) h h' ∧ (x.1 = 0 → y = .inl () ∧ CfM h' T n ∧ CtM h' T n x.2.1 ∧ CsM h' m c (l ++ x.2.2)) ∧ (x.1 ≠ 0 → y = .inr 196 ∧ MFt h' x.1 x.2.1)
theorem mcase_h {h : AH} {T : Nat → Int32} {n q c i f : Nat} {no : Bool} (C : CfM h T n) (t : CtM h T n q) : X15_readCases_B5 (f + 1) 195 (nI c) (bI no) (nI i) (nI 1) h = X15_readCases_B28 (X15_readCases_B5 f) 195 (nI c) (bI no) (nI i) (bI (csN T n no q)) h := by
  rw [X15_readCases_B5, if_neg (by decide), ifB]
  unfold csN
  cases no with
  | false => rw [if_neg (by decide)]; rfl
  | true =>
    rw [if_pos rfl, G_t C.g.c195, isWord_m C t (by decide), BN_ok, ifB, Bool.true_and]
    cases isW T n q 9 <;> rfl
theorem cases_m {T : Nat → Int32} {n m c : Nat} {N : NmL} {no : Bool} (hc : c < 16) : ∀ r i l h q f, i + r = 3 → r + 1 < f → CfM h T n → CtM h T n q → BkM h m N → CsM h m c l → ∃ y h', X15_readCases_B5 f 195 (nI c) (bI no) (nI i) (nI 1) h = some (y, h') ∧ CmO h h' T n m c l y (csX T n N no r q) := by
  intro r
  induction r with
  | zero =>
    intro i l h q f hi hf C t b v
    have lo := b.s.lo
    obtain ⟨f, rfl⟩ : ∃ g, f = g + 1 := ⟨f - 1, by omega⟩
    have i3 : i = 3 := by omega
    rw [mcase_h C t]
    unfold X15_readCases_B28 csX
    rw [ifB]
    cases ng : csN T n no q with
    | true =>
      obtain ⟨h1, e1, F1, x1, w1⟩ := stop_m (k := 5) C t.a
      rw [if_pos rfl, if_pos rfl, if_pos (by rw [i3])]
      unfold X15_readCases_B40
      rw [G_t C.g.c195, e1, BN_ok, G_t x1]
      exact ⟨_, _, rfl, F1.mo (fun a k q => .inl (.inr q)), fun z => absurd z (by show ¬ (5 : Nat) = 0; decide), fun _ => ⟨rfl, w1⟩⟩
    | false =>
      rw [if_neg (by decide), if_neg (by decide)]
      obtain ⟨A, B, _⟩ := case_m (k := X15_readCases_B5 f) (no := no) (ng := false) (i := i) C t b v hc (by omega)
      by_cases z : faR T n N q = 0
      · obtain ⟨h1, e1, F1, w1⟩ := B z i3
        rw [if_pos z, e1]
        exact ⟨_, _, rfl, F1.mo (fun a k q => .inl q), fun z => absurd z (by show ¬ (5 : Nat) = 0; decide), fun _ => ⟨rfl, w1⟩⟩
      · obtain ⟨h1, e1, F1, w1⟩ := A z
        rw [if_neg z, e1]
        exact ⟨_, _, rfl, F1.mo (fun a k q => .inl q), fun y => absurd y z, fun _ => ⟨rfl, w1⟩⟩
  | succ r ih =>
    intro i l h q f hi hf C t b v
    have lo := b.s.lo
    have oM : ∀ x k, MkM m c x k → ¬ StM x k := fun x k => by unfold MkM StM; omega
    have oB : ∀ x k, x = m ∧ k = 0 ∨ x = m + 1 ∨ x = m + 2 ∨ x = m + 3 → ¬ StM x k := fun x k => by unfold StM; omega
    have oK : ∀ x k, x = m ∧ k = 0 ∨ x = m + 1 ∨ x = m + 2 ∨ x = m + 3 → ¬ MkM m c x k := fun x k => by unfold MkM; omega
    have oC : ∀ x k, x = 195 ∧ k = 9 ∨ x = 197 → ¬ MkM m c x k := fun x k => by unfold MkM; omega
    have oT : ∀ x k, x = 195 ∧ (10 ≤ k ∧ k ≤ 13) → ¬ MkM m c x k := fun x k => by unfold MkM; omega
    have mS : ∀ x k, StM x k → CmM m c x k := fun x k q => .inl (.inl q)
    have mT : ∀ x k, TlM x k → CmM m c x k := fun x k q => .inl q
    have mK : ∀ x k, MkM m c x k → CmM m c x k := fun x k q => .inr q
    obtain ⟨f, rfl⟩ : ∃ g, f = g + 1 := ⟨f - 1, by omega⟩
    have i3 : ¬ nI i = nI 3 := by rw [nI_eI (by omega) (by omega)]; omega
    rw [mcase_h C t]
    have hd : ∃ h1, X15_readCases_B28 (X15_readCases_B5 f) 195 (nI c) (bI no) (nI i) (bI (csN T n no q)) h = X15_readCases_B50 (X15_readCases_B5 f) 195 (nI c) (bI no) (nI i) (bI (csN T n no q)) h1 ∧ Fz StM h h1 ∧ CfM h1 T n ∧ CtM h1 T n (csQ T n no q) := by
      unfold X15_readCases_B28 csQ
      rw [ifB]
      cases csN T n no q with
      | false => exact ⟨h, rfl, Fz.rf, C, t⟩
      | true =>
        obtain ⟨h1, e1, F1, c1, t1⟩ := next_t C t
        rw [if_pos rfl, if_neg i3, G_t C.g.c195, e1, BN_ok]
        exact ⟨h1, rfl, F1, c1, t1⟩
    obtain ⟨h1, e1, F1, c1, t1⟩ := hd
    rw [e1]
    unfold csX
    generalize csN T n no q = ng at *
    generalize csQ T n no q = q' at *
    have b1 := b.fz F1 oB
    have v1 := v.fz F1 oM
    obtain ⟨A, _, B⟩ := case_m (k := X15_readCases_B5 f) (no := no) (ng := ng) (i := i) c1 t1 b1 v1 hc (by omega)
    unfold csY
    by_cases z : faR T n N q' = 0
    · obtain ⟨h2, e2, F2, v2⟩ := B z (by omega)
      have c2 := c1.fz F2 oC
      have t2 := t1.fz F2 oT
      have b2 := b1.fz F2 oK
      obtain ⟨h3, e3, F3, c3, t3⟩ := next_t c2 t2
      have b3 := b2.fz F3 oB
      have v3 := v2.fz F3 oM
      have Fa : Fz (CmM m c) h h3 := ((F1.mo mS).tr (F2.mo mK)).tr (F3.mo mS)
      rw [e2, if_pos z]
      unfold X15_readCases_B168
      rw [nI_add, LT_e, G_t c2.g.c195, e3, BN_ok, G_t c3.g.c195, isWord_m c3 t3 (by decide), BN_ok, ifB]
      by_cases y : isW T n (nxT T n q') 0 = true
      · obtain ⟨h4, e4, F4, c4, t4⟩ := next_t c3 t3
        rw [if_pos y, if_pos y, G_t c3.g.c195, e4, BN_ok, y]
        unfold X15_readCases_B192
        obtain ⟨w, h5, e5, F5, x5, y5⟩ := ih (i + 1) (l ++ [(lkV N (wdV T n q') - 4, ng)]) h4 (nxT T n (nxT T n q')) f (by omega) (by omega) c4 t4 (b3.fz F4 oB) (v3.fz F4 oM)
        refine ⟨w, h5, e5, (Fa.tr (F4.mo mS)).tr F5, fun o => ?_, y5⟩
        obtain ⟨o1, o2, o3, o4⟩ := x5 o
        refine ⟨o1, o2, o3, ?_⟩
        rw [List.append_assoc] at o4
        exact o4
      · obtain ⟨f, rfl⟩ : ∃ g, f = g + 1 := ⟨f - 1, by omega⟩
        rw [if_neg y, if_neg y]
        unfold X15_readCases_B192
        rw [X15_readCases_B5, if_pos (by rw [Bool.not_eq_true] at y; rw [y]; decide)]
        exact ⟨_, _, rfl, Fa, fun _ => ⟨rfl, c3, t3, v3⟩, fun o => absurd rfl o⟩
    · obtain ⟨h2, e2, F2, w2⟩ := A z
      rw [e2, if_neg z]
      exact ⟨_, _, rfl, (F1.mo mS).tr (F2.mo mT), fun y => absurd y z, fun _ => ⟨rfl, w2⟩⟩
