/-- the names told so far: the word, what it means (a machine m: m; a row r: 4 + r) -/
abbrev NmL : Type := List (Int64 × Nat)
def lkV : NmL → Int64 → Nat
  | [], _ => 99
  | x :: l, w => if x.1 = w then x.2 else lkV l w
def nmA (N : NmL) (i : Nat) : Int64 × Nat := N.getD i (lN 0, 99)
theorem lkV_d {N : NmL} {w : Int64} {i : Nat} (h : i < N.length) : lkV (N.drop i) w = if (nmA N i).1 = w then (nmA N i).2 else lkV (N.drop (i + 1)) w := by
  have e : nmA N i = N[i] := by unfold nmA; rw [List.getD_eq_getElem?_getD, List.getElem?_eq_getElem h]; rfl
  rw [List.drop_eq_getElem_cons h, lkV, e]
theorem lkV_e {N : NmL} {w : Int64} : lkV (N.drop N.length) w = 99 := by rw [List.drop_length]; rfl
def nxT (T : Nat → Int32) (n p : Nat) : Nat := tkP T n (tkA T n p)
theorem nxT_b {T : Nat → Int32} {n p : Nat} (h : p ≤ n) : p ≤ nxT T n p ∧ nxT T n p ≤ n ∧ tkA T n p ≤ nxT T n p := by
  obtain ⟨a, b⟩ := tkA_b (T := T) h
  obtain ⟨c, d, _, _⟩ := tkP_b (T := T) b
  unfold nxT
  omega
/-- the fault at a name that must be a row, a machine, new (0: none) -/
def faR (T : Nat → Int32) (n : Nat) (N : NmL) (p : Nat) : Nat := if isN T n p = true then (if 4 ≤ lkV N (wdV T n p) ∧ lkV N (wdV T n p) < 99 then 0 else 2) else 1
def faM (T : Nat → Int32) (n : Nat) (N : NmL) (p : Nat) : Nat := if isN T n p = true then (if lkV N (wdV T n p) < 4 then 0 else 2) else 1
def faN (T : Nat → Int32) (n : Nat) (N : NmL) (p : Nat) : Nat := if isN T n p = true then (if lkV N (wdV T n p) = 99 then 0 else 3) else 1
def faW (T : Nat → Int32) (n p s : Nat) : Nat := if isW T n p s = true then 0 else 1
def faE (T : Nat → Int32) (n p : Nat) : Nat := if tkK T n p = 1 then 0 else 1
theorem isN_2 {T : Nat → Int32} {n p : Nat} (h : isN T n p = true) : tkK T n p = 2 := by
  unfold isN at h
  exact of_decide_eq_true (Bool.and_eq_true _ _ ▸ h).1
def NmC (h : AH) (N : NmL) : Prop := (xI h 58 3 = nI N.length) ∧ (N.length ≤ 14) ∧ (∀ i, i < N.length → xL h 60 i = (nmA N i).1) ∧ (∀ i, i < N.length → xI h 61 i = nI (nmA N i).2) ∧ (∀ i, i < N.length → (nmA N i).2 < 14)
theorem NmC.n {h : AH} {N : NmL} (q_ : NmC h N) : xI h 58 3 = nI N.length := q_.1
theorem NmC.x {h : AH} {N : NmL} (q_ : NmC h N) : N.length ≤ 14 := q_.2.1
theorem NmC.w {h : AH} {N : NmL} (q_ : NmC h N) : ∀ i, i < N.length → xL h 60 i = (nmA N i).1 := q_.2.2.1
theorem NmC.m {h : AH} {N : NmL} (q_ : NmC h N) : ∀ i, i < N.length → xI h 61 i = nI (nmA N i).2 := q_.2.2.2.1
theorem NmC.v {h : AH} {N : NmL} (q_ : NmC h N) : ∀ i, i < N.length → (nmA N i).2 < 14 := q_.2.2.2.2
theorem NmC.fz {A : Nat → Nat → Prop} {h h' : AH} {N : NmL} (F : Fz A h h') (o : ∀ a k, a = 58 ∧ k = 3 ∨ a = 60 ∨ a = 61 → ¬ A a k) (c : NmC h N) : NmC h' N := ⟨by rw [F.I (o _ _ (by omega))]; exact c.n, c.x, fun i hi => by rw [F.L (o _ _ (by omega))]; exact c.w i hi, fun i hi => by rw [F.I (o _ _ (by omega))]; exact c.m i hi, c.v⟩
theorem lkV_b {N : NmL} {w : Int64} (v : ∀ i, i < N.length → (nmA N i).2 < 14) : lkV N w = 99 ∨ lkV N w < 14 := by
  have key : ∀ d i, N.length - i = d → i ≤ N.length → lkV (N.drop i) w = 99 ∨ lkV (N.drop i) w < 14 := by
    intro d
    induction d with
    | zero => intro i e hi; rw [show i = N.length by omega, lkV_e]; exact .inl rfl
    | succ d ih =>
      intro i e hi
      rw [lkV_d (by omega)]
      by_cases q : (nmA N i).1 = w
      · rw [if_pos q]; exact .inr (v i (by omega))
      · rw [if_neg q]; exact ih (i + 1) (by omega) (by omega)
  exact key N.length 0 (by omega) (by omega)
theorem meaning_c {h : AH} {T : Nat → Int32} {n p : Nat} {N : NmL} (c : CfC h T n) (t : CtC h T n p) (u : NmC h N) (k : tkK T n p = 2) : X6_meaning_f 58 h = some (if lkV N (wdV T n p) = 99 then -1 else nI (lkV N (wdV T n p)), h) := by
  have nx := u.x
  unfold X6_meaning_f
  rw [G_t c.g.c58, spelling_c c t k, BN_ok]
  generalize wdV T n p = w
  refine loopH (F := fun m i h => X6_meaning_B7 m 58 w (nI i) h) N.length (fun i h' => h' = h ∧ lkV (N.drop i) w = lkV N w) (fun o => o = some (if lkV N w = 99 then -1 else nI (lkV N w), h)) ?_ ?_ (Nat.zero_le _) (FU_gt (by omega)) ⟨rfl, rfl⟩
  · rintro m i h' hi ⟨rfl, e⟩
    rw [lkV_d hi] at e
    have hd : X6_meaning_B7 (m + 1) 58 w (nI i) h' = if (nmA N i).1 = w then some (nI (nmA N i).2, h') else X6_meaning_B7 m 58 w (nI (i + 1)) h' := by
      rw [X6_meaning_B7, G_t c.g.c58, u.n, if_neg (by rw [nI_lI (by omega) (by omega)]; omega), G_t c.g.c58, c.g.r58_1, G_t c.g.c60, c.g.z60, G_gx (by omega) (by omega), nI_cl (by omega), u.w i hi, nI_add, LT_e]
      by_cases q : (nmA N i).1 = w
      · rw [if_pos (cmpE.mpr q), if_pos q]
        unfold X6_meaning_B26
        rw [G_t c.g.c58, c.g.r58_2, G_t c.g.c61, c.g.z61, G_gx (by omega) (by omega), nI_cl (by omega), u.m i hi]
      · rw [if_neg (fun z => q (cmpE.mp z)), if_neg q]
    by_cases q : (nmA N i).1 = w
    · refine .inr ?_
      show X6_meaning_B7 (m + 1) 58 w (nI i) h' = _
      rw [if_pos q] at e
      have := u.v i hi
      rw [hd, if_pos q, ← e, if_neg (by omega)]
    · rw [if_neg q] at e
      exact .inl ⟨h', ⟨rfl, e⟩, by show X6_meaning_B7 (m + 1) 58 w (nI i) h' = _; rw [hd, if_neg q]⟩
  · rintro m h' ⟨rfl, e⟩
    show X6_meaning_B7 (m + 1) 58 w (nI N.length) h' = _
    rw [lkV_e] at e
    rw [X6_meaning_B7, G_t c.g.c58, u.n, if_pos (by rw [nI_lI (by omega) (by omega)]; omega), ← e, if_pos rfl]
def FlA : Nat → Nat → Prop := fun a k => a = 58 ∧ (6 ≤ k ∧ k ≤ 9)
theorem StA_Fl {a k : Nat} (c : StA a k) : FlA a k := by unfold StA at c; unfold FlA; omega
theorem flC {a k : Nat} (c : a = 58 ∧ k = 5 ∨ a = 59) : ¬ FlA a k := by unfold FlA; omega
theorem flN {a k : Nat} (c : a = 58 ∧ k = 3 ∨ a = 60 ∨ a = 61) : ¬ FlA a k := by unfold FlA; omega
theorem flawed_c {h : AH} {T : Nat → Int32} {n p : Nat} {v : Int32} (c : CfC h T n) (t : CtC h T n p) : ∃ h', X6_flawed_f 58 v h = some (nI 0, h') ∧ Fz FlA h h' ∧ CfC h' T n ∧ CtC h' T n p ∧ xI h' 58 9 = v := by
  have F : Fz (fun a k => a = 58 ∧ k = 9) h (pI h 58 9 v) := Fz.i ⟨rfl, rfl⟩
  unfold X6_flawed_f
  rw [G_t c.g.c58, LT_e]
  exact ⟨_, rfl, F.mo (fun a k q => by unfold FlA; omega), c.fz F (fun a k q => by omega), t.fz F (fun a k q => by omega), xI_self⟩
theorem rowHere_c {h : AH} {T : Nat → Int32} {n p : Nat} {N : NmL} (c : CfC h T n) (t : CtC h T n p) (u : NmC h N) : ∃ v h', X6_rowHere_f 58 h = some (v, h') ∧ Fz FlA h h' ∧ CfC h' T n ∧ CtC h' T n p ∧ (faR T n N p = 0 → v = nI (lkV N (wdV T n p) - 4) ∧ 4 ≤ lkV N (wdV T n p) ∧ lkV N (wdV T n p) < 14) ∧ (faR T n N p ≠ 0 → v = -1 ∧ xI h' 58 9 = nI (faR T n N p)) := by
  unfold X6_rowHere_f faR
  rw [G_t c.g.c58, isName_c c t, BN_ok, ifB]
  by_cases k : isN T n p = true
  · rw [if_pos k, if_pos k, G_t c.g.c58, meaning_c c t u (isN_2 k), BN_ok]
    rcases lkV_b (w := wdV T n p) u.v with e | e
    · rw [e, if_pos rfl, if_neg (by decide), G_t c.g.c58]
      obtain ⟨h1, e1, F1, c1, t1, w1⟩ := flawed_c (v := nI 2) c t
      rw [e1, BN_ok]
      exact ⟨_, _, rfl, F1, c1, t1, fun z => absurd z (by decide), fun _ => ⟨rfl, w1⟩⟩
    · rw [if_neg (show ¬ lkV N (wdV T n p) = 99 by omega)]
      by_cases q : 4 ≤ lkV N (wdV T n p)
      · rw [if_pos (show nI 4 ≤ nI (lkV N (wdV T n p)) by rw [nI_lI (by omega) (by omega)]; exact q), if_pos (show 4 ≤ lkV N (wdV T n p) ∧ lkV N (wdV T n p) < 99 from ⟨q, by omega⟩), pk_sub q]
        exact ⟨_, _, rfl, Fz.rf, c, t, fun _ => ⟨rfl, q, e⟩, fun z => absurd rfl z⟩
      · rw [if_neg (show ¬ nI 4 ≤ nI (lkV N (wdV T n p)) by rw [nI_lI (by omega) (by omega)]; exact q), if_neg (show ¬ (4 ≤ lkV N (wdV T n p) ∧ lkV N (wdV T n p) < 99) from fun z => q z.1), G_t c.g.c58]
        obtain ⟨h1, e1, F1, c1, t1, w1⟩ := flawed_c (v := nI 2) c t
        rw [e1, BN_ok]
        exact ⟨_, _, rfl, F1, c1, t1, fun z => absurd z (by decide), fun _ => ⟨rfl, w1⟩⟩
  · rw [if_neg k, if_neg k, G_t c.g.c58]
    obtain ⟨h1, e1, F1, c1, t1, w1⟩ := flawed_c (v := nI 1) c t
    rw [e1, BN_ok]
    exact ⟨_, _, rfl, F1, c1, t1, fun z => absurd z (by decide), fun _ => ⟨rfl, w1⟩⟩
theorem stepToRow_c {h : AH} {T : Nat → Int32} {n p : Nat} {N : NmL} (c : CfC h T n) (t : CtC h T n p) (u : NmC h N) : ∃ v h', X6_stepToRow_f 58 h = some (v, h') ∧ Fz FlA h h' ∧ CfC h' T n ∧ CtC h' T n (nxT T n p) ∧ (faR T n N (nxT T n p) = 0 → v = nI (lkV N (wdV T n (nxT T n p)) - 4) ∧ 4 ≤ lkV N (wdV T n (nxT T n p)) ∧ lkV N (wdV T n (nxT T n p)) < 14) ∧ (faR T n N (nxT T n p) ≠ 0 → v = -1 ∧ xI h' 58 9 = nI (faR T n N (nxT T n p))) := by
  obtain ⟨h1, e1, F1, c1, t1⟩ := step_c c (tkA_b t.x).2 t.f
  have G1 := F1.mo (fun a k => StA_Fl)
  obtain ⟨v, h2, e2, F2, c2, t2, a, b⟩ := rowHere_c c1 t1 (u.fz G1 (fun a k => flN))
  unfold X6_stepToRow_f
  rw [G_t c.g.c58, e1, BN_ok, G_t c1.g.c58, e2, BN_ok]
  exact ⟨v, h2, rfl, G1.tr F2, c2, t2, a, b⟩
theorem stepToMachine_c {h : AH} {T : Nat → Int32} {n p : Nat} {N : NmL} (c : CfC h T n) (t : CtC h T n p) (u : NmC h N) : ∃ v h', X6_stepToMachine_f 58 h = some (v, h') ∧ Fz FlA h h' ∧ CfC h' T n ∧ CtC h' T n (nxT T n p) ∧ (faM T n N (nxT T n p) = 0 → v = nI (lkV N (wdV T n (nxT T n p))) ∧ lkV N (wdV T n (nxT T n p)) < 4) ∧ (faM T n N (nxT T n p) ≠ 0 → v = -1 ∧ xI h' 58 9 = nI (faM T n N (nxT T n p))) := by
  obtain ⟨h1, e1, F1, c1, t1⟩ := step_c c (tkA_b t.x).2 t.f
  have G1 := F1.mo (fun a k => StA_Fl)
  have u1 := u.fz G1 (fun a k => flN)
  unfold X6_stepToMachine_f
  rw [G_t c.g.c58, e1, BN_ok, G_t c1.g.c58]
  have t1' : CtC h1 T n (nxT T n p) := t1
  clear t1
  generalize nxT T n p = q at *
  rw [isName_c c1 t1', BN_ok, ifB]
  unfold faM
  by_cases k : isN T n q = true
  · rw [if_pos k, if_pos k, G_t c1.g.c58, meaning_c c1 t1' u1 (isN_2 k), BN_ok]
    have bad : ∃ v h', X6_stepToMachine_B34 58 h1 = some (v, h') ∧ Fz FlA h h' ∧ CfC h' T n ∧ CtC h' T n q ∧ v = -1 ∧ xI h' 58 9 = nI 2 := by
      obtain ⟨h2, e2, F2, c2, t2, w2⟩ := flawed_c (v := nI 2) c1 t1'
      unfold X6_stepToMachine_B34
      rw [G_t c1.g.c58, e2, BN_ok]
      exact ⟨_, _, rfl, G1.tr F2, c2, t2, rfl, w2⟩
    rcases lkV_b (w := wdV T n q) u.v with e | e
    · obtain ⟨v, h2, e2, F2, c2, t2, v2, w2⟩ := bad
      rw [e, if_pos rfl, if_pos rfl, if_neg (by decide), e2]
      exact ⟨_, _, rfl, F2, c2, t2, fun z => absurd z (by decide), fun _ => ⟨v2, w2⟩⟩
    · have ne : ¬ nI (lkV N (wdV T n q)) = -1 := fun z => absurd z (by
        have : ∀ k, k < 14 → ¬ nI k = -1 := by decide +kernel
        exact this _ e)
      rw [if_neg (show ¬ lkV N (wdV T n q) = 99 by omega), if_neg ne]
      by_cases r : lkV N (wdV T n q) < 4
      · rw [if_pos (show nI (lkV N (wdV T n q)) < nI 4 by rw [nI_tI (by omega) (by omega)]; exact r), if_pos r]
        exact ⟨_, _, rfl, G1, c1, t1', fun _ => ⟨rfl, r⟩, fun z => absurd rfl z⟩
      · obtain ⟨v, h2, e2, F2, c2, t2, v2, w2⟩ := bad
        rw [if_neg (show ¬ nI (lkV N (wdV T n q)) < nI 4 by rw [nI_tI (by omega) (by omega)]; exact r), if_neg r, e2]
        exact ⟨_, _, rfl, F2, c2, t2, fun z => absurd z (by decide), fun _ => ⟨v2, w2⟩⟩
  · obtain ⟨h2, e2, F2, c2, t2, w2⟩ := flawed_c (v := nI 1) c1 t1'
    rw [if_neg k, if_neg k, G_t c1.g.c58, e2, BN_ok]
    exact ⟨_, _, rfl, G1.tr F2, c2, t2, fun z => absurd z (by decide), fun _ => ⟨rfl, w2⟩⟩
theorem stepTo_c {h : AH} {T : Nat → Int32} {n p s : Nat} (c : CfC h T n) (t : CtC h T n p) (hs : s < 17) : ∃ v h', X6_stepTo_f 58 s h = some (v, h') ∧ Fz FlA h h' ∧ CfC h' T n ∧ CtC h' T n (nxT T n p) ∧ (faW T n (nxT T n p) s = 0 → v = nI 1) ∧ (faW T n (nxT T n p) s ≠ 0 → v = nI 0 ∧ xI h' 58 9 = nI (faW T n (nxT T n p) s)) := by
  obtain ⟨h1, e1, F1, c1, t1⟩ := step_c c (tkA_b t.x).2 t.f
  have G1 := F1.mo (fun a k => StA_Fl)
  unfold X6_stepTo_f
  rw [G_t c.g.c58, e1, BN_ok, G_t c1.g.c58]
  have t1' : CtC h1 T n (nxT T n p) := t1
  clear t1
  generalize nxT T n p = q at *
  rw [spells_c c1 t1' hs, BN_ok, ifB]
  unfold faW
  by_cases k : isW T n q s = true
  · rw [if_pos k, if_pos k]
    exact ⟨_, _, rfl, G1, c1, t1', fun _ => rfl, fun z => absurd rfl z⟩
  · obtain ⟨h2, e2, F2, c2, t2, w2⟩ := flawed_c (v := nI 1) c1 t1'
    rw [if_neg k, if_neg k, G_t c1.g.c58, e2, BN_ok, if_pos (by decide : nI 0 = 0)]
    exact ⟨_, _, rfl, G1.tr F2, c2, t2, fun z => absurd z (by decide), fun _ => ⟨rfl, w2⟩⟩
theorem endsLine_c {h : AH} {T : Nat → Int32} {n p : Nat} (c : CfC h T n) (t : CtC h T n p) : ∃ v h', X6_endsLine_f 58 h = some (v, h') ∧ Fz FlA h h' ∧ CfC h' T n ∧ CtC h' T n p ∧ (faE T n p = 0 → v = nI 1) ∧ (faE T n p ≠ 0 → v = nI 0 ∧ xI h' 58 9 = nI (faE T n p)) := by
  have kl := tkK_le (T := T) (n := n) (p := p)
  unfold X6_endsLine_f faE
  rw [G_t c.g.c58, t.s]
  by_cases k : tkK T n p = 1
  · rw [if_pos (by rw [k]), if_pos k]
    exact ⟨_, _, rfl, Fz.rf, c, t, fun _ => rfl, fun z => absurd rfl z⟩
  · obtain ⟨h2, e2, F2, c2, t2, w2⟩ := flawed_c (v := nI 1) c t
    rw [if_neg (by rw [nI_eI (by omega) (by omega)]; exact k), if_neg k, G_t c.g.c58, e2, BN_ok, if_pos (by decide : nI 0 = 0)]
    exact ⟨_, _, rfl, F2, c2, t2, fun z => absurd z (by decide), fun _ => ⟨rfl, w2⟩⟩
def NnA : Nat → Nat → Prop := fun a k => FlA a k ∨ a = 58 ∧ k = 3 ∨ a = 60 ∨ a = 61
theorem nmA_l {N : NmL} {x : Int64 × Nat} {i : Nat} (h : i < N.length) : nmA (N ++ [x]) i = nmA N i := by
  unfold nmA
  rw [List.getD_eq_getElem?_getD, List.getD_eq_getElem?_getD, List.getElem?_append_left h]
theorem nmA_r {N : NmL} {x : Int64 × Nat} : nmA (N ++ [x]) N.length = x := by
  unfold nmA
  rw [List.getD_eq_getElem?_getD, List.getElem?_append_right (Nat.le_refl _), Nat.sub_self]
  rfl
theorem newName_c {h : AH} {T : Nat → Int32} {n p v : Nat} {N : NmL} (c : CfC h T n) (t : CtC h T n p) (u : NmC h N) (hv : v < 14) (hl : N.length < 14) : ∃ w h', X6_stepToNewName_f 58 (nI v) h = some (w, h') ∧ Fz NnA h h' ∧ CfC h' T n ∧ CtC h' T n (nxT T n p) ∧ (faN T n N (nxT T n p) = 0 → w = nI 1 ∧ NmC h' (N ++ [(wdV T n (nxT T n p), v)])) ∧ (faN T n N (nxT T n p) ≠ 0 → w = nI 0 ∧ xI h' 58 9 = nI (faN T n N (nxT T n p))) := by
  obtain ⟨h1, e1, F1, c1, t1⟩ := step_c c (tkA_b t.x).2 t.f
  have G0 := F1.mo (fun a k => StA_Fl)
  have G1 : Fz NnA h h1 := G0.mo (fun a k q => .inl q)
  have u1 := u.fz G0 (fun a k => flN)
  unfold X6_stepToNewName_f
  rw [G_t c.g.c58, e1, BN_ok, G_t c1.g.c58]
  have t1' : CtC h1 T n (nxT T n p) := t1
  clear t1
  generalize nxT T n p = q at *
  rw [isName_c c1 t1', BN_ok, ifB]
  unfold faN
  by_cases k : isN T n q = true
  · rw [if_pos k, if_pos k, G_t c1.g.c58, meaning_c c1 t1' u1 (isN_2 k), BN_ok]
    rcases lkV_b (w := wdV T n q) u.v with e | e
    · rw [if_pos e, if_pos rfl, if_pos e, G_t c1.g.c58, c1.g.r58_1, G_t c1.g.c60, c1.g.z60, u1.n, if_neg (by rw [nI_eI (by omega) (by omega)]; omega), G_t c1.g.c58, spelling_c c1 t1' (isN_2 k), BN_ok, G_t c1.g.c60, c1.g.z60, G_gx (by omega) (by omega), nI_cl (by omega), LT_e]
      obtain ⟨h2, h2e⟩ : ∃ h2, h2 = pL h1 60 N.length (wdV T n q) := ⟨_, rfl⟩
      have F2 : Fz (fun a k => a = 60) h1 h2 := by rw [h2e]; exact Fz.l rfl
      have c2 := c1.fz F2 (fun a k q => by omega)
      obtain ⟨h3, h3e⟩ : ∃ h3, h3 = pI h2 61 N.length (nI v) := ⟨_, rfl⟩
      have F3 : Fz (fun a k => a = 61) h2 h3 := by rw [h3e]; exact Fz.i rfl
      have c3 := c2.fz F3 (fun a k q => by omega)
      obtain ⟨h4, h4e⟩ : ∃ h4, h4 = pI h3 58 3 (nI (N.length + 1)) := ⟨_, rfl⟩
      have F4 : Fz (fun a k => a = 58 ∧ k = 3) h3 h4 := by rw [h4e]; exact Fz.i ⟨rfl, rfl⟩
      have n2 : xI h2 58 3 = nI N.length := by rw [F2.I (by omega)]; exact u1.n
      have n3 : xI h3 58 3 = nI N.length := by rw [F3.I (by omega)]; exact n2
      rw [← h2e, G_t c2.g.c58, c2.g.r58_2, G_t c2.g.c61, c2.g.z61, n2, G_gx (by omega) (by omega), nI_cl (by omega), LT_e, ← h3e, G_t c3.g.c58, n3, nI_add, LT_e, ← h4e]
      refine ⟨_, _, rfl, ((G1.tr (F2.mo (fun a k q => by unfold NnA; omega))).tr (F3.mo (fun a k q => by unfold NnA; omega))).tr (F4.mo (fun a k q => by unfold NnA; omega)), c3.fz F4 (fun a k q => by omega), ((t1'.fz F2 (fun a k q => by omega)).fz F3 (fun a k q => by omega)).fz F4 (fun a k q => by omega), fun _ => ⟨rfl, ?_⟩, fun z => absurd rfl z⟩
      have ll : (N ++ [(wdV T n q, v)]).length = N.length + 1 := by rw [List.length_append]; rfl
      refine ⟨by rw [h4e, xI_self, ll], by omega, fun i hi => ?_, fun i hi => ?_, fun i hi => ?_⟩
      · rw [F4.L (by omega), F3.L (by omega)]
        by_cases j : i = N.length
        · rw [j, nmA_r, h2e, xL_pL, if_pos ⟨rfl, rfl⟩]
        · rw [nmA_l (by omega), h2e, xL_pL, if_neg (by omega)]; exact u1.w i (by omega)
      · rw [F4.I (by omega)]
        by_cases j : i = N.length
        · rw [j, nmA_r, h3e, xI_self]
        · rw [nmA_l (by omega), h3e, xI_ne (by omega), F2.I (by omega)]; exact u1.m i (by omega)
      · by_cases j : i = N.length
        · rw [j, nmA_r]; exact hv
        · rw [nmA_l (by omega)]; exact u1.v i (by omega)
    · have ne : ¬ nI (lkV N (wdV T n q)) = -1 := fun z => absurd z (by
        have : ∀ k, k < 14 → ¬ nI k = -1 := by decide +kernel
        exact this _ e)
      obtain ⟨h2, e2, F2, c2, t2, w2⟩ := flawed_c (v := nI 3) c1 t1'
      rw [if_neg (show ¬ lkV N (wdV T n q) = 99 by omega), if_neg ne, if_neg (show ¬ lkV N (wdV T n q) = 99 by omega)]
      unfold X6_stepToNewName_B37
      rw [G_t c1.g.c58, e2, BN_ok, G_t (by decide)]
      exact ⟨_, _, rfl, G1.tr (F2.mo (fun a k q => .inl q)), c2, t2, fun z => absurd z (by decide), fun _ => ⟨rfl, w2⟩⟩
  · obtain ⟨h2, e2, F2, c2, t2, w2⟩ := flawed_c (v := nI 1) c1 t1'
    rw [if_neg k, if_neg k, G_t c1.g.c58, e2, BN_ok, G_t (by decide)]
    exact ⟨_, _, rfl, G1.tr (F2.mo (fun a k q => .inl q)), c2, t2, fun z => absurd z (by decide), fun _ => ⟨rfl, w2⟩⟩
