def NmM (h : AH) (m : Nat) (N : NmL) : Prop := (xI h m 0 = nI N.length) ∧ (N.length ≤ 14) ∧ (∀ i, i < N.length → xL h (m + 1) i = (nmA N i).1) ∧ (∀ i, i < N.length → xI h (m + 2) i = bI (decide (4 ≤ (nmA N i).2))) ∧ (∀ i, i < N.length → xI h (m + 3) i = nI (if 4 ≤ (nmA N i).2 then (nmA N i).2 - 4 else (nmA N i).2)) ∧ (∀ i, i < N.length → (nmA N i).2 < 14)
theorem NmM.n {h : AH} {m : Nat} {N : NmL} (q_ : NmM h m N) : xI h m 0 = nI N.length := q_.1
theorem NmM.x {h : AH} {m : Nat} {N : NmL} (q_ : NmM h m N) : N.length ≤ 14 := q_.2.1
theorem NmM.w {h : AH} {m : Nat} {N : NmL} (q_ : NmM h m N) : ∀ i, i < N.length → xL h (m + 1) i = (nmA N i).1 := q_.2.2.1
theorem NmM.b {h : AH} {m : Nat} {N : NmL} (q_ : NmM h m N) : ∀ i, i < N.length → xI h (m + 2) i = bI (decide (4 ≤ (nmA N i).2)) := q_.2.2.2.1
theorem NmM.m {h : AH} {m : Nat} {N : NmL} (q_ : NmM h m N) : ∀ i, i < N.length → xI h (m + 3) i = nI (if 4 ≤ (nmA N i).2 then (nmA N i).2 - 4 else (nmA N i).2) := q_.2.2.2.2.1
theorem NmM.v {h : AH} {m : Nat} {N : NmL} (q_ : NmM h m N) : ∀ i, i < N.length → (nmA N i).2 < 14 := q_.2.2.2.2.2
theorem NmM.fz {A : Nat → Nat → Prop} {h h' : AH} {m : Nat} {N : NmL} (F : Fz A h h') (o : ∀ a k, a = m ∧ k = 0 ∨ a = m + 1 ∨ a = m + 2 ∨ a = m + 3 → ¬ A a k) (c : NmM h m N) : NmM h' m N := ⟨by rw [F.I (o _ _ (by omega))]; exact c.n, c.x, fun i hi => by rw [F.L (o _ _ (by omega))]; exact c.w i hi, fun i hi => by rw [F.I (o _ _ (by omega))]; exact c.b i hi, fun i hi => by rw [F.I (o _ _ (by omega))]; exact c.m i hi, c.v⟩
theorem find_m {h : AH} {m : Nat} {N : NmL} {w : Int64} (s : MBS h m) (u : NmM h m N) : (lkV N w = 99 ∧ X12_find_f m w h = some (-1, h)) ∨ ∃ i, i < N.length ∧ (nmA N i).2 = lkV N w ∧ X12_find_f m w h = some (nI i, h) := by
  have nx := u.x
  unfold X12_find_f
  refine loopH (F := fun f i h => X12_find_B2 f m w (nI i) h) N.length (fun i h' => h' = h ∧ lkV (N.drop i) w = lkV N w) (fun o => (lkV N w = 99 ∧ o = some (-1, h)) ∨ ∃ i, i < N.length ∧ (nmA N i).2 = lkV N w ∧ o = some (nI i, h)) ?_ ?_ (Nat.zero_le _) (FU_gt (by omega)) ⟨rfl, rfl⟩
  · rintro f i h' hi ⟨rfl, e⟩
    rw [lkV_d hi] at e
    have hd : X12_find_B2 (f + 1) m w (nI i) h' = if (nmA N i).1 = w then some (nI i, h') else X12_find_B2 f m w (nI (i + 1)) h' := by
      rw [X12_find_B2, G_t s.c, u.n, if_neg (by rw [nI_lI (by omega) (by omega)]; omega), G_t s.c, s.r8, G_t s.c1, s.z1, G_gx (by omega) (by omega), nI_cl (by omega), u.w i hi, nI_add, LT_e]
      by_cases q : (nmA N i).1 = w
      · rw [if_pos (cmpE.mpr q), if_pos q]
      · rw [if_neg (fun z => q (cmpE.mp z)), if_neg q]
    by_cases q : (nmA N i).1 = w
    · rw [if_pos q] at e
      exact .inr (.inr ⟨i, hi, e, by show X12_find_B2 (f + 1) m w (nI i) h' = _; rw [hd, if_pos q]⟩)
    · rw [if_neg q] at e
      exact .inl ⟨h', ⟨rfl, e⟩, by show X12_find_B2 (f + 1) m w (nI i) h' = _; rw [hd, if_neg q]⟩
  · rintro f h' ⟨rfl, e⟩
    rw [lkV_e] at e
    refine .inl ⟨e.symm, ?_⟩
    show X12_find_B2 (f + 1) m w (nI N.length) h' = _
    rw [X12_find_B2, G_t s.c, u.n, if_pos (by rw [nI_lI (by omega) (by omega)]; omega)]
/-- the reference's stop -/
def MFt (h : AH) (k p : Nat) : Prop := xI h 196 6 = nI k ∧ xI h 196 7 = nI p
theorem stop_m {h : AH} {T : Nat → Int32} {n p k : Nat} (c : CfM h T n) (a : xI h 195 12 = nI p) : ∃ h', X15_stop_f 195 (nI k) h = some (196, h') ∧ Fz (fun a _ => a = 196) h h' ∧ xc h' 196 = 14 ∧ MFt h' k p := by
  have g1 : SG (pI h 196 6 (nI k)) := c.g.i
  unfold X15_stop_f
  rw [G_t c.g.c195, c.g.r195_6, G_t c.g.c196, LT_e, G_t g1.c195, g1.r195_6, G_t g1.c196, LT_e, G_t g1.i.c195, g1.i.r195_6]
  refine ⟨_, rfl, (Fz.i (A := fun a _ => a = 196) rfl).tr (Fz.i rfl), g1.i.c196, by rw [xI_ne (by omega), xI_self], ?_⟩
  rw [xI_self, xI_ne (by omega)]
  exact a
def TlM : Nat → Nat → Prop := fun a k => StM a k ∨ a = 196
/-- what the reference has of its new book while it reads -/
def BkM (h : AH) (m : Nat) (N : NmL) : Prop := (xR h 195 5 = m) ∧ (MBS h m) ∧ (NmM h m N)
theorem BkM.r {h : AH} {m : Nat} {N : NmL} (q_ : BkM h m N) : xR h 195 5 = m := q_.1
theorem BkM.s {h : AH} {m : Nat} {N : NmL} (q_ : BkM h m N) : MBS h m := q_.2.1
theorem BkM.u {h : AH} {m : Nat} {N : NmL} (q_ : BkM h m N) : NmM h m N := q_.2.2
theorem MBS.fz {A : Nat → Nat → Prop} {h h' : AH} {b : Nat} (F : Fz A h h') (q : MBS h b) : MBS h' b := by
  have := q.lo
  have e : b ≠ 174 ∧ b ≠ 180 ∧ b ≠ 119 := by omega
  unfold MBS at *; simp only [F.c, F.z, F.r _ e]; exact q
theorem BkM.fz {A : Nat → Nat → Prop} {h h' : AH} {m : Nat} {N : NmL} (F : Fz A h h') (o : ∀ a k, a = m ∧ k = 0 ∨ a = m + 1 ∨ a = m + 2 ∨ a = m + 3 → ¬ A a k) (c : BkM h m N) : BkM h' m N := ⟨by rw [F.r _ (by decide)]; exact c.r, c.s.fz F, c.u.fz F o⟩
def faT (bw : Bool) (T : Nat → Int32) (n : Nat) (N : NmL) (p : Nat) : Nat := if isN T n p = true then (if lkV N (wdV T n p) ≠ 99 ∧ decide (4 ≤ lkV N (wdV T n p)) = bw then 0 else 2) else 1
theorem next_t {h : AH} {T : Nat → Int32} {n p : Nat} (c : CfM h T n) (t : CtM h T n p) : ∃ h', X15_next_f 195 h = some ((), h') ∧ Fz StM h h' ∧ CfM h' T n ∧ CtM h' T n (nxT T n p) := next_m c (tkA_b t.x).2 t.f
theorem StM_Tl {a k : Nat} (q : StM a k) : TlM a k := .inl q
theorem told_m {h : AH} {T : Nat → Int32} {n p m : Nat} {N : NmL} {bw : Bool} (c : CfM h T n) (t : CtM h T n p) (b : BkM h m N) : ∃ r h', X15_readTold_f 195 (bI bw) h = some (r, h') ∧ Fz TlM h h' ∧ (faT bw T n N p = 0 → r = .inl (nI (if 4 ≤ lkV N (wdV T n p) then lkV N (wdV T n p) - 4 else lkV N (wdV T n p))) ∧ CfM h' T n ∧ CtM h' T n (nxT T n p)) ∧ (faT bw T n N p ≠ 0 → r = .inr 196 ∧ MFt h' (faT bw T n N p) p) := by
  have lo := b.s.lo
  unfold X15_readTold_f faT
  rw [G_t c.g.c195, isName_m c t, BN_ok, ifB]
  by_cases k : isN T n p = true
  · have k2 := isN_2 k
    rw [if_pos k, if_pos k, G_t c.g.c195, b.r, G_t b.s.c, t.w k2]
    have bad : ∃ h', X15_readTold_B43 195 h = some (.inr 196, h') ∧ Fz TlM h h' ∧ MFt h' 2 p := by
      obtain ⟨h1, e1, F1, x1, w1⟩ := stop_m (k := 2) c t.a
      unfold X15_readTold_B43
      rw [G_t c.g.c195, e1, BN_ok, G_t x1]
      exact ⟨_, rfl, F1.mo (fun a k q => .inr q), w1⟩
    rcases find_m (w := wdV T n p) b.s b.u with ⟨e, f⟩ | ⟨i, hi, e, f⟩
    · obtain ⟨h1, e1, F1, w1⟩ := bad
      rw [f, BN_ok, if_pos rfl, e1, if_neg (fun z => z.1 e)]
      exact ⟨_, _, rfl, F1, fun z => absurd z (by decide), fun _ => ⟨rfl, w1⟩⟩
    · have il := b.u.x
      have iv := b.u.v i hi
      have ne : ¬ nI i = -1 := fun z => absurd z (by
        have : ∀ k, k < 14 → ¬ nI k = -1 := by decide +kernel
        exact this _ (by omega))
      have bt := b.u.b i hi
      rw [e] at bt iv
      rw [f, BN_ok, if_neg ne, G_t c.g.c195, b.r, G_t b.s.c, b.s.r9, G_t b.s.c2, b.s.z2, G_gx (by omega) (by omega), show xI h (m + 2) (nI i).toNatClampNeg = bI (decide (4 ≤ lkV N (wdV T n p))) by rw [nI_cl (by omega)]; exact bt]
      by_cases q : decide (4 ≤ lkV N (wdV T n p)) = bw
      · obtain ⟨h1, e1, F1, c1, t1⟩ := next_t c t
        have oo : ∀ a k, a = m ∧ k = 0 ∨ a = m + 1 ∨ a = m + 2 ∨ a = m + 3 → ¬ StM a k := fun a k => by unfold StM; omega
        have b1 := b.fz F1 oo
        have mv := b1.u.m i hi
        rw [e] at mv
        rw [if_pos (show bI (decide (4 ≤ lkV N (wdV T n p))) = bI bw by rw [q]), if_pos (show lkV N (wdV T n p) ≠ 99 ∧ decide (4 ≤ lkV N (wdV T n p)) = bw from ⟨by omega, q⟩), G_t c.g.c195, e1, BN_ok, G_t c1.g.c195, b1.r, G_t b1.s.c, b1.s.r10, G_t b1.s.c3, b1.s.z3, G_gx (by omega) (by omega), nI_cl (by omega), mv]
        exact ⟨_, _, rfl, F1.mo (fun a k => StM_Tl), fun _ => ⟨rfl, c1, t1⟩, fun z => absurd rfl z⟩
      · obtain ⟨h1, e1, F1, w1⟩ := bad
        have nb : ¬ bI (decide (4 ≤ lkV N (wdV T n p))) = bI bw := fun z => q (by
          generalize decide (4 ≤ lkV N (wdV T n p)) = y at z
          revert z
          cases y <;> cases bw <;> decide)
        rw [if_neg nb, if_neg (show ¬ (lkV N (wdV T n p) ≠ 99 ∧ decide (4 ≤ lkV N (wdV T n p)) = bw) from fun z => q z.2), e1]
        exact ⟨_, _, rfl, F1, fun z => absurd z (by decide), fun _ => ⟨rfl, w1⟩⟩
  · obtain ⟨h1, e1, F1, x1, w1⟩ := stop_m (k := 1) c t.a
    rw [if_neg k, if_neg k, G_t c.g.c195, e1, BN_ok, G_t x1]
    exact ⟨_, _, rfl, F1.mo (fun a k q => .inr q), fun z => absurd z (by decide), fun _ => ⟨rfl, w1⟩⟩
theorem faT_R {T : Nat → Int32} {n p : Nat} {N : NmL} (v : ∀ i, i < N.length → (nmA N i).2 < 14) : faT true T n N p = faR T n N p := by
  unfold faT faR
  by_cases k : isN T n p = true
  · rw [if_pos k, if_pos k]
    rcases lkV_b (w := wdV T n p) v with e | e
    · rw [if_neg (fun z => z.1 e), if_neg (by omega)]
    · by_cases q : 4 ≤ lkV N (wdV T n p)
      · rw [if_pos ⟨by omega, decide_eq_true q⟩, if_pos ⟨q, by omega⟩]
      · rw [if_neg (fun z => q (of_decide_eq_true z.2)), if_neg (fun z => q z.1)]
  · rw [if_neg k, if_neg k]
theorem faT_M {T : Nat → Int32} {n p : Nat} {N : NmL} : faT false T n N p = faM T n N p := by
  unfold faT faM
  by_cases k : isN T n p = true
  · rw [if_pos k, if_pos k]
    by_cases q : 4 ≤ lkV N (wdV T n p)
    · rw [if_neg (fun z => of_decide_eq_false z.2 q), if_neg (by omega)]
    · rw [if_pos ⟨by omega, decide_eq_false q⟩, if_pos (by omega)]
  · rw [if_neg k, if_neg k]
theorem row_m {h : AH} {T : Nat → Int32} {n p m : Nat} {N : NmL} (c : CfM h T n) (t : CtM h T n p) (b : BkM h m N) : ∃ r h', X15_readTold_f 195 (nI 1) h = some (r, h') ∧ Fz TlM h h' ∧ (faR T n N p = 0 → r = .inl (nI (lkV N (wdV T n p) - 4)) ∧ CfM h' T n ∧ CtM h' T n (nxT T n p)) ∧ (faR T n N p ≠ 0 → r = .inr 196 ∧ MFt h' (faR T n N p) p) := by
  obtain ⟨r, h', e, F, x, y⟩ := told_m (bw := true) c t b
  rw [faT_R b.u.v] at x y
  refine ⟨r, h', e, F, fun z => ?_, y⟩
  obtain ⟨a, d⟩ := x z
  refine ⟨?_, d⟩
  rw [a, if_pos]
  unfold faR at z
  by_cases k : isN T n p = true
  · rw [if_pos k] at z
    by_cases q : 4 ≤ lkV N (wdV T n p) ∧ lkV N (wdV T n p) < 99
    · exact q.1
    · rw [if_neg q] at z; exact absurd z (by decide)
  · rw [if_neg k] at z; exact absurd z (by decide)
theorem mach_m {h : AH} {T : Nat → Int32} {n p m : Nat} {N : NmL} (c : CfM h T n) (t : CtM h T n p) (b : BkM h m N) : ∃ r h', X15_readTold_f 195 (nI 0) h = some (r, h') ∧ Fz TlM h h' ∧ (faM T n N p = 0 → r = .inl (nI (lkV N (wdV T n p))) ∧ CfM h' T n ∧ CtM h' T n (nxT T n p)) ∧ (faM T n N p ≠ 0 → r = .inr 196 ∧ MFt h' (faM T n N p) p) := by
  obtain ⟨r, h', e, F, x, y⟩ := told_m (bw := false) c t b
  rw [faT_M] at x y
  refine ⟨r, h', e, F, fun z => ?_, y⟩
  obtain ⟨a, d⟩ := x z
  refine ⟨?_, d⟩
  rw [a, if_neg]
  unfold faM at z
  by_cases k : isN T n p = true
  · rw [if_pos k] at z
    by_cases q : lkV N (wdV T n p) < 4
    · omega
    · rw [if_neg q] at z; exact absurd z (by decide)
  · rw [if_neg k] at z; exact absurd z (by decide)
theorem need_m {h : AH} {T : Nat → Int32} {n p s : Nat} (c : CfM h T n) (t : CtM h T n p) (hs : s < 17) : ∃ r h', X15_needWord_f 195 s h = some (r, h') ∧ Fz TlM h h' ∧ (faW T n p s = 0 → r = .inl () ∧ CfM h' T n ∧ CtM h' T n (nxT T n p)) ∧ (faW T n p s ≠ 0 → r = .inr 196 ∧ MFt h' (faW T n p s) p) := by
  unfold X15_needWord_f faW
  rw [G_t c.g.c195, isWord_m c t hs, BN_ok, ifB]
  by_cases k : isW T n p s = true
  · obtain ⟨h1, e1, F1, c1, t1⟩ := next_t c t
    rw [if_pos k, if_pos k, G_t c.g.c195, e1, BN_ok]
    exact ⟨_, _, rfl, F1.mo (fun a k => StM_Tl), fun _ => ⟨rfl, c1, t1⟩, fun z => absurd rfl z⟩
  · obtain ⟨h1, e1, F1, x1, w1⟩ := stop_m (k := 1) c t.a
    rw [if_neg k, if_neg k, G_t c.g.c195, e1, BN_ok, G_t x1]
    exact ⟨_, _, rfl, F1.mo (fun a k q => .inr q), fun z => absurd z (by decide), fun _ => ⟨rfl, w1⟩⟩
