def sel (q : Nat → Bool) (c k : Nat) : List Nat := ((List.range k).filter q).map fun u => c + u
theorem sel_0 {q : Nat → Bool} {c : Nat} : sel q c 0 = [] := rfl
theorem sel_y {q : Nat → Bool} {c k : Nat} (h : q k = true) : sel q c (k + 1) = sel q c k ++ [c + k] := by
  unfold sel
  rw [List.range_succ, List.filter_append, List.map_append]
  simp [h]
theorem sel_n {q : Nat → Bool} {c k : Nat} (h : q k = false) : sel q c (k + 1) = sel q c k := by
  unfold sel
  rw [List.range_succ, List.filter_append, List.map_append]
  simp [h]
theorem sel_le {q : Nat → Bool} {c k : Nat} : ∀ j, k ≤ j → (sel q c k).length ≤ (sel q c j).length := by
  intro j
  induction j with
  | zero => intro h; rw [show k = 0 by omega]; exact Nat.le_refl _
  | succ j ih =>
    intro h
    by_cases e : k = j + 1
    · rw [e]; exact Nat.le_refl _
    · have := ih (by omega)
      cases hq : q j
      · rw [sel_n hq]; exact this
      · rw [sel_y hq, List.length_append]; omega
theorem sel_lt {q : Nat → Bool} {c k j : Nat} (hk : k < j) (h : q k = true) : (sel q c k).length < (sel q c j).length := by
  have := sel_le (q := q) (c := c) (k := k + 1) j (by omega)
  rw [sel_y h, List.length_append] at this
  exact this
theorem sel_nil {q : Nat → Bool} {c : Nat} : ∀ k, (∀ u, u < k → q u = false) → sel q c k = [] := by
  intro k
  induction k with
  | zero => exact fun _ => rfl
  | succ k ih => intro h; rw [sel_n (h k (by omega)), ih (fun u hu => h u (by omega))]
theorem sel_one {q : Nat → Bool} {c d t : Nat} (h : ∀ u, q u = true → u + d = t) : ∀ k, (sel q c k).length ≤ 1 ∧ (k + d ≤ t → sel q c k = []) := by
  intro k
  induction k with
  | zero => exact ⟨Nat.zero_le _, fun _ => rfl⟩
  | succ k ih =>
    cases hq : q k
    · rw [sel_n hq]; exact ⟨ih.1, fun e => ih.2 (by omega)⟩
    · have := h k hq
      rw [sel_y hq, ih.2 (by omega)]
      exact ⟨Nat.le_refl _, fun e => by omega⟩
theorem sel_or {q q1 q2 : Nat → Bool} {c : Nat} (h : ∀ u, q u = true → q1 u = true ∨ q2 u = true) : ∀ k, (sel q c k).length ≤ (sel q1 c k).length + (sel q2 c k).length := by
  intro k
  induction k with
  | zero => exact Nat.zero_le _
  | succ k ih =>
    have a1 := sel_le (q := q1) (c := c) (k := k) (k + 1) (by omega)
    have a2 := sel_le (q := q2) (c := c) (k := k) (k + 1) (by omega)
    cases hq : q k
    · rw [sel_n hq]; omega
    · rw [sel_y hq, List.length_append, List.length_singleton]
      rcases h k hq with e | e
      · have := sel_lt (q := q1) (c := c) (k := k) (j := k + 1) (by omega) e; omega
      · have := sel_lt (q := q2) (c := c) (k := k) (j := k + 1) (by omega) e; omega
theorem sel_two {q q' : Nat → Bool} {c d : Nat} (h : ∀ u, q u = true → q' u = false) : ∀ k, (sel q c k).length + (sel q' d k).length ≤ k := by
  intro k
  induction k with
  | zero => exact Nat.zero_le _
  | succ k ih =>
    cases hq : q k
    · cases hp : q' k
      · rw [sel_n hq, sel_n hp]; omega
      · rw [sel_n hq, sel_y hp, List.length_append, List.length_singleton]; omega
    · rw [sel_y hq, sel_n (h k hq), List.length_append, List.length_singleton]; omega
section
variable {p : PR} {f : FL} {r m t : Nat}
def qX (p : PR) (f : FL) (r m t : Nat) (c : Nat) : Bool := p.1 10 c == r && bxN p f c m t
def qN (p : PR) (f : FL) (r m t : Nat) (c : Nat) : Bool := p.1 10 c == r && bwN p f c m t
theorem rW_e {s : Nat} : rW p f t s = sel (fun u => cbB p f s u t) (1000 + 10 * s) t := rfl
theorem rX_e {k : Nat} : rX p f r m t k = sel (qX p f r m t) 3000 k := rfl
theorem rN_e {k : Nat} : rN p f r m t k = sel (qN p f r m t) 4000 k := rfl
theorem rW_len {s : Nat} : (rW p f t s).length ≤ 2 := by
  rw [rW_e]
  have h := sel_or (q := fun u => cbB p f s u t) (q1 := fun u => u + 1 == t) (q2 := fun u => u + 3 == t) (c := 1000 + 10 * s) (fun u hu => by
    have hu : cbB p f s u t = true := hu
    unfold cbB at hu
    rw [Bool.or_eq_true, Bool.and_eq_true, Bool.and_eq_true] at hu
    rcases hu with e | e
    · exact .inl e.2
    · exact .inr e.2) t
  have h1 := (sel_one (q := fun u => u + 1 == t) (c := 1000 + 10 * s) (d := 1) (t := t) (fun u hu => beq_iff_eq.mp hu) t).1
  have h2 := (sel_one (q := fun u => u + 3 == t) (c := 1000 + 10 * s) (d := 3) (t := t) (fun u hu => beq_iff_eq.mp hu) t).1
  omega
theorem rV_0 : rV p f r m t 0 = [] := rfl
theorem rV_s {k : Nat} : rV p f r m t (k + 1) = rV p f r m t k ++ if p.1 10 (10 + k) = r ∧ p.1 12 (10 + k) = m then rW p f t k else [] := by
  unfold rV
  rw [List.range_succ, List.flatMap_append]
  simp
theorem rV_len : ∀ k, (rV p f r m t k).length ≤ 2 * k := by
  intro k
  induction k with
  | zero => exact Nat.zero_le _
  | succ k ih =>
    rw [rV_s, List.length_append]
    have := rW_len (p := p) (f := f) (t := t) (s := k)
    split
    · omega
    · rw [List.length_nil]; omega
theorem rV_le {k : Nat} : ∀ j, k ≤ j → (rV p f r m t k).length ≤ (rV p f r m t j).length := by
  intro j
  induction j with
  | zero => intro h; rw [show k = 0 by omega]; exact Nat.le_refl _
  | succ j ih =>
    intro h
    by_cases e : k = j + 1
    · rw [e]; exact Nat.le_refl _
    · have := ih (by omega)
      rw [rV_s, List.length_append]; omega
theorem rsn_len (w : WB p.1) : (rsn p f r m t).length ≤ 24 := by
  have h1 := rV_len (p := p) (f := f) (r := r) (m := m) (t := t) (p.1 4 0)
  have h2 := sel_two (q := qX p f r m t) (q' := qN p f r m t) (c := 3000) (d := 4000) (fun u hu => by
    unfold qX bxN at hu
    unfold qN bwN
    simp only [Bool.and_eq_true, beq_iff_eq] at hu
    rw [hu.2.1.1.1]
    simp) (p.1 3 0)
  have h3 : (rF p r m t).length ≤ 1 := by unfold rF; split <;> simp
  have h4 : (rK p f r m t).length ≤ 1 := by unfold rK; split <;> simp
  have := w.s
  have := w.u
  unfold rsn
  rw [rX_e, rN_e]
  simp only [List.length_append]
  omega
theorem rsn_nil (w : WB p.1) (d : fD f m t = false) (e : Tz p f t m r = false) : rsn p f r m t = [] := by
  have np : preB p f (Tz p f) t m r = false := by
    cases h : preB p f (Tz p f) t m r
    · rfl
    · rw [Tz_pre d h] at e; exact absurd e (by decide)
  unfold preB at np
  simp only [Bool.or_eq_false_iff] at np
  obtain ⟨⟨⟨n1, n2⟩, n3⟩, n4⟩ := np
  have h1 : rF p r m t = [] := by
    unfold rF
    rw [if_neg]
    rintro ⟨e1, e2⟩
    rw [e2, decide_eq_true e1] at n1
    exact absurd n1 (by decide)
  have h2 : ∀ k, k ≤ p.1 4 0 → rV p f r m t k = [] := by
    intro k
    induction k with
    | zero => exact fun _ => rfl
    | succ k ih =>
      intro hk
      rw [rV_s, ih (by omega)]
      split
      · next c =>
        rw [rW_e]
        refine sel_nil t (fun u hu => ?_)
        cases hc : cbB p f k u t
        · rfl
        · have : arrB p f (Tz p f) t m r = true := by
            unfold arrB
            rw [List.any_eq_true]
            refine ⟨k, List.mem_range.mpr (by omega), ?_⟩
            rw [Bool.and_eq_true, Bool.and_eq_true]
            refine ⟨⟨by simp [c.2], by simp [c.1]⟩, ?_⟩
            rw [List.any_eq_true]
            exact ⟨u, List.mem_range.mpr hu, cb_cm hc⟩
          rw [this] at n2; exact absurd n2 (by decide)
      · rfl
  have h3 : rK p f r m t = [] := by
    unfold rK
    rw [if_neg]
    rintro ⟨e1, e2, e3⟩
    unfold kpB at n3
    rw [e1, decide_eq_true e2, e3] at n3
    exact absurd n3 (by decide)
  have h4 : rX p f r m t (p.1 3 0) = [] := by
    rw [rX_e]
    refine sel_nil _ (fun u hu => ?_)
    cases hc : qX p f r m t u
    · rfl
    · unfold qX bxN at hc
      simp only [Bool.and_eq_true, beq_iff_eq, decide_eq_true_eq] at hc
      obtain ⟨c1, ⟨⟨c2, c3⟩, c4⟩, c5, c6⟩ := hc
      have : nxB p f (Tz p f) t m r = true := by
        unfold nxB
        rw [decide_eq_true c4, c5, Bool.true_and, Bool.true_and, List.any_eq_true]
        exact ⟨u, List.mem_range.mpr hu, by simp [c1, c2, c3, c6]⟩
      rw [this] at n4; exact absurd n4 (by decide)
  have h5 : rN p f r m t (p.1 3 0) = [] := by
    rw [rN_e]
    refine sel_nil _ (fun u hu => ?_)
    cases hc : qN p f r m t u
    · rfl
    · unfold qN at hc
      rw [Bool.and_eq_true, beq_iff_eq] at hc
      have := Tz_now w d hu hc.2
      rw [hc.1, e] at this; exact absurd this (by decide)
  unfold rsn
  rw [h1, h2 _ (Nat.le_refl _), h3, h4, h5]; rfl
end
/-- the list so far, both ways -/
def RsC (h : AH) (a : Nat) (l : List Nat) : Prop := xI h a 5 = nI l.length ∧ ∀ i, i < l.length → xI h (a + 5) i = nI (l.getD i 0)
def RsM (h : AH) (l : List Nat) : Prop := xI h 195 33 = nI l.length ∧ mL h 215 0 l
theorem IsTr.fz {A : Nat → Nat → Prop} {h h' : AH} {a : Nat} {p : PR} {f : FL} (F : Fz A h h') (n : ∀ k j, 1 ≤ k ∧ k < 5 ∨ k = 0 ∧ j = 6 → ¬ A (a + k) j) (q : IsTr h a p f) : IsTr h' a p f := by
  have n1 : ∀ j, ¬ A (a + 1) j := fun j => n 1 j (by omega)
  have n2 : ∀ j, ¬ A (a + 2) j := fun j => n 2 j (by omega)
  have n3 : ∀ j, ¬ A (a + 3) j := fun j => n 3 j (by omega)
  have n4 : ∀ j, ¬ A (a + 4) j := fun j => n 4 j (by omega)
  have n0 : ¬ A a 6 := n 0 6 (by omega)
  refine ⟨q.s.fz F, ?_⟩
  simp only [F.I (n1 _), F.I (n2 _), F.I (n3 _), F.I (n4 _), F.I n0]
  exact q.2
theorem addReason_ok {h : AH} {a v : Nat} {l : List Nat} (q : TrS h a) (c : RsC h a l) (hl : l.length < 24) : ∃ h', X8_addReason_f a (nI v) h = some ((), h') ∧ Fz (fun x k => x = a ∧ k = 5 ∨ x = a + 5) h h' ∧ RsC h' a (l ++ [v]) := by
  have F : Fz (fun x k => x = a ∧ k = 5 ∨ x = a + 5) h (pI (pI h (a + 5) l.length (nI v)) a 5 (nI (l.length + 1))) := (Fz.i (.inr rfl)).tr (Fz.i (.inl ⟨rfl, rfl⟩))
  have cl : (nI l.length).toNatClampNeg = l.length := nI_cl (by omega)
  have qc : xc (pI h (a + 5) l.length (nI v)) a = 8 := q.c
  refine ⟨_, ?_, F, by rw [xI_self, List.length_append]; rfl, fun j hj => ?_⟩
  · unfold X8_addReason_f
    rw [G_t q.c, q.r4, G_t q.c5, q.z5, c.1, if_neg (by rw [nI_lI (by omega) (by omega)]; omega), G_t q.c, G_t q.c5, G_gx (by omega) (by omega), LT_e, cl, G_t qc, xI_ne (by omega), c.1, nI_add, LT_e]
  · have hj : j < l.length + 1 := by rw [List.length_append] at hj; exact hj
    rw [xI_ne (by omega), getD_app (by omega)]
    by_cases e : j < l.length
    · rw [if_pos e, xI_ne (by omega)]; exact c.2 j e
    · rw [if_neg e, show j = l.length by omega, xI_self]
theorem tells_ok {h : AH} {v : Nat} {l : List Nat} (g : SG h) (c : RsM h l) (hl : l.length < 24) : ∃ h', X15_tells_f 195 (nI v) h = some ((), h') ∧ Fz (fun x k => x = 195 ∧ k = 33 ∨ x = 215) h h' ∧ RsM h' (l ++ [v]) := by
  have F : Fz (fun x k => x = 195 ∧ k = 33 ∨ x = 215) h (pI (pI h 215 l.length (nI v)) 195 33 (nI (l.length + 1))) := (Fz.i (.inr rfl)).tr (Fz.i (.inl ⟨rfl, rfl⟩))
  have cl : (nI l.length).toNatClampNeg = l.length := nI_cl (by omega)
  refine ⟨_, ?_, F, by rw [xI_self, List.length_append]; rfl, fun j hj => ?_⟩
  · unfold X15_tells_f
    rw [G_t g.c195, g.r195_34, G_t g.c215, g.z215, c.1, G_gx (by omega) (by omega), LT_e, cl, G_t g.i.c195, xI_ne (by omega), c.1, nI_add, LT_e]
  · have hj : j < l.length + 1 := by rw [List.length_append] at hj; exact hj
    rw [Nat.zero_add, xI_ne (by omega), getD_app (by omega)]
    by_cases e : j < l.length
    · have := c.2 j e
      rw [Nat.zero_add] at this
      rw [if_pos e, xI_ne (by omega)]; exact this
    · rw [if_neg e, show j = l.length by omega, xI_self]
