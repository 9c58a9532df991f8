/-! THE FORMULA: what stands when falls g are put to the run of falls f -/
def cbB (p : PR) (f : FL) (s u t : Nat) : Bool := (stB p f s u == 1 && u + 1 == t) || (stB p f s u == 3 && u + 3 == t)
def ctK (p : PR) (f : FL) (s u : Nat) : Nat := if agB p f s u then u - 1 else u
def wsB (p : PR) (f g : FL) (S : Nat → Nat → Nat → Bool) (s u : Nat) : Bool := !fO g s u && !fA g s u && !fD g (p.1 11 (10 + s) - 1) u && cH p.1 (10 + s) true (S (ctK p f s u) (p.1 11 (10 + s) - 1))
def swB (p : PR) (f g : FL) (S : Nat → Nat → Nat → Bool) (t m r : Nat) : Bool := (List.range (p.1 4 0)).any fun s => p.1 12 (10 + s) == m && p.1 10 (10 + s) == r && (List.range t).any fun u => cbB p f s u t && wsB p f g S s u
def skB (p : PR) (f : FL) (S : Nat → Nat → Nat → Bool) (t m r : Nat) : Bool := bt (pK p) r && decide (kf f m t ≠ 0) && S (kf f m t - 1) m r
def snB (p : PR) (f g : FL) (S : Nat → Nat → Nat → Bool) (t m r : Nat) : Bool := decide (0 < t) && (List.range (p.1 3 0)).any fun i => p.1 13 i == 0 && isF p.1 i m && p.1 10 i == r && (!fD f m (t - 1) && cH p.1 i false (Tz p f (t - 1) m)) && (!fD g m (t - 1) && cH p.1 i true (S (t - 1) m))
def spB (p : PR) (f g : FL) (S : Nat → Nat → Nat → Bool) (t m r : Nat) : Bool := (decide (t = 0) && factB p m r) || swB p f g S t m r || skB p f S t m r || snB p f g S t m r
def shist (p : PR) (f g : FL) : Nat → Nat → Nat → Nat → Bool
  | 0 => fun _ _ _ => false
  | n + 1 => fun t m r => if t = n then !fD f m n && !fD g m n && clo p.1 m 10 (spB p f g (shist p f g n) n m) r else shist p f g n t m r
def Sz (p : PR) (f g : FL) (t m r : Nat) : Bool := shist p f g (t + 1) t m r
section
variable {p : PR} {f g : FL} {S S' : Nat → Nat → Nat → Bool}
theorem spB_congr {t m : Nat} (h : ∀ u, u < t → ∀ m r, S u m r = S' u m r) : spB p f g S t m = spB p f g S' t m := by
  funext r
  have h1 : swB p f g S t m r = swB p f g S' t m r := by
    unfold swB
    apply any_congr
    intro s _
    congr 1
    apply any_congr
    intro u hu
    have hu := List.mem_range.mp hu
    have : S (ctK p f s u) (p.1 11 (10 + s) - 1) = S' (ctK p f s u) (p.1 11 (10 + s) - 1) := funext fun r => h _ (by unfold ctK; split <;> omega) _ r
    unfold wsB; rw [this]
  have h2 : skB p f S t m r = skB p f S' t m r := by
    unfold skB
    by_cases q : kf f m t = 0
    · simp [q]
    · rw [h (kf f m t - 1) (by have := kf_le (f := f) (m := m) t; omega)]
  have h3 : snB p f g S t m r = snB p f g S' t m r := by
    unfold snB
    by_cases q : 0 < t
    · have : S (t - 1) m = S' (t - 1) m := funext fun r => h (t - 1) (by omega) m r
      rw [this]
    · simp [q]
  unfold spB
  rw [h1, h2, h3]
theorem shist_lt {n t m r : Nat} (h : t < n) : shist p f g n t m r = Sz p f g t m r := by
  induction n with
  | zero => exact absurd h (Nat.not_lt_zero _)
  | succ n ih =>
    by_cases q : t = n
    · subst q; rfl
    · show (if t = n then _ else shist p f g n t m r) = _
      rw [if_neg q]
      exact ih (by omega)
theorem Sz_eq {t m r : Nat} : Sz p f g t m r = (!fD f m t && !fD g m t && clo p.1 m 10 (spB p f g (Sz p f g) t m) r) := by
  show (if t = t then _ else _) = _
  rw [if_pos rfl, spB_congr (fun u hu m r => shist_lt hu)]
theorem cH_mono {B : BK} {c : Nat} {X Y : Nat → Bool} (n : ∀ k, k < B 14 c → B (40 + c) k = 0) (h : ∀ r, X r = true → Y r = true) (q : cH B c false X = true) : cH B c false Y = true := by
  unfold cH cHf at *
  rw [List.all_eq_true] at *
  intro i hi
  have := q i hi
  have hi := List.mem_range.mp hi
  rw [n (0 + i) (by omega), if_pos rfl] at *
  exact h _ this
theorem pas_mono {B : BK} {m : Nat} {X Y : Nat → Bool} (w : WB B) (h : ∀ r, X r = true → Y r = true) : ∀ k, k ≤ B 3 0 → ∀ r, pas B m X k r = true → pas B m Y k r = true := by
  intro k
  induction k with
  | zero => intro _; exact h
  | succ k ih =>
    intro hk r q
    have ih := ih (by omega)
    rw [pas] at q ⊢
    by_cases c : B 13 k = 1 ∧ isF B k m = true ∧ cH B k false (pas B m X k) = true
    · rw [if_pos c] at q
      rw [if_pos ⟨c.1, c.2.1, cH_mono (w.nn k (by omega) c.1) ih c.2.2⟩]
      simp only [Bool.or_eq_true] at q ⊢
      exact q.imp (ih r) id
    · rw [if_neg c] at q
      split
      · simp only [Bool.or_eq_true]; exact .inl (ih r q)
      · exact ih r q
theorem clo_mono {B : BK} {m : Nat} (w : WB B) : ∀ n (X Y : Nat → Bool), (∀ r, X r = true → Y r = true) → ∀ r, clo B m n X r = true → clo B m n Y r = true := by
  intro n
  induction n with
  | zero => intro X Y h; exact h
  | succ n ih => intro X Y h; exact ih _ _ (pas_mono w h _ (Nat.le_refl _))
theorem cb_cm {s u t : Nat} (h : cbB p f s u t = true) : cmB p f (Tz p f) s u t = true := by
  unfold cbB stB at h
  unfold cmB
  cases h1 : sntB p f (Tz p f) s u
  · rw [h1] at h; simp at h
  · rw [h1] at h
    cases h2 : fO f s u
    · rw [h2] at h
      cases h3 : fA f s u
      · rw [h3] at h
        simp only [if_true, Bool.false_eq_true, if_false] at h
        by_cases h4 : pl p < u + 1 ∨ fD f (p.1 12 (10 + s)) (u + 1) = true
        · rw [if_pos h4] at h; simp at h
        · rw [if_neg h4] at h; simp at h ⊢; exact h
      · rw [h3] at h
        simp only [if_true, Bool.false_eq_true, if_false] at h
        by_cases h4 : pl p < u + 3 ∨ fD f (p.1 12 (10 + s)) (u + 3) = true
        · rw [if_pos h4] at h; simp at h
        · rw [if_neg h4] at h; simp at h ⊢; exact h
    · rw [h2] at h; simp at h
/-- what stands is there -/
theorem Sz_sub (w : WB p.1) : ∀ t m r, Sz p f g t m r = true → Tz p f t m r = true := by
  intro t
  induction t using Nat.strongRecOn with
  | ind t ih =>
    intro m r h
    rw [Sz_eq, Bool.and_eq_true, Bool.and_eq_true] at h
    rw [Tz_eq, h.1.1, Bool.true_and]
    refine clo_mono w _ _ _ (fun r q => ?_) r h.2
    unfold spB at q
    unfold preB
    simp only [Bool.or_eq_true] at q ⊢
    rcases q with ((q | q) | q) | q
    · exact .inl (.inl (.inl q))
    · refine .inl (.inl (.inr ?_))
      unfold swB at q
      unfold arrB
      rw [List.any_eq_true] at q ⊢
      obtain ⟨s, hs, q⟩ := q
      refine ⟨s, hs, ?_⟩
      simp only [Bool.and_eq_true] at q ⊢
      refine ⟨q.1, ?_⟩
      have q2 := q.2
      rw [List.any_eq_true] at q2 ⊢
      obtain ⟨u, hu, q2⟩ := q2
      rw [Bool.and_eq_true] at q2
      exact ⟨u, hu, cb_cm q2.1⟩
    · refine .inl (.inr ?_)
      unfold skB at q
      unfold kpB
      simp only [Bool.and_eq_true] at q ⊢
      have := of_decide_eq_true q.1.2
      exact ⟨q.1.1, q.1.2, ih _ (by have := kf_le (f := f) (m := m) t; omega) _ _ q.2⟩
    · refine .inr ?_
      unfold snB at q
      unfold nxB
      simp only [Bool.and_eq_true] at q ⊢
      have q2 := q.2
      rw [List.any_eq_true] at q2
      obtain ⟨i, hi, q2⟩ := q2
      simp only [Bool.and_eq_true] at q2
      refine ⟨⟨q.1, q2.1.2.1⟩, ?_⟩
      rw [List.any_eq_true]
      exact ⟨i, hi, by simp only [Bool.and_eq_true]; exact ⟨q2.1.1, q2.1.2.2⟩⟩
theorem cl_sub {B : BK} {m : Nat} : ∀ n (X : Nat → Bool) r, X r = true → clo B m n X r = true := by
  have pa : ∀ k (X : Nat → Bool) r, X r = true → pas B m X k r = true := by
    intro k
    induction k with
    | zero => intro X r h; exact h
    | succ k ih =>
      intro X r h
      unfold pas
      split
      · simp only [Bool.or_eq_true]; exact .inl (ih X r h)
      · exact ih X r h
  intro n
  induction n with
  | zero => intro X r h; exact h
  | succ n ih => intro X r h; exact ih _ r (pa _ X r h)
end
