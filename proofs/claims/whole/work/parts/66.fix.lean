/-! ten rounds close the rows -/
theorem pas_le {B : BK} {m : Nat} {X : Nat → Bool} {r : Nat} : ∀ k, X r = true → pas B m X k r = true := by
  intro k
  induction k with
  | zero => exact id
  | succ k ih =>
    intro h
    rw [pas]
    split
    · show (pas B m X k r || r == B 10 k) = true
      rw [ih h, Bool.true_or]
    · exact ih h
theorem pas_up {B : BK} {m : Nat} {X : Nat → Bool} {r : Nat} {k : Nat} : ∀ j, k ≤ j → pas B m X k r = true → pas B m X j r = true := by
  intro j
  induction j with
  | zero => intro hk h; rw [show k = 0 by omega] at h; exact h
  | succ j ih =>
    intro hk h
    by_cases e : k = j + 1
    · rw [← e]; exact h
    · have := ih (by omega) h
      rw [pas]
      split
      · show (pas B m X j r || r == B 10 j) = true
        rw [this, Bool.true_or]
      · exact this
theorem pas_new {B : BK} {m : Nat} {X : Nat → Bool} {r : Nat} : ∀ k, pas B m X k r = true → X r = true ∨ ∃ j, j < k ∧ r = B 10 j := by
  intro k
  induction k with
  | zero => exact .inl
  | succ k ih =>
    intro h
    rw [pas] at h
    split at h
    · have h : (pas B m X k r || r == B 10 k) = true := h
      rw [Bool.or_eq_true] at h
      rcases h with h | h
      · rcases ih h with h | ⟨j, hj, e⟩
        · exact .inl h
        · exact .inr ⟨j, by omega, e⟩
      · exact .inr ⟨k, by omega, beq_iff_eq.mp h⟩
    · rcases ih h with h | ⟨j, hj, e⟩
      · exact .inl h
      · exact .inr ⟨j, by omega, e⟩
def cn10 (X : Nat → Bool) : Nat := ((List.range 10).filter X).length
theorem fil_le {l : List Nat} {X Y : Nat → Bool} (h : ∀ r, X r = true → Y r = true) : (l.filter X).length ≤ (l.filter Y).length := by
  induction l with
  | nil => exact Nat.le_refl _
  | cons a l ih =>
    rw [List.filter_cons, List.filter_cons]
    by_cases e : X a = true
    · rw [if_pos e, if_pos (h a e)]; exact Nat.succ_le_succ ih
    · rw [if_neg e]
      split
      · exact Nat.le_succ_of_le ih
      · exact ih
theorem fil_lt {l : List Nat} {X Y : Nat → Bool} {r : Nat} (h : ∀ r, X r = true → Y r = true) (hr : r ∈ l) (x : X r = false) (y : Y r = true) : (l.filter X).length < (l.filter Y).length := by
  induction l with
  | nil => exact absurd hr (by simp)
  | cons a l ih =>
    rw [List.filter_cons, List.filter_cons]
    by_cases e : a = r
    · subst e
      rw [if_neg (by simp [x]), if_pos y]
      exact Nat.lt_succ_of_le (fil_le h)
    · have hr' : r ∈ l := by
        rcases List.mem_cons.mp hr with q | q
        · exact absurd q.symm e
        · exact q
      by_cases e : X a = true
      · rw [if_pos e, if_pos (h a e)]; exact Nat.succ_lt_succ (ih hr')
      · rw [if_neg e]
        split
        · exact Nat.lt_succ_of_lt (ih hr')
        · exact ih hr'
theorem clo_cnt {B : BK} {m : Nat} (w : WB B) : ∀ n X, pas B m (clo B m n X) (B 3 0) = clo B m n X ∨ cn10 X + n ≤ cn10 (clo B m n X) := by
  intro n
  induction n with
  | zero => intro X; exact .inr (Nat.le_refl _)
  | succ n ih =>
    intro X
    by_cases e : pas B m X (B 3 0) = X
    · left
      rw [clo_stop e]; exact e
    · have lt : cn10 X < cn10 (pas B m X (B 3 0)) := by
        have : ∃ r, X r = false ∧ pas B m X (B 3 0) r = true := by
          refine Classical.byContradiction fun q => e (funext fun r => ?_)
          by_cases hx : X r = true
          · rw [hx, pas_le _ hx]
          · have hx : X r = false := by simpa using hx
            rw [hx]
            by_cases hp : pas B m X (B 3 0) r = true
            · exact absurd ⟨r, hx, hp⟩ q
            · simpa using hp
        obtain ⟨r, hx, hp⟩ := this
        refine fil_lt (fun r h => pas_le _ h) (r := r) (List.mem_range.mpr ?_) hx hp
        rcases pas_new _ hp with q | ⟨j, hj, e⟩
        · rw [hx] at q; exact absurd q (by decide)
        · have := (w.ru j hj).row
          have := w.r
          omega
      rcases ih (pas B m X (B 3 0)) with q | q
      · exact .inl q
      · right
        show cn10 X + (n + 1) ≤ cn10 (clo B m n (pas B m X (B 3 0)))
        omega
theorem fil_all {l : List Nat} {X : Nat → Bool} (h : l.length ≤ (l.filter X).length) : ∀ r, r ∈ l → X r = true := by
  intro r hr
  refine Classical.byContradiction fun q => ?_
  have := fil_lt (l := l) (X := X) (Y := fun _ => true) (r := r) (fun _ _ => rfl) hr (by simpa using q) rfl
  have e : (l.filter fun _ => true) = l := List.filter_eq_self.mpr (fun _ _ => rfl)
  rw [e] at this
  omega
theorem clo_fix {B : BK} {m : Nat} (w : WB B) (X : Nat → Bool) : pas B m (clo B m 10 X) (B 3 0) = clo B m 10 X := by
  rcases clo_cnt (m := m) w 10 X with q | q
  · exact q
  · have all : ∀ r, r < 10 → clo B m 10 X r = true := fun r hr => fil_all (l := List.range 10) (by rw [List.length_range]; exact Nat.le_trans (Nat.le_add_left _ _) q) r (List.mem_range.mpr hr)
    funext r
    by_cases e : clo B m 10 X r = true
    · rw [e, pas_le _ e]
    · by_cases hp : pas B m (clo B m 10 X) (B 3 0) r = true
      · rcases pas_new _ hp with q | ⟨j, hj, e2⟩
        · exact absurd q e
        · have := (w.ru j hj).row
          have := w.r
          exact absurd (all r (by omega)) e
      · have e : clo B m 10 X r = false := by simpa using e
        rw [e]; simpa using hp
theorem clo_le {B : BK} {m : Nat} {r : Nat} : ∀ n (X : Nat → Bool), X r = true → clo B m n X r = true := by
  intro n
  induction n with
  | zero => exact fun X => id
  | succ n ih => exact fun X h => ih _ (pas_le _ h)
theorem fix_in {B : BK} {m k : Nat} {X : Nat → Bool} (e : pas B m X (B 3 0) = X) (hk : k < B 3 0) (h1 : B 13 k = 1) (h2 : isF B k m = true) (h3 : cH B k false X = true) : X (B 10 k) = true := by
  have ek : pas B m X k = X := by
    funext r
    by_cases hx : X r = true
    · rw [hx, pas_le _ hx]
    · by_cases hp : pas B m X k r = true
      · have := pas_up (j := B 3 0) (by omega) hp
        rw [e] at this; exact absurd this hx
      · have hx : X r = false := by simpa using hx
        rw [hx]; simpa using hp
  have : pas B m X (k + 1) (B 10 k) = true := by
    rw [pas, if_pos ⟨h1, h2, by rw [ek]; exact h3⟩]
    show (pas B m X k (B 10 k) || B 10 k == B 10 k) = true
    simp
  have := pas_up (j := B 3 0) (by omega) this
  rw [e] at this; exact this
/-- what is ahead of the closing is there -/
theorem Tz_pre {p : PR} {f : FL} {t m r : Nat} (d : fD f m t = false) (h : preB p f (Tz p f) t m r = true) : Tz p f t m r = true := by
  rw [Tz_eq, d, clo_le _ _ h]; rfl
theorem Tz_now {p : PR} {f : FL} {t m k : Nat} (w : WB p.1) (d : fD f m t = false) (hk : k < p.1 3 0) (h : bwN p f k m t = true) : Tz p f t m (p.1 10 k) = true := by
  unfold bwN at h
  rw [Bool.and_eq_true, Bool.and_eq_true, beq_iff_eq] at h
  have e : Tz p f t m = clo p.1 m 10 (preB p f (Tz p f) t m) := funext fun r => by rw [Tz_eq, d]; rfl
  rw [e] at h ⊢
  exact fix_in (clo_fix w _) hk h.1.1 h.1.2 h.2
/-- THE REASONS of a row at a place -/
def rW (p : PR) (f : FL) (t s : Nat) : List Nat := ((List.range t).filter fun u => cbB p f s u t).map fun u => 1000 + 10 * s + u
def rV (p : PR) (f : FL) (r m t k : Nat) : List Nat := (List.range k).flatMap fun s => if p.1 10 (10 + s) = r ∧ p.1 12 (10 + s) = m then rW p f t s else []
def rF (p : PR) (r m t : Nat) : List Nat := if t = 0 ∧ factB p m r = true then [0] else []
def rK (p : PR) (f : FL) (r m t : Nat) : List Nat := if bt (pK p) r = true ∧ kf f m t ≠ 0 ∧ Tz p f (kf f m t - 1) m r = true then [2000 + (kf f m t - 1)] else []
def rX (p : PR) (f : FL) (r m t k : Nat) : List Nat := ((List.range k).filter fun c => p.1 10 c == r && bxN p f c m t).map fun c => 3000 + c
def rN (p : PR) (f : FL) (r m t k : Nat) : List Nat := ((List.range k).filter fun c => p.1 10 c == r && bwN p f c m t).map fun c => 4000 + c
def rsn (p : PR) (f : FL) (r m t : Nat) : List Nat := rF p r m t ++ rV p f r m t (p.1 4 0) ++ rK p f r m t ++ rX p f r m t (p.1 3 0) ++ rN p f r m t (p.1 3 0)
