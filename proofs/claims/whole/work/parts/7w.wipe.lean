theorem csX_ok {T : Nat → Int32} {n : Nat} {N : NmL} {R : Nat} {no : Bool} (hR : ∀ w, 4 ≤ lkV N w → lkV N w < 99 → lkV N w - 4 < R) : ∀ r q, (csX T n N no r q).2.2.length ≤ r ∧ (∀ x, x ∈ (csX T n N no r q).2.2 → x.1 < R ∧ (no = false → x.2 = false)) ∧ ((csX T n N no r q).1 = 0 → 1 ≤ (csX T n N no r q).2.2.length) := by
  intro r
  induction r with
  | zero =>
    intro q
    unfold csX
    by_cases k : csN T n no q = true
    · rw [if_pos k]; exact ⟨Nat.le_refl _, fun x hx => (nomatch hx), fun g => absurd g (by show ¬ (5 : Nat) = 0; decide)⟩
    · rw [if_neg k]
      by_cases z : faR T n N q = 0
      · rw [if_pos z]; exact ⟨Nat.le_refl _, fun x hx => (nomatch hx), fun g => absurd g (by show ¬ (5 : Nat) = 0; decide)⟩
      · rw [if_neg z]; exact ⟨Nat.le_refl _, fun x hx => (nomatch hx), fun g => absurd g z⟩
  | succ r ih =>
    intro q
    have hn : no = false → csN T n no q = false := fun e => by unfold csN; rw [e]; rfl
    unfold csX
    generalize csN T n no q = ng at *
    generalize csQ T n no q = q' at *
    obtain ⟨i1, i2, i3⟩ := ih (nxT T n (nxT T n q'))
    unfold csY
    by_cases z : faR T n N q' = 0
    · have z' : 4 ≤ lkV N (wdV T n q') ∧ lkV N (wdV T n q') < 99 := by
        unfold faR at z
        by_cases k : isN T n q' = true
        · rw [if_pos k] at z
          by_cases w : 4 ≤ lkV N (wdV T n q') ∧ lkV N (wdV T n q') < 99
          · exact w
          · rw [if_neg w] at z; exact absurd z (by decide)
        · rw [if_neg k] at z; exact absurd z (by decide)
      rw [if_pos z]
      by_cases o : isW T n (nxT T n q') 0 = true
      · rw [if_pos o]
        refine ⟨Nat.succ_le_succ i1, fun x g => ?_, fun _ => Nat.succ_le_succ (Nat.zero_le _)⟩
        rcases List.mem_cons.mp g with e | e
        · rw [e]; exact ⟨hR _ z'.1 z'.2, hn⟩
        · exact i2 x e
      · rw [if_neg o]
        refine ⟨Nat.succ_le_succ (Nat.zero_le _), fun x g => ?_, fun _ => Nat.le_refl _⟩
        rcases List.mem_cons.mp g with e | e
        · rw [e]; exact ⟨hR _ z'.1 z'.2, hn⟩
        · exact nomatch e
    · rw [if_neg z]; exact ⟨Nat.zero_le _, fun x hx => (nomatch hx), fun g => absurd g z⟩
theorem wipe_c {h : AH} {a : Nat} (s : CLS h a) (e : a ≠ 174 ∧ a ≠ 180 ∧ a ≠ 119) : ∃ h', X1_wipe_f a h = some ((), h') ∧ Fz (fun x _ => x = a) h h' ∧ CsC h' a [] ∧ xI h' a 6 = -1 ∧ xI h' a 7 = -1 ∧ xI h' a 8 = nI 0 := by
  have A : ∀ (g : AH) k v, Fz (fun x _ => x = a) g (pI g a k v) := fun g k v => Fz.i rfl
  have F := ((((((A h 2 (nI 0)).tr (A _ 3 (nI 0))).tr (A _ 4 (nI 0))).tr (A _ 5 (nI 0))).tr (A _ 6 (-1))).tr (A _ 7 (-1))).tr (A _ 8 (nI 0))
  unfold X1_wipe_f
  have cc : ∀ (g : AH) k v, xc g a = 1 → xc (pI g a k v) a = 1 := fun g k v q => q
  have c1 := cc _ 2 (nI 0) s.c
  have c2 := cc _ 3 (nI 0) c1
  have c3 := cc _ 4 (nI 0) c2
  have c4 := cc _ 5 (nI 0) c3
  have c5 := cc _ 6 (-1) c4
  have c6 := cc _ 7 (-1) c5
  rw [G_t s.c, LT_e, G_t c1, LT_e, G_t c2, LT_e, G_t c3, LT_e, G_t c4, LT_e, G_t c5, LT_e, G_t c6, LT_e]
  refine ⟨_, rfl, F, ⟨s.fz F e, ?_, fun i hi => absurd hi (Nat.not_lt_zero _), fun i hi => absurd hi (Nat.not_lt_zero _), fun r hr => ?_, fun r hr => ?_⟩, ?_, ?_, ?_⟩
  · rw [xI_ne (by omega), xI_ne (by omega), xI_ne (by omega), xI_ne (by omega), xI_ne (by omega), xI_ne (by omega), xI_self]; rfl
  · rw [xI_ne (by omega), xI_ne (by omega), xI_ne (by omega), xI_ne (by omega), xI_self, b_n0]; rfl
  · rw [xI_ne (by omega), xI_ne (by omega), xI_ne (by omega), xI_self, b_n0]; rfl
  · rw [xI_ne (by omega), xI_ne (by omega), xI_self]
  · rw [xI_ne (by omega), xI_self]
  · rw [xI_self]
