/-- when a word comes, as the reference has it -/
def cmV (p : PR) (f : FL) (s u : Nat) : Int32 := if stB p f s u = 1 then nI (u + 1) else if stB p f s u = 3 then nI (u + 3) else -1
theorem cmV_iff {p : PR} {f : FL} {s u t : Nat} (hu : u < 6) (ht : t ≤ pl p) (hx : pl p ≤ 6) (hd : fD f (p.1 12 (10 + s)) t = false) : cmV p f s u = nI t ↔ cmB p f (Tz p f) s u t = true := by
  unfold cmV cmB
  have m1 : ¬ ((-1 : Int32) = nI t) := fun q => by
    have := nI_m1 (n := t) (by omega)
    rw [← this]; exact q.symm
  unfold stB
  cases sntB p f (Tz p f) s u
  · simp [m1]
  · cases fO f s u
    · cases fA f s u
      · simp only [if_true, Bool.false_eq_true, if_false]
        by_cases h1 : pl p < u + 1 ∨ fD f (p.1 12 (10 + s)) (u + 1) = true
        · simp only [h1, if_true]
          have : ¬ (u + 1 = t) := by
            intro q
            rcases h1 with h1 | h1
            · omega
            · rw [q, hd] at h1; cases h1
          simp [m1, this]
        · simp only [h1, if_false, if_true]
          rw [nI_eI (by omega) (by omega)]; simp
      · simp only [if_true, Bool.false_eq_true, if_false]
        by_cases h1 : pl p < u + 3 ∨ fD f (p.1 12 (10 + s)) (u + 3) = true
        · simp only [h1, if_true]
          have : ¬ (u + 3 = t) := by
            intro q
            rcases h1 with h1 | h1
            · omega
            · rw [q, hd] at h1; cases h1
          simp [m1, this]
        · simp only [h1, if_false]
          rw [if_neg (by decide), if_pos trivial, nI_eI (by omega) (by omega)]; simp
    · simp [m1]
/-- only the slot k has changed -/
def FrS (k : Nat) (h h' : AH) : Prop := (Fr (fun a => 210 ≤ a ∧ a ≤ 214) h h') ∧ (∀ i, ¬ (28 * k ≤ i ∧ i < 28 * k + 28) → xI h' 210 i = xI h 210 i) ∧ (∀ i, ¬ (7 * k ≤ i ∧ i < 7 * k + 7) → xI h' 211 i = xI h 211 i) ∧ (∀ i, ¬ (42 * k ≤ i ∧ i < 42 * k + 42) → xI h' 212 i = xI h 212 i) ∧ (∀ i, ¬ (42 * k ≤ i ∧ i < 42 * k + 42) → xI h' 213 i = xI h 213 i) ∧ (∀ i, ¬ (42 * k ≤ i ∧ i < 42 * k + 42) → xI h' 214 i = xI h 214 i)
theorem FrS.F {k : Nat} {h h' : AH} (q_ : FrS k h h') : Fr (fun a => 210 ≤ a ∧ a ≤ 214) h h' := q_.1
theorem FrS.o0 {k : Nat} {h h' : AH} (q_ : FrS k h h') : ∀ i, ¬ (28 * k ≤ i ∧ i < 28 * k + 28) → xI h' 210 i = xI h 210 i := q_.2.1
theorem FrS.o1 {k : Nat} {h h' : AH} (q_ : FrS k h h') : ∀ i, ¬ (7 * k ≤ i ∧ i < 7 * k + 7) → xI h' 211 i = xI h 211 i := q_.2.2.1
theorem FrS.o2 {k : Nat} {h h' : AH} (q_ : FrS k h h') : ∀ i, ¬ (42 * k ≤ i ∧ i < 42 * k + 42) → xI h' 212 i = xI h 212 i := q_.2.2.2.1
theorem FrS.o3 {k : Nat} {h h' : AH} (q_ : FrS k h h') : ∀ i, ¬ (42 * k ≤ i ∧ i < 42 * k + 42) → xI h' 213 i = xI h 213 i := q_.2.2.2.2.1
theorem FrS.o4 {k : Nat} {h h' : AH} (q_ : FrS k h h') : ∀ i, ¬ (42 * k ≤ i ∧ i < 42 * k + 42) → xI h' 214 i = xI h 214 i := q_.2.2.2.2.2
theorem FrS.rf {k : Nat} {h : AH} : FrS k h h := ⟨Fr.rf, fun _ _ => rfl, fun _ _ => rfl, fun _ _ => rfl, fun _ _ => rfl, fun _ _ => rfl⟩
theorem FrS.tr {k : Nat} {h h1 h2 : AH} (p : FrS k h h1) (q : FrS k h1 h2) : FrS k h h2 := ⟨p.F.tr q.F, fun i hi => (q.o0 i hi).trans (p.o0 i hi), fun i hi => (q.o1 i hi).trans (p.o1 i hi), fun i hi => (q.o2 i hi).trans (p.o2 i hi), fun i hi => (q.o3 i hi).trans (p.o3 i hi), fun i hi => (q.o4 i hi).trans (p.o4 i hi)⟩
theorem FrS.w {k a i : Nat} {h : AH} {v : Int32} (q : a = 210 ∧ 28 * k ≤ i ∧ i < 28 * k + 28 ∨ a = 211 ∧ 7 * k ≤ i ∧ i < 7 * k + 7 ∨ (a = 212 ∨ a = 213 ∨ a = 214) ∧ 42 * k ≤ i ∧ i < 42 * k + 42) : FrS k h (pI h a i v) := ⟨Fr.i (by omega), fun j hj => xI_ne (by omega), fun j hj => xI_ne (by omega), fun j hj => xI_ne (by omega), fun j hj => xI_ne (by omega), fun j hj => xI_ne (by omega)⟩
/-- the run so far -/
def MI (h' : AH) (k : Nat) (p : PR) (f : FL) (t m : Nat) : Prop := (SlD h' k f) ∧ (IsH h' 202 f) ∧ (∀ u n, ((u < t ∧ n < p.1 0 0) ∨ (u = t ∧ n < m)) → ∀ r, r < 32 → bt (xI h' 210 (28 * k + 4 * u + n)) r = Tz p f u n r) ∧ (∀ u n, u < 7 → n < 4 → (t < u ∨ (u = t ∧ m ≤ n)) → xI h' 210 (28 * k + 4 * u + n) = nI 0) ∧ (∀ s u, s < p.1 4 0 → u < t → u < pl p → xI h' 213 (42 * k + 7 * s + u) = nI (stB p f s u) ∧ xI h' 212 (42 * k + 7 * s + u) = cmV p f s u ∧ xI h' 214 (42 * k + 7 * s + u) = bI (agB p f s u)) ∧ (∀ s u, s < 6 → u < 7 → t ≤ u → xI h' 213 (42 * k + 7 * s + u) = nI 0 ∧ xI h' 212 (42 * k + 7 * s + u) = -1 ∧ xI h' 214 (42 * k + 7 * s + u) = nI 0)
theorem MI.D {h' : AH} {k : Nat} {p : PR} {f : FL} {t m : Nat} (q_ : MI h' k p f t m) : SlD h' k f := q_.1
theorem MI.H {h' : AH} {k : Nat} {p : PR} {f : FL} {t m : Nat} (q_ : MI h' k p f t m) : IsH h' 202 f := q_.2.1
theorem MI.T {h' : AH} {k : Nat} {p : PR} {f : FL} {t m : Nat} (q_ : MI h' k p f t m) : ∀ u n, ((u < t ∧ n < p.1 0 0) ∨ (u = t ∧ n < m)) → ∀ r, r < 32 → bt (xI h' 210 (28 * k + 4 * u + n)) r = Tz p f u n r := q_.2.2.1
theorem MI.Z {h' : AH} {k : Nat} {p : PR} {f : FL} {t m : Nat} (q_ : MI h' k p f t m) : ∀ u n, u < 7 → n < 4 → (t < u ∨ (u = t ∧ m ≤ n)) → xI h' 210 (28 * k + 4 * u + n) = nI 0 := q_.2.2.2.1
theorem MI.W {h' : AH} {k : Nat} {p : PR} {f : FL} {t m : Nat} (q_ : MI h' k p f t m) : ∀ s u, s < p.1 4 0 → u < t → u < pl p → xI h' 213 (42 * k + 7 * s + u) = nI (stB p f s u) ∧ xI h' 212 (42 * k + 7 * s + u) = cmV p f s u ∧ xI h' 214 (42 * k + 7 * s + u) = bI (agB p f s u) := q_.2.2.2.2.1
theorem MI.Y {h' : AH} {k : Nat} {p : PR} {f : FL} {t m : Nat} (q_ : MI h' k p f t m) : ∀ s u, s < 6 → u < 7 → t ≤ u → xI h' 213 (42 * k + 7 * s + u) = nI 0 ∧ xI h' 212 (42 * k + 7 * s + u) = -1 ∧ xI h' 214 (42 * k + 7 * s + u) = nI 0 := q_.2.2.2.2.2
theorem Tz_down {p : PR} {f : FL} {t m r : Nat} (h : fD f m t = true) : Tz p f t m r = false := by rw [Tz_eq, h]; rfl
theorem MI_fill {h : AH} {b k t m n : Nat} {p : PR} {f : FL} (C : MoX h b p) (hk : k < 104) (ht : t ≤ pl p) (hm : m < p.1 0 0) (g : MI h k p f t m) (k115 : Nat → Int32 → Int32 → AH → Option (Unit × AH)) : ∃ h2, X15_goes_B125 k115 (n + 1) 195 (nI k) (nI t) (nI m) h = X15_goes_B125 k115 n 195 (nI k) (nI t) (nI (m + 1)) h2 ∧ FrS k h h2 ∧ MI h2 k p f t (m + 1) := by
  have w := C.q.w
  have wm := w.m
  have wr := w.r
  have ws := w.s
  have hx := C.x
  have hm' : ¬ p.1 0 0 ≤ m := by omega
  simp (disch := omega) only [X15_goes_B125, X15_goes_B173, LT_e, G_T, BN_ok, if_true, if_false, nI_add, pk_mul, G_gx, nI_cl, nI_lI, nI_tI, nI_eI, C.s.c195, C.r4, C.q.s.c, C.q.m, hm', isDown_m C.s hk (by omega : t < 7) (by omega : m < 32), nI_z, bI_0, g.D m t (by omega) (by omega)]
  cases hd : fD f m t
  · obtain ⟨v, e1, b1⟩ := comesAt_m (T := Tz p f) C g.D hk hm (by omega : t ≤ 6) (fun u n hu hn => g.T u n (.inl ⟨hu, hn⟩)) (fun s u hs hu hg => by
      rw [(g.W s u hs hu (by omega)).2.1]
      exact cmV_iff (by omega) ht hx (by rw [hg]; exact hd))
    obtain ⟨v2, e2, b2⟩ := closed_m (v := v) C (by omega : m < 4)
    simp (disch := omega) only [eq_self, Bool.true_eq_false, Bool.false_eq_true, if_true, if_false, e1, e2, LT_e, G_T, BN_ok, if_true, if_false, nI_add, pk_mul, G_gx, nI_cl, nI_lI, nI_tI, nI_eI, C.s.c195, C.s.r195_28, C.s.c210, C.s.z210]
    refine ⟨_, rfl, FrS.w (by omega), fun m t hm ht => ?_, g.H.fr (Fr.i (A := fun x => x = 210) rfl) (by intro k _ _; omega), fun u n hu r hr => ?_, fun u n hu hn hz => ?_, fun s u hs hu hl => ?_, fun s u hs hu hl => ?_⟩
    · rw [xI_ne (by omega)]; exact g.D m t hm ht
    · by_cases e : u = t ∧ n = m
      · rw [e.1, e.2, xI_self, b2, Tz_eq, hd, Bool.not_false, Bool.true_and]
        by_cases hb : r < p.1 1 0
        · exact clo_congr (fun i hi => w.ru i hi) _ _ _ (fun r hr => b1 r (by omega)) r hb
        · rw [clo_big (fun i hi => (w.ru i hi).row) _ _ r (by omega), clo_big (fun i hi => (w.ru i hi).row) _ _ r (by omega)]
          exact b1 r hr
      · rw [xI_ne (by omega)]; exact g.T u n (by omega) r hr
    · rw [xI_ne (by omega)]; exact g.Z u n hu hn (by omega)
    · rw [xI_ne (by omega), xI_ne (by omega), xI_ne (by omega)]; exact g.W s u hs hu hl
    · rw [xI_ne (by omega), xI_ne (by omega), xI_ne (by omega)]; exact g.Y s u hs hu hl
  · simp only [eq_self, Bool.true_eq_false, Bool.false_eq_true, if_true, if_false]
    refine ⟨h, rfl, FrS.rf, g.D, g.H, fun u n hu r hr => ?_, fun u n hu hn hz => g.Z u n hu hn (by omega), g.W, g.Y⟩
    by_cases e : u = t ∧ n = m
    · rw [e.1, e.2, g.Z t m (by omega) (by omega) (by omega), b_n0, Tz_down hd]
    · exact g.T u n (by omega) r hr
