/-- falls as numbers -/
def OKf (d : Nat) : Prop := d < 400 ∧ d % 10 < 6 ∧ (d / 10 % 10 < 4 ∨ (d / 10 % 10 < 6 ∧ (d / 100 = 0 ∨ d / 100 = 3)))
def dnF (d m t : Nat) : Bool := d / 10 % 10 == m && ((d / 100 == 1 && decide (d % 10 ≤ t)) || (d / 100 == 2 && decide (d % 10 ≤ t ∧ t ≤ d % 10 + 1)))
def addF (d : Nat) (f : FL) : FL := (fun s t => f.1 s t || (decide (s < 6 ∧ t < 7) && d == 10 * s + t), fun s t => f.2.1 s t || (decide (s < 6 ∧ t < 7) && d == 300 + 10 * s + t), fun m t => f.2.2 m t || (decide (m < 4 ∧ t < 7) && dnF d m t))
def flOf (l : List Nat) : FL := (fun s t => decide (s < 6 ∧ t < 7) && l.any fun d => d == 10 * s + t, fun s t => decide (s < 6 ∧ t < 7) && l.any fun d => d == 300 + 10 * s + t, fun m t => decide (m < 4 ∧ t < 7) && l.any fun d => dnF d m t)
theorem flOf_add (l : List Nat) (d : Nat) : flOf (l ++ [d]) = addF d (flOf l) := by
  unfold flOf addF
  simp only [List.any_append, Bool.and_or_distrib_left, List.any_cons, List.any_nil, Bool.or_false]
theorem putDown_ok {h : AH} {L m t0 to : Nat} {y : Int64} (l : LaS h L) (hm : m < 4) (h0 : t0 ≤ 6) (h1 : t0 ≤ to) (h2 : to ≤ 7) : ∃ h', X3_putDown_f L (nI m) (nI t0) (nI to) y h = some ((), h') ∧ Fr (fun a => a = L + 3) h h' ∧ ∀ i j, tl (xL h' (L + 3) i) j = (tl (xL h (L + 3) i) j || (decide (m * 7 + t0 ≤ i ∧ i ≤ m * 7 + to ∧ i < m * 7 + 7) && tl y j)) := by
  have hL := l.w
  obtain ⟨c, hc⟩ : ∃ c, c = if to + 1 ≤ 7 then to + 1 else 7 := ⟨_, rfl⟩
  have hc1 : t0 ≤ c ∧ c ≤ 7 ∧ c ≤ to + 1 ∧ (c = 7 ∨ c = to + 1) := by rw [hc]; split <;> omega
  obtain ⟨h', ⟨_, F, v⟩, e⟩ := loopE (F := fun n k h' => X3_putDown_B3 n L (nI m) (nI to) y (nI k) h') (E := fun h' => some ((), h')) c (fun k h' => t0 ≤ k ∧ Fr (fun a => a = L + 3) h h' ∧ ∀ i j, tl (xL h' (L + 3) i) j = (tl (xL h (L + 3) i) j || (decide (m * 7 + t0 ≤ i ∧ i < m * 7 + k) && tl y j))) (k := t0) (by omega) (by omega) (h := h) ⟨Nat.le_refl _, Fr.rf, fun i j => by rw [decide_eq_false (by omega)]; simp⟩
    (by
      rintro n k h' hk ⟨hkt, F, v⟩
      have l' := l.fr F
      have hk1 : ¬ to < k := by omega
      have hk2 : ¬ 7 ≤ k := by omega
      simp (disch := omega) only [X3_putDown_B3, LT_e, G_T, BN_ok, if_true, if_false, nI_add, pk_mul, G_gx, nI_cl, nI_lI, nI_tI, nI_eI, hk1, hk2, l'.c, l'.r2, l'.c3, l'.z3]
      refine ⟨_, ⟨by omega, F.tr (Fr.l rfl), fun i j => ?_⟩, rfl⟩
      rw [xL_pL]
      by_cases e : i = m * 7 + k
      · rw [if_pos ⟨rfl, e⟩, tl_or, ← e, v i j, decide_eq_true (by omega : m * 7 + t0 ≤ i ∧ i < m * 7 + (k + 1))]
        cases tl y j <;> simp
      · rw [if_neg (fun q => e q.2), v i j]
        congr 2
        apply decide_eq_decide.mpr
        omega)
    (by
      rintro n h' ⟨_, F, v⟩
      by_cases hk1 : to < c
      · simp (disch := omega) only [X3_putDown_B3, LT_e, G_T, BN_ok, if_true, if_false, nI_add, pk_mul, G_gx, nI_cl, nI_lI, nI_tI, nI_eI, hk1]
      · have hk2 : 7 ≤ c := by omega
        simp (disch := omega) only [X3_putDown_B3, LT_e, G_T, BN_ok, if_true, if_false, nI_add, pk_mul, G_gx, nI_cl, nI_lI, nI_tI, nI_eI, hk1, hk2])
  refine ⟨h', e, F, fun i j => ?_⟩
  rw [v i j]
  congr 2
  apply decide_eq_decide.mpr
  omega
theorem laf_ext {f g : FL} (h1 : ∀ s t, fO f s t = fO g s t) (h2 : ∀ s t, fA f s t = fA g s t) (h3 : ∀ s t, fD f s t = fD g s t) : f = g := by
  obtain ⟨f1, f2, f3⟩ := f
  obtain ⟨g1, g2, g3⟩ := g
  have e1 : f1 = g1 := funext fun s => funext fun t => h1 s t
  have e2 : f2 = g2 := funext fun s => funext fun t => h2 s t
  have e3 : f3 = g3 := funext fun s => funext fun t => h3 s t
  rw [e1, e2, e3]
theorem laf_put {h h' : AH} {L d j : Nat} {y : Int64} (P1 P2 P3 : Nat → Bool) (a1 : ∀ i, tl (xL h' (L + 1) i) j = (tl (xL h (L + 1) i) j || (P1 i && tl y j))) (a2 : ∀ i, tl (xL h' (L + 2) i) j = (tl (xL h (L + 2) i) j || (P2 i && tl y j))) (a3 : ∀ i, tl (xL h' (L + 3) i) j = (tl (xL h (L + 3) i) j || (P3 i && tl y j))) (b1 : ∀ s t, s < 6 → t < 7 → P1 (s * 7 + t) = (d == 10 * s + t)) (b2 : ∀ s t, s < 6 → t < 7 → P2 (s * 7 + t) = (d == 300 + 10 * s + t)) (b3 : ∀ s t, s < 4 → t < 7 → P3 (s * 7 + t) = dnF d s t) : laf h' L j = if tl y j then addF d (laf h L j) else laf h L j := by
  apply laf_ext
  · intro s t
    have e1 : fO (laf h' L j) s t = (fO (laf h L j) s t || (decide (s < 6 ∧ t < 7) && (d == 10 * s + t) && tl y j)) := by
      show (decide (s < 6 ∧ t < 7) && tl (xL h' (L + 1) (s * 7 + t)) j) = ((decide (s < 6 ∧ t < 7) && tl (xL h (L + 1) (s * 7 + t)) j) || _)
      by_cases hs : s < 6 ∧ t < 7
      · rw [a1, b1 s t hs.1 hs.2, decide_eq_true hs]; simp
      · rw [decide_eq_false hs]; simp
    rw [e1]
    cases tl y j
    · rw [Bool.and_false, Bool.or_false]; rfl
    · rw [Bool.and_true]; rfl
  · intro s t
    have e1 : fA (laf h' L j) s t = (fA (laf h L j) s t || (decide (s < 6 ∧ t < 7) && (d == 300 + 10 * s + t) && tl y j)) := by
      show (decide (s < 6 ∧ t < 7) && tl (xL h' (L + 2) (s * 7 + t)) j) = ((decide (s < 6 ∧ t < 7) && tl (xL h (L + 2) (s * 7 + t)) j) || _)
      by_cases hs : s < 6 ∧ t < 7
      · rw [a2, b2 s t hs.1 hs.2, decide_eq_true hs]; simp
      · rw [decide_eq_false hs]; simp
    rw [e1]
    cases tl y j
    · rw [Bool.and_false, Bool.or_false]; rfl
    · rw [Bool.and_true]; rfl
  · intro s t
    have e1 : fD (laf h' L j) s t = (fD (laf h L j) s t || (decide (s < 4 ∧ t < 7) && dnF d s t && tl y j)) := by
      show (decide (s < 4 ∧ t < 7) && tl (xL h' (L + 3) (s * 7 + t)) j) = ((decide (s < 4 ∧ t < 7) && tl (xL h (L + 3) (s * 7 + t)) j) || _)
      by_cases hs : s < 4 ∧ t < 7
      · rw [a3, b3 s t hs.1 hs.2, decide_eq_true hs]; simp
      · rw [decide_eq_false hs]; simp
    rw [e1]
    cases tl y j
    · rw [Bool.and_false, Bool.or_false]; rfl
    · rw [Bool.and_true]; rfl
theorem put_ok {h : AH} {L d : Nat} {y : Int64} (l : LaS h L) (o : OKf d) : ∃ h', X3_put_f L (nI d) y h = some ((), h') ∧ Fr (fun a => L + 1 ≤ a ∧ a ≤ L + 3) h h' ∧ ∀ j, laf h' L j = if tl y j then addF d (laf h L j) else laf h L j := by
  have hL := l.w
  obtain ⟨k, w, t, hd, hk, hw, ht, how⟩ : ∃ k w t, d = 100 * k + 10 * w + t ∧ k < 4 ∧ w < 6 ∧ t < 6 ∧ (w < 4 ∨ k = 0 ∨ k = 3) := by
    obtain ⟨o1, o2, o3⟩ := o
    exact ⟨d / 100, d / 10 % 10, d % 10, by omega, by omega, by omega, by omega, by omega⟩
  have d1 : d / 100 = k := by omega
  have d2 : d / 10 - d / 10 / 10 * 10 = w := by omega
  have d3 : d - d / 10 * 10 = t := by omega
  have d4 : d / 10 % 10 = w := by omega
  have d5 : d % 10 = t := by omega
  have q1 : nI d / nI 10 = nI (d / 10) := pk_div (by omega) (by omega) (by omega)
  have q2 : nI (d / 10) / nI 10 = nI (d / 10 / 10) := pk_div (by omega) (by omega) (by omega)
  have q3 : nI d / nI 100 = nI k := by rw [pk_div (by omega) (by omega) (by omega), d1]
  have q4 : nI (d / 10) - nI (d / 10 / 10 * 10) = nI w := by rw [pk_sub (by omega), d2]
  have q5 : nI d - nI (d / 10 * 10) = nI t := by rw [pk_sub (by omega), d3]
  unfold X3_put_f
  simp (disch := omega) only [LT_e, q1, q2, q3, pk_mul, q4, q5, nI_eI]
  have hDn : ∀ m u, dnF d m u = (w == m && ((k == 1 && decide (t ≤ u)) || (k == 2 && decide (t ≤ u ∧ u ≤ t + 1)))) := fun m u => by unfold dnF; rw [d1, d4, d5]
  have up : ∀ a i0 j, ∀ b i, tl (xL (pL h a i0 (xL h a i0 ||| y)) b i) j = (tl (xL h b i) j || (decide (b = a ∧ i = i0) && tl y j)) := by
    intro a i0 j b i
    rw [xL_pL]
    by_cases e : b = a ∧ i = i0
    · rw [if_pos e, tl_or, decide_eq_true e, e.1, e.2, Bool.true_and]
    · rw [if_neg e, decide_eq_false e]; simp
  have k03 : k = 0 ∨ k = 1 ∨ k = 2 ∨ k = 3 := by omega
  rcases k03 with k0 | k0 | k0 | k0
  · simp (disch := omega) only [k0, eq_self, if_true, LT_e, G_T, BN_ok, if_true, if_false, nI_add, pk_mul, G_gx, nI_cl, nI_lI, nI_tI, nI_eI, l.c, l.r0, l.c1, l.z1]
    refine ⟨_, rfl, Fr.l (by omega), fun j => laf_put (fun i => decide (L + 1 = L + 1 ∧ i = w * 7 + t)) (fun i => decide (L + 2 = L + 1 ∧ i = w * 7 + t)) (fun i => decide (L + 3 = L + 1 ∧ i = w * 7 + t)) (fun i => up _ _ _ _ _) (fun i => up _ _ _ _ _) (fun i => up _ _ _ _ _) (fun s u hs hu => ?_) (fun s u hs hu => ?_) (fun s u hs hu => ?_)⟩
    · rw [Bool.eq_iff_iff]; simp; omega
    · rw [Bool.eq_iff_iff]; simp; omega
    · rw [hDn, k0, decide_eq_false (by omega)]; simp
  · have z0 : ¬ k = 0 := by omega
    simp (disch := omega) only [k0, show (1 = 0) = False from eq_false (by decide), eq_self, if_false, if_true, l.c, G_T]
    obtain ⟨h', e, F, v⟩ := putDown_ok (y := y) l (m := w) (t0 := t) (to := 6) (by omega) (by omega) (by omega) (by omega)
    rw [e]
    refine ⟨h', rfl, F.mo (fun a q => by omega), fun j => laf_put (fun i => false) (fun i => false) (fun i => decide (w * 7 + t ≤ i ∧ i ≤ w * 7 + 6 ∧ i < w * 7 + 7)) (fun i => by rw [F.L _ (by omega)]; simp) (fun i => by rw [F.L _ (by omega)]; simp) (fun i => v i j) (fun s u hs hu => ?_) (fun s u hs hu => ?_) (fun s u hs hu => ?_)⟩
    · symm; simp; omega
    · symm; simp; omega
    · rw [hDn, k0, Bool.eq_iff_iff]; simp; omega
  · simp (disch := omega) only [k0, show (2 = 0) = False from eq_false (by decide), show (2 = 1) = False from eq_false (by decide), eq_self, if_false, if_true, l.c, G_T, nI_add]
    obtain ⟨h', e, F, v⟩ := putDown_ok (y := y) l (m := w) (t0 := t) (to := t + 1) (by omega) (by omega) (by omega) (by omega)
    rw [e]
    refine ⟨h', rfl, F.mo (fun a q => by omega), fun j => laf_put (fun i => false) (fun i => false) (fun i => decide (w * 7 + t ≤ i ∧ i ≤ w * 7 + (t + 1) ∧ i < w * 7 + 7)) (fun i => by rw [F.L _ (by omega)]; simp) (fun i => by rw [F.L _ (by omega)]; simp) (fun i => v i j) (fun s u hs hu => ?_) (fun s u hs hu => ?_) (fun s u hs hu => ?_)⟩
    · symm; simp; omega
    · symm; simp; omega
    · rw [hDn, k0, Bool.eq_iff_iff]; simp; omega
  · simp (disch := omega) only [k0, show (3 = 0) = False from eq_false (by decide), show (3 = 1) = False from eq_false (by decide), show (3 = 2) = False from eq_false (by decide), eq_self, if_false, if_true, LT_e, G_T, BN_ok, if_true, if_false, nI_add, pk_mul, G_gx, nI_cl, nI_lI, nI_tI, nI_eI, l.c, l.r1, l.c2, l.z2]
    refine ⟨_, rfl, Fr.l (by omega), fun j => laf_put (fun i => decide (L + 1 = L + 2 ∧ i = w * 7 + t)) (fun i => decide (L + 2 = L + 2 ∧ i = w * 7 + t)) (fun i => decide (L + 3 = L + 2 ∧ i = w * 7 + t)) (fun i => up _ _ _ _ _) (fun i => up _ _ _ _ _) (fun i => up _ _ _ _ _) (fun s u hs hu => ?_) (fun s u hs hu => ?_) (fun s u hs hu => ?_)⟩
    · rw [Bool.eq_iff_iff]; simp; omega
    · rw [Bool.eq_iff_iff]; simp; omega
    · rw [hDn, k0, decide_eq_false (by omega)]; simp
theorem wipe_ok {h : AH} {L : Nat} (l : LaS h L) : ∃ h', X3_wipe_f L h = some ((), h') ∧ Fr (fun a => L + 1 ≤ a ∧ a ≤ L + 3) h h' ∧ ∀ j, laf h' L j = flOf [] := by
  have hL := l.w
  obtain ⟨h1, e1, F1, v1⟩ := zfill_ok l.c1 l.z1 (by decide)
  have l1 := l.fr F1
  obtain ⟨h2, e2, F2, v2⟩ := zfill_ok l1.c2 l1.z2 (by decide)
  have l2 := l1.fr F2
  obtain ⟨h3, e3, F3, v3⟩ := zfill_ok l2.c3 l2.z3 (by decide)
  refine ⟨h3, ?_, ((F1.mo (fun a q => by omega)).tr (F2.mo (fun a q => by omega))).tr (F3.mo (fun a q => by omega)), fun j => laf_ext (fun s t => ?_) (fun s t => ?_) (fun s t => ?_)⟩
  · unfold X3_wipe_f
    simp only [l.c, l.r0, LT_e, G_T, BN_ok, if_true, if_false, e1, l1.c, l1.r1, e2, l2.c, l2.r2, e3]
  · show (decide (s < 6 ∧ t < 7) && tl (xL h3 (L + 1) (s * 7 + t)) j) = (decide (s < 6 ∧ t < 7) && _)
    by_cases hs : s < 6 ∧ t < 7
    · rw [F3.L _ (by omega), F2.L _ (by omega), v1 _ (by omega), tl_n0]; rfl
    · rw [decide_eq_false hs]; rfl
  · show (decide (s < 6 ∧ t < 7) && tl (xL h3 (L + 2) (s * 7 + t)) j) = (decide (s < 6 ∧ t < 7) && _)
    by_cases hs : s < 6 ∧ t < 7
    · rw [F3.L _ (by omega), v2 _ (by omega), tl_n0]; rfl
    · rw [decide_eq_false hs]; rfl
  · show (decide (s < 4 ∧ t < 7) && tl (xL h3 (L + 3) (s * 7 + t)) j) = (decide (s < 4 ∧ t < 7) && _)
    by_cases hs : s < 4 ∧ t < 7
    · rw [v3 _ (by omega), tl_n0]; rfl
    · rw [decide_eq_false hs]; rfl
/-- a few numbers of the class -/
def IsN (h : AH) (a z : Nat) (l : List Nat) : Prop := (xc h a = 4) ∧ (xR h a 0 = a + 1) ∧ (xc h (a + 1) = 16) ∧ (xz h (a + 1) = z) ∧ (l.length ≤ z) ∧ (z ≤ 6) ∧ (xI h a 1 = nI l.length) ∧ (∀ i, i < l.length → xI h (a + 1) i = nI (l.getD i 0))
theorem IsN.c {h : AH} {a z : Nat} {l : List Nat} (q_ : IsN h a z l) : xc h a = 4 := q_.1
theorem IsN.r {h : AH} {a z : Nat} {l : List Nat} (q_ : IsN h a z l) : xR h a 0 = a + 1 := q_.2.1
theorem IsN.c1 {h : AH} {a z : Nat} {l : List Nat} (q_ : IsN h a z l) : xc h (a + 1) = 16 := q_.2.2.1
theorem IsN.z1 {h : AH} {a z : Nat} {l : List Nat} (q_ : IsN h a z l) : xz h (a + 1) = z := q_.2.2.2.1
theorem IsN.n {h : AH} {a z : Nat} {l : List Nat} (q_ : IsN h a z l) : l.length ≤ z := q_.2.2.2.2.1
theorem IsN.x {h : AH} {a z : Nat} {l : List Nat} (q_ : IsN h a z l) : z ≤ 6 := q_.2.2.2.2.2.1
theorem IsN.s {h : AH} {a z : Nat} {l : List Nat} (q_ : IsN h a z l) : xI h a 1 = nI l.length := q_.2.2.2.2.2.2.1
theorem IsN.v {h : AH} {a z : Nat} {l : List Nat} (q_ : IsN h a z l) : ∀ i, i < l.length → xI h (a + 1) i = nI (l.getD i 0) := q_.2.2.2.2.2.2.2
theorem IsN.fr {A : Nat → Prop} {h h' : AH} {a z : Nat} {l : List Nat} (F : Fr A h h') (n0 : ¬ A a) (n1 : ¬ A (a + 1)) (q : IsN h a z l) : IsN h' a z l := by
  unfold IsN at *; simp only [F.c, F.z, F.r, F.I _ n0, F.I _ n1]; exact q
theorem putAll_ok {h : AH} {L a z : Nat} {l : List Nat} (q : LaS h L) (n : IsN h a z l) (o : ∀ d, d ∈ l → OKf d) (ha : ¬ (L ≤ a + 1 ∧ a ≤ L + 3)) : ∃ h', X3_putAll_f L a h = some ((), h') ∧ Fr (fun a => L + 1 ≤ a ∧ a ≤ L + 3) h h' ∧ ∀ j, j < 64 → laf h' L j = flOf l := by
  have hx := n.x
  have hz := n.n
  obtain ⟨h1, e1, F1, v1⟩ := wipe_ok q
  obtain ⟨h', ⟨F, v⟩, e⟩ := loopE (F := fun n k h' => X3_putAll_B6 n L a (nI k) h') (E := fun h' => some ((), h')) l.length (fun k h' => Fr (fun a => L + 1 ≤ a ∧ a ≤ L + 3) h h' ∧ ∀ j, j < 64 → laf h' L j = flOf (l.take k)) (Nat.zero_le _) (by omega) (h := h1) ⟨F1, fun j _ => by rw [v1, List.take_zero]⟩
    (by
      rintro m k h' hk ⟨F, v⟩
      have q' := q.fr F
      have n' := n.fr F (by omega) (by omega)
      have hk' : ¬ l.length ≤ k := by omega
      have hm : l.getD k 0 ∈ l := by rw [List.getD_eq_getElem?_getD, List.getElem?_eq_getElem hk]; exact List.getElem_mem hk
      obtain ⟨h2, e2, F2, v2⟩ := put_ok (y := -1) q' (o _ hm)
      refine ⟨h2, ⟨F.tr F2, fun j hj => ?_⟩, ?_⟩
      · rw [v2, tl_m1 j hj, if_pos rfl, v j hj, ← flOf_add]
        congr 1
        rw [List.take_succ, List.getElem?_eq_getElem hk, List.getD_eq_getElem?_getD, List.getElem?_eq_getElem hk]; rfl
      · simp (disch := omega) only [X3_putAll_B6, LT_e, G_T, BN_ok, if_true, if_false, nI_add, pk_mul, G_gx, nI_cl, nI_lI, nI_tI, nI_eI, n'.c, n'.s, hk', n'.r, n'.c1, n'.z1, q'.c, n'.v, e2])
    (by
      rintro m h' ⟨F, v⟩
      have n' := n.fr F (by omega) (by omega)
      simp (disch := omega) only [X3_putAll_B6, LT_e, G_T, BN_ok, if_true, if_false, nI_add, pk_mul, G_gx, nI_cl, nI_lI, nI_tI, nI_eI, n'.c, n'.s, Nat.le_refl])
  refine ⟨h', ?_, F, fun j hj => by rw [v j hj, List.take_length]⟩
  unfold X3_putAll_f
  rw [G_t q.c, e1, BN_ok]
  exact e
