def bI (b : Bool) : Int32 := if b then nI 1 else nI 0
theorem nar1 : vp_nar .boolean (nI 1) = nI 1 := rfl
theorem nar0 : vp_nar .boolean (nI 0) = nI 0 := rfl
def HaS (h : AH) (a : Nat) : Prop := (a = 202 ∨ a = 206) ∧ (xc h a = 13) ∧ (xR h a 0 = a + 1) ∧ (xR h a 1 = a + 2) ∧ (xR h a 2 = a + 3) ∧ (xc h (a + 1) = 19) ∧ (xc h (a + 2) = 19) ∧ (xc h (a + 3) = 16) ∧ (xz h (a + 1) = 42) ∧ (xz h (a + 2) = 42) ∧ (xz h (a + 3) = 7)
theorem HaS.w {h : AH} {a : Nat} (q_ : HaS h a) : a = 202 ∨ a = 206 := q_.1
theorem HaS.c {h : AH} {a : Nat} (q_ : HaS h a) : xc h a = 13 := q_.2.1
theorem HaS.r0 {h : AH} {a : Nat} (q_ : HaS h a) : xR h a 0 = a + 1 := q_.2.2.1
theorem HaS.r1 {h : AH} {a : Nat} (q_ : HaS h a) : xR h a 1 = a + 2 := q_.2.2.2.1
theorem HaS.r2 {h : AH} {a : Nat} (q_ : HaS h a) : xR h a 2 = a + 3 := q_.2.2.2.2.1
theorem HaS.c1 {h : AH} {a : Nat} (q_ : HaS h a) : xc h (a + 1) = 19 := q_.2.2.2.2.2.1
theorem HaS.c2 {h : AH} {a : Nat} (q_ : HaS h a) : xc h (a + 2) = 19 := q_.2.2.2.2.2.2.1
theorem HaS.c3 {h : AH} {a : Nat} (q_ : HaS h a) : xc h (a + 3) = 16 := q_.2.2.2.2.2.2.2.1
theorem HaS.z1 {h : AH} {a : Nat} (q_ : HaS h a) : xz h (a + 1) = 42 := q_.2.2.2.2.2.2.2.2.1
theorem HaS.z2 {h : AH} {a : Nat} (q_ : HaS h a) : xz h (a + 2) = 42 := q_.2.2.2.2.2.2.2.2.2.1
theorem HaS.z3 {h : AH} {a : Nat} (q_ : HaS h a) : xz h (a + 3) = 7 := q_.2.2.2.2.2.2.2.2.2.2
theorem SG.h1 {h : AH} (s : SG h) : HaS h 202 := ⟨.inl rfl, s.c202, s.r202_0, s.r202_1, s.r202_2, s.c203, s.c204, s.c205, s.z203, s.z204, s.z205⟩
theorem SG.h2 {h : AH} (s : SG h) : HaS h 206 := ⟨.inr rfl, s.c206, s.r206_0, s.r206_1, s.r206_2, s.c207, s.c208, s.c209, s.z207, s.z208, s.z209⟩
theorem HaS.fr {A : Nat → Prop} {h h' : AH} {a : Nat} (F : Fr A h h') (q : HaS h a) : HaS h' a := by
  unfold HaS at *; simp only [F.c, F.z, F.r]; exact q
def IsH (h : AH) (a : Nat) (f : FL) : Prop := (HaS h a) ∧ (∀ s t, s < 6 → t < 7 → xI h (a + 1) (7 * s + t) = bI (fO f s t)) ∧ (∀ s t, s < 6 → t < 7 → xI h (a + 2) (7 * s + t) = bI (fA f s t)) ∧ (∀ m t, m < 4 → t < 7 → bt (xI h (a + 3) t) m = fD f m t)
theorem IsH.s {h : AH} {a : Nat} {f : FL} (q_ : IsH h a f) : HaS h a := q_.1
theorem IsH.O {h : AH} {a : Nat} {f : FL} (q_ : IsH h a f) : ∀ s t, s < 6 → t < 7 → xI h (a + 1) (7 * s + t) = bI (fO f s t) := q_.2.1
theorem IsH.A {h : AH} {a : Nat} {f : FL} (q_ : IsH h a f) : ∀ s t, s < 6 → t < 7 → xI h (a + 2) (7 * s + t) = bI (fA f s t) := q_.2.2.1
theorem IsH.D {h : AH} {a : Nat} {f : FL} (q_ : IsH h a f) : ∀ m t, m < 4 → t < 7 → bt (xI h (a + 3) t) m = fD f m t := q_.2.2.2
theorem IsH.fr {A : Nat → Prop} {h h' : AH} {a : Nat} {f : FL} (F : Fr A h h') (n : ∀ k, 1 ≤ k → k ≤ 3 → ¬ A (a + k)) (q : IsH h a f) : IsH h' a f := by
  refine ⟨q.s.fr F, ?_⟩
  simp only [F.I _ (n 1 (by decide) (by decide)), F.I _ (n 2 (by decide) (by decide)), F.I _ (n 3 (by decide) (by decide))]
  exact q.2
theorem lay_d2 {h : AH} {a b w t : Nat} {i2 i3 i4 i5 : Int32} (k59 : Nat → Nat → Int32 → Int32 → Int32 → AH → Option (Unit × AH)) (q : HaS h a) (hw : w < 4) (ht : t < 6) (h5 : i5 = nI 2) : ∃ h', X13_lay_B177 k59 FU a b i2 i3 i4 i5 (nI w) (nI t) (nI t) h = X13_lay_B219 k59 a b i2 i3 i4 h' ∧ Fr (fun x => x = a + 3) h h' ∧ ∀ u m, m < 32 → bt (xI h' (a + 3) u) m = (bt (xI h (a + 3) u) m || (decide (t ≤ u ∧ u ≤ t + 1) && m == w)) := by
  have hc : t + 2 ≤ 7 := by omega
  obtain ⟨h', ⟨_, F, v⟩, e⟩ := loopE (F := fun n k h' => X13_lay_B177 k59 n a b i2 i3 i4 i5 (nI w) (nI t) (nI k) h') (E := fun h' => X13_lay_B219 k59 a b i2 i3 i4 h') (t + 2) (fun k h' => t ≤ k ∧ Fr (fun x => x = a + 3) h h' ∧ ∀ u m, m < 32 → bt (xI h' (a + 3) u) m = (bt (xI h (a + 3) u) m || (decide (t ≤ u ∧ u < k) && m == w))) (k := t) (by omega) (by omega) (h := h) ⟨Nat.le_refl _, Fr.rf, fun u m _ => by rw [decide_eq_false (by omega)]; simp⟩
    (by
      rintro n k h' hk ⟨hkt, F, v⟩
      have q' := q.fr F
      have hk1 : ¬ 7 ≤ k := by omega
      have hk2 : ¬ t + 2 ≤ k := by omega
      simp (disch := omega) only [X13_lay_B177, LT_e, G_T, BN_ok, if_true, if_false, nI_add, pk_mul, G_gx, nI_cl, nI_lI, nI_tI, nI_eI, hk1, hk2, h5, q'.c, q'.r2, q'.c3, q'.z3]
      refine ⟨_, ⟨by omega, F.tr (Fr.i rfl), fun u m hm => ?_⟩, rfl⟩
      by_cases e : u = k
      · rw [e, xI_self, b_or, v k m hm, b_bit (by omega), decide_eq_false (by omega : ¬ (t ≤ k ∧ k < k)), decide_eq_true (by omega : t ≤ k ∧ k < k + 1)]
        simp [BEq.beq, Nat.beq_eq]
      · rw [xI_ne (by omega), v u m hm]
        congr 2
        apply decide_eq_decide.mpr
        omega)
    (by
      rintro n h' ⟨_, F, v⟩
      by_cases hk1 : 7 ≤ t + 2
      · simp (disch := omega) only [X13_lay_B177, LT_e, G_T, BN_ok, if_true, if_false, nI_add, pk_mul, G_gx, nI_cl, nI_lI, nI_tI, nI_eI, hk1]
      · simp (disch := omega) only [X13_lay_B177, LT_e, G_T, BN_ok, if_true, if_false, nI_add, pk_mul, G_gx, nI_cl, nI_lI, nI_tI, nI_eI, hk1, Nat.le_refl])
  refine ⟨h', e, F, fun u m hm => ?_⟩
  rw [v u m hm]
  congr 2
  apply decide_eq_decide.mpr
  omega
theorem lay_d1 {h : AH} {a b w t : Nat} {i2 i3 i4 i5 : Int32} (k59 : Nat → Nat → Int32 → Int32 → Int32 → AH → Option (Unit × AH)) (q : HaS h a) (hw : w < 4) (ht : t < 6) (h5 : i5 = nI 1) : ∃ h', X13_lay_B140 k59 FU a b i2 i3 i4 i5 (nI w) (nI t) (nI t) h = X13_lay_B173 k59 a b i2 i3 i4 i5 (nI w) (nI t) h' ∧ Fr (fun x => x = a + 3) h h' ∧ ∀ u m, u < 7 → m < 32 → bt (xI h' (a + 3) u) m = (bt (xI h (a + 3) u) m || (decide (t ≤ u) && m == w)) := by
  obtain ⟨h', ⟨_, F, v⟩, e⟩ := loopE (F := fun n k h' => X13_lay_B140 k59 n a b i2 i3 i4 i5 (nI w) (nI t) (nI k) h') (E := fun h' => X13_lay_B173 k59 a b i2 i3 i4 i5 (nI w) (nI t) h') 7 (fun k h' => t ≤ k ∧ Fr (fun x => x = a + 3) h h' ∧ ∀ u m, m < 32 → bt (xI h' (a + 3) u) m = (bt (xI h (a + 3) u) m || (decide (t ≤ u ∧ u < k) && m == w))) (k := t) (by omega) (by omega) (h := h) ⟨Nat.le_refl _, Fr.rf, fun u m _ => by rw [decide_eq_false (by omega)]; simp⟩
    (by
      rintro n k h' hk ⟨hkt, F, v⟩
      have q' := q.fr F
      have hk1 : ¬ 7 ≤ k := by omega
      simp (disch := omega) only [X13_lay_B140, LT_e, G_T, BN_ok, if_true, if_false, nI_add, pk_mul, G_gx, nI_cl, nI_lI, nI_tI, nI_eI, hk1, h5, q'.c, q'.r2, q'.c3, q'.z3]
      refine ⟨_, ⟨by omega, F.tr (Fr.i rfl), fun u m hm => ?_⟩, rfl⟩
      by_cases e : u = k
      · rw [e, xI_self, b_or, v k m hm, b_bit (by omega), decide_eq_false (by omega : ¬ (t ≤ k ∧ k < k)), decide_eq_true (by omega : t ≤ k ∧ k < k + 1)]
        simp [BEq.beq, Nat.beq_eq]
      · rw [xI_ne (by omega), v u m hm]
        congr 2
        apply decide_eq_decide.mpr
        omega)
    (by
      rintro n h' ⟨_, F, v⟩
      simp (disch := omega) only [X13_lay_B140, LT_e, G_T, BN_ok, if_true, if_false, nI_add, pk_mul, G_gx, nI_cl, nI_lI, nI_tI, nI_eI, Nat.le_refl])
  refine ⟨h', e, F, fun u m hu hm => ?_⟩
  rw [v u m hm]
  congr 2
  apply decide_eq_decide.mpr
  omega
theorem IsH_put {h h' : AH} {a d : Nat} {f : FL} (s' : HaS h' a) (q : IsH h a f) (P1 P2 : Nat → Bool) (P3 : Nat → Nat → Bool) (a1 : ∀ i, xI h' (a + 1) i = if P1 i then nI 1 else xI h (a + 1) i) (a2 : ∀ i, xI h' (a + 2) i = if P2 i then nI 1 else xI h (a + 2) i) (a3 : ∀ u m, u < 7 → m < 32 → bt (xI h' (a + 3) u) m = (bt (xI h (a + 3) u) m || P3 u m)) (b1 : ∀ s t, s < 6 → t < 7 → P1 (7 * s + t) = (d == 10 * s + t)) (b2 : ∀ s t, s < 6 → t < 7 → P2 (7 * s + t) = (d == 300 + 10 * s + t)) (b3 : ∀ m t, m < 4 → t < 7 → P3 t m = dnF d m t) : IsH h' a (addF d f) := by
  refine ⟨s', fun s t hs ht => ?_, fun s t hs ht => ?_, fun m t hm ht => ?_⟩
  · show _ = bI (f.1 s t || (decide (s < 6 ∧ t < 7) && d == 10 * s + t))
    rw [a1, b1 s t hs ht, q.O s t hs ht, decide_eq_true ⟨hs, ht⟩]
    show _ = bI (fO f s t || _)
    cases (d == 10 * s + t) <;> cases fO f s t <;> rfl
  · show _ = bI (f.2.1 s t || (decide (s < 6 ∧ t < 7) && d == 300 + 10 * s + t))
    rw [a2, b2 s t hs ht, q.A s t hs ht, decide_eq_true ⟨hs, ht⟩]
    show _ = bI (fA f s t || _)
    cases (d == 300 + 10 * s + t) <;> cases fA f s t <;> rfl
  · show _ = (f.2.2 m t || (decide (m < 4 ∧ t < 7) && dnF d m t))
    rw [a3 t m ht (by omega), b3 m t hm ht, q.D m t hm ht, decide_eq_true ⟨hm, ht⟩]
    rfl
theorem lay_step {h : AH} {a b k d : Nat} {i2 i3 : Int32} {f : FL} {n : Nat} (q : IsH h a f) (o : OKf d) (hb : xc h b = 16) (hk : k < xz h b) (hk2 : k < 1000) (hd : xI h b k = nI d) (hi : ¬ (i2 + i3 ≤ nI k)) : ∃ h', X13_lay_B59 (n + 1) a b i2 i3 (nI k) h = X13_lay_B59 n a b i2 i3 (nI (k + 1)) h' ∧ Fr (fun x => a + 1 ≤ x ∧ x ≤ a + 3) h h' ∧ IsH h' a (addF d f) := by
  obtain ⟨kk, w, t, hd0, hkk, hw, ht, how⟩ : ∃ k w t, d = 100 * k + 10 * w + t ∧ k < 4 ∧ w < 6 ∧ t < 6 ∧ (w < 4 ∨ k = 0 ∨ k = 3) := by
    obtain ⟨o1, o2, o3⟩ := o
    exact ⟨d / 100, d / 10 % 10, d % 10, by omega, by omega, by omega, by omega, by omega⟩
  have d1 : d / 100 = kk := by omega
  have d2 : d / 10 - d / 10 / 10 * 10 = w := by omega
  have d3 : d - d / 10 * 10 = t := by omega
  have d4 : d / 10 % 10 = w := by omega
  have d5 : d % 10 = t := by omega
  have q1 : nI d / nI 10 = nI (d / 10) := pk_div (by omega) (by omega) (by omega)
  have q2 : nI (d / 10) / nI 10 = nI (d / 10 / 10) := pk_div (by omega) (by omega) (by omega)
  have q3 : nI d / nI 100 = nI kk := by rw [pk_div (by omega) (by omega) (by omega), d1]
  have q4 : nI (d / 10) - nI (d / 10 / 10 * 10) = nI w := by rw [pk_sub (by omega), d2]
  have q5 : nI d - nI (d / 10 * 10) = nI t := by rw [pk_sub (by omega), d3]
  have hDn : ∀ m u, dnF d m u = (w == m && ((kk == 1 && decide (t ≤ u)) || (kk == 2 && decide (t ≤ u ∧ u ≤ t + 1)))) := fun m u => by unfold dnF; rw [d1, d4, d5]
  have up : ∀ c i0, ∀ y i, xI (pI h c i0 (nI 1)) y i = if decide (y = c ∧ i = i0) then nI 1 else xI h y i := by
    intro c i0 y i
    rw [xI_pI]
    by_cases e : y = c ∧ i = i0
    · rw [if_pos e, decide_eq_true e]; rfl
    · rw [if_neg e, decide_eq_false e]; rfl
  have skip : ∀ kk, ¬ kk = 1 → ¬ kk = 2 → kk < 4 → ∀ h, X13_lay_B136 (X13_lay_B59 n) a b i2 i3 (nI k) (nI kk) (nI w) (nI t) h = X13_lay_B59 n a b i2 i3 (nI (k + 1)) h := by
    intro kk z1 z2 z3 h
    have n7 : ¬ 7 ≤ t := by omega
    have n8 : ¬ t + 2 ≤ t := by omega
    have f1 : ∀ m, X13_lay_B140 (X13_lay_B59 n) (m + 1) a b i2 i3 (nI k) (nI kk) (nI w) (nI t) (nI t) h = X13_lay_B173 (X13_lay_B59 n) a b i2 i3 (nI k) (nI kk) (nI w) (nI t) h := fun m => by
      simp (disch := omega) only [X13_lay_B140, nI_add, pk_mul, G_gx, nI_cl, nI_lI, nI_tI, nI_eI, n7, z1, if_false]
    have f2 : ∀ m, X13_lay_B177 (X13_lay_B59 n) (m + 1) a b i2 i3 (nI k) (nI kk) (nI w) (nI t) (nI t) h = X13_lay_B219 (X13_lay_B59 n) a b i2 i3 (nI k) h := fun m => by
      simp (disch := omega) only [X13_lay_B177, nI_add, pk_mul, G_gx, nI_cl, nI_lI, nI_tI, nI_eI, n7, n8, z2, if_false]
    unfold X13_lay_B136
    rw [show FU = 3999999 + 1 from rfl, f1]
    unfold X13_lay_B173
    rw [show FU = 3999999 + 1 from rfl, f2]
    unfold X13_lay_B219
    rw [LT_e, nI_add]
  have kc : kk = 0 ∨ kk = 1 ∨ kk = 2 ∨ kk = 3 := by omega
  rcases kc with k0 | k0 | k0 | k0
  · simp (disch := omega) only [X13_lay_B59, LT_e, G_T, BN_ok, if_true, if_false, nI_add, pk_mul, G_gx, nI_cl, nI_lI, nI_tI, nI_eI, hi, hb, hd, q1, q2, q3, q4, q5, nI_z, k0, nar1, q.s.c, q.s.r0, q.s.c1, q.s.z1, X13_lay_B116, show (0 = 3) = False from eq_false (by decide)]
    refine ⟨_, skip 0 (by decide) (by decide) (by decide) _, Fr.i (by omega), IsH_put (q.s.fr (Fr.i (A := fun _ => True) trivial)) q (fun i => decide (a + 1 = a + 1 ∧ i = 7 * w + t)) (fun i => decide (a + 2 = a + 1 ∧ i = 7 * w + t)) (fun _ _ => false) (fun i => up _ _ _ _) (fun i => up _ _ _ _) (fun u m _ _ => by rw [xI_ne (by omega)]; simp) (fun s u hs hu => ?_) (fun s u hs hu => ?_) (fun m u hm hu => ?_)⟩
    · rw [Bool.eq_iff_iff]; simp; omega
    · rw [Bool.eq_iff_iff]; simp; omega
    · rw [hDn, k0]; simp
  · obtain ⟨h1, e1, F1, v1⟩ := lay_d1 (b := b) (i2 := i2) (i3 := i3) (i4 := nI k) (i5 := nI 1) (X13_lay_B59 n) q.s (w := w) (t := t) (by omega) ht rfl
    have n7 : ¬ 7 ≤ t := by omega
    have n8 : ¬ t + 2 ≤ t := by omega
    have f2 : ∀ m, X13_lay_B177 (X13_lay_B59 n) (m + 1) a b i2 i3 (nI k) (nI 1) (nI w) (nI t) (nI t) h1 = X13_lay_B219 (X13_lay_B59 n) a b i2 i3 (nI k) h1 := fun m => by
      simp (disch := omega) only [X13_lay_B177, nI_add, pk_mul, G_gx, nI_cl, nI_lI, nI_tI, nI_eI, n7, n8, show (1 = 2) = False from eq_false (by decide), if_false]
    refine ⟨h1, ?_, F1.mo (fun x q => by omega), IsH_put (q.s.fr F1) q (fun _ => false) (fun _ => false) (fun u m => decide (t ≤ u) && m == w) (fun i => by rw [F1.I _ (by omega)]; simp) (fun i => by rw [F1.I _ (by omega)]; simp) v1 (fun s u hs hu => ?_) (fun s u hs hu => ?_) (fun m u hm hu => ?_)⟩
    · simp (disch := omega) only [X13_lay_B59, LT_e, G_T, BN_ok, if_true, if_false, nI_add, pk_mul, G_gx, nI_cl, nI_lI, nI_tI, nI_eI, hi, hb, hd, q1, q2, q3, q4, q5, nI_z, k0, X13_lay_B116, X13_lay_B136, show (1 = 3) = False from eq_false (by decide), show (1 = 0) = False from eq_false (by decide)]
      rw [e1]
      unfold X13_lay_B173
      rw [show FU = 3999999 + 1 from rfl, f2]
      unfold X13_lay_B219
      rw [LT_e, nI_add]
    · symm; simp; omega
    · symm; simp; omega
    · rw [hDn, k0, Bool.eq_iff_iff]; simp; omega
  · obtain ⟨h1, e1, F1, v1⟩ := lay_d2 (b := b) (i2 := i2) (i3 := i3) (i4 := nI k) (i5 := nI 2) (X13_lay_B59 n) q.s (w := w) (t := t) (by omega) ht rfl
    have n7 : ¬ 7 ≤ t := by omega
    have f1 : ∀ m, X13_lay_B140 (X13_lay_B59 n) (m + 1) a b i2 i3 (nI k) (nI 2) (nI w) (nI t) (nI t) h = X13_lay_B173 (X13_lay_B59 n) a b i2 i3 (nI k) (nI 2) (nI w) (nI t) h := fun m => by
      simp (disch := omega) only [X13_lay_B140, nI_add, pk_mul, G_gx, nI_cl, nI_lI, nI_tI, nI_eI, n7, show (2 = 1) = False from eq_false (by decide), if_false]
    refine ⟨h1, ?_, F1.mo (fun x q => by omega), IsH_put (q.s.fr F1) q (fun _ => false) (fun _ => false) (fun u m => decide (t ≤ u ∧ u ≤ t + 1) && m == w) (fun i => by rw [F1.I _ (by omega)]; simp) (fun i => by rw [F1.I _ (by omega)]; simp) (fun u m _ hm => v1 u m hm) (fun s u hs hu => ?_) (fun s u hs hu => ?_) (fun m u hm hu => ?_)⟩
    · simp (disch := omega) only [X13_lay_B59, LT_e, G_T, BN_ok, if_true, if_false, nI_add, pk_mul, G_gx, nI_cl, nI_lI, nI_tI, nI_eI, hi, hb, hd, q1, q2, q3, q4, q5, nI_z, k0, X13_lay_B116, X13_lay_B136, show (2 = 3) = False from eq_false (by decide), show (2 = 0) = False from eq_false (by decide)]
      rw [show FU = 3999999 + 1 from rfl, f1]
      unfold X13_lay_B173
      rw [e1]
      unfold X13_lay_B219
      rw [LT_e, nI_add]
    · symm; simp; omega
    · symm; simp; omega
    · rw [hDn, k0, Bool.eq_iff_iff]; simp; omega
  · simp (disch := omega) only [X13_lay_B59, LT_e, G_T, BN_ok, if_true, if_false, nI_add, pk_mul, G_gx, nI_cl, nI_lI, nI_tI, nI_eI, hi, hb, hd, q1, q2, q3, q4, q5, nI_z, k0, nar1, q.s.c, q.s.r1, q.s.c2, q.s.z2, X13_lay_B116, show (3 = 0) = False from eq_false (by decide)]
    refine ⟨_, skip 3 (by decide) (by decide) (by decide) _, Fr.i (by omega), IsH_put (q.s.fr (Fr.i (A := fun _ => True) trivial)) q (fun i => decide (a + 1 = a + 2 ∧ i = 7 * w + t)) (fun i => decide (a + 2 = a + 2 ∧ i = 7 * w + t)) (fun _ _ => false) (fun i => up _ _ _ _) (fun i => up _ _ _ _) (fun u m _ _ => by rw [xI_ne (by omega)]; simp) (fun s u hs hu => ?_) (fun s u hs hu => ?_) (fun m u hm hu => ?_)⟩
    · rw [Bool.eq_iff_iff]; simp; omega
    · rw [Bool.eq_iff_iff]; simp; omega
    · rw [hDn, k0]; simp
theorem lay_ok {h : AH} {a b i0 : Nat} {l : List Nat} (q : HaS h a) (hb : xc h b = 16) (hz : i0 + l.length ≤ xz h b) (hz2 : i0 + l.length < 1000) (hv : ∀ i, i < l.length → xI h b (i0 + i) = nI (l.getD i 0)) (o : ∀ d, d ∈ l → OKf d) (ne : ¬ (a + 1 ≤ b ∧ b ≤ a + 3)) : ∃ h', X13_lay_f a b (nI i0) (nI l.length) h = some ((), h') ∧ Fr (fun x => a + 1 ≤ x ∧ x ≤ a + 3) h h' ∧ IsH h' a (flOf l) := by
  obtain ⟨h1, ⟨F1, z1⟩, e1⟩ := loopE (F := fun n k h' => X13_lay_B3 n a b (nI i0) (nI l.length) (nI k) h') (E := fun h' => X13_lay_B32 a b (nI i0) (nI l.length) h') 42 (fun k h' => Fr (fun x => a + 1 ≤ x ∧ x ≤ a + 3) h h' ∧ ∀ i, i < k → xI h' (a + 1) i = nI 0 ∧ xI h' (a + 2) i = nI 0) (Nat.zero_le _) (by omega) (h := h) ⟨Fr.rf, fun i hi => absurd hi (Nat.not_lt_zero _)⟩
    (by
      rintro n k h' hk ⟨F, z⟩
      have q' := q.fr F
      have hk' : ¬ 42 ≤ k := by omega
      simp (disch := omega) only [X13_lay_B3, LT_e, G_T, BN_ok, if_true, if_false, nI_add, pk_mul, G_gx, nI_cl, nI_lI, nI_tI, nI_eI, xc_pI, xz_pI, xR_pI, xL_pI, xc_pL, xz_pL, xR_pL, xI_pL, xn_pI, xn_pL, hk', q'.c, q'.r0, q'.c1, q'.z1, q'.r1, q'.c2, q'.z2, nar0]
      refine ⟨_, ⟨F.tr ((Fr.i (by omega)).tr (Fr.i (by omega))), fun i hi => ?_⟩, rfl⟩
      by_cases e : i = k
      · subst e; exact ⟨by rw [xI_ne (by omega), xI_self], xI_self⟩
      · rw [xI_ne (by omega), xI_ne (by omega), xI_ne (by omega), xI_ne (by omega)]; exact z i (by omega))
    (by
      rintro n h' ⟨F, z⟩
      simp (disch := omega) only [X13_lay_B3, LT_e, G_T, BN_ok, if_true, if_false, nI_add, pk_mul, G_gx, nI_cl, nI_lI, nI_tI, nI_eI, Nat.le_refl])
  have q1 := q.fr F1
  obtain ⟨h2, ⟨F2, z2⟩, e2⟩ := loopE (F := fun n k h' => X13_lay_B35 n a b (nI i0) (nI l.length) (nI k) h') (E := fun h' => X13_lay_B56 a b (nI i0) (nI l.length) h') 7 (fun k h' => Fr (fun x => x = a + 3) h1 h' ∧ ∀ i, i < k → xI h' (a + 3) i = nI 0) (Nat.zero_le _) (by omega) (h := h1) ⟨Fr.rf, fun i hi => absurd hi (Nat.not_lt_zero _)⟩
    (by
      rintro n k h' hk ⟨F, z⟩
      have q' := q1.fr F
      have hk' : ¬ 7 ≤ k := by omega
      simp (disch := omega) only [X13_lay_B35, LT_e, G_T, BN_ok, if_true, if_false, nI_add, pk_mul, G_gx, nI_cl, nI_lI, nI_tI, nI_eI, hk', q'.c, q'.r2, q'.c3, q'.z3]
      refine ⟨_, ⟨F.tr (Fr.i rfl), fun i hi => ?_⟩, rfl⟩
      by_cases e : i = k
      · subst e; exact xI_self
      · rw [xI_ne (by omega)]; exact z i (by omega))
    (by
      rintro n h' ⟨F, z⟩
      simp (disch := omega) only [X13_lay_B35, LT_e, G_T, BN_ok, if_true, if_false, nI_add, pk_mul, G_gx, nI_cl, nI_lI, nI_tI, nI_eI, Nat.le_refl])
  have q2 := q1.fr F2
  have F12 := F1.tr (F2.mo (fun x q => by omega))
  have i2 : IsH h2 a (flOf (l.take 0)) := by
    refine ⟨q2, fun s t hs ht => ?_, fun s t hs ht => ?_, fun m t hm ht => ?_⟩
    · rw [F2.I _ (by omega), (z1 _ (by omega)).1]; simp [flOf, fO, bI]
    · rw [F2.I _ (by omega), (z1 _ (by omega)).2]; simp [flOf, fA, bI]
    · rw [z2 t ht, b_n0]; simp [flOf, fD]
  obtain ⟨h3, ⟨F3, i3⟩, e3⟩ := loopE (F := fun n k h' => X13_lay_B59 n a b (nI i0) (nI l.length) (nI (i0 + k)) h') (E := fun h' => some ((), h')) l.length (fun k h' => Fr (fun x => a + 1 ≤ x ∧ x ≤ a + 3) h h' ∧ IsH h' a (flOf (l.take k))) (Nat.zero_le _) (by omega) (h := h2) ⟨F12, i2⟩
    (by
      rintro n k h' hk ⟨F, i⟩
      have hm : l.getD k 0 ∈ l := by rw [List.getD_eq_getElem?_getD, List.getElem?_eq_getElem hk]; exact List.getElem_mem hk
      have hi : ¬ (nI i0 + nI l.length ≤ nI (i0 + k)) := by rw [nI_add, nI_lI (by omega) (by omega)]; omega
      obtain ⟨h4, e4, F4, i4⟩ := lay_step (n := n) (b := b) (k := i0 + k) i (o _ hm) (by rw [F.c]; exact hb) (by rw [F.z]; omega) (by omega) (by rw [F.I _ ne]; exact hv k hk) hi
      refine ⟨h4, ⟨F.tr F4, ?_⟩, e4⟩
      rw [← flOf_add] at i4
      have : l.take (k + 1) = l.take k ++ [l.getD k 0] := by
        rw [List.take_succ, List.getElem?_eq_getElem hk, List.getD_eq_getElem?_getD, List.getElem?_eq_getElem hk]; rfl
      rw [this]; exact i4)
    (by
      rintro n h' ⟨F, i⟩
      simp (disch := omega) only [X13_lay_B59, LT_e, G_T, BN_ok, if_true, if_false, nI_add, pk_mul, G_gx, nI_cl, nI_lI, nI_tI, nI_eI, Nat.le_refl])
  refine ⟨h3, ?_, F3, by rw [List.take_length] at i3; exact i3⟩
  have e4 : X13_lay_f a b (nI i0) (nI l.length) h = X13_lay_B35 FU a b (nI i0) (nI l.length) (nI 0) h1 := e1
  have e5 : X13_lay_B35 FU a b (nI i0) (nI l.length) (nI 0) h1 = X13_lay_B59 FU a b (nI i0) (nI l.length) (nI i0) h2 := e2
  rw [e4, e5]
  exact e3
