/-! TRIAL, plainly: known formulas (their sets), runs tried, how it ended, what was found -/
abbrev TrR : Type := LLn × Nat × Nat × List Nat
def alS (p : PR) (fs : LLn) (l : List Nat) : Bool := fs.all fun f => spo p (flOf f) (flOf l)
def trL (p : PR) (runs : Nat) : LLn → Nat → LLn → TrR
  | fs, n, [] => (fs, n, 0, [])
  | fs, n, l :: L => if alS p fs l = true then (if n = runs then (fs, n, 2, []) else if outB p (flOf l) = 2 then (fs, n + 1, 1, l) else if outB p (flOf l) = 0 then trL p runs (fs ++ [l]) (n + 1) L else trL p runs fs (n + 1) L) else trL p runs fs n L
theorem trL_app {p : PR} {runs : Nat} : ∀ L fs n M, trL p runs fs n (L ++ M) = if (trL p runs fs n L).2.2.1 = 0 then trL p runs (trL p runs fs n L).1 (trL p runs fs n L).2.1 M else trL p runs fs n L := by
  intro L
  induction L with
  | nil => intro fs n M; rw [if_pos (show (trL p runs fs n []).2.2.1 = 0 from rfl)]; rfl
  | cons l L ih =>
    intro fs n M
    rw [List.cons_append, trL, trL]
    by_cases h1 : alS p fs l = true
    · rw [if_pos h1, if_pos h1]
      by_cases h2 : n = runs
      · rw [if_pos h2, if_pos h2, if_neg (by show ¬ 2 = 0; decide)]
      · rw [if_neg h2, if_neg h2]
        by_cases h3 : outB p (flOf l) = 2
        · rw [if_pos h3, if_pos h3, if_neg (by show ¬ 1 = 0; decide)]
        · rw [if_neg h3, if_neg h3]
          by_cases h4 : outB p (flOf l) = 0
          · rw [if_pos h4, if_pos h4]; exact ih _ _ M
          · rw [if_neg h4, if_neg h4]; exact ih _ _ M
    · rw [if_neg h1, if_neg h1]; exact ih _ _ M
theorem trL_skip {p : PR} {runs : Nat} {fs : LLn} {n : Nat} : ∀ L, (∀ l, l ∈ L → alS p fs l = false) → trL p runs fs n L = (fs, n, 0, []) := by
  intro L
  induction L with
  | nil => intro _; rfl
  | cons l L ih =>
    intro h
    rw [trL, h l List.mem_cons_self, if_neg (by decide)]
    exact ih (fun k hk => h k (List.mem_cons_of_mem _ hk))
theorem trL_b {p : PR} {runs : Nat} : ∀ L fs n, n ≤ runs → n ≤ (trL p runs fs n L).2.1 ∧ (trL p runs fs n L).2.1 ≤ runs ∧ fs.length ≤ (trL p runs fs n L).1.length ∧ (trL p runs fs n L).1.length + n ≤ fs.length + (trL p runs fs n L).2.1 ∧ (trL p runs fs n L).2.2.1 ≤ 2 := by
  intro L
  induction L with
  | nil => intro fs n h; exact ⟨Nat.le_refl _, h, Nat.le_refl _, Nat.le_refl _, by show 0 ≤ 2; decide⟩
  | cons l L ih =>
    intro fs n h
    rw [trL]
    split
    · split
      · exact ⟨Nat.le_refl _, h, Nat.le_refl _, Nat.le_refl _, by show 2 ≤ 2; decide⟩
      · split
        · exact ⟨by show n ≤ n + 1; omega, by show n + 1 ≤ runs; omega, Nat.le_refl _, by show fs.length + n ≤ fs.length + (n + 1); omega, by show 1 ≤ 2; decide⟩
        · split
          · have := ih (fs ++ [l]) (n + 1) (by omega)
            rw [List.length_append] at this
            have e : [l].length = 1 := rfl
            omega
          · have := ih fs (n + 1) (by omega)
            omega
    · exact ih fs n h
theorem trL_fd {p : PR} {runs : Nat} : ∀ L fs n, (trL p runs fs n L).2.2.1 = 0 → (trL p runs fs n L).2.2.2 = [] := by
  intro L
  induction L with
  | nil => intro fs n _; rfl
  | cons l L ih =>
    intro fs n h
    rw [trL] at h ⊢
    split at h
    · next c1 =>
      rw [if_pos c1]
      split at h
      · exact absurd h (by show ¬ 2 = 0; decide)
      · next c2 =>
        rw [if_neg c2]
        split at h
        · exact absurd h (by show ¬ 1 = 0; decide)
        · next c3 =>
          rw [if_neg c3]
          split at h
          · next c4 => rw [if_pos c4]; exact ih _ _ h
          · next c4 => rw [if_neg c4]; exact ih _ _ h
    · next c1 => rw [if_neg c1]; exact ih _ _ h
theorem alS_app {p : PR} {fs : LLn} {f l : List Nat} : alS p (fs ++ [f]) l = (alS p fs l && spo p (flOf f) (flOf l)) := by
  unfold alS
  rw [List.all_append]
  simp
/-- a frame of a heap that grows -/
def Fg (A : Nat → Nat → Prop) (h h' : AH) : Prop := xn h ≤ xn h' ∧ ∀ a, a < xn h → xc h' a = xc h a ∧ xz h' a = xz h a ∧ (∀ k, ¬ (a = 174 ∧ 7 ≤ k ∨ a = 180 ∧ 1 ≤ k ∨ a = 119 ∨ a = 159) → xR h' a k = xR h a k) ∧ ∀ k, ¬ A a k → xI h' a k = xI h a k ∧ xL h' a k = xL h a k
theorem Fg.rf {A : Nat → Nat → Prop} {h : AH} : Fg A h h := ⟨Nat.le_refl _, fun _ _ => ⟨rfl, rfl, fun _ _ => rfl, fun _ _ => ⟨rfl, rfl⟩⟩⟩
theorem Fg.tr {A : Nat → Nat → Prop} {h h1 h2 : AH} (p : Fg A h h1) (q : Fg A h1 h2) : Fg A h h2 := ⟨Nat.le_trans p.1 q.1, fun a n => by
  have p2 := p.2 a n
  have q2 := q.2 a (Nat.lt_of_lt_of_le n p.1)
  exact ⟨q2.1.trans p2.1, q2.2.1.trans p2.2.1, fun k c => (q2.2.2.1 k c).trans (p2.2.2.1 k c), fun k c => ⟨(q2.2.2.2 k c).1.trans (p2.2.2.2 k c).1, (q2.2.2.2 k c).2.trans (p2.2.2.2 k c).2⟩⟩⟩
theorem Fq.fg {A : Nat → Prop} {A' : Nat → Nat → Prop} {h h' : AH} (F : Fq A h h') (s : ∀ a k, A a → A' a k) : Fg A' h h' := ⟨by rw [F.1]; exact Nat.le_refl _, fun a _ => ⟨congrFun F.2.2.1 a, congrFun F.2.2.2.1 a, fun k c => F.2.2.2.2.1 a k (by omega), fun k c => ⟨F.I k (fun q => c (s a k q)), F.L k (fun q => c (s a k q))⟩⟩⟩
theorem Gp.fg {A : Nat → Nat → Prop} {h h' : AH} (E : Gp h h') : Fg A h h' := ⟨E.1, fun a n => ⟨E.c n, E.z n, fun k c => E.r n (by omega), fun k _ => ⟨E.I n, E.L n⟩⟩⟩
theorem Fg.i {A : Nat → Nat → Prop} {h : AH} {a k : Nat} {v : Int32} (m : A a k) : Fg A h (pI h a k v) := ⟨Nat.le_refl _, fun b _ => ⟨rfl, rfl, fun _ _ => rfl, fun j c => ⟨by rw [xI_pI, if_neg (fun q : b = a ∧ j = k => c (by rw [q.1, q.2]; exact m))], rfl⟩⟩⟩
def TgA (m : Nat) (a k : Nat) : Prop := a = 146 ∨ (148 ≤ a ∧ a ≤ 150) ∨ (152 ≤ a ∧ a ≤ 154) ∨ (156 ≤ a ∧ a ≤ 158) ∨ (160 ≤ a ∧ a ≤ 163) ∨ (168 ≤ a ∧ a ≤ 181) ∨ (a = 145 ∧ (k = 10 ∨ k = 11)) ∨ (227 ≤ a ∧ ¬ (m ≤ a ∧ a ≤ m + 18))
/-- what the class has while it tries -/
def CtX (h0 h : AH) (b m : Nat) (p : PR) (r : NN_) (fs : LLn) (n : Nat) (fd : List Nat) : Prop := (CaX_ h 62 b p r) ∧ (Fm h true m) ∧ (m + 19 ≤ xn h) ∧ (∀ i, i < fs.length → xR h 159 i ≠ 0 ∧ IsTr h (xR h 159 i) p (flOf (fs.getD i []))) ∧ (xI h 145 10 = nI n) ∧ (xI h 145 11 = nI fs.length) ∧ (IsN h 162 3 fd) ∧ (NuS h 160 3) ∧ (1 ≤ fs.length) ∧ (fs.length ≤ n + 1) ∧ (n ≤ 100) ∧ (Fg (TgA m) h0 h) ∧ (xn h ≤ xn h0 + 6 * n) ∧ (xs h ≤ xs h0 + 111 * n) ∧ (227 ≤ m)
theorem CtX.c {h0 h : AH} {b m : Nat} {p : PR} {r : NN_} {fs : LLn} {n : Nat} {fd : List Nat} (q_ : CtX h0 h b m p r fs n fd) : CaX_ h 62 b p r := q_.1
theorem CtX.m {h0 h : AH} {b m : Nat} {p : PR} {r : NN_} {fs : LLn} {n : Nat} {fd : List Nat} (q_ : CtX h0 h b m p r fs n fd) : Fm h true m := q_.2.1
theorem CtX.mx {h0 h : AH} {b m : Nat} {p : PR} {r : NN_} {fs : LLn} {n : Nat} {fd : List Nat} (q_ : CtX h0 h b m p r fs n fd) : m + 19 ≤ xn h := q_.2.2.1
theorem CtX.f {h0 h : AH} {b m : Nat} {p : PR} {r : NN_} {fs : LLn} {n : Nat} {fd : List Nat} (q_ : CtX h0 h b m p r fs n fd) : ∀ i, i < fs.length → xR h 159 i ≠ 0 ∧ IsTr h (xR h 159 i) p (flOf (fs.getD i [])) := q_.2.2.2.1
theorem CtX.t {h0 h : AH} {b m : Nat} {p : PR} {r : NN_} {fs : LLn} {n : Nat} {fd : List Nat} (q_ : CtX h0 h b m p r fs n fd) : xI h 145 10 = nI n := q_.2.2.2.2.1
theorem CtX.k {h0 h : AH} {b m : Nat} {p : PR} {r : NN_} {fs : LLn} {n : Nat} {fd : List Nat} (q_ : CtX h0 h b m p r fs n fd) : xI h 145 11 = nI fs.length := q_.2.2.2.2.2.1
theorem CtX.s {h0 h : AH} {b m : Nat} {p : PR} {r : NN_} {fs : LLn} {n : Nat} {fd : List Nat} (q_ : CtX h0 h b m p r fs n fd) : IsN h 162 3 fd := q_.2.2.2.2.2.2.1
theorem CtX.u {h0 h : AH} {b m : Nat} {p : PR} {r : NN_} {fs : LLn} {n : Nat} {fd : List Nat} (q_ : CtX h0 h b m p r fs n fd) : NuS h 160 3 := q_.2.2.2.2.2.2.2.1
theorem CtX.l1 {h0 h : AH} {b m : Nat} {p : PR} {r : NN_} {fs : LLn} {n : Nat} {fd : List Nat} (q_ : CtX h0 h b m p r fs n fd) : 1 ≤ fs.length := q_.2.2.2.2.2.2.2.2.1
theorem CtX.ln {h0 h : AH} {b m : Nat} {p : PR} {r : NN_} {fs : LLn} {n : Nat} {fd : List Nat} (q_ : CtX h0 h b m p r fs n fd) : fs.length ≤ n + 1 := q_.2.2.2.2.2.2.2.2.2.1
theorem CtX.n1 {h0 h : AH} {b m : Nat} {p : PR} {r : NN_} {fs : LLn} {n : Nat} {fd : List Nat} (q_ : CtX h0 h b m p r fs n fd) : n ≤ 100 := q_.2.2.2.2.2.2.2.2.2.2.1
theorem CtX.g {h0 h : AH} {b m : Nat} {p : PR} {r : NN_} {fs : LLn} {n : Nat} {fd : List Nat} (q_ : CtX h0 h b m p r fs n fd) : Fg (TgA m) h0 h := q_.2.2.2.2.2.2.2.2.2.2.2.1
theorem CtX.xn {h0 h : AH} {b m : Nat} {p : PR} {r : NN_} {fs : LLn} {n : Nat} {fd : List Nat} (q_ : CtX h0 h b m p r fs n fd) : xn h ≤ xn h0 + 6 * n := q_.2.2.2.2.2.2.2.2.2.2.2.2.1
theorem CtX.xs {h0 h : AH} {b m : Nat} {p : PR} {r : NN_} {fs : LLn} {n : Nat} {fd : List Nat} (q_ : CtX h0 h b m p r fs n fd) : xs h ≤ xs h0 + 111 * n := q_.2.2.2.2.2.2.2.2.2.2.2.2.2.1
theorem CtX.m0 {h0 h : AH} {b m : Nat} {p : PR} {r : NN_} {fs : LLn} {n : Nat} {fd : List Nat} (q_ : CtX h0 h b m p r fs n fd) : 227 ≤ m := q_.2.2.2.2.2.2.2.2.2.2.2.2.2.2
theorem form_at {h0 h : AH} {b m n i : Nat} {p : PR} {r : NN_} {fs : LLn} {fd : List Nat} (X : CtX h0 h b m p r fs n fd) (hi : i < fs.length) : (xR h 159 i = 168 ∧ i = 0 ∨ 227 ≤ xR h 159 i ∧ 1 ≤ i) ∧ xR h 159 i + 6 ≤ xn h ∧ X9_formula_f 145 (nI i) h = some (xR h 159 i, h) := by
  have l := X.ln
  have n1 := X.n1
  obtain ⟨a, h', e, _, _, _, r1, _, same, _, _, _, b1, _, k0, k1⟩ := formula_c X.c.g X.m X.mx (by omega : i < 101)
  have := same (X.f i hi).1
  subst this
  rw [← r1] at e k0 k1 b1
  refine ⟨?_, b1, e⟩
  rcases Nat.eq_zero_or_pos i with q | q
  · exact .inl ⟨k0 q, q⟩
  · exact .inr ⟨k1 q, q⟩
/-- writes beside the formulas -/
theorem CtX.fq {A : Nat → Prop} {h0 h h' : AH} {b m n : Nat} {p : PR} {r : NN_} {fs : LLn} {fd : List Nat} (F : Fq A h h') (a1 : ∀ a, A a → a = 146 ∨ (148 ≤ a ∧ a ≤ 150) ∨ (152 ≤ a ∧ a ≤ 154) ∨ (156 ≤ a ∧ a ≤ 158) ∨ a = 160 ∨ a = 161 ∨ (174 ≤ a ∧ a ≤ 181)) (X : CtX h0 h b m p r fs n fd) : CtX h0 h' b m p r fs n fd := by
  have m0 := X.m0
  refine ⟨X.c.fq F (fun a c => by have := a1 a c; omega), X.m.fz F.f, by rw [F.1]; exact X.mx, fun i hi => ?_, by rw [F.I _ (fun c => by have := a1 _ c; omega)]; exact X.t, by rw [F.I _ (fun c => by have := a1 _ c; omega)]; exact X.k, X.s.fq F (by decide) (fun c => by have := a1 _ c; omega) (fun c => by have := a1 _ c; omega), ?_, X.l1, X.ln, X.n1, X.g.tr (F.fg (fun a k c => by have := a1 a c; unfold TgA; omega)), by rw [F.1]; exact X.xn, by rw [F.2.1]; exact X.xs, X.m0⟩
  · have q := form_at X hi
    have e : xR h' 159 i = xR h 159 i := F.r _ (by decide)
    rw [e]
    exact ⟨(X.f i hi).1, (X.f i hi).2.fq F (fun k hk c => by have := a1 _ c; omega)⟩
  · have u := X.u
    unfold NuS at *
    have c := F.2.2.1
    have z := F.2.2.2.1
    rw [c, z, F.r _ (by decide)]; exact u
theorem shr_t {x : Int64} {j : Nat} (hj : j < 64) : (lg_cmp (((x.toUInt64 >>> ((nI j).toInt64.toUInt64 &&& Int64.toUInt64 63)).toInt64) &&& lN 1) (lN 0) = 0) ↔ tl x j = false := by
  rw [cmp_and1]
  show (nL ((x.toUInt64 >>> ((nI j).toInt64.toUInt64 &&& Int64.toUInt64 63)).toInt64)).testBit 0 = false ↔ _
  rw [nL_shr hj, Nat.testBit_shiftRight, Nat.add_zero]; rfl
def hwV (how : Nat) : Int32 := if how = 0 then -1 else nI how
def LnS (h : AH) (a : List Nat) (r : NN_) (s c : Nat) : Prop := ∀ j, j < 64 → PS a r s (c + j) = true → laf h 155 j = flOf (sL a s (c + j))
theorem laf_eq {h h' : AH} {L j : Nat} (e1 : xL h' (L + 1) = xL h (L + 1)) (e2 : xL h' (L + 2) = xL h (L + 2)) (e3 : xL h' (L + 3) = xL h (L + 3)) : laf h' L j = laf h L j := by
  unfold laf; rw [e1, e2, e3]
theorem LnS.fq {A : Nat → Prop} {h h' : AH} {a : List Nat} {r : NN_} {s c : Nat} (F : Fq A h h') (n : ∀ x, 156 ≤ x → x ≤ 158 → ¬ A x) (q : LnS h a r s c) : LnS h' a r s c := fun j hj hp => by
  rw [← q j hj hp]
  exact laf_eq (funext fun k => F.L k (n _ (by decide) (by decide))) (funext fun k => F.L k (n _ (by decide) (by decide))) (funext fun k => F.L k (n _ (by decide) (by decide)))
theorem LnS.gp {h h' : AH} {a : List Nat} {r : NN_} {s c : Nat} (E : Gp h h') (g : SG h) (q : LnS h a r s c) : LnS h' a r s c := fun j hj hp => by
  have g1 := g.1
  rw [← q j hj hp]
  exact laf_eq (E.2 _ (by omega)).2.2.2.2 (E.2 _ (by omega)).2.2.2.2 (E.2 _ (by omega)).2.2.2.2
/-- one more run: the set's, into the next formula -/
theorem try_set {h0 h : AH} {b m n s d base j : Nat} {p : PR} {r : NN_} {a : List Nat} {fs : LLn} (N120 : a.length ≤ 120) (ao : ∀ y, y ∈ a → OKf y) (X : CtX h0 h b m p r fs n []) (B : BuS h a (r 0 + r 1 + r 2 + r 3) s d base) (N : LnS h a r s (d * 128 + base)) (hj : j < 64) (pj : PS a r s (d * 128 + base + j) = true) (n99 : n ≤ 99) : ∃ h6 r9 h8 h11, X5_writeSet_f 146 (nI j) 160 (pI h 145 10 (nI (n + 1))) = some ((), h6) ∧ X9_formula_f 145 (nI fs.length) h6 = some (r9, h8) ∧ xI h6 145 11 = nI fs.length ∧ SG h6 ∧ SG h8 ∧ X9_play_f 145 62 160 r9 h8 = some ((), h11) ∧ IsTr h11 r9 p (flOf (sL a s (d * 128 + base + j))) ∧ CtX h0 h11 b m p r fs (n + 1) [] ∧ BuS h11 a (r 0 + r 1 + r 2 + r 3) s d base ∧ LnS h11 a r s (d * 128 + base) ∧ IsN h11 160 3 (sL a s (d * 128 + base + j)) ∧ xR h11 159 fs.length = r9 ∧ r9 ≠ 0 := by
  have m0 := X.m0
  have ln := X.ln
  have C := X.c
  have s3 : s ≤ 3 := Nat.le_trans B.sT C.x
  have V := ((Bool.and_eq_true _ _).mp (show (vld a.length (sD s (d * 128 + base + j)) && _) = true from pj)).1
  have bN : base + j < a.length := by
    obtain ⟨e, rfl⟩ : ∃ e, s = e + 1 := ⟨s - 1, by have := B.s1; omega⟩
    have bb := B.b
    have hd : d < 128 ^ e := B.d
    have hv : d * 128 + base + j < 128 ^ (e + 1) := by
      rw [pw_s]
      have := Nat.mul_le_mul_right 128 (Nat.succ_le_of_lt hd)
      omega
    have := vld_last (by omega) hv V
    omega
  have F1 : Fr (fun x => x = 145) h (pI h 145 10 (nI (n + 1))) := Fr.i rfl
  have C1 := C.fq F1.q (fun a c => by omega)
  have B1 := B.fq F1.q (fun x q => by omega)
  have u := X.u
  have u1 : NuS (pI h 145 10 (nI (n + 1))) 160 3 := u
  obtain ⟨h6, e6, F6, N6⟩ := writeSet_c (na := 160) C1 N120 B1 u1 (.inl rfl) hj bN
  have C6 := C1.fq F6.q (fun a c => by omega)
  have B6 := B1.fq F6.q (fun x q => by omega)
  have F16 : Fr (fun x => x = 145 ∨ x = 160 ∨ x = 161) h h6 := (F1.mo (fun x q => by omega)).tr (F6.mo (fun x q => by omega))
  have k6 : xI h6 145 11 = nI fs.length := by rw [F6.I _ (by decide), xI_ne (by omega)]; exact X.k
  have t6 : xI h6 145 10 = nI (n + 1) := by rw [F6.I _ (by decide), xI_self]
  have m6 : Fm h6 true m := X.m.fz F16.q.f
  have mx6 : m + 19 ≤ xn h6 := by rw [F16.n]; exact X.mx
  obtain ⟨r9, h8, e8, G8, xn8, xs8, rk, rj, _, r0, t8, rw9, rb, m8, k0, k1⟩ := formula_c C6.g m6 mx6 (by omega : fs.length < 101)
  have g6 := C6.g
  have g61 := g6.1
  have C8 := C6.gp G8
  have r227 : 227 ≤ r9 := k1 X.l1
  have N8 : IsN h8 160 3 (sL a s (d * 128 + base + j)) := N6.gp G8 (by omega) (by decide)
  obtain ⟨h11, e11, F11, t11⟩ := play_ok C8.g C8.w C8.q C8.n C8.y N8 (OKf_sL s3 N120 ao V) (.inr (by decide)) t8
  have C11 := C8.fq F11 (fun a c => by omega)
  have old : ∀ i, i < fs.length → xR h8 159 i = xR h 159 i ∧ (xR h 159 i = 168 ∨ 227 ≤ xR h 159 i) ∧ xR h 159 i + 6 ≤ xn h ∧ (xR h 159 i + 6 ≤ r9 ∨ r9 + 6 ≤ xR h 159 i) := fun i hi => by
    have q := form_at X hi
    have e : xR h8 159 i = xR h 159 i := by rw [rj i (by omega), F16.r]
    refine ⟨e, by omega, q.2.1, ?_⟩
    rcases Nat.eq_zero_or_pos i with i0 | i0
    · rw [i0, X.m.z]; omega
    · have dd := m8.d i fs.length i0 hi (by omega) (by rw [e]; exact (X.f i hi).1) (by rw [rk]; exact r0)
      rw [e, rk] at dd
      exact dd
  refine ⟨h6, r9, h8, h11, e6, e8, k6, g6, C8.g, e11, t11, ⟨C11, m8.fz F11.f, ?_, fun i hi => ?_, ?_, ?_, ?_, ?_, X.l1, by omega, by omega, ?_, ?_, ?_, m0⟩, (B6.gp G8 g6).fq F11 (fun x q => by omega), ?_, N8.fq F11 (by decide) (by omega) (by omega), by rw [F11.r _ (by decide)]; exact rk, r0⟩
  · rw [F11.1]; exact Nat.le_trans mx6 G8.1
  · obtain ⟨o1, o2, o3, o4⟩ := old i hi
    have e : xR h11 159 i = xR h 159 i := by rw [F11.r _ (by decide), o1]
    rw [e]
    refine ⟨(X.f i hi).1, ?_⟩
    have t1 : IsTr h6 (xR h 159 i) p (flOf (fs.getD i [])) := (X.f i hi).2.fr F16 (fun k hk => by omega)
    have t2 := t1.gp G8 (by rw [F16.n]; omega)
    exact t2.fq F11 (fun k hk c => by omega)
  · rw [F11.I _ (by omega), G8.I (by omega)]; exact t6
  · rw [F11.I _ (by omega), G8.I (by omega)]; exact k6
  · have s6 : IsN h6 162 3 [] := X.s.fr F16 (by decide) (by decide)
    exact (s6.gp G8 (by omega) (by decide)).fq F11 (by decide) (by omega) (by omega)
  · exact (N8.fq F11 (by decide) (by omega) (by omega)).nus
  · have mm := m8.m rfl fs.length X.l1 (by omega) (by rw [rk]; exact r0)
    rw [rk] at mm
    refine X.g.tr ((Fg.i (by unfold TgA; omega)).tr ((F6.q.fg (fun a k c => by unfold TgA; omega)).tr (G8.fg.tr (F11.fg (fun a k c => by unfold TgA; omega)))))
  · have := X.xn
    rw [F11.1]
    rw [F16.n] at xn8
    omega
  · have := X.xs
    rw [F11.2.1]
    rw [F16.s] at xs8
    omega
  · have N1 : LnS h6 a r s (d * 128 + base) := N.fq F16.q (fun x c1 c2 => by omega)
    exact (N1.gp G8 g6).fq F11 (fun x c1 c2 => by omega)
theorem mem_one {a : List Nat} {r : NN_} {s c k : Nat} : seg a r s c (k + 1) = (if PS a r s c = true then [sL a s c] else []) ++ seg a r s (c + 1) k := by
  rw [show k + 1 = 1 + k by omega, seg_app]
  congr 1
  split
  · next h => exact seg_one h
  · next h => exact seg_nil (fun v h1 h2 => by rw [show v = c by omega]; simpa using h)
theorem bundle_lp {h0 : AH} {b m s d base runs : Nat} {p : PR} {r : NN_} {a : List Nat} (N120 : a.length ≤ 120) (ao : ∀ y, y ∈ a → OKf y) (hr : runs ≤ 100) : ∀ k j fu left fs n (h : AH), j + k = 64 → k < fu → n ≤ runs → CtX h0 h b m p r fs n [] → BuS h a (r 0 + r 1 + r 2 + r 3) s d base → LnS h a r s (d * 128 + base) → (∀ i, j ≤ i → i < 64 → tl left i = (PS a r s (d * 128 + base + i) && alS p fs (sL a s (d * 128 + base + i)))) → ∃ h', X9_searchBundle_B67 fu 145 62 (nI runs) left (nI j) h = some (hwV (trL p runs fs n (seg a r s (d * 128 + base + j) k)).2.2.1, h') ∧ CtX h0 h' b m p r (trL p runs fs n (seg a r s (d * 128 + base + j) k)).1 (trL p runs fs n (seg a r s (d * 128 + base + j) k)).2.1 (trL p runs fs n (seg a r s (d * 128 + base + j) k)).2.2.2 ∧ BuS h' a (r 0 + r 1 + r 2 + r 3) s d base := by
  intro k
  induction k with
  | zero =>
    intro j fu left fs n h hj hf hn X B N bits
    obtain ⟨fu, rfl⟩ : ∃ q, fu = q + 1 := ⟨fu - 1, by omega⟩
    refine ⟨h, ?_, X, B⟩
    rw [X9_searchBundle_B67, if_pos (by rw [nI_lI (by omega) (by omega)]; omega)]; rfl
  | succ k ih =>
    intro j fu left fs n h hj hf hn X B N bits
    obtain ⟨fu, rfl⟩ : ∃ q, fu = q + 1 := ⟨fu - 1, by omega⟩
    rw [X9_searchBundle_B67, if_neg (by rw [nI_lI (by omega) (by omega)]; omega)]
    by_cases lz0 : left = lN 0
    · have sk : trL p runs fs n (seg a r s (d * 128 + base + j) (k + 1)) = (fs, n, 0, []) := trL_skip _ (fun l hl => by
        obtain ⟨v, v1, v2, v3, rfl⟩ := seg_mem hl
        have := bits (v - (d * 128 + base)) (by omega) (by omega)
        rw [lz0, tl_n0, show d * 128 + base + (v - (d * 128 + base)) = v by omega, v3, Bool.true_and] at this
        exact this.symm)
      refine ⟨h, ?_, by rw [sk]; exact X, B⟩
      rw [if_pos (cmp0.mpr lz0), sk]; rfl
    · rw [if_neg (fun q => lz0 (cmp0.mp q))]
      have nx : ∀ lf h', X9_searchBundle_B205 (X9_searchBundle_B67 fu) 145 62 (nI runs) lf (nI j) h' = X9_searchBundle_B67 fu 145 62 (nI runs) lf (nI (j + 1)) h' := fun lf h' => by
        unfold X9_searchBundle_B205
        rw [LT_e, nI_add]
      have bj := bits j (Nat.le_refl _) (by omega)
      rw [mem_one, show d * 128 + base + j + 1 = d * 128 + base + (j + 1) by omega]
      cases tj : tl left j
      · rw [if_pos ((shr_t (by omega)).mpr tj), nx]
        have sk : trL p runs fs n ((if PS a r s (d * 128 + base + j) = true then [sL a s (d * 128 + base + j)] else []) ++ seg a r s (d * 128 + base + (j + 1)) k) = trL p runs fs n (seg a r s (d * 128 + base + (j + 1)) k) := by
          rw [tj] at bj
          split
          · next hp =>
            rw [hp, Bool.true_and] at bj
            have tr0 : trL p runs fs n ([sL a s (d * 128 + base + j)] ++ seg a r s (d * 128 + base + (j + 1)) k) = trL p runs fs n (sL a s (d * 128 + base + j) :: seg a r s (d * 128 + base + (j + 1)) k) := rfl
            rw [tr0, trL, ← bj, if_neg (by decide)]
          · rfl
        rw [sk]
        exact ih (j + 1) fu left fs n h (by omega) (by omega) hn X B N (fun i h1 h2 => bits i (by omega) h2)
      · rw [if_neg (fun q => by rw [(shr_t (by omega)).mp q] at tj; exact nomatch tj)]
        rw [tj] at bj
        obtain ⟨pj, aj⟩ := (Bool.and_eq_true _ _).mp bj.symm
        rw [if_pos pj]
        have tr0 : trL p runs fs n ([sL a s (d * 128 + base + j)] ++ seg a r s (d * 128 + base + (j + 1)) k) = trL p runs fs n (sL a s (d * 128 + base + j) :: seg a r s (d * 128 + base + (j + 1)) k) := rfl
        rw [tr0, trL, if_pos aj, G_t X.c.g.c145, X.t]
        by_cases nr : n = runs
        · rw [if_pos (by rw [nr]), if_pos nr]
          exact ⟨h, rfl, X, B⟩
        · rw [if_neg (by rw [nI_eI (by omega) (by omega)]; exact nr), if_neg nr]
          obtain ⟨h6, r9, h8, h11, e6, e8, k6, g6, g8, e11, t11, X11, B11, N11, S11, rk, r0⟩ := try_set N120 ao X B N (by omega) pj (by omega)
          have g11 := X11.c.g
          have ob := outB_le (p := p) (f := flOf (sL a s (d * 128 + base + j)))
          rw [G_t X.c.g.c145, nI_add, LT_e, G_t X.c.g.i.c145, X.c.g.i.r145_0, G_t X.c.g.i.c146, X.c.g.i.r145_4, e6, BN_ok, G_t g6.c145, k6, e8, BN_ok, G_t g8.c145, g8.r145_4, e11, BN_ok, G_t t11.s.c, t11.V]
          by_cases o2 : outB p (flOf (sL a s (d * 128 + base + j))) = 2
          · rw [if_pos (by rw [o2]), if_pos o2]
            have l3 := S11.n
            obtain ⟨h12, e12, F12, N12⟩ := take_n X11.s.nus S11 l3 (by decide)
            unfold X9_searchBundle_B157
            refine ⟨h12, ?_, ?_, B11.fq F12.q (fun x q => by omega)⟩
            · rw [G_t g11.c145, g11.r145_5, G_t g11.c162, g11.r145_4, e12, BN_ok]; rfl
            · refine ⟨X11.c.fq F12.q (fun a c => by omega), X11.m.fz F12.q.f, by rw [F12.n]; exact X11.mx, fun i hi => ?_, by rw [F12.I _ (by decide)]; exact X11.t, by rw [F12.I _ (by decide)]; exact X11.k, N12, ?_, X11.l1, X11.ln, X11.n1, X11.g.tr (F12.q.fg (fun a k c => by unfold TgA; omega)), by rw [F12.n]; exact X11.xn, by rw [F12.s]; exact X11.xs, X11.m0⟩
              · have q := form_at X11 hi
                rw [F12.r]
                exact ⟨(X11.f i hi).1, (X11.f i hi).2.fr F12 (fun k hk => by omega)⟩
              · have u := X11.u
                unfold NuS at *
                simp only [F12.c, F12.z, F12.r]; exact u
          · rw [if_neg (by rw [nI_eI (by omega) (by omega)]; exact o2), if_neg o2, G_t t11.s.c]
            by_cases o0 : outB p (flOf (sL a s (d * 128 + base + j))) = 0
            · rw [if_pos (by rw [o0]; exact nI_0), if_pos o0, G_t g11.c145, X11.k, nI_add, LT_e]
              have ll : (fs ++ [sL a s (d * 128 + base + j)]).length = fs.length + 1 := by rw [List.length_append]; rfl
              have F15 : Fr (fun x => x = 145) h11 (pI h11 145 11 (nI (fs.length + 1))) := Fr.i rfl
              have ln := X.ln
              have X15 : CtX h0 (pI h11 145 11 (nI (fs.length + 1))) b m p r (fs ++ [sL a s (d * 128 + base + j)]) (n + 1) [] := by
                refine ⟨X11.c.fq F15.q (fun a c => by omega), X11.m.fz F15.q.f, X11.mx, fun i hi => ?_, by rw [xI_ne (by omega)]; exact X11.t, by rw [xI_self, ll], X11.s.fr F15 (by decide) (by decide), X11.u, by omega, by omega, X11.n1, X11.g.tr (Fg.i (by unfold TgA; omega)), X11.xn, X11.xs, X11.m0⟩
                rw [ll] at hi
                rw [getD_app2 (by omega)]
                by_cases ei : i < fs.length
                · have q := form_at X11 ei
                  rw [if_pos ei, xR_pI]
                  exact ⟨(X11.f i ei).1, (X11.f i ei).2.fr F15 (fun k hk => by omega)⟩
                · have : i = fs.length := by omega
                  subst this
                  rw [if_neg ei]
                  have mt := X11.m.t fs.length X.l1 (by omega) (by rw [rk]; exact r0)
                  rw [rk] at mt
                  refine ⟨by rw [xR_pI, rk]; exact r0, ?_⟩
                  rw [xR_pI, rk]
                  exact t11.fr F15 (fun k hk => by omega)
              have g15 := X15.c.g
              have t15 : IsTr (pI h11 145 11 (nI (fs.length + 1))) r9 p (flOf (sL a s (d * 128 + base + j))) := by
                have := (X15.f fs.length (by rw [ll]; omega)).2
                rw [xR_pI, rk, getD_app2 (Nat.le_refl _), if_neg (Nat.lt_irrefl _)] at this
                exact this
              have B15 := B11.fq F15.q (fun x q => by omega)
              have N15 : LnS (pI h11 145 11 (nI (fs.length + 1))) a r s (d * 128 + base) := N11.fq F15.q (fun x c1 c2 => by omega)
              obtain ⟨w, h18, e18, F18, v18⟩ := spoiled_ok g15 g15.l2 X15.c.w X15.c.q t15 X15.c.n X15.c.y
              have X18 := X15.fq F18 (fun a c => by omega)
              rw [G_t g15.c145, g15.r145_9, G_t g15.c180, g15.r145_2, e18, BN_ok, LT_e, nx]
              refine ih (j + 1) fu (left &&& w) _ (n + 1) h18 (by omega) (by omega) (by omega) X18 (B15.fq F18 (fun x q => by omega)) (N15.fq F18 (fun x c1 c2 => by omega)) (fun i h1 h2 => ?_)
              rw [tl_and, bits i (by omega) h2, (v18 i h2).2, alS_app]
              cases hp : PS a r s (d * 128 + base + i)
              · rfl
              · rw [N15 i h2 hp, Bool.true_and, Bool.true_and]
            · rw [if_neg (nI_ne0 (by omega) (by omega)), if_neg o0, nx]
              exact ih (j + 1) fu left fs (n + 1) h11 (by omega) (by omega) (by omega) X11 B11 N11 (fun i h1 h2 => bits i (by omega) h2)
