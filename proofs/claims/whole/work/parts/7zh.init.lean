/-- the reference's new book: the tables of its cells -/
def mbC : List Nat := [12, 17, 19, 16, 16, 16, 16, 16, 16, 19, 16, 16, 16, 16, 16, 16, 16, 16, 16]
def mbZ : List Nat := [28, 14, 14, 14, 10, 10, 10, 10, 10, 10, 6, 6, 6, 16, 16, 3, 3, 3, 3]
def mbK : List Nat := [0, 8, 9, 10, 11, 12, 13, 14, 15, 16, 17, 18, 19, 20, 21, 24, 25, 26, 27]
def mbS (i : Nat) : Nat := (mbZ.take i).sum
def MbI (h0 : AH) (N i : Nat) (h : AH) : Prop := (Ge h0 h) ∧ (xn h = N + i) ∧ (xs h = xs h0 + mbS i) ∧ (∀ j, j < i → xc h (N + j) = mbC.getD j 0) ∧ (∀ j, j < i → xz h (N + j) = mbZ.getD j 0) ∧ (∀ j, 1 ≤ j → j < i → xR h N (mbK.getD j 0) = N + j) ∧ (∀ j, j < i → ∀ k, xI h (N + j) k = 0)
theorem MbI.g {h0 : AH} {N i : Nat} {h : AH} (q_ : MbI h0 N i h) : Ge h0 h := q_.1
theorem MbI.n {h0 : AH} {N i : Nat} {h : AH} (q_ : MbI h0 N i h) : xn h = N + i := q_.2.1
theorem MbI.s {h0 : AH} {N i : Nat} {h : AH} (q_ : MbI h0 N i h) : xs h = xs h0 + mbS i := q_.2.2.1
theorem MbI.c {h0 : AH} {N i : Nat} {h : AH} (q_ : MbI h0 N i h) : ∀ j, j < i → xc h (N + j) = mbC.getD j 0 := q_.2.2.2.1
theorem MbI.z {h0 : AH} {N i : Nat} {h : AH} (q_ : MbI h0 N i h) : ∀ j, j < i → xz h (N + j) = mbZ.getD j 0 := q_.2.2.2.2.1
theorem MbI.r {h0 : AH} {N i : Nat} {h : AH} (q_ : MbI h0 N i h) : ∀ j, 1 ≤ j → j < i → xR h N (mbK.getD j 0) = N + j := q_.2.2.2.2.2.1
theorem MbI.v {h0 : AH} {N i : Nat} {h : AH} (q_ : MbI h0 N i h) : ∀ j, j < i → ∀ k, xI h (N + j) k = 0 := q_.2.2.2.2.2.2
theorem mb_stp {h0 h : AH} {N i : Nat} (hN : xn h0 = N) (v : MbI h0 N i h) (h1 : 1 ≤ i) (h19 : i < 19) : ∃ h', (∀ K : AH → Option (Unit × AH), (LT (xn h) fun r => LT (pN h (mbC.getD i 0) (nI (mbZ.getD i 0)).toNatClampNeg) fun h3 => G (xc h3 N = 12) <| LT (pR h3 N (mbK.getD i 0) r) K) = K h') ∧ MbI h0 N (i + 1) h' := by
  have kd : ∀ i, i < 19 → ∀ j, j < i → mbK.getD j 0 ≠ mbK.getD i 0 := by decide +kernel
  have zs : ∀ i, i < 19 → mbS (i + 1) = mbS i + mbZ.getD i 0 := by decide +kernel
  have zb : ∀ i, i < 19 → (nI (mbZ.getD i 0)).toNatClampNeg = mbZ.getD i 0 := by decide +kernel
  have c0 : xc h N = 12 := v.c 0 (by omega)
  have vn := v.n
  have ne : ∀ j, j < i → ¬ N + j = xn h := fun j hj => by omega
  have ne0 : ¬ N = xn h := by omega
  rw [zb i h19]
  refine ⟨pR (pN h (mbC.getD i 0) (mbZ.getD i 0)) N (mbK.getD i 0) (xn h), fun K => ?_, ?_⟩
  · rw [LT_e, LT_e, G_t (by rw [xc_pN, if_neg ne0]; exact c0), LT_e]
  · refine ⟨⟨?_, fun a ha => ?_⟩, ?_, ?_, fun j hj => ?_, fun j hj => ?_, fun j hj hj2 => ?_, fun j hj k => ?_⟩
    · rw [xn_pR, xn_pN, vn, hN]; omega
    · have na : ¬ a = xn h := by omega
      have e := v.g.2 a (by omega)
      refine ⟨?_, ?_, funext fun k => ?_, funext fun k => ?_, funext fun k => ?_⟩
      · rw [xc_pR, xc_pN, if_neg na]; exact e.1
      · rw [xz_pR, xz_pN, if_neg na]; exact e.2.1
      · rw [xR_pR, if_neg (by omega), xR_pN, if_neg na]; exact congrFun e.2.2.1 k
      · rw [xI_pR, xI_pN, if_neg na]; exact congrFun e.2.2.2.1 k
      · rw [xL_pR, xL_pN, if_neg na]; exact congrFun e.2.2.2.2 k
    · rw [xn_pR, xn_pN, vn]; omega
    · rw [xs_pR, xs_pN, v.s, zs i h19]; omega
    · rw [xc_pR, xc_pN]
      by_cases q : j = i
      · rw [if_pos (by omega), q]
      · rw [if_neg (by omega)]; exact v.c j (by omega)
    · rw [xz_pR, xz_pN]
      by_cases q : j = i
      · rw [if_pos (by omega), q]
      · rw [if_neg (by omega)]; exact v.z j (by omega)
    · rw [xR_pR]
      by_cases q : j = i
      · rw [if_pos ⟨rfl, by rw [q]⟩]; omega
      · rw [if_neg (fun z => kd i h19 j (by omega) z.2), xR_pN, if_neg ne0]; exact v.r j hj (by omega)
    · rw [xI_pR, xI_pN]
      by_cases q : j = i
      · rw [if_pos (by omega)]
      · rw [if_neg (by omega)]; exact v.v j (by omega) k
theorem mb_0 {h0 : AH} {N : Nat} (hN : xn h0 = N) : MbI h0 N 1 (pN h0 12 28) := by
  refine ⟨Ge.pN, by rw [xn_pN, hN], by rw [xs_pN]; rfl, fun j hj => ?_, fun j hj => ?_, fun j hj hj2 => absurd hj2 (by omega), fun j hj k => ?_⟩
  · have : j = 0 := by omega
    subst this
    rw [xc_pN, if_pos (by omega)]; rfl
  · have : j = 0 := by omega
    subst this
    rw [xz_pN, if_pos (by omega)]; rfl
  · rw [xI_pN, if_pos (by omega)]
theorem init_mb {h : AH} : ∃ h', X12_init_f (xn h) (pN h 12 28) = some ((), h') ∧ MbI h (xn h) 19 h' := by
  generalize hN : xn h = N
  have v1 := mb_0 hN
  obtain ⟨h2, e2, v2⟩ := mb_stp hN v1 (by decide) (by decide)
  obtain ⟨h3, e3, v3⟩ := mb_stp hN v2 (by decide) (by decide)
  obtain ⟨h4, e4, v4⟩ := mb_stp hN v3 (by decide) (by decide)
  obtain ⟨h5, e5, v5⟩ := mb_stp hN v4 (by decide) (by decide)
  obtain ⟨h6, e6, v6⟩ := mb_stp hN v5 (by decide) (by decide)
  obtain ⟨h7, e7, v7⟩ := mb_stp hN v6 (by decide) (by decide)
  obtain ⟨h8, e8, v8⟩ := mb_stp hN v7 (by decide) (by decide)
  obtain ⟨h9, e9, v9⟩ := mb_stp hN v8 (by decide) (by decide)
  obtain ⟨h10, e10, v10⟩ := mb_stp hN v9 (by decide) (by decide)
  obtain ⟨h11, e11, v11⟩ := mb_stp hN v10 (by decide) (by decide)
  obtain ⟨h12, e12, v12⟩ := mb_stp hN v11 (by decide) (by decide)
  obtain ⟨h13, e13, v13⟩ := mb_stp hN v12 (by decide) (by decide)
  obtain ⟨h14, e14, v14⟩ := mb_stp hN v13 (by decide) (by decide)
  obtain ⟨h15, e15, v15⟩ := mb_stp hN v14 (by decide) (by decide)
  obtain ⟨h16, e16, v16⟩ := mb_stp hN v15 (by decide) (by decide)
  obtain ⟨h17, e17, v17⟩ := mb_stp hN v16 (by decide) (by decide)
  obtain ⟨h18, e18, v18⟩ := mb_stp hN v17 (by decide) (by decide)
  obtain ⟨h19, e19, v19⟩ := mb_stp hN v18 (by decide) (by decide)
  refine ⟨h19, ?_, v19⟩
  unfold X12_init_f
  have c0 : xc (pN h 12 28) N ≠ 99 := by
    have : xc (pN h 12 28) N = 12 := v1.c 0 (by decide)
    rw [this]; decide
  rw [G_t c0]
  refine (e2 _).trans ?_
  refine (e3 _).trans ?_
  refine (e4 _).trans ?_
  refine (e5 _).trans ?_
  refine (e6 _).trans ?_
  refine (e7 _).trans ?_
  refine (e8 _).trans ?_
  refine (e9 _).trans ?_
  refine (e10 _).trans ?_
  refine (e11 _).trans ?_
  refine (e12 _).trans ?_
  refine (e13 _).trans ?_
  refine (e14 _).trans ?_
  refine (e15 _).trans ?_
  refine (e16 _).trans ?_
  refine (e17 _).trans ?_
  refine (e18 _).trans ?_
  exact e19 _
def B0_ : BK := fun _ _ => 0
theorem WB_0 : WB B0_ := by
  refine ⟨Nat.zero_le _, Nat.zero_le _, Nat.zero_le _, Nat.zero_le _, Nat.zero_le _, Nat.zero_le _, by decide, fun i hi => absurd hi (Nat.not_lt_zero _), fun i hi => absurd hi (Nat.not_lt_zero _), fun i hi => absurd hi (Nat.not_lt_zero _), fun i hi => absurd hi (Nat.not_lt_zero _), fun i hi => absurd hi (Nat.not_lt_zero _), fun i hi => absurd hi (Nat.not_lt_zero _), fun i hi => absurd hi (Nat.not_lt_zero _), fun i hi => absurd hi (Nat.not_lt_zero _), fun i hi => absurd hi (Nat.not_lt_zero _), Nat.zero_le _, Nat.zero_le _, fun i hi => absurd hi (Nat.not_lt_zero _), fun i hi => absurd hi (Nat.not_lt_zero _), fun i hi => absurd hi (Nat.not_lt_zero _), fun i hi => absurd hi (Nat.not_lt_zero _)⟩
theorem mbs_i {h0 h : AH} {N : Nat} (v : MbI h0 N 19 h) (lo : 227 ≤ N) : MBS h N := ⟨lo, v.c 0 (by decide), v.r 1 (by decide) (by decide), v.r 2 (by decide) (by decide), v.r 3 (by decide) (by decide), v.r 4 (by decide) (by decide), v.r 5 (by decide) (by decide), v.r 6 (by decide) (by decide), v.r 7 (by decide) (by decide), v.r 8 (by decide) (by decide), v.r 9 (by decide) (by decide), v.r 10 (by decide) (by decide), v.r 11 (by decide) (by decide), v.r 12 (by decide) (by decide), v.r 13 (by decide) (by decide), v.r 14 (by decide) (by decide), v.r 15 (by decide) (by decide), v.r 16 (by decide) (by decide), v.r 17 (by decide) (by decide), v.r 18 (by decide) (by decide), v.c 1 (by decide), v.c 2 (by decide), v.c 3 (by decide), v.c 4 (by decide), v.c 5 (by decide), v.c 6 (by decide), v.c 7 (by decide), v.c 8 (by decide), v.c 9 (by decide), v.c 10 (by decide), v.c 11 (by decide), v.c 12 (by decide), v.c 13 (by decide), v.c 14 (by decide), v.c 15 (by decide), v.c 16 (by decide), v.c 17 (by decide), v.c 18 (by decide), v.z 1 (by decide), v.z 2 (by decide), v.z 3 (by decide), v.z 4 (by decide), v.z 5 (by decide), v.z 6 (by decide), v.z 7 (by decide), v.z 8 (by decide), v.z 9 (by decide), v.z 10 (by decide), v.z 11 (by decide), v.z 12 (by decide), v.z 13 (by decide), v.z 14 (by decide), v.z 15 (by decide), v.z 16 (by decide), v.z 17 (by decide), v.z 18 (by decide)⟩
theorem mb_dr {h : AH} {N : Nat} (s : MBS h N) (z : ∀ j, j < 19 → ∀ k, xI h (N + j) k = 0) (r : xR h 195 5 = N) : DrM h N B0_ [] := by
  have z0 : ∀ k, xI h N k = nI 0 := fun k => z 0 (by decide) k
  refine ⟨⟨s, WB_0, z0 _, z0 _, z0 _, z0 _, z0 _, z0 _, z0 _, z0 _, z0 _, fun i hi => absurd hi (Nat.not_lt_zero _), fun i hi => absurd hi (Nat.not_lt_zero _), fun i hi => absurd hi (Nat.not_lt_zero _), fun i hi => absurd hi (Nat.not_lt_zero _), fun i hi => absurd hi (Nat.not_lt_zero _), fun i hi => absurd hi (Nat.not_lt_zero _), fun i hi => absurd hi (Nat.not_lt_zero _), fun i hi => absurd hi (Nat.not_lt_zero _), fun i hi => absurd hi (Nat.not_lt_zero _), fun c hc => ?_, fun c hc => ?_, fun i hi => absurd hi (Nat.not_lt_zero _), fun i hi => absurd hi (Nat.not_lt_zero _), fun i hi => absurd hi (Nat.not_lt_zero _), fun i hi => absurd hi (Nat.not_lt_zero _)⟩, ⟨r, s, z0 _, Nat.zero_le _, fun i hi => absurd hi (Nat.not_lt_zero _), fun i hi => absurd hi (Nat.not_lt_zero _), fun i hi => absurd hi (Nat.not_lt_zero _), fun i hi => absurd hi (Nat.not_lt_zero _)⟩, rfl, fun i hi => absurd hi (Nat.not_lt_zero _), Nat.le_refl _, fun c hc _ => ⟨z 13 (by decide) c, z 14 (by decide) c⟩⟩
  · have : c < 0 ∨ (10 ≤ c ∧ c < 10 + 0) := hc
    omega
  · have : c < 0 ∨ (10 ≤ c ∧ c < 10 + 0) := hc
    omega
