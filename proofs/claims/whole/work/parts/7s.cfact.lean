theorem faB_e {B : BK} {r m k i : Nat} {y : Bool} (h : k ≠ 7 ∧ k ≠ 8 ∧ k ≠ 9 ∧ k ≠ 5 ∧ k ≠ 2) : faB B r m y k i = B k i := by unfold faB; rw [upB_n (by omega), upB_n (by omega), upB_n (by omega), upB_n (by omega), upB_n (by omega)]
theorem faB_2 {B : BK} {r m : Nat} {y : Bool} : faB B r m y 2 0 = B 2 0 + 1 := upB_s
theorem faB_5 {B : BK} {r m : Nat} {y : Bool} : faB B r m y 5 0 = if y = true then B 5 0 + 1 else B 5 0 := by unfold faB; rw [upB_n (by omega), upB_s]
theorem faB_n {B : BK} {r m k i : Nat} {y : Bool} (h : i ≠ B 2 0) (hk : k ≠ 5 ∧ k ≠ 2) : faB B r m y k i = B k i := by unfold faB; rw [upB_n (by omega), upB_n (by omega), upB_n (by omega), upB_n (by omega), upB_n (by omega)]
theorem faB_7 {B : BK} {r m : Nat} {y : Bool} : faB B r m y 7 (B 2 0) = r := by unfold faB; rw [upB_n (by omega), upB_n (by omega), upB_n (by omega), upB_n (by omega), upB_s]
theorem faB_8 {B : BK} {r m : Nat} {y : Bool} : faB B r m y 8 (B 2 0) = m := by unfold faB; rw [upB_n (by omega), upB_n (by omega), upB_n (by omega), upB_s]
theorem faB_9 {B : BK} {r m : Nat} {y : Bool} : faB B r m y 9 (B 2 0) = if y = true then B 5 0 + 1 else 0 := by unfold faB; rw [upB_n (by omega), upB_n (by omega), upB_s]
theorem WB_f {B : BK} {r m : Nat} {y : Bool} (w : WB B) (h : B 2 0 < 10) (hy : B 5 0 ≤ B 2 0) (hr : r < B 1 0) (hm : m < B 0 0) : WB (faB B r m y) := by
  have cg : ∀ c, WC B c → WC (faB B r m y) c := fun c q => q.cg (by rw [faB_e (by decide)]; exact Nat.le_refl _) (by rw [faB_e (by decide)]; exact Nat.le_refl _) (fun k hk => faB_e (by omega)) (fun i => faB_e (by omega)) (fun i => faB_e (by omega))
  have y5 : B 5 0 ≤ faB B r m y 5 0 ∧ faB B r m y 5 0 ≤ 10 := by
    rw [faB_5]
    cases y with
    | false => rw [if_neg (by decide)]; omega
    | true => rw [if_pos rfl]; omega
  refine ⟨w.m, w.r, by rw [faB_2]; omega, w.u, w.s, y5.2, w.k, fun i hi => ?_, fun i hi => ?_, fun i hi => ?_, fun i hi => cg _ (w.ru i hi), fun i hi => cg _ (w.se i hi), w.nw, fun i hi z k hk => ?_, w.sp, w.st, w.ne, w.no, w.er, w.ea, w.or, w.oa⟩
  · rw [faB_2] at hi
    rw [faB_e (k := 1) (by decide)]
    by_cases j : i = B 2 0
    · rw [j, faB_7]; exact hr
    · rw [faB_n j (by decide)]; exact w.fr i (by omega)
  · rw [faB_2] at hi
    rw [faB_e (k := 0) (by decide)]
    by_cases j : i = B 2 0
    · rw [j, faB_8]; exact hm
    · rw [faB_n j (by decide)]; exact w.fm i (by omega)
  · rw [faB_2] at hi
    by_cases j : i = B 2 0
    · rw [j, faB_9, faB_5]
      cases y with
      | false => exact Nat.zero_le _
      | true => exact Nat.le_refl _
    · rw [faB_n j (by decide)]; exact Nat.le_trans (w.fy i (by omega)) y5.1
  · rw [faB_e (by omega)]; exact w.nn i hi z k hk
theorem addFact_c {h : AH} {b r m : Nat} {B : BK} {y : Bool} (q : IsCB h b B) (hb : b = 2 ∨ b = 63) (h2 : B 2 0 < 10) (hy : B 5 0 ≤ B 2 0) (hr : r < B 1 0) (hm : m < B 0 0) : ∃ h', X0_addFact_f b (nI r) (nI m) (bI y) h = some ((), h') ∧ Fz (fun x k => x = b ∧ (k = 2 ∨ k = 5) ∨ x = b + 1 ∨ x = b + 2 ∨ x = b + 3) h h' ∧ IsCB h' b (faB B r m y) := by
  have s := q.s
  have ru := q.w.u
  have sn := q.w.s
  unfold X0_addFact_f
  rw [G_t s.c, q.f, if_neg (by rw [nI_eI (by omega) (by omega)]; omega), G_t s.c, s.r7, G_t s.c1, s.z1, G_gx (by omega) (by omega), nI_cl (by omega), LT_e]
  obtain ⟨h1, h1e⟩ : ∃ h1, h1 = pI h (b + 1) (B 2 0) (nI r) := ⟨_, rfl⟩
  have F1 : Fz (fun x k => x = b + 1) h h1 := by rw [h1e]; exact Fz.i rfl
  have s1 := s.fz F1
  rw [← h1e, G_t s1.c, s1.r8, G_t s1.c2, s1.z2, show xI h1 b 2 = nI (B 2 0) by rw [F1.I (by omega)]; exact q.f, G_gx (by omega) (by omega), nI_cl (by omega), LT_e]
  obtain ⟨h3, h3e⟩ : ∃ h3, h3 = pI h1 (b + 2) (B 2 0) (nI m) := ⟨_, rfl⟩
  have F3 : Fz (fun x k => x = b + 2) h1 h3 := by rw [h3e]; exact Fz.i rfl
  have s3 := s1.fz F3
  have f3 : xI h3 b 2 = nI (B 2 0) := by rw [F3.I (by omega), F1.I (by omega)]; exact q.f
  have y3 : xI h3 b 5 = nI (B 5 0) := by rw [F3.I (by omega), F1.I (by omega)]; exact q.y
  obtain ⟨v, hv⟩ : ∃ v, v = (if y = true then nI 1 <<< (nI (B 5 0) &&& 31) else nI 0) := ⟨_, rfl⟩
  obtain ⟨h4, h4e⟩ : ∃ h4, h4 = pI h3 (b + 3) (B 2 0) v := ⟨_, rfl⟩
  have F4 : Fz (fun x k => x = b + 3) h3 h4 := by rw [h4e]; exact Fz.i rfl
  have s4 := s3.fz F4
  obtain ⟨h5, h5e⟩ : ∃ h5, h5 = pI h4 b 2 (nI (B 2 0 + 1)) := ⟨_, rfl⟩
  have F5 : Fz (fun x k => x = b ∧ k = 2) h4 h5 := by rw [h5e]; exact Fz.i ⟨rfl, rfl⟩
  have s5 := s4.fz F5
  have y5 : xI h5 b 5 = nI (B 5 0) := by rw [F5.I (by omega), F4.I (by omega)]; exact y3
  obtain ⟨h6, h6e⟩ : ∃ h6, h6 = pI h5 b 5 (nI (faB B r m y 5 0)) := ⟨_, rfl⟩
  have hd : X0_addFact_B52 b (bI y) v (nI (B 2 0)) (b + 3) h3 = if y = true then some ((), h6) else some ((), h5) := by
    unfold X0_addFact_B52
    rw [G_t s3.c3, s3.z3, G_gx (by omega) (by omega), nI_cl (by omega), LT_e, ← h4e, G_t s4.c, show xI h4 b 2 = nI (B 2 0) by rw [F4.I (by omega)]; exact f3, nI_add, LT_e, ← h5e, ifB, G_t s5.c, y5, nI_add, LT_e, h6e, faB_5]
    cases y <;> rfl
  have A : Fz (fun x k => x = b ∧ (k = 2 ∨ k = 5) ∨ x = b + 1 ∨ x = b + 2 ∨ x = b + 3) h h5 := (((F1.mo (fun x k q => by omega)).tr (F3.mo (fun x k q => by omega))).tr (F4.mo (fun x k q => by omega))).tr (F5.mo (fun x k q => by omega))
  have hd2 : (if bI y = 0 then X0_addFact_B52 b (bI y) (nI 0) (xI h3 b 2) (xR h3 b 9) h3 else G (xc h3 b = 0) (X0_addFact_B52 b (bI y) ((nI 1) <<< ((xI h3 b 5) &&& 31)) (xI h3 b 2) (xR h3 b 9) h3)) = if y = true then some ((), h6) else some ((), h5) := by
    rw [← hd, ifB, hv, f3, y3, s3.r9, G_t s3.c]
    cases y <;> rfl
  rw [← h3e, G_t s3.c, hd2]
  have fin : ∀ h', Fz (fun x k => x = b ∧ (k = 2 ∨ k = 5) ∨ x = b + 1 ∨ x = b + 2 ∨ x = b + 3) h h' → (∀ x k, ¬ (x = b ∧ k = 5) → xI h' x k = xI h5 x k) → xI h' b 5 = nI (faB B r m y 5 0) → IsCB h' b (faB B r m y) := by
    intro h' F I5 e5
    have cl : ∀ a i, b + 8 ≤ a ∧ a + 2 ≤ b + 55 → IsCl h a B i → IsCl h' a (faB B r m y) i := fun a i ha q => (q.fz F (by omega) (fun k => by omega)).cg (fun k hk => faB_e (by omega)) (fun j => faB_e (by omega)) (fun j => faB_e (by omega))
    refine ⟨s.fz F, WB_f q.w h2 hy hr hm, by rw [F.I (by omega)]; exact q.m, by rw [F.I (by omega)]; exact q.r, by rw [I5 _ _ (by omega), h5e, xI_self, faB_2], by rw [F.I (by omega)]; exact q.u, by rw [F.I (by omega)]; exact q.sn, e5, by rw [F.I (by omega)]; exact q.k, by rw [F.I (by omega)]; exact q.ne, by rw [F.I (by omega)]; exact q.no, fun i hi => ?_, fun i hi => ?_, fun i hi => ?_, fun i hi => ?_, fun i hi => ?_, fun i hi => by rw [F.I (by omega)]; exact q.ah i hi, fun i hi => by rw [F.I (by omega)]; exact q.be i hi⟩
    · rw [faB_2] at hi
      rw [I5 _ _ (by omega), F5.I (by omega), F4.I (by omega), F3.I (by omega), h1e]
      by_cases j : i = B 2 0
      · rw [j, xI_self, faB_7]
      · rw [xI_ne (by omega), faB_n j (by decide)]; exact q.fw i (by omega)
    · rw [faB_2] at hi
      rw [I5 _ _ (by omega), F5.I (by omega), F4.I (by omega), h3e]
      by_cases j : i = B 2 0
      · rw [j, xI_self, faB_8]
      · rw [xI_ne (by omega), F1.I (by omega), faB_n j (by decide)]; exact q.fm i (by omega)
    · rw [faB_2] at hi
      rw [I5 _ _ (by omega), F5.I (by omega), h4e]
      by_cases j : i = B 2 0
      · rw [j, xI_self, faB_9, hv]
        cases y <;> rfl
      · rw [xI_ne (by omega), F3.I (by omega), F1.I (by omega), faB_n j (by decide)]; exact q.fb i (by omega)
    · rw [faB_e (by decide)] at hi; exact cl _ _ (by omega) (q.ru i hi)
    · rw [faB_e (by decide)] at hi; exact cl _ _ (by omega) (q.se i hi)
  cases y with
  | false => exact ⟨h5, rfl, A, fin h5 A (fun _ _ _ => rfl) (by rw [y5, faB_5, if_neg (by decide)])⟩
  | true =>
    have F6 : Fz (fun x k => x = b ∧ k = 5) h5 h6 := by rw [h6e]; exact Fz.i ⟨rfl, rfl⟩
    exact ⟨h6, rfl, A.tr (F6.mo (fun x k q => by omega)), fin h6 (A.tr (F6.mo (fun x k q => by omega))) (fun x k g => F6.I g) (by rw [h6e, xI_self])⟩
