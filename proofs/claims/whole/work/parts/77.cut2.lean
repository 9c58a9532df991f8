theorem MoX.fz {A : Nat → Nat → Prop} {h h' : AH} {b : Nat} {p : PR} (F : Fz A h h') (n : ∀ a k, A a k → a < 227 ∧ (a = 195 → k = 16 ∨ k ≤ 2)) (C : MoX h b p) : MoX h' b p := by
  have lo := C.q.s.lo
  have e : ∀ k, ¬ (k = 16 ∨ k ≤ 2) → ¬ A 195 k := fun k hk c => hk ((n _ _ c).2 rfl)
  exact ⟨C.s.fz F, C.q.fz F (fun k j hk c => by have := (n _ _ c).1; omega), by rw [F.r _ (by decide)]; exact C.r4, by rw [F.I (e _ (by decide))]; exact C.l, by rw [F.I (e _ (by decide))]; exact C.S, by rw [F.I (e _ (by decide))]; exact C.K, by rw [F.I (e _ (by decide))]; exact C.A, by rw [F.I (e _ (by decide))]; exact C.B, C.n, C.x⟩
def CmA : Nat → Nat → Prop := fun a k => a = 195 ∧ k = 16 ∨ a = 199 ∨ a = 222 ∨ (203 ≤ a ∧ a ≤ 205) ∨ (210 ≤ a ∧ a ≤ 214)
theorem CmA_n {a k : Nat} (c : CmA a k) : a < 227 ∧ (a = 195 → k = 16 ∨ k ≤ 2) := by unfold CmA at c; omega
theorem cut_m {b : Nat} {p : PR} : ∀ i (l : List Nat) n (h : AH), i ≤ l.length → i < n → MoX h b p → xI h 195 16 = nI l.length → mL h 199 0 l → l.length ≤ 6 → (∀ d, d ∈ l → OKf d) → ∃ h2, X15_cut_B49 n 195 (nI i - nI 1) h = X15_cut_B148 195 h2 ∧ Fz CmA h h2 ∧ xI h2 195 16 = nI (cutL p i l).length ∧ mL h2 199 0 (cutL p i l) := by
  intro i
  induction i with
  | zero =>
    intro l n h hi hn C m6 mf l6 o
    obtain ⟨n, rfl⟩ : ∃ k, n = k + 1 := ⟨n - 1, by omega⟩
    refine ⟨h, ?_, Fz.rf, m6, mf⟩
    rw [X15_cut_B49, if_pos (by decide)]
  | succ i ih =>
    intro l n h hi hn C m6 mf l6 o
    obtain ⟨n, rfl⟩ : ∃ k, n = k + 1 := ⟨n - 1, by omega⟩
    have s1 : nI (i + 1) - nI 1 = nI i := by rw [pk_sub (by omega)]; rfl
    have el : (l.eraseIdx i).length = l.length - 1 := List.length_eraseIdx_of_lt (by omega)
    have o2 : ∀ d, d ∈ l.eraseIdx i → OKf d := fun d hd => o d (List.mem_of_mem_eraseIdx hd)
    obtain ⟨h1, e1, F1, v1⟩ := cut_cp (X15_cut_B49 n) C.s m6 mf l6 (by omega : i < l.length)
    have Fa : Fz CmA h h1 := F1.q.f.mo (fun a k q => by unfold CmA; omega)
    have C1 := C.fz Fa (fun a k c => CmA_n c)
    have z1 := C1.s.z222
    obtain ⟨h2, e2, F2, _, _⟩ := runs_m (k := 2) (i0 := 0) C1 (by decide) C1.s.c222 (by omega) (by omega) v1 o2 (by decide)
    have Fb : Fz CmA h h2 := Fa.tr (F2.q.f.mo (fun a k q => by unfold CmA; omega))
    have C2 := C.fz Fb (fun a k c => CmA_n c)
    have ob := outB_le (p := p) (f := flOf (l.eraseIdx i))
    have run : X15_cut_B49 (n + 1) 195 (nI (i + 1) - nI 1) h = if nI (outB p (flOf (l.eraseIdx i))) = nI 2 then G (xc h2 195 = 15) (LT (pI h2 195 16 (nI (l.eraseIdx i).length)) fun h5 => X15_cut_B119 (X15_cut_B49 n) FU 195 (nI i) (nI (l.eraseIdx i).length) (nI 0) h5) else X15_cut_B142 (X15_cut_B49 n) 195 (nI i) h2 := by
      rw [s1, X15_cut_B49, if_neg (nI_pos (by omega)), e1]
      unfold X15_cut_B94
      rw [G_t C1.s.c195, C1.s.r195_46, e2, BN_ok]
    by_cases eb : outB p (flOf (l.eraseIdx i)) = 2
    · have v2 : mL (pI h2 195 16 (nI (l.eraseIdx i).length)) 222 0 (l.eraseIdx i) := fun j hj => by rw [xI_ne (by omega), F2.I _ (by decide)]; exact v1 j hj
      obtain ⟨h3, e3, F3, v3⟩ := cut_bk (i := i) (X15_cut_B49 n) C2.s.i v2 (by omega)
      have Fc : Fz CmA h h3 := (Fb.tr (Fz.i (by unfold CmA; omega))).tr (F3.q.f.mo (fun a k q => by unfold CmA; omega))
      obtain ⟨h5, e5, F5, m5, f5⟩ := ih (l.eraseIdx i) n h3 (by omega) (by omega) (C.fz Fc (fun a k c => CmA_n c)) (by rw [F3.I _ (by decide), xI_self]) v3 (by omega) o2
      refine ⟨h5, ?_, Fc.tr F5, by rw [cutL, if_pos eb]; exact m5, by rw [cutL, if_pos eb]; exact f5⟩
      rw [run, if_pos (by rw [eb]), G_t C2.s.c195, LT_e, e3]
      unfold X15_cut_B142
      rw [LT_e, sub1]; exact e5
    · have m6' : xI h2 195 16 = nI l.length := by rw [F2.I _ (by decide), F1.I _ (by decide)]; exact m6
      have mf' : mL h2 199 0 l := fun j hj => by rw [F2.I _ (by decide), F1.I _ (by decide)]; exact mf j hj
      obtain ⟨h5, e5, F5, m5, f5⟩ := ih l n h2 (by omega) (by omega) C2 m6' mf' l6 o
      refine ⟨h5, ?_, Fb.tr F5, by rw [cutL, if_neg eb]; exact m5, by rw [cutL, if_neg eb]; exact f5⟩
      rw [run, if_neg (by rw [nI_eI (by omega) (by omega)]; exact eb)]
      unfold X15_cut_B142
      rw [LT_e, sub1]; exact e5
