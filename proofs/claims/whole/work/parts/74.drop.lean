theorem getD_drop {l : List Nat} {i j : Nat} : (l.eraseIdx i).getD j 0 = if j < i then l.getD j 0 else l.getD (j + 1) 0 := by
  rw [List.getD_eq_getElem?_getD, List.getElem?_eraseIdx]
  split
  · rw [List.getD_eq_getElem?_getD]
  · rw [List.getD_eq_getElem?_getD]
theorem dropAt_ok {h : AH} {a z i : Nat} {l : List Nat} (n : IsN h a z l) (hi : i < l.length) : ∃ h', X4_dropAt_f a (nI i) h = some ((), h') ∧ Fr (fun x => x = a ∨ x = a + 1) h h' ∧ IsN h' a z (l.eraseIdx i) := by
  have hx := n.x
  have hn := n.n
  have el : (l.eraseIdx i).length = l.length - 1 := List.length_eraseIdx_of_lt hi
  have F0 : Fr (fun x => x = a ∨ x = a + 1) h (pI h a 1 (nI (l.length - 1))) := Fr.i (.inl rfl)
  obtain ⟨h', ⟨_, F, q, v, w⟩, e⟩ := loopE (F := fun n k h' => X4_dropAt_B25 n a (nI k) h') (E := fun h' => some ((), h')) (l.length - 1) (fun k h' => i ≤ k ∧ Fr (fun x => x = a ∨ x = a + 1) h h' ∧ xI h' a 1 = nI (l.length - 1) ∧ (∀ j, j < k → j < l.length - 1 → xI h' (a + 1) j = nI ((l.eraseIdx i).getD j 0)) ∧ ∀ j, k ≤ j → j < l.length → xI h' (a + 1) j = nI (l.getD j 0)) (k := i) (by omega) (by omega) (h := pI h a 1 (nI (l.length - 1))) ⟨Nat.le_refl _, F0, xI_self, fun j h1 h2 => by rw [xI_ne (by omega), getD_drop, if_pos h1]; exact n.v j (by omega), fun j h1 h2 => by rw [xI_ne (by omega)]; exact n.v j h2⟩
    (by
      rintro m k h' hk ⟨hki, F, q, v, w⟩
      have c0 : xc h' a = 4 := by rw [F.c]; exact n.c
      have c1 : xc h' (a + 1) = 16 := by rw [F.c]; exact n.c1
      have z1 : xz h' (a + 1) = z := by rw [F.z]; exact n.z1
      have r0 : xR h' a 0 = a + 1 := by rw [F.r]; exact n.r
      · have cl1 : xI h' (a + 1) (nI (k + 1)).toNatClampNeg = nI (l.getD (k + 1) 0) := by rw [nI_cl (by omega)]; exact w (k + 1) (by omega) (by omega)
        refine ⟨pI h' (a + 1) k (nI (l.getD (k + 1) 0)), ⟨by omega, F.tr (Fr.i (.inr rfl)), by rw [xI_ne (by omega)]; exact q, fun j h1 h2 => ?_, fun j h1 h2 => ?_⟩, ?_⟩
        · by_cases e : j = k
          · rw [e, xI_self, getD_drop, if_neg (by omega)]
          · rw [xI_ne (by omega)]; exact v j (by omega) h2
        · rw [xI_ne (by omega)]; exact w j (by omega) h2
        · show X4_dropAt_B25 (m + 1) a (nI k) h' = _
          rw [X4_dropAt_B25]
          rw [G_t c0, q, if_neg (by rw [nI_lI (by omega) (by omega)]; omega), G_t c0, r0, G_t c1, z1, nI_add, G_gx (by omega) (by omega), G_gx (by omega) (by omega), LT_e, LT_e, cl1, nI_cl (by omega)]
      )
    (by
      rintro m h' ⟨_, F, q, v, w⟩
      have c0 : xc h' a = 4 := by rw [F.c]; exact n.c
      show X4_dropAt_B25 (m + 1) a (nI (l.length - 1)) h' = _
      rw [X4_dropAt_B25]
      rw [G_t c0, q, if_pos (by rw [nI_lI (by omega) (by omega)]; omega)])
  refine ⟨h', ?_, F, by rw [F.c]; exact n.c, by rw [F.r]; exact n.r, by rw [F.c]; exact n.c1, by rw [F.z]; exact n.z1, by rw [el]; omega, hx, by rw [el]; exact q, fun j hj => v j (by omega) (by omega)⟩
  unfold X4_dropAt_f
  rw [if_neg (nI_pos (by omega)), G_t n.c, n.s, if_pos (by rw [nI_tI (by omega) (by omega)]; exact hi), G_t n.c, pk_sub (by omega), LT_e]
  exact e
theorem isBroken_c {h : AH} {b na z : Nat} {p : PR} {l : List Nat} (g : SG h) (w : IsW h 62 b p) (q : IsCB h b p.1) (n : 1 ≤ pl p) (x : pl p ≤ 6) (nu : IsN h na z l) (o : ∀ d, d ∈ l → OKf d) (hn : na + 1 < 151 ∨ (158 < na ∧ na + 1 < 174)) : ∃ h', X11_isBroken_f 1 62 na h = some (bI (outB p (flOf l) == 2), h') ∧ Fq (fun x => (152 ≤ x ∧ x ≤ 154) ∨ (174 ≤ x ∧ x ≤ 179) ∨ (182 ≤ x ∧ x ≤ 182 + 5)) h h' := by
  obtain ⟨h1, e1, F1, t1⟩ := play_ok g w q n x nu o hn g.t1
  have g1 := g.fq F1
  have ob := outB_le (p := p) (f := flOf l)
  refine ⟨h1, ?_, F1⟩
  unfold X11_isBroken_f
  rw [G_t g.c1, g.r1_8, G_t g.c145, g.r1_9, e1, BN_ok, G_t g1.c1, g1.r1_9, G_t g1.c182, t1.V]
  by_cases e : outB p (flOf l) = 2
  · rw [if_pos (by rw [e]), e]; rfl
  · have : (outB p (flOf l) == 2) = false := by simpa using e
    rw [if_neg (by rw [nI_eI (by omega) (by omega)]; exact e), this]; rfl
