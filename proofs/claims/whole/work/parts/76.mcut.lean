def dnI (i k : Nat) : Nat := if k ≤ i then k else k - 1
theorem cut_cp {h : AH} {l : List Nat} {i : Nat} (k49 : Nat → Int32 → AH → Option (Int32 × AH)) (g : SG h) (m6 : xI h 195 16 = nI l.length) (mf : mL h 199 0 l) (l6 : l.length ≤ 6) (hi : i < l.length) : ∃ h', X15_cut_B57 k49 FU 195 (nI i) (nI 0) (nI 0) h = X15_cut_B94 k49 195 (nI i) (nI (l.eraseIdx i).length) h' ∧ Fr (fun x => x = 222) h h' ∧ mL h' 222 0 (l.eraseIdx i) := by
  have el : (l.eraseIdx i).length = l.length - 1 := List.length_eraseIdx_of_lt hi
  obtain ⟨h', ⟨F, v⟩, e⟩ := loopE (F := fun n k h' => X15_cut_B57 k49 n 195 (nI i) (nI (dnI i k)) (nI k) h') (E := fun h' => X15_cut_B94 k49 195 (nI i) (nI (dnI i l.length)) h') l.length (fun k h' => Fr (fun x => x = 222) h h' ∧ ∀ j, j < dnI i k → xI h' 222 j = nI ((l.eraseIdx i).getD j 0)) (Nat.zero_le _) (by omega) (h := h) ⟨Fr.rf, fun j hj => by unfold dnI at hj; rw [if_pos (Nat.zero_le _)] at hj; exact absurd hj (Nat.not_lt_zero _)⟩
    (by
      rintro n k h' hk ⟨F, v⟩
      have g' := g.fr F
      have m6' : xI h' 195 16 = nI l.length := by rw [F.I _ (by decide)]; exact m6
      have d6 : dnI i k < 6 := by unfold dnI; split <;> omega
      have vk : xI h' 199 (nI k).toNatClampNeg = nI (l.getD k 0) := by
        have := mf k hk
        rw [Nat.zero_add] at this
        rw [nI_cl (by omega), F.I _ (by decide)]; exact this
      have next : ∀ x h2, X15_cut_B88 k49 (X15_cut_B57 k49 n) 195 (nI i) x (nI k) h2 = X15_cut_B57 k49 n 195 (nI i) x (nI (k + 1)) h2 := fun x h2 => by
        unfold X15_cut_B88
        rw [LT_e, nI_add]
      show ∃ h2, _ ∧ X15_cut_B57 k49 (n + 1) 195 (nI i) (nI (dnI i k)) (nI k) h' = X15_cut_B57 k49 n 195 (nI i) (nI (dnI i (k + 1))) (nI (k + 1)) h2
      rw [X15_cut_B57]
      rw [G_t g'.c195, m6', if_neg (by rw [nI_lI (by omega) (by omega)]; omega)]
      by_cases e : k = i
      · have ed : dnI i (k + 1) = dnI i k := by unfold dnI; rw [if_neg (by omega), if_pos (by omega)]; rfl
        rw [if_pos (by rw [e]), next, ed]
        exact ⟨h', ⟨F, v⟩, rfl⟩
      · have ed : dnI i (k + 1) = dnI i k + 1 := by unfold dnI; split <;> split <;> omega
        have ev : (l.eraseIdx i).getD (dnI i k) 0 = l.getD k 0 := by
          rw [getD_drop]
          unfold dnI
          by_cases q : k ≤ i
          · rw [if_pos q, if_pos (by omega)]
          · rw [if_neg q, if_neg (by omega), show k - 1 + 1 = k by omega]
        rw [if_neg (by rw [nI_eI (by omega) (by omega)]; exact e), G_t g'.c195, g'.r195_20, G_t g'.c199, g'.z199, G_gx (by omega) (by omega), g'.r195_46, G_t g'.c222, g'.z222, G_gx (by omega) (by omega), LT_e, nI_add, LT_e, next, vk, ed, nI_cl (by omega)]
        refine ⟨_, ⟨F.tr (Fr.i rfl), fun j hj => ?_⟩, rfl⟩
        by_cases q : j = dnI i k
        · rw [q, xI_self, ev]
        · rw [xI_ne (by omega)]; exact v j (by omega))
    (by
      rintro n h' ⟨F, v⟩
      have g' := g.fr F
      have m6' : xI h' 195 16 = nI l.length := by rw [F.I _ (by decide)]; exact m6
      show X15_cut_B57 k49 (n + 1) 195 (nI i) (nI (dnI i l.length)) (nI l.length) h' = _
      rw [X15_cut_B57]
      rw [G_t g'.c195, m6', if_pos (by rw [nI_lI (by omega) (by omega)]; omega)])
  have ed : dnI i l.length = (l.eraseIdx i).length := by rw [el]; unfold dnI; rw [if_neg (by omega)]
  rw [ed] at e v
  exact ⟨h', e, F, fun j hj => by rw [Nat.zero_add]; exact v j hj⟩
theorem cut_bk {h : AH} {l : List Nat} {i : Nat} (k49 : Nat → Int32 → AH → Option (Int32 × AH)) (g : SG h) (ml : mL h 222 0 l) (l6 : l.length ≤ 6) : ∃ h', X15_cut_B119 k49 FU 195 (nI i) (nI l.length) (nI 0) h = X15_cut_B142 k49 195 (nI i) h' ∧ Fr (fun x => x = 199) h h' ∧ mL h' 199 0 l := by
  obtain ⟨h', ⟨F, v⟩, e⟩ := loopE (F := fun n k h' => X15_cut_B119 k49 n 195 (nI i) (nI l.length) (nI k) h') (E := fun h' => X15_cut_B142 k49 195 (nI i) h') l.length (fun k h' => Fr (fun x => x = 199) h h' ∧ ∀ j, j < k → xI h' 199 j = nI (l.getD j 0)) (Nat.zero_le _) (by omega) (h := h) ⟨Fr.rf, fun j hj => absurd hj (Nat.not_lt_zero _)⟩
    (by
      rintro n k h' hk ⟨F, v⟩
      have g' := g.fr F
      have vk : xI h' 222 (nI k).toNatClampNeg = nI (l.getD k 0) := by
        have := ml k hk
        rw [Nat.zero_add] at this
        rw [nI_cl (by omega), F.I _ (by decide)]; exact this
      show ∃ h2, _ ∧ X15_cut_B119 k49 (n + 1) 195 (nI i) (nI l.length) (nI k) h' = X15_cut_B119 k49 n 195 (nI i) (nI l.length) (nI (k + 1)) h2
      rw [X15_cut_B119]
      rw [if_neg (by rw [nI_lI (by omega) (by omega)]; omega), G_t g'.c195, g'.r195_46, G_t g'.c222, g'.z222, G_gx (by omega) (by omega), g'.r195_20, G_t g'.c199, g'.z199, G_gx (by omega) (by omega), LT_e, nI_add, LT_e, vk, nI_cl (by omega)]
      refine ⟨_, ⟨F.tr (Fr.i rfl), fun j hj => ?_⟩, rfl⟩
      by_cases q : j = k
      · rw [q, xI_self]
      · rw [xI_ne (by omega)]; exact v j (by omega))
    (by
      rintro n h' ⟨F, v⟩
      show X15_cut_B119 k49 (n + 1) 195 (nI i) (nI l.length) (nI l.length) h' = _
      rw [X15_cut_B119, if_pos (by rw [nI_lI (by omega) (by omega)]; omega)])
  exact ⟨h', e, F, fun j hj => by rw [Nat.zero_add]; exact v j hj⟩
