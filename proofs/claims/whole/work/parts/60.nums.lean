theorem has_ok {h : AH} {a z v : Nat} {l : List Nat} (n : IsN h a z l) (o : ∀ d, d ∈ l → d < 1000) (hv : v < 1000) : X4_has_f a (nI v) h = some (bI (decide (v ∈ l)), h) := by
  have hx := n.x
  have hn := n.n
  have od : ∀ k, k < l.length → l.getD k 0 < 1000 := fun k hk => o _ (by rw [List.getD_eq_getElem?_getD, List.getElem?_eq_getElem hk]; exact List.getElem_mem hk)
  have loop : ∀ m k, k ≤ l.length → l.length - k < m → X4_has_B2 m a (nI v) (nI k) h = some (bI (anyF (fun i => l.getD i 0 == v) k l.length), h) := by
    intro m
    induction m with
    | zero => intro k _ h; exact absurd h (Nat.not_lt_zero _)
    | succ m ih =>
      intro k hk hm
      rcases Nat.lt_or_ge k l.length with hk | hk
      · have hk' : ¬ l.length ≤ k := by omega
        have := od k hk
        rw [anyF_step hk]
        simp (disch := omega) only [X4_has_B2, LT_e, G_T, BN_ok, if_true, if_false, nI_add, pk_mul, G_gx, nI_cl, nI_lI, nI_tI, nI_eI, n.c, n.s, hk', n.r, n.c1, n.z1, n.v, ih (k + 1) (by omega) (by omega)]
        by_cases e : l.getD k 0 = v
        · rw [if_pos e, e]; simp [bI]
        · have : (l.getD k 0 == v) = false := by simpa using e
          rw [if_neg e, this]; simp
      · have : k = l.length := by omega
        subst this
        rw [anyF_end (Nat.le_refl _)]
        simp (disch := omega) only [X4_has_B2, LT_e, G_T, BN_ok, if_true, if_false, nI_add, pk_mul, G_gx, nI_cl, nI_lI, nI_tI, nI_eI, n.c, n.s, Nat.le_refl]
        rfl
  unfold X4_has_f
  rw [loop FU 0 (Nat.zero_le _) (FU_gt (by omega)), anyF_0]
  congr 3
  rw [Bool.eq_iff_iff, List.any_eq_true, decide_eq_true_iff]
  constructor
  · rintro ⟨i, hi, e⟩
    have hi := List.mem_range.mp hi
    rw [beq_iff_eq] at e
    rw [← e, List.getD_eq_getElem?_getD, List.getElem?_eq_getElem hi]; exact List.getElem_mem hi
  · intro q
    obtain ⟨i, hi, e⟩ := List.getElem_of_mem q
    exact ⟨i, List.mem_range.mpr hi, by rw [List.getD_eq_getElem?_getD, List.getElem?_eq_getElem hi]; simpa using e⟩
/-- where a number goes in -/
def insP (l : List Nat) (v : Nat) : Nat → Nat
  | 0 => 0
  | i + 1 => if l.getD i 0 ≤ v then i + 1 else insP l v i
def insL (l : List Nat) (v : Nat) : List Nat := l.take (insP l v l.length) ++ v :: l.drop (insP l v l.length)
theorem insP_le {l : List Nat} {v : Nat} : ∀ i, insP l v i ≤ i := by
  intro i
  induction i with
  | zero => exact Nat.le_refl 0
  | succ i ih => unfold insP; split <;> omega
theorem insL_len {l : List Nat} {v : Nat} : (insL l v).length = l.length + 1 := by
  have := insP_le (l := l) (v := v) l.length
  unfold insL
  rw [List.length_append, List.length_take, List.length_cons, List.length_drop]
  omega
theorem insL_get {l : List Nat} {v : Nat} (j : Nat) : (insL l v).getD j 0 = if j < insP l v l.length then l.getD j 0 else if j = insP l v l.length then v else l.getD (j - 1) 0 := by
  have hp := insP_le (l := l) (v := v) l.length
  unfold insL
  generalize insP l v l.length = k at hp
  rw [List.getD_eq_getElem?_getD]
  by_cases h1 : j < k
  · rw [if_pos h1, List.getElem?_append_left (by rw [List.length_take]; omega), List.getElem?_take_of_lt h1, ← List.getD_eq_getElem?_getD]
  · rw [if_neg h1, List.getElem?_append_right (by rw [List.length_take]; omega), List.length_take, Nat.min_eq_left hp]
    by_cases h2 : j = k
    · rw [if_pos h2, h2, Nat.sub_self]; rfl
    · rw [if_neg h2, show j - k = (j - k - 1) + 1 by omega, List.getElem?_cons_succ, List.getElem?_drop, show k + (j - k - 1) = j - 1 by omega, ← List.getD_eq_getElem?_getD]
theorem insL_mem {l : List Nat} {v d : Nat} (q : d ∈ insL l v) : d = v ∨ d ∈ l := by
  unfold insL at q
  rw [List.mem_append, List.mem_cons] at q
  rcases q with q | q | q
  · exact .inr (List.mem_of_mem_take q)
  · exact .inl q
  · exact .inr (List.mem_of_mem_drop q)
theorem insert_ok {h : AH} {a z v : Nat} {l : List Nat} (n : IsN h a z l) (o : ∀ d, d ∈ l → d < 1000) (hv : v < 1000) (hz : l.length < z) : ∃ h', X4_insert_f a (nI v) h = some ((), h') ∧ Fr (fun x => x = a ∨ x = a + 1) h h' ∧ IsN h' a z (insL l v) := by
  have hx := n.x
  have hn := n.n
  have od : ∀ k, k < l.length → l.getD k 0 < 1000 := fun k hk => o _ (by rw [List.getD_eq_getElem?_getD, List.getElem?_eq_getElem hk]; exact List.getElem_mem hk)
  have loop : ∀ i m h', i < m → i ≤ l.length → Fr (fun x => x = a + 1) h h' → (∀ j, j < i → xI h' (a + 1) j = nI (l.getD j 0)) → (∀ j, i < j → j ≤ l.length → xI h' (a + 1) j = nI (l.getD (j - 1) 0)) → ∃ h2, X4_insert_B18 m a (nI v) (nI i) h' = X4_insert_B54 a (nI v) (nI (insP l v i)) h2 ∧ Fr (fun x => x = a + 1) h h2 ∧ (∀ j, j < insP l v i → xI h2 (a + 1) j = nI (l.getD j 0)) ∧ (∀ j, insP l v i < j → j ≤ l.length → xI h2 (a + 1) j = nI (l.getD (j - 1) 0)) := by
    intro i
    induction i with
    | zero =>
      intro m h' hm _ F lo hi
      obtain ⟨m, rfl⟩ : ∃ k, m = k + 1 := ⟨m - 1, by omega⟩
      refine ⟨h', ?_, F, lo, hi⟩
      rw [X4_insert_B18, if_pos (by decide)]; rfl
    | succ i ih =>
      intro m h' hm hl F lo hi
      obtain ⟨m, rfl⟩ : ∃ k, m = k + 1 := ⟨m - 1, by omega⟩
      have e1 : nI (i + 1) - nI 1 = nI i := by rw [pk_sub (by omega)]; rfl
      have n0 : ¬ i + 1 ≤ 0 := by omega
      have := od i (by omega)
      by_cases q : l.getD i 0 ≤ v
      · have e2 : insP l v (i + 1) = i + 1 := by unfold insP; rw [if_pos q]
        rw [e2]
        refine ⟨h', ?_, F, lo, hi⟩
        simp (disch := omega) only [X4_insert_B18, nI_z, LT_e, G_T, BN_ok, if_true, if_false, nI_add, pk_mul, G_gx, nI_cl, nI_lI, nI_tI, nI_eI, n0, F.c, F.z, F.r, n.c, n.r, n.c1, n.z1, e1, lo i (by omega), q]
      · have e2 : insP l v (i + 1) = insP l v i := by rw [insP, if_neg q]
        rw [e2]
        obtain ⟨h2, e3, F2, lo2, hi2⟩ := ih m (pI h' (a + 1) (i + 1) (nI (l.getD i 0))) (by omega) (by omega) (F.tr (Fr.i rfl)) (fun j hj => by rw [xI_ne (by omega)]; exact lo j (by omega)) (fun j hj hj2 => by
          by_cases e : j = i + 1
          · subst e; rw [xI_self]; rfl
          · rw [xI_ne (by omega)]; exact hi j (by omega) hj2)
        refine ⟨h2, ?_, F2, lo2, hi2⟩
        have e4 : nI (i + 1) + -1 = nI i := pk_m1 i
        simp (disch := omega) only [X4_insert_B18, nI_z, LT_e, G_T, BN_ok, if_true, if_false, nI_add, pk_mul, G_gx, nI_cl, nI_lI, nI_tI, nI_eI, n0, F.c, F.z, F.r, n.c, n.r, n.c1, n.z1, e1, lo i (by omega), q, e4]
        exact e3
  obtain ⟨h2, e1, F, lo, hi⟩ := loop l.length FU h (FU_gt (by omega)) (Nat.le_refl _) Fr.rf n.v (fun j h1 h2 => by omega)
  have hp := insP_le (l := l) (v := v) l.length
  have e0 : X4_insert_f a (nI v) h = X4_insert_B18 FU a (nI v) (nI l.length) h := by
    unfold X4_insert_f
    rw [G_t n.c, n.r, G_t n.c1, n.s, n.z1, if_neg (by rw [nI_eI (by omega) (by omega)]; omega), G_t n.c, LT_e]
  have ne : ¬ (a = a + 1) := by omega
  have F2 : Fr (fun x => x = a ∨ x = a + 1) h (pI (pI h2 (a + 1) (insP l v l.length) (nI v)) a 1 (nI (l.length + 1))) := ((F.mo (fun x q => .inr q)).tr (Fr.i (.inr rfl))).tr (Fr.i (.inl rfl))
  refine ⟨_, ?_, F2, by rw [F2.c]; exact n.c, by rw [F2.r]; exact n.r, by rw [F2.c]; exact n.c1, by rw [F2.z]; exact n.z1, by rw [insL_len]; omega, hx, by rw [xI_self, insL_len], fun j hj => ?_⟩
  · rw [e0, e1]
    unfold X4_insert_B54
    have s2 : xI h2 a 1 = nI l.length := by rw [F.I _ ne]; exact n.s
    simp (disch := omega) only [LT_e, G_T, BN_ok, if_true, if_false, nI_add, pk_mul, G_gx, nI_cl, nI_lI, nI_tI, nI_eI, xc_pI, xz_pI, xR_pI, xL_pI, xc_pL, xz_pL, xR_pL, xI_pL, xn_pI, xn_pL, F.c, F.z, F.r, n.c, n.r, n.c1, n.z1, xI_ne (by omega : ¬ (a = a + 1 ∧ 1 = insP l v l.length)), s2]
  · rw [insL_len] at hj
    rw [xI_ne (by omega), insL_get]
    by_cases h1 : j < insP l v l.length
    · rw [if_pos h1, xI_ne (by omega)]; exact lo j h1
    · rw [if_neg h1]
      by_cases h2 : j = insP l v l.length
      · rw [if_pos h2, h2, xI_self]
      · rw [if_neg h2, xI_ne (by omega)]; exact hi j (by omega) (by omega)
