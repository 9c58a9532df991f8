/-! ALL FALLS of the purse, the reference's sets -/
def thg (p : PR) (k : Nat) : Nat := if k = 0 ∨ k = 3 then p.1 4 0 else p.1 0 0
def tkL (k w t n : Nat) : List Nat := (List.range' t n).map fun t => 100 * k + 10 * w + t
def whL (p : PR) (k w n : Nat) : List Nat := (List.range' w n).flatMap fun w => tkL k w 0 (pl p)
def kdL (p : PR) (r : NN_) (k n : Nat) : List Nat := (List.range' k n).flatMap fun k => if r k = 0 then [] else whL p k 0 (thg p k)
def alF (p : PR) (r : NN_) : List Nat := kdL p r 0 4
theorem tkL_s {k w t n : Nat} : tkL k w t (n + 1) = (100 * k + 10 * w + t) :: tkL k w (t + 1) n := rfl
theorem whL_s {p : PR} {k w n : Nat} : whL p k w (n + 1) = tkL k w 0 (pl p) ++ whL p k (w + 1) n := by
  unfold whL; rw [List.range'_succ, List.flatMap_cons]
theorem kdL_s {p : PR} {r : NN_} {k n : Nat} : kdL p r k (n + 1) = (if r k = 0 then [] else whL p k 0 (thg p k)) ++ kdL p r (k + 1) n := by
  unfold kdL; rw [List.range'_succ, List.flatMap_cons]
theorem tkL_len {k w t n : Nat} : (tkL k w t n).length = n := by unfold tkL; rw [List.length_map, List.length_range']
theorem whL_len {p : PR} {k : Nat} : ∀ n w, (whL p k w n).length = n * pl p := by
  intro n
  induction n with
  | zero => intro w; rw [Nat.zero_mul]; rfl
  | succ n ih => intro w; rw [whL_s, List.length_append, tkL_len, ih, Nat.succ_mul, Nat.add_comm]
theorem thg_le {p : PR} (w : WB p.1) (k : Nat) : thg p k ≤ if k = 0 ∨ k = 3 then 6 else 4 := by
  unfold thg; split
  · exact w.s
  · exact w.m
theorem alF_len {p : PR} {r : NN_} (w : WB p.1) (hx : pl p ≤ 6) : (alF p r).length ≤ 120 := by
  have b : ∀ k, (if r k = 0 then [] else whL p k 0 (thg p k)).length ≤ if k = 0 ∨ k = 3 then 36 else 24 := fun k => by
    have := thg_le w k
    split
    · split <;> exact Nat.zero_le _
    · rw [whL_len]
      split
      · next c => rw [if_pos c] at this; exact Nat.mul_le_mul this hx
      · next c => rw [if_neg c] at this; exact Nat.mul_le_mul this hx
  unfold alF
  rw [kdL_s, kdL_s, kdL_s, kdL_s, List.length_append, List.length_append, List.length_append, List.length_append]
  have b0 : (if r 0 = 0 then [] else whL p 0 0 (thg p 0)).length ≤ 36 := b 0
  have b1 : (if r (0 + 1) = 0 then [] else whL p (0 + 1) 0 (thg p (0 + 1))).length ≤ 24 := b (0 + 1)
  have b2 : (if r (0 + 1 + 1) = 0 then [] else whL p (0 + 1 + 1) 0 (thg p (0 + 1 + 1))).length ≤ 24 := b (0 + 1 + 1)
  have b3 : (if r (0 + 1 + 1 + 1) = 0 then [] else whL p (0 + 1 + 1 + 1) 0 (thg p (0 + 1 + 1 + 1))).length ≤ 36 := b (0 + 1 + 1 + 1)
  have b4 : (kdL p r (0 + 1 + 1 + 1 + 1) 0).length = 0 := rfl
  omega
theorem alF_mem {p : PR} {r : NN_} {d : Nat} (h : d ∈ alF p r) : ∃ k w t, d = 100 * k + 10 * w + t ∧ k < 4 ∧ r k ≠ 0 ∧ w < thg p k ∧ t < pl p := by
  unfold alF kdL at h
  rw [List.mem_flatMap] at h
  obtain ⟨k, hk, h⟩ := h
  have hk := List.mem_range'_1.mp hk
  split at h
  · exact absurd h List.not_mem_nil
  · next c =>
    unfold whL at h
    rw [List.mem_flatMap] at h
    obtain ⟨w, hw, h⟩ := h
    have hw := List.mem_range'_1.mp hw
    unfold tkL at h
    rw [List.mem_map] at h
    obtain ⟨t, ht, h⟩ := h
    have ht := List.mem_range'_1.mp ht
    exact ⟨k, w, t, h.symm, by omega, c, by omega, by omega⟩
theorem alF_ok {p : PR} {r : NN_} (w : WB p.1) (hx : pl p ≤ 6) {d : Nat} (h : d ∈ alF p r) : OKf d ∧ r (d / 100) ≠ 0 := by
  obtain ⟨k, c, t, rfl, hk, hr, hc, ht⟩ := alF_mem h
  have := thg_le w k
  have e : (100 * k + 10 * c + t) / 100 = k := by
    split at this <;> omega
  refine ⟨?_, by rw [e]; exact hr⟩
  unfold OKf
  split at this <;> omega
/-- the reference's list of all falls -/
def AlM (h : AH) (L : List Nat) : Prop := xI h 195 36 = nI L.length ∧ mL h 217 0 L
def AlA : Nat → Nat → Prop := fun a k => a = 195 ∧ k = 36 ∨ a = 217
def MaX (h : AH) (b : Nat) (p : PR) (r : NN_) : Prop := (MoX h b p) ∧ (∀ k, k < 4 → xI h 198 k = nI (r k)) ∧ (r 0 + r 1 + r 2 + r 3 ≤ 3)
theorem MaX.c {h : AH} {b : Nat} {p : PR} {r : NN_} (q_ : MaX h b p r) : MoX h b p := q_.1
theorem MaX.u {h : AH} {b : Nat} {p : PR} {r : NN_} (q_ : MaX h b p r) : ∀ k, k < 4 → xI h 198 k = nI (r k) := q_.2.1
theorem MaX.x {h : AH} {b : Nat} {p : PR} {r : NN_} (q_ : MaX h b p r) : r 0 + r 1 + r 2 + r 3 ≤ 3 := q_.2.2
theorem MaX.fz {A : Nat → Nat → Prop} {h h' : AH} {b : Nat} {p : PR} {r : NN_} (F : Fz A h h') (n : ∀ a k, A a k → a < 227 ∧ a ≠ 198 ∧ (a = 195 → k = 36 ∨ k = 42 ∨ k = 43 ∨ k ≤ 2)) (C : MaX h b p r) : MaX h' b p r := by
  have lo := C.c.q.s.lo
  have e : ∀ k, ¬ (k = 36 ∨ k = 42 ∨ k = 43 ∨ k ≤ 2) → ¬ A 195 k := fun k hk c => hk ((n _ _ c).2.2 rfl)
  have M := C.c
  exact ⟨⟨M.s.fz F, M.q.fz F (fun k j hk c => by have := (n _ _ c).1; omega), by rw [F.r _ (by decide)]; exact M.r4, by rw [F.I (e _ (by decide))]; exact M.l, by rw [F.I (e _ (by decide))]; exact M.S, by rw [F.I (e _ (by decide))]; exact M.K, by rw [F.I (e _ (by decide))]; exact M.A, by rw [F.I (e _ (by decide))]; exact M.B, M.n, M.x⟩, fun k hk => by rw [F.I (fun c => (n _ _ c).2.1 rfl)]; exact C.u k hk, C.x⟩
theorem AlA_n {a k : Nat} (c : AlA a k) : a < 227 ∧ a ≠ 198 ∧ (a = 195 → k = 36 ∨ k = 42 ∨ k = 43 ∨ k ≤ 2) := by unfold AlA at c; omega
theorem r_le {r : NN_} (x : r 0 + r 1 + r 2 + r 3 ≤ 3) {k : Nat} (hk : k < 4) : r k ≤ 3 := by
  have : k = 0 ∨ k = 1 ∨ k = 2 ∨ k = 3 := by omega
  rcases this with rfl | rfl | rfl | rfl <;> omega
theorem thg_m {h : AH} {b k : Nat} {p : PR} (M : MoX h b p) (hk : k < 4) : X15_things_f 195 (nI k) h = some (nI (thg p k), h) := by
  unfold X15_things_f thg X15_things_B9
  by_cases e0 : k = 0
  · rw [if_pos (by rw [e0]; exact nI_0), if_pos (.inl e0), G_t M.s.c195, M.r4, G_t M.q.s.c, M.q.sn]
  · rw [if_neg (nI_ne0 (by omega) (by omega))]
    by_cases e3 : k = 3
    · rw [if_pos (by rw [e3]), if_pos (.inr e3), G_t M.s.c195, M.r4, G_t M.q.s.c, M.q.sn]
    · rw [if_neg (by rw [nI_eI (by omega) (by omega)]; exact e3), if_neg (by omega), G_t M.s.c195, M.r4, G_t M.q.s.c, M.q.m]
theorem all_tick {b k w : Nat} {p : PR} {r : NN_} (K7 : Nat → Int32 → AH → Option (Unit × AH)) (K14 : Nat → Int32 → Int32 → AH → Option (Unit × AH)) : ∀ j t n (h : AH) L, t + j = pl p → j < n → MaX h b p r → AlM h L → (L ++ tkL k w t j).length ≤ 120 → ∃ h', X15_allFalls_B34 K7 K14 n 195 (nI k) (nI w) (nI t) h = X15_allFalls_B78 K7 K14 195 (nI k) (nI w) h' ∧ Fz AlA h h' ∧ AlM h' (L ++ tkL k w t j) := by
  intro j
  induction j with
  | zero =>
    intro t n h L ht hn C q hl
    obtain ⟨n, rfl⟩ : ∃ q, n = q + 1 := ⟨n - 1, by omega⟩
    have hx := C.c.x
    refine ⟨h, ?_, Fz.rf, by rw [show L ++ tkL k w t 0 = L from List.append_nil L]; exact q⟩
    rw [X15_allFalls_B34]
    rw [G_t C.c.s.c195, C.c.l, if_pos (by rw [nI_lI (by omega) (by omega)]; omega)]
  | succ j ih =>
    intro t n h L ht hn C q hl
    obtain ⟨n, rfl⟩ : ∃ q, n = q + 1 := ⟨n - 1, by omega⟩
    have hx := C.c.x
    have s := C.c.s
    rw [tkL_s, ← List.singleton_append, ← List.append_assoc] at hl ⊢
    have l120 : L.length < 120 := by rw [List.length_append, List.length_append] at hl; have : [100 * k + 10 * w + t].length = 1 := rfl; omega
    have cl : (nI L.length).toNatClampNeg = L.length := nI_cl (by omega)
    have F3 : Fz AlA h (pI (pI h 217 L.length (nI (100 * k + 10 * w + t))) 195 36 (nI (L.length + 1))) := (Fz.i (by unfold AlA; omega)).tr (Fz.i (by unfold AlA; omega))
    have q3 : AlM (pI (pI h 217 L.length (nI (100 * k + 10 * w + t))) 195 36 (nI (L.length + 1))) (L ++ [100 * k + 10 * w + t]) := ⟨by rw [xI_self, List.length_append]; rfl, fun i hi => by rw [xI_ne (by omega)]; exact mL_app q.2 i hi⟩
    obtain ⟨h4, e4, F4, q4⟩ := ih (t + 1) n _ _ (by omega) (by omega) (C.fz F3 (fun a k c => AlA_n c)) q3 hl
    refine ⟨h4, ?_, F3.tr F4, q4⟩
    rw [X15_allFalls_B34]
    rw [G_t s.c195, C.c.l, if_neg (by rw [nI_lI (by omega) (by omega)]; omega), G_t s.c195, s.r195_37, G_t s.c217, q.1, s.z217, G_gx (by omega) (by omega), pk_mul, pk_mul, nI_add, nI_add, cl, LT_e, G_t s.i.c195, xI_ne (by omega), q.1, nI_add, LT_e, nI_add, LT_e]
    exact e4
theorem all_which {b k : Nat} {p : PR} {r : NN_} (K7 : Nat → Int32 → AH → Option (Unit × AH)) (hk : k < 4) (hr : r k ≠ 0) : ∀ j w n (h : AH) L, w + j = thg p k → j < n → MaX h b p r → AlM h L → (L ++ whL p k w j).length ≤ 120 → ∃ h', X15_allFalls_B14 K7 n 195 (nI k) (nI w) h = K7 195 (nI (k + 1)) h' ∧ Fz AlA h h' ∧ AlM h' (L ++ whL p k w j) := by
  intro j
  induction j with
  | zero =>
    intro w n h L ht hn C q hl
    obtain ⟨n, rfl⟩ : ∃ q, n = q + 1 := ⟨n - 1, by omega⟩
    have := thg_le C.c.q.w k
    have t6 : thg p k ≤ 6 := by split at this <;> omega
    refine ⟨h, ?_, Fz.rf, by rw [show L ++ whL p k w 0 = L from List.append_nil L]; exact q⟩
    rw [X15_allFalls_B14]
    rw [G_t C.c.s.c195, thg_m C.c hk, BN_ok, if_pos (by rw [nI_lI (by omega) (by omega)]; omega)]
    unfold X15_allFalls_B84
    rw [LT_e, nI_add]
  | succ j ih =>
    intro w n h L ht hn C q hl
    obtain ⟨n, rfl⟩ : ∃ q, n = q + 1 := ⟨n - 1, by omega⟩
    have := thg_le C.c.q.w k
    have t6 : thg p k ≤ 6 := by split at this <;> omega
    have hx := C.c.x
    have rk := r_le C.x hk
    have s := C.c.s
    rw [whL_s, ← List.append_assoc] at hl ⊢
    obtain ⟨h3, e3, F3, q3⟩ := all_tick (k := k) (w := w) K7 (X15_allFalls_B14 K7 n) (pl p) 0 FU h L (by omega) (FU_gt (by omega)) C q (by rw [List.length_append] at hl; omega)
    obtain ⟨h4, e4, F4, q4⟩ := ih (w + 1) n h3 _ (by omega) (by omega) (C.fz F3 (fun a k c => AlA_n c)) q3 hl
    refine ⟨h4, ?_, F3.tr F4, q4⟩
    have u1 : xI h 198 (nI k).toNatClampNeg = nI (r k) := by rw [nI_cl (by omega)]; exact C.u k hk
    rw [X15_allFalls_B14]
    rw [G_t s.c195, thg_m C.c hk, BN_ok, if_neg (by rw [nI_lI (by omega) (by omega)]; omega), G_t s.c195, s.r195_19, G_t s.c198, s.z198, G_gx (by omega) (by omega), u1, if_neg (by rw [nI_z, nI_lI (by omega) (by omega)]; omega), e3]
    unfold X15_allFalls_B78
    rw [LT_e, nI_add]; exact e4
theorem all_kind {b : Nat} {p : PR} {r : NN_} : ∀ j k n (h : AH) L, k + j = 4 → j < n → MaX h b p r → AlM h L → (L ++ kdL p r k j).length ≤ 120 → ∃ h', X15_allFalls_B7 n 195 (nI k) h = some ((), h') ∧ Fz AlA h h' ∧ AlM h' (L ++ kdL p r k j) := by
  intro j
  induction j with
  | zero =>
    intro k n h L hk hn C q hl
    obtain ⟨n, rfl⟩ : ∃ q, n = q + 1 := ⟨n - 1, by omega⟩
    refine ⟨h, ?_, Fz.rf, by rw [show L ++ kdL p r k 0 = L from List.append_nil L]; exact q⟩
    rw [X15_allFalls_B7, if_pos (by rw [nI_lI (by omega) (by omega)]; omega)]
  | succ j ih =>
    intro k n h L hk hn C q hl
    obtain ⟨n, rfl⟩ : ∃ q, n = q + 1 := ⟨n - 1, by omega⟩
    have := thg_le C.c.q.w k
    have t6 : thg p k ≤ 6 := by split at this <;> omega
    have s := C.c.s
    rw [kdL_s, ← List.append_assoc] at hl ⊢
    rw [X15_allFalls_B7, if_neg (by rw [nI_lI (by omega) (by omega)]; omega)]
    by_cases hr : r k = 0
    · rw [if_pos hr, List.append_nil] at hl ⊢
      obtain ⟨h4, e4, F4, q4⟩ := ih (k + 1) n h L (by omega) (by omega) C q hl
      refine ⟨h4, ?_, F4, q4⟩
      have u1 : xI h 198 (nI k).toNatClampNeg = nI (r k) := by rw [nI_cl (by omega)]; exact C.u k (by omega)
      have b84 : X15_allFalls_B84 (X15_allFalls_B7 n) 195 (nI k) h = some ((), h4) := by
        unfold X15_allFalls_B84
        rw [LT_e, nI_add]; exact e4
      have fu : FU = 3999999 + 1 := by decide
      rw [fu, X15_allFalls_B14]
      rw [G_t s.c195, thg_m C.c (by omega), BN_ok, b84, G_t s.c195, s.r195_19, G_t s.c198, s.z198, G_gx (by omega) (by omega), u1, hr]
      split
      · rfl
      · rw [if_pos (by rw [nI_z, nI_lI (by omega) (by omega)]; omega)]
    · rw [if_neg hr] at hl ⊢
      obtain ⟨h3, e3, F3, q3⟩ := all_which (X15_allFalls_B7 n) (by omega : k < 4) hr (thg p k) 0 FU h L (by omega) (FU_gt (by omega)) C q (by rw [List.length_append] at hl; omega)
      obtain ⟨h4, e4, F4, q4⟩ := ih (k + 1) n h3 _ (by omega) (by omega) (C.fz F3 (fun a k c => AlA_n c)) q3 hl
      refine ⟨h4, ?_, F3.tr F4, q4⟩
      rw [e3]; exact e4
theorem allFalls_m {h : AH} {b : Nat} {p : PR} {r : NN_} (C : MaX h b p r) : ∃ h', X15_allFalls_f 195 h = some ((), h') ∧ Fz AlA h h' ∧ AlM h' (alF p r) := by
  have F1 : Fz AlA h (pI h 195 36 (nI 0)) := Fz.i (by unfold AlA; omega)
  obtain ⟨h4, e4, F4, q4⟩ := all_kind 4 0 FU _ [] (by omega) (FU_gt (by omega)) (C.fz F1 (fun a k c => AlA_n c)) ⟨xI_self, fun i hi => absurd hi (Nat.not_lt_zero _)⟩ (alF_len C.c.q.w C.c.x)
  refine ⟨h4, ?_, F1.tr F4, q4⟩
  unfold X15_allFalls_f
  rw [G_t C.c.s.c195, LT_e]; exact e4
theorem inPu_m {h : AH} {b : Nat} {p : PR} {r : NN_} (C : MaX h b p r) : X15_inPurse_f 195 h = some (nI (r 0 + r 1 + r 2 + r 3), h) := by
  have s := C.c.s
  have u : ∀ k, k < 4 → xI h 198 (nI k).toNatClampNeg = nI (r k) := fun k hk => by rw [nI_cl (by omega)]; exact C.u k hk
  unfold X15_inPurse_f
  rw [G_t s.c195, s.r195_19, G_t s.c198, s.z198, G_gx (by omega) (by omega), G_gx (by omega) (by omega), G_gx (by omega) (by omega), G_gx (by omega) (by omega), u 0 (by omega), u 1 (by omega), u 2 (by omega), u 3 (by omega), nI_add, nI_add, nI_add]
/-- too many -/
def tooB (p : PR) (r : NN_) : Bool := decide (60 < (alF p r).length) && decide (r 0 + r 1 + r 2 + r 3 = 3)
theorem isTooMany_m {h : AH} {b : Nat} {p : PR} {r : NN_} (C : MaX h b p r) : ∃ h', X15_isTooMany_f 195 h = some (bI (tooB p r), h') ∧ Fz AlA h h' ∧ AlM h' (alF p r) := by
  obtain ⟨h1, e1, F1, q1⟩ := allFalls_m C
  have C1 := C.fz F1 (fun a k c => AlA_n c)
  have len := alF_len (r := r) C.c.q.w C.c.x
  have x := C.x
  refine ⟨h1, ?_, F1, q1⟩
  unfold X15_isTooMany_f tooB
  rw [G_t C.c.s.c195, e1, BN_ok, G_t C1.c.s.c195, q1.1]
  by_cases e : 60 < (alF p r).length
  · rw [if_neg (by rw [nI_lI (by omega) (by omega)]; omega), G_t C1.c.s.c195, inPu_m C1, BN_ok, decide_eq_true e]
    by_cases e3 : r 0 + r 1 + r 2 + r 3 = 3
    · rw [if_pos (by rw [e3]), decide_eq_true e3]; rfl
    · rw [if_neg (by rw [nI_eI (by omega) (by omega)]; exact e3), decide_eq_false e3]; rfl
  · rw [if_pos (by rw [nI_lI (by omega) (by omega)]; omega), decide_eq_false e]; rfl
