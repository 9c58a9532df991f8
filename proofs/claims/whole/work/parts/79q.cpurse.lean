/-! the class's purse: begin, fallCount, advance -/
def CaX_ (h : AH) (wk b : Nat) (p : PR) (r : NN_) : Prop := (SG h) ∧ (IsW h wk b p) ∧ (IsCB h b p.1) ∧ (∀ k, k < 4 → xI h 147 k = nI (r k)) ∧ (r 0 + r 1 + r 2 + r 3 ≤ 3) ∧ (1 ≤ pl p) ∧ (pl p ≤ 6)
theorem CaX_.g {h : AH} {wk b : Nat} {p : PR} {r : NN_} (q_ : CaX_ h wk b p r) : SG h := q_.1
theorem CaX_.w {h : AH} {wk b : Nat} {p : PR} {r : NN_} (q_ : CaX_ h wk b p r) : IsW h wk b p := q_.2.1
theorem CaX_.q {h : AH} {wk b : Nat} {p : PR} {r : NN_} (q_ : CaX_ h wk b p r) : IsCB h b p.1 := q_.2.2.1
theorem CaX_.u {h : AH} {wk b : Nat} {p : PR} {r : NN_} (q_ : CaX_ h wk b p r) : ∀ k, k < 4 → xI h 147 k = nI (r k) := q_.2.2.2.1
theorem CaX_.x {h : AH} {wk b : Nat} {p : PR} {r : NN_} (q_ : CaX_ h wk b p r) : r 0 + r 1 + r 2 + r 3 ≤ 3 := q_.2.2.2.2.1
theorem CaX_.n {h : AH} {wk b : Nat} {p : PR} {r : NN_} (q_ : CaX_ h wk b p r) : 1 ≤ pl p := q_.2.2.2.2.2.1
theorem CaX_.y {h : AH} {wk b : Nat} {p : PR} {r : NN_} (q_ : CaX_ h wk b p r) : pl p ≤ 6 := q_.2.2.2.2.2.2
theorem CaX_.fq {A : Nat → Prop} {h h' : AH} {wk b : Nat} {p : PR} {r : NN_} (F : Fq A h h') (n : ∀ a, A a → 120 ≤ a ∧ a ≠ 147) (C : CaX_ h wk b p r) : CaX_ h' wk b p r := by
  have hw := C.w.w
  exact ⟨C.g.fq F, C.w.fq F (fun c => by have := n _ c; omega), C.q.fq F (fun a c => by have := n _ c; omega), fun k hk => by rw [F.I _ (fun c => (n _ c).2 rfl)]; exact C.u k hk, C.x, C.n, C.y⟩
theorem hit_c {h : AH} {wk b k : Nat} {p : PR} {r : NN_} (C : CaX_ h wk b p r) (hk : k < 4) : X0_hitBy_f b (nI k) h = some (nI (thg p k), h) := by
  rw [hitBy_c C.q.s hk, C.q.sn, C.q.m]
  unfold thg
  split <;> rfl
theorem tot_c {h : AH} {wk b : Nat} {p : PR} {r : NN_} (C : CaX_ h wk b p r) : X5_total_f 146 h = some (nI (r 0 + r 1 + r 2 + r 3), h) := by
  have s := C.g
  have u : ∀ k, k < 4 → xI h 147 (nI k).toNatClampNeg = nI (r k) := fun k hk => by rw [nI_cl (by omega)]; exact C.u k hk
  unfold X5_total_f
  rw [G_t s.c146, s.r146_0, G_t s.c147, s.z147, G_gx (by omega) (by omega), G_gx (by omega) (by omega), G_gx (by omega) (by omega), G_gx (by omega) (by omega), u 0 (by omega), u 1 (by omega), u 2 (by omega), u 3 (by omega), nI_add, nI_add, nI_add]
theorem thg6 {p : PR} (w : WB p.1) (k : Nat) : thg p k ≤ 6 := by
  have := thg_le w k
  split at this <;> omega
theorem fallsOf_c {h : AH} {wk b k : Nat} {p : PR} {r : NN_} (C : CaX_ h wk b p r) (hk : k < 4) : X5_fallsOf_f 146 wk (nI k) h = some (nI (if r k = 0 then [] else whL p k 0 (thg p k)).length, h) := by
  have s := C.g
  have rk := r_le C.x hk
  have u : xI h 147 (nI k).toNatClampNeg = nI (r k) := by rw [nI_cl (by omega)]; exact C.u k hk
  unfold X5_fallsOf_f
  rw [G_t s.c146, s.r146_0, G_t s.c147, s.z147, G_gx (by omega) (by omega), u]
  by_cases e : r k = 0
  · rw [if_pos (by rw [e]; exact nI_0), if_pos e]; rfl
  · rw [if_neg (nI_ne0 (by omega) (by omega)), if_neg e, G_t C.w.c, C.w.bk, G_t C.q.s.c, hit_c C hk, BN_ok, G_t C.w.c, C.w.l, pk_mul, whL_len]
theorem fallCount_c {h : AH} {wk b : Nat} {p : PR} {r : NN_} (C : CaX_ h wk b p r) : X5_fallCount_f 146 wk h = some (nI (alF p r).length, h) := by
  have loop : ∀ j k n c, k + j = 4 → j < n → X5_fallCount_B4 n 146 wk (nI c) (nI k) h = some (nI (c + (kdL p r k j).length), h) := by
    intro j
    induction j with
    | zero =>
      intro k n c hk hn
      obtain ⟨n, rfl⟩ : ∃ q, n = q + 1 := ⟨n - 1, by omega⟩
      rw [X5_fallCount_B4, if_pos (by rw [nI_lI (by omega) (by omega)]; omega)]; rfl
    | succ j ih =>
      intro k n c hk hn
      obtain ⟨n, rfl⟩ : ∃ q, n = q + 1 := ⟨n - 1, by omega⟩
      rw [X5_fallCount_B4, if_neg (by rw [nI_lI (by omega) (by omega)]; omega), G_t C.g.c146, fallsOf_c C (by omega), BN_ok, nI_add, LT_e, nI_add, LT_e, ih (k + 1) n _ (by omega) (by omega), kdL_s, List.length_append, Nat.add_assoc]
  have := loop 4 0 FU 0 (by omega) (FU_gt (by omega))
  rw [Nat.zero_add] at this
  exact this
theorem isTooMuch_c {h : AH} {wk b : Nat} {p : PR} {r : NN_} (C : CaX_ h wk b p r) : X5_isTooMuch_f 146 wk h = some (bI (tooB p r), h) := by
  have len := alF_len (r := r) C.q.w C.y
  have x := C.x
  unfold X5_isTooMuch_f tooB
  rw [G_t C.g.c146, tot_c C, BN_ok]
  by_cases e3 : r 0 + r 1 + r 2 + r 3 = 3
  · rw [if_pos (by rw [e3]), G_t C.g.c146, fallCount_c C, BN_ok, decide_eq_true e3, Bool.and_true]
    by_cases e : 60 < (alF p r).length
    · rw [if_neg (by rw [nI_lI (by omega) (by omega)]; omega), decide_eq_true e]; rfl
    · rw [if_pos (by rw [nI_lI (by omega) (by omega)]; omega), decide_eq_false e]; rfl
  · rw [if_neg (by rw [nI_eI (by omega) (by omega)]; exact e3), decide_eq_false e3, Bool.and_false]; rfl
/-- the class's list of all falls -/
def AlC (h : AH) (L : List Nat) : Prop := xI h 146 4 = nI L.length ∧ mL h 148 0 L
def PuA : Nat → Prop := fun a => a = 146 ∨ a = 148 ∨ a = 149
theorem PuA_n {a : Nat} (c : PuA a) : 120 ≤ a ∧ a ≠ 147 := by unfold PuA at c; omega
theorem beg_tick {wk b k w : Nat} {p : PR} {r : NN_} {i3 : Int32} (K7 : Nat → Nat → Int32 → AH → Option (Unit × AH)) (K37 : Nat → Nat → Int32 → Int32 → Int32 → AH → Option (Unit × AH)) : ∀ j t n (h : AH) L, t + j = pl p → j < n → CaX_ h wk b p r → AlC h L → (L ++ tkL k w t j).length ≤ 120 → ∃ h', X5_begin_B46 K7 K37 n 146 wk (nI k) i3 (nI w) (nI t) h = X5_begin_B97 K7 K37 146 wk (nI k) i3 (nI w) h' ∧ Fr PuA h h' ∧ AlC h' (L ++ tkL k w t j) := by
  intro j
  induction j with
  | zero =>
    intro t n h L ht hn C q hl
    obtain ⟨n, rfl⟩ : ∃ q, n = q + 1 := ⟨n - 1, by omega⟩
    have hx := C.y
    refine ⟨h, ?_, Fr.rf, by rw [show L ++ tkL k w t 0 = L from List.append_nil L]; exact q⟩
    rw [X5_begin_B46]
    rw [G_t C.w.c, C.w.l, if_pos (by rw [nI_lI (by omega) (by omega)]; omega)]
  | succ j ih =>
    intro t n h L ht hn C q hl
    obtain ⟨n, rfl⟩ : ∃ q, n = q + 1 := ⟨n - 1, by omega⟩
    have hx := C.y
    have s := C.g
    rw [tkL_s, ← List.singleton_append, ← List.append_assoc] at hl ⊢
    have l120 : L.length < 120 := by rw [List.length_append, List.length_append] at hl; have : [100 * k + 10 * w + t].length = 1 := rfl; omega
    have cl : (nI L.length).toNatClampNeg = L.length := nI_cl (by omega)
    have F3 : Fr PuA h (pI (pI h 148 L.length (nI (100 * k + 10 * w + t))) 146 4 (nI (L.length + 1))) := (Fr.i (by unfold PuA; omega)).tr (Fr.i (by unfold PuA; omega))
    have q3 : AlC (pI (pI h 148 L.length (nI (100 * k + 10 * w + t))) 146 4 (nI (L.length + 1))) (L ++ [100 * k + 10 * w + t]) := ⟨by rw [xI_self, List.length_append]; rfl, fun i hi => by rw [xI_ne (by omega)]; exact mL_app q.2 i hi⟩
    obtain ⟨h4, e4, F4, q4⟩ := ih (t + 1) n _ _ (by omega) (by omega) (C.fq F3.q (fun a c => PuA_n c)) q3 hl
    refine ⟨h4, ?_, F3.tr F4, q4⟩
    rw [X5_begin_B46]
    unfold X11_numberOf_f
    rw [G_t C.w.c, C.w.l, if_neg (by rw [nI_lI (by omega) (by omega)]; omega), G_t s.c146, q.1, if_neg (by rw [nI_lI (by omega) (by omega)]; omega), G_t s.c146, BN_ok, s.r146_1, G_t s.c148, s.z148, G_gx (by omega) (by omega), pk_mul, pk_mul, nI_add, nI_add, cl, LT_e, G_t s.i.c146, xI_ne (by omega), q.1, nI_add, LT_e, nI_add, LT_e]
    exact e4
theorem beg_which {wk b k W : Nat} {p : PR} {r : NN_} (K7 : Nat → Nat → Int32 → AH → Option (Unit × AH)) (hW : W ≤ 6) : ∀ j w n (h : AH) L, w + j = W → j < n → CaX_ h wk b p r → AlC h L → (L ++ whL p k w j).length ≤ 120 → ∃ h', X5_begin_B37 K7 n 146 wk (nI k) (nI W) (nI w) h = K7 146 wk (nI (k + 1)) h' ∧ Fr PuA h h' ∧ AlC h' (L ++ whL p k w j) := by
  intro j
  induction j with
  | zero =>
    intro w n h L ht hn C q hl
    obtain ⟨n, rfl⟩ : ∃ q, n = q + 1 := ⟨n - 1, by omega⟩
    refine ⟨h, ?_, Fr.rf, by rw [show L ++ whL p k w 0 = L from List.append_nil L]; exact q⟩
    rw [X5_begin_B37, if_pos (by rw [nI_lI (by omega) (by omega)]; omega)]
    unfold X5_begin_B103
    rw [LT_e, nI_add]
  | succ j ih =>
    intro w n h L ht hn C q hl
    obtain ⟨n, rfl⟩ : ∃ q, n = q + 1 := ⟨n - 1, by omega⟩
    have hx := C.y
    rw [whL_s, ← List.append_assoc] at hl ⊢
    obtain ⟨h3, e3, F3, q3⟩ := beg_tick (k := k) (w := w) (i3 := nI W) K7 (X5_begin_B37 K7 n) (pl p) 0 FU h L (by omega) (FU_gt (by omega)) C q (by rw [List.length_append] at hl; omega)
    obtain ⟨h4, e4, F4, q4⟩ := ih (w + 1) n h3 _ (by omega) (by omega) (C.fq F3.q (fun a c => PuA_n c)) q3 hl
    refine ⟨h4, ?_, F3.tr F4, q4⟩
    rw [X5_begin_B37, if_neg (by rw [nI_lI (by omega) (by omega)]; omega), e3]
    unfold X5_begin_B97
    rw [LT_e, nI_add]; exact e4
theorem beg_kind {wk b : Nat} {p : PR} {r : NN_} : ∀ j k n (h : AH) L, k + j = 4 → j < n → CaX_ h wk b p r → AlC h L → (L ++ kdL p r k j).length ≤ 120 → ∃ h', X5_begin_B7 n 146 wk (nI k) h = X5_begin_B109 146 h' ∧ Fr PuA h h' ∧ AlC h' (L ++ kdL p r k j) := by
  intro j
  induction j with
  | zero =>
    intro k n h L hk hn C q hl
    obtain ⟨n, rfl⟩ : ∃ q, n = q + 1 := ⟨n - 1, by omega⟩
    refine ⟨h, ?_, Fr.rf, by rw [show L ++ kdL p r k 0 = L from List.append_nil L]; exact q⟩
    rw [X5_begin_B7, if_pos (by rw [nI_lI (by omega) (by omega)]; omega)]
  | succ j ih =>
    intro k n h L hk hn C q hl
    obtain ⟨n, rfl⟩ : ∃ q, n = q + 1 := ⟨n - 1, by omega⟩
    have t6 := thg6 C.q.w k
    have s := C.g
    have rk := r_le C.x (by omega : k < 4)
    have u1 : xI h 147 (nI k).toNatClampNeg = nI (r k) := by rw [nI_cl (by omega)]; exact C.u k (by omega)
    rw [kdL_s, ← List.append_assoc] at hl ⊢
    by_cases hr : r k = 0
    · rw [if_pos hr, List.append_nil] at hl ⊢
      obtain ⟨h3, e3, F3, q3⟩ := beg_which (k := k) (W := 0) (X5_begin_B7 n) (by omega) 0 0 FU h L (by omega) (FU_gt (by omega)) C q (by rw [show L ++ whL p k 0 0 = L from List.append_nil L]; rw [List.length_append] at hl; omega)
      rw [show L ++ whL p k 0 0 = L from List.append_nil L] at q3
      obtain ⟨h4, e4, F4, q4⟩ := ih (k + 1) n h3 L (by omega) (by omega) (C.fq F3.q (fun a c => PuA_n c)) q3 hl
      refine ⟨h4, ?_, F3.tr F4, q4⟩
      rw [X5_begin_B7, if_neg (by rw [nI_lI (by omega) (by omega)]; omega), G_t s.c146, s.r146_0, G_t s.c147, s.z147, G_gx (by omega) (by omega), u1, if_pos (by rw [hr]; exact nI_0)]
      unfold X5_begin_B33
      rw [e3]; exact e4
    · rw [if_neg hr] at hl ⊢
      obtain ⟨h3, e3, F3, q3⟩ := beg_which (k := k) (X5_begin_B7 n) t6 (thg p k) 0 FU h L (by omega) (FU_gt (by omega)) C q (by rw [List.length_append] at hl; omega)
      obtain ⟨h4, e4, F4, q4⟩ := ih (k + 1) n h3 _ (by omega) (by omega) (C.fq F3.q (fun a c => PuA_n c)) q3 hl
      refine ⟨h4, ?_, F3.tr F4, q4⟩
      rw [X5_begin_B7, if_neg (by rw [nI_lI (by omega) (by omega)]; omega), G_t s.c146, s.r146_0, G_t s.c147, s.z147, G_gx (by omega) (by omega), u1, if_neg (nI_ne0 (by omega) (by omega)), G_t C.w.c, C.w.bk, G_t C.q.s.c, hit_c C (by omega), BN_ok]
      unfold X5_begin_B33
      rw [e3]; exact e4
/-- where the class stands: s falls, the stem's code, the base; the list of all falls -/
def PuS (h : AH) (a : List Nat) (s d base : Nat) : Prop := (xI h 146 4 = nI a.length) ∧ (mL h 148 0 a) ∧ (xI h 146 5 = nI s) ∧ (xI h 146 6 = nI base) ∧ (mL h 149 0 (sD (s - 1) d))
theorem PuS.z {h : AH} {a : List Nat} {s d base : Nat} (q_ : PuS h a s d base) : xI h 146 4 = nI a.length := q_.1
theorem PuS.l {h : AH} {a : List Nat} {s d base : Nat} (q_ : PuS h a s d base) : mL h 148 0 a := q_.2.1
theorem PuS.s {h : AH} {a : List Nat} {s d base : Nat} (q_ : PuS h a s d base) : xI h 146 5 = nI s := q_.2.2.1
theorem PuS.b {h : AH} {a : List Nat} {s d base : Nat} (q_ : PuS h a s d base) : xI h 146 6 = nI base := q_.2.2.2.1
theorem PuS.k {h : AH} {a : List Nat} {s d base : Nat} (q_ : PuS h a s d base) : mL h 149 0 (sD (s - 1) d) := q_.2.2.2.2
theorem begin_c {h : AH} {wk b : Nat} {p : PR} {r : NN_} (C : CaX_ h wk b p r) : ∃ h', X5_begin_f 146 wk h = some ((), h') ∧ Fr PuA h h' ∧ PuS h' (alF p r) 0 0 (alF p r).length := by
  have F1 : Fr PuA h (pI h 146 4 (nI 0)) := Fr.i (by unfold PuA; omega)
  obtain ⟨h4, e4, F4, q4⟩ := beg_kind 4 0 FU _ [] (by omega) (FU_gt (by omega)) (C.fq F1.q (fun a c => PuA_n c)) ⟨xI_self, fun i hi => absurd hi (Nat.not_lt_zero _)⟩ (alF_len C.q.w C.y)
  have q4 : AlC h4 (alF p r) := q4
  have g4 := (C.g.fr F1).fr F4
  refine ⟨pI (pI h4 146 5 (nI 0)) 146 6 (nI (alF p r).length), ?_, ((F1.tr F4).tr (Fr.i (by unfold PuA; omega))).tr (Fr.i (by unfold PuA; omega)), ?_, fun i hi => ?_, ?_, ?_, fun i hi => absurd hi (Nat.not_lt_zero _)⟩
  · unfold X5_begin_f
    rw [G_t C.g.c146, LT_e, e4]
    unfold X5_begin_B109
    rw [G_t g4.c146, LT_e, G_t g4.i.c146, xI_ne (by omega), q4.1, LT_e]
  · rw [xI_ne (by omega), xI_ne (by omega)]; exact q4.1
  · rw [xI_ne (by omega), xI_ne (by omega)]; exact q4.2 i hi
  · rw [xI_ne (by omega), xI_self]
  · rw [xI_self]
theorem PuS.fq {A : Nat → Prop} {h h' : AH} {a : List Nat} {s d base : Nat} (F : Fq A h h') (n : ∀ x, A x → x ≠ 146 ∧ x ≠ 148 ∧ x ≠ 149) (q : PuS h a s d base) : PuS h' a s d base := by
  have e1 : ∀ k, xI h' 146 k = xI h 146 k := fun k => F.I k (fun c => (n _ c).1 rfl)
  exact ⟨by rw [e1]; exact q.z, fun i hi => by rw [F.I _ (fun c => (n _ c).2.1 rfl)]; exact q.l i hi, by rw [e1]; exact q.s, by rw [e1]; exact q.b, fun i hi => by rw [F.I _ (fun c => (n _ c).2.2 rfl)]; exact q.k i hi⟩
