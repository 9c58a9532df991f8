theorem chF_len {nx : Nat → Option Nat} : ∀ k (l : List Nat) o, (chF nx k l o).length ≤ l.length + k := by
  intro k
  induction k with
  | zero => intro l o; exact Nat.le_refl _
  | succ k ih =>
    intro l o
    cases o with
    | none => exact Nat.le_add_right _ _
    | some c =>
      rw [chF]
      split
      · exact Nat.le_add_right _ _
      · have := ih (l ++ [c]) (nx c)
        rw [List.length_append] at this
        have : (chF nx k (l ++ [c]) (nx c)).length ≤ l.length + 1 + k := this
        omega
theorem LKp.lt {p : PR} {f : FL} {c : Nat} (hx : pl p ≤ 6) (k : LKp p f c) : c < 7000 := by have := k.1; omega
theorem mL_app {h : AH} {a c : Nat} {l : List Nat} (q : mL h a 0 l) : mL (pI h a l.length (nI c)) a 0 (l ++ [c]) := fun i hi => by
  have hi : i < l.length + 1 := by rw [List.length_append] at hi; exact hi
  rw [getD_app (by omega), Nat.zero_add]
  by_cases e : i < l.length
  · have := q i e
    rw [Nat.zero_add] at this
    rw [if_pos e, xI_ne (by omega)]; exact this
  · have : i = l.length := by omega
    subst this
    rw [if_neg e, xI_self]
def CaA : Nat → Nat → Prop := fun x k => LrA 182 x k ∨ x = 194
theorem LrX.fc {h h' : AH} {b : Nat} {p : PR} {f : FL} (F : Fz CaA h h') (C : LrX h b 182 p f) : LrX h' b 182 p f := ⟨C.t.fz F (fun k j c => by unfold CaA LrA; omega), C.w.fz F rfl (fun k => by unfold CaA LrA; omega), C.q.fz F (fun x k c => by unfold CaA LrA at c; omega), C.x⟩
theorem chain_c {b : Nat} {p : PR} {f : FL} : ∀ k (l : List Nat) o n (h : AH), l.length + k = 280 → k < n → LrX h b 182 p f → xc h 194 = 16 → xz h 194 = 280 → mL h 194 0 l → (∀ c, c ∈ l → LKp p f c) → (∀ c, o = some c → LKp p f c) → ∃ h', X8_followChain_B12 n 182 62 194 (nI l.length) (leV o) (nI l.length) h = some (nI (chF (nxC p f) k l o).length, h') ∧ Fz CaA h h' ∧ mL h' 194 0 (chF (nxC p f) k l o) := by
  intro k
  induction k with
  | zero =>
    intro l o n h hl hn C cC zC ml kl ko
    obtain ⟨n, rfl⟩ : ∃ q, n = q + 1 := ⟨n - 1, by omega⟩
    refine ⟨h, ?_, Fz.rf, ml⟩
    rw [X8_followChain_B12]
    rw [G_t cC, zC, if_pos (by rw [nI_lI (by omega) (by omega)]; omega)]; rfl
  | succ k ih =>
    intro l o n h hl hn C cC zC ml kl ko
    obtain ⟨n, rfl⟩ : ∃ q, n = q + 1 := ⟨n - 1, by omega⟩
    rw [X8_followChain_B12]
    rw [G_t cC, zC, if_neg (by rw [nI_lI (by omega) (by omega)]; omega)]
    cases o with
    | none =>
      refine ⟨h, ?_, Fz.rf, ml⟩
      rw [if_pos leV_none]; rfl
    | some c =>
      have kc := ko c rfl
      have c7 := kc.lt C.x
      rw [leV_some, if_neg (by rw [nI_m1 (by omega)]; exact id)]
      have scan : ∀ g j, j ≤ l.length → l.length - j < g → X8_followChain_B28 (X8_followChain_B12 n) g 182 62 194 (nI l.length) (nI c) (nI l.length) (nI j) h = if anyF (fun q => l.getD q 0 == c) j l.length = true then some (nI l.length, h) else X8_followChain_B51 (X8_followChain_B12 n) 182 62 194 (nI l.length) (nI c) (nI l.length) h := by
        intro g
        induction g with
        | zero => intro j _ hg; exact absurd hg (Nat.not_lt_zero _)
        | succ g ihg =>
          intro j hj hg
          rw [X8_followChain_B28]
          rcases Nat.lt_or_ge j l.length with q | q
          · have lj := (kl _ (getD_mem q)).lt C.x
            have vj : xI h 194 (nI j).toNatClampNeg = nI (l.getD j 0) := by
              have := ml j q
              rw [Nat.zero_add] at this
              rw [nI_cl (by omega)]; exact this
            rw [if_neg (by rw [nI_lI (by omega) (by omega)]; omega), G_t cC, zC, G_gx (by omega) (by omega), vj, anyF_step q, nI_add, LT_e, ihg (j + 1) (by omega) (by omega)]
            by_cases e : l.getD j 0 = c
            · rw [if_pos (by rw [e]), e]
              simp
            · have : (l.getD j 0 == c) = false := by simpa using e
              rw [if_neg (by rw [nI_eI (by omega) (by omega)]; exact e), this, Bool.false_or]
          · have : j = l.length := by omega
            subst this
            rw [if_pos (by rw [nI_lI (by omega) (by omega)]; omega), anyF_end (Nat.le_refl _)]; rfl
      rw [scan FU 0 (Nat.zero_le _) (FU_gt (by omega)), anyF_0, chF]
      by_cases hm : c ∈ l
      · rw [if_pos hm, if_pos (any_mem.mpr hm)]
        exact ⟨h, rfl, Fz.rf, ml⟩
      · rw [if_neg hm, if_neg (fun q => hm (any_mem.mp q))]
        have F3 : Fz CaA h (pI h 194 l.length (nI c)) := Fz.i (.inr rfl)
        have C3 := C.fc F3
        obtain ⟨h6, e6, F6⟩ := linkBehind_c C3 kc
        have F36 : Fz CaA h h6 := F3.tr (F6.mo (fun x k q => .inl q))
        have ll : (l ++ [c]).length = l.length + 1 := by rw [List.length_append]; rfl
        obtain ⟨h7, e7, F7, m7⟩ := ih (l ++ [c]) (nxC p f c) n h6 (by omega) (by omega) (C.fc F36) (by rw [F36.c]; exact cC) (by rw [F36.z]; exact zC) ((mL_app ml).fz F6 (fun k => by unfold LrA; omega)) (fun d hd => by
          rcases List.mem_append.mp hd with q | q
          · exact kl d q
          · rw [List.mem_singleton.mp q]; exact kc) (fun d hd => nxC_ok C.q.w C.x kc hd)
        refine ⟨h7, ?_, F36.tr F7, m7⟩
        unfold X8_followChain_B51
        rw [G_t cC, zC, G_gx (by omega) (by omega), LT_e, nI_cl (by omega), nI_add, LT_e, G_t C3.t.s.c, e6, BN_ok, LT_e]
        rw [ll] at e7
        exact e7
/-- the reference's chain -/
def CmB : Nat → Nat → Prop := fun x k => LmA x k ∨ x = 223
theorem LmX.fc {h h' : AH} {b : Nat} {p : PR} {f : FL} (F : Fz CmB h h') (C : LmX h b 0 p f) : LmX h' b 0 p f := by
  have lo := C.c.q.s.lo
  have nA : ∀ x j, ¬ (x = 195 ∧ j = 33 ∨ x = 215 ∨ x = 223) → ¬ CmB x j := fun x j q c => by unfold CmB LmA at c; omega
  refine ⟨⟨C.c.s.fz F, C.c.q.fz F (fun k j hk => nA _ _ (by omega)), by rw [F.r _ (by decide)]; exact C.c.r4, by rw [F.I (nA _ _ (by decide))]; exact C.c.l, by rw [F.I (nA _ _ (by decide))]; exact C.c.S, by rw [F.I (nA _ _ (by decide))]; exact C.c.K, by rw [F.I (nA _ _ (by decide))]; exact C.c.A, by rw [F.I (nA _ _ (by decide))]; exact C.c.B, C.c.n, C.c.x⟩, ⟨fun t m ht hm r hr => ?_, fun m t hm ht => ?_, fun s u hs hu => ?_⟩, C.k⟩
  · rw [F.I (nA _ _ (by omega))]; exact C.i.T t m ht hm r hr
  · rw [F.I (nA _ _ (by omega))]; exact C.i.D m t hm ht
  · rw [F.I (nA _ _ (by omega)), F.I (nA _ _ (by omega)), F.I (nA _ _ (by omega))]; exact C.i.W s u hs hu
def cuO (l : List Nat) (j : Nat) : Option Nat → Option Nat
  | none => none
  | some y => if anyF (fun q => l.getD q 0 == y) j l.length = true then none else some y
theorem cuO_s {l : List Nat} {j y : Nat} : cuO l j (some y) = if anyF (fun q => l.getD q 0 == y) j l.length = true then none else some y := rfl
theorem chF_cu {nx : Nat → Option Nat} {l : List Nat} {k : Nat} : ∀ o, chF nx k l (cuO l 0 o) = chF nx k l o := by
  intro o
  cases o with
  | none => rfl
  | some y =>
    rw [cuO_s]
    split
    · next e =>
      rw [anyF_0, any_mem] at e
      cases k with
      | zero => rfl
      | succ k =>
        show l = if y ∈ l then l else _
        rw [if_pos e]
    · rfl
theorem chain_m {b : Nat} {p : PR} {f : FL} (x : Int32) : ∀ k (l : List Nat) o n (h : AH), l.length + k = 280 → k < n → LmX h b 0 p f → mL h 223 0 l → Dis l → (∀ c, c ∈ l → LKp p f c) → (∀ c, o = some c → LKp p f c ∧ c ∉ l) → ∃ h', X15_led_B126 n 195 x (leV o) (nI l.length) h = X15_led_B195 195 x (nI (chF (nxC p f) k l o).length) h' ∧ Fz CmB h h' ∧ mL h' 223 0 (chF (nxC p f) k l o) := by
  intro k
  induction k with
  | zero =>
    intro l o n h hl hn C ml dl kl ko
    obtain ⟨n, rfl⟩ : ∃ q, n = q + 1 := ⟨n - 1, by omega⟩
    refine ⟨h, ?_, Fz.rf, ml⟩
    cases o with
    | none =>
      rw [X15_led_B126, if_pos leV_none]; rfl
    | some c =>
      have kc := ko c rfl
      have := ch_len C.c.q.w C.c.x (Dis_app dl kc.2) (fun d hd => by
          rcases List.mem_append.mp hd with q | q
          · exact kl d q
          · rw [List.mem_singleton.mp q]; exact kc.1)
      rw [List.length_append] at this
      have : l.length + 1 ≤ 280 := this
      omega
  | succ k ih =>
    intro l o n h hl hn C ml dl kl ko
    obtain ⟨n, rfl⟩ : ∃ q, n = q + 1 := ⟨n - 1, by omega⟩
    cases o with
    | none =>
      refine ⟨h, ?_, Fz.rf, ml⟩
      rw [X15_led_B126, if_pos leV_none]; rfl
    | some c =>
      obtain ⟨kc, nc⟩ := ko c rfl
      have hx := C.c.x
      have c7 := kc.lt hx
      have d1 : nI c / nI 1000 = nI (c / 1000) := pk_div (by omega) (by omega) (by omega)
      have d2 : nI c / nI 100 = nI (c / 100) := pk_div (by omega) (by omega) (by omega)
      have d3 : nI (c / 100) - nI (c / 100) / nI 10 * nI 10 = nI (c / 100 % 10) := pk_rem (by omega) (by omega) (by omega)
      have d4 : nI c - nI (c / 100) * nI 100 = nI (c % 100) := by rw [← d2]; exact pk_rem (by omega) (by omega) (by omega)
      have F3 : Fz CmB h (pI h 223 l.length (nI c)) := Fz.i (.inr rfl)
      have C3 := C.fc F3
      obtain ⟨h6, e6, F6⟩ := leadsTo_m C3 kc
      have F36 : Fz CmB h h6 := F3.tr (F6.mo (fun x k q => .inl q))
      have C6 := C.fc F36
      have ll : (l ++ [c]).length = l.length + 1 := by rw [List.length_append]; rfl
      have m6 : mL h6 223 0 (l ++ [c]) := (mL_app ml).fz F6 (fun k => by unfold LmA; omega)
      have kl' : ∀ d, d ∈ l ++ [c] → LKp p f d := fun d hd => by
        rcases List.mem_append.mp hd with q | q
        · exact kl d q
        · rw [List.mem_singleton.mp q]; exact kc
      have scan : ∀ g j o, (∀ y, o = some y → y < 7000) → j ≤ (l ++ [c]).length → (l ++ [c]).length - j < g → X15_led_B166 (X15_led_B126 n) g 195 x (leV o) (nI (l ++ [c]).length) (nI j) h6 = X15_led_B126 n 195 x (leV (cuO (l ++ [c]) j o)) (nI (l ++ [c]).length) h6 := by
        intro g
        induction g with
        | zero => intro j o _ _ hg; exact absurd hg (Nat.not_lt_zero _)
        | succ g ihg =>
          intro j o ho hj hg
          rw [X15_led_B166]
          rcases Nat.lt_or_ge j (l ++ [c]).length with q | q
          · have lj := (kl' _ (getD_mem q)).lt hx
            have vj : xI h6 223 (nI j).toNatClampNeg = nI ((l ++ [c]).getD j 0) := by
              have := m6 j q
              rw [Nat.zero_add] at this
              rw [nI_cl (by omega)]; exact this
            have next : ∀ v, X15_led_B186 (X15_led_B126 n) (X15_led_B166 (X15_led_B126 n) g) 195 x v (nI (l ++ [c]).length) (nI j) h6 = X15_led_B166 (X15_led_B126 n) g 195 x v (nI (l ++ [c]).length) (nI (j + 1)) h6 := fun v => by
              unfold X15_led_B186
              rw [LT_e, nI_add]
            rw [if_neg (by rw [nI_lI (by omega) (by omega)]; omega), G_t C6.c.s.c195, C6.c.s.r195_48, G_t C6.c.s.c223, C6.c.s.z223, G_gx (by omega) (by omega), vj, next, next]
            cases o with
            | none =>
              rw [leV_none, if_neg (by rw [nI_m1 (by omega)]; exact id), ← leV_none, ihg (j + 1) none ho (by omega) (by omega)]; rfl
            | some y =>
              have y7 := ho y rfl
              rw [leV_some]
              by_cases e : (l ++ [c]).getD j 0 = y
              · rw [if_pos (by rw [e]), ← leV_none, ihg (j + 1) none (fun y h => nomatch h) (by omega) (by omega)]
                rw [cuO_s, anyF_step q, e, if_pos (by simp)]; rfl
              · have : ((l ++ [c]).getD j 0 == y) = false := by simpa using e
                rw [if_neg (by rw [nI_eI (by omega) (by omega)]; exact e), ← leV_some, ihg (j + 1) (some y) ho (by omega) (by omega)]
                rw [cuO_s, cuO_s, anyF_step q, this, Bool.false_or]
          · have : j = (l ++ [c]).length := by omega
            subst this
            rw [if_pos (by rw [nI_lI (by omega) (by omega)]; omega)]
            unfold X15_led_B192
            cases o with
            | none => rfl
            | some y =>
              rw [cuO_s, anyF_end (Nat.le_refl _)]; rfl
      obtain ⟨h7, e7, F7, m7⟩ := ih (l ++ [c]) (cuO (l ++ [c]) 0 (nxC p f c)) n h6 (by omega) (by omega) C6 m6 (Dis_app dl nc) kl' (fun d hd => by
        cases en : nxC p f c with
        | none => rw [en] at hd; exact nomatch hd
        | some y =>
          rw [en, cuO_s] at hd
          split at hd
          · exact nomatch hd
          · next q =>
            injection hd with hd
            subst hd
            rw [anyF_0, any_mem] at q
            exact ⟨nxC_ok C.c.q.w hx kc en, q⟩)
      rw [chF_cu] at e7 m7
      refine ⟨h7, ?_, F36.tr F7, by rw [chF, if_neg nc]; exact m7⟩
      rw [X15_led_B126, leV_some, if_neg (by rw [nI_m1 (by omega)]; exact id), G_t C.c.s.c195, C.c.s.r195_48, G_t C.c.s.c223, C.c.s.z223, G_gx (by omega) (by omega), LT_e, nI_cl (by omega), nI_add, LT_e, G_t C3.c.s.c195, d2, d4, d3, d1, e6, BN_ok, ← ll, scan FU 0 _ (fun y hy => (nxC_ok C.c.q.w hx kc hy).lt hx) (Nat.zero_le _) (FU_gt (by omega)), e7, chF, if_neg nc]
theorem firstLink_m {h : AH} {b : Nat} {p : PR} {f : FL} (x : Int32) (C : LmX h b 0 p f) : ∀ k n, k ≤ p.1 61 0 → k < n → X15_led_B46 n 195 x (leV (frL p f k (p.1 61 0 - k))) (nI k - nI 1) h = X15_led_B123 195 x (leV (frL p f 0 (p.1 61 0))) h := by
  have no := C.c.q.w.no
  have wm := C.c.q.w.m
  have wr := C.c.q.w.r
  have hx := C.c.x
  have M := C.c
  intro k
  induction k with
  | zero =>
    intro n _ hn
    obtain ⟨n, rfl⟩ : ∃ q, n = q + 1 := ⟨n - 1, by omega⟩
    rw [X15_led_B46, if_pos (by decide), Nat.sub_zero]
  | succ k ih =>
    intro n hk hn
    obtain ⟨n, rfl⟩ : ∃ q, n = q + 1 := ⟨n - 1, by omega⟩
    have s1 : nI (k + 1) - nI 1 = nI k := by rw [pk_sub (by omega)]; rfl
    have ho := M.q.w.or k (by omega)
    have ha := M.q.w.oa k (by omega)
    have cl1 : xI h (b + 17) (nI k).toNatClampNeg = nI (p.1 64 k) := by rw [nI_cl (by omega)]; exact M.q.or k (by omega)
    have cl2 : xI h (b + 18) (nI k).toNatClampNeg = nI (p.1 65 k) := by rw [nI_cl (by omega)]; exact M.q.oa k (by omega)
    have next : ∀ v, X15_led_B117 (X15_led_B46 n) 195 x v (nI k) h = X15_led_B46 n 195 x v (nI k - nI 1) h := fun v => by
      unfold X15_led_B117
      rw [LT_e, sub1]
    have step := ih n (by omega) (by omega)
    rw [show p.1 61 0 - k = (p.1 61 0 - (k + 1)) + 1 by omega, frL] at step
    rw [X15_led_B46, s1, if_neg (nI_pos (by omega)), G_t M.s.c195, M.r4, G_t M.q.s.c, M.q.s.r26, G_t M.q.s.c17, M.q.s.z17, G_gx (by omega) (by omega), M.q.s.r27, G_t M.q.s.c18, M.q.s.z18, G_gx (by omega) (by omega), cl1, cl2, M.l, isThere_m M.s (by decide) (by omega) (by omega) (by omega), BN_ok, C.i.T (pl p) (p.1 65 k) (Nat.le_refl _) ha (p.1 64 k) (by omega)]
    cases e : Tz p f (pl p) (p.1 65 k) (p.1 64 k)
    · rw [e, if_neg (by decide)] at step
      rw [if_pos (by decide), next]; exact step
    · rw [e, if_pos rfl, leV_some] at step
      rw [if_neg (by decide), G_t M.s.c195, M.r4, G_t M.q.s.c, M.q.s.r27, G_t M.q.s.c18, M.q.s.z18, G_gx (by omega) (by omega), M.q.s.r26, G_t M.q.s.c17, M.q.s.z17, G_gx (by omega) (by omega), cl1, cl2, M.l, pk_mul, pk_mul, nI_add, nI_add, LT_e, next]; exact step
