-- FallTrialsModel.trial(I)I
abbrev qX15_trial : MT := (cX15_trial, RX15, "trial", (some .int), 6, 143, 10)
def X15_trial_B55 (a0 : Nat) (h : AH) : Option (Int32 × AH) :=
  G (xc h a0 = 15) <|
  BN (X15_refused_f a0 (nI 5) h) fun v3 h2 =>
  some (v3, h2)
theorem jX15_trial_B55 (x : CT) (a0 : Nat) (h : AH) : J x qX15_trial ZI 55 [(0, rv (zx x) a0)] [] h (X15_trial_B55 a0 h) := by
  unfold X15_trial_B55
  refine J_aload_n 0 dX15_trial_55 rv_is rfl ?_
  refine J_iconst (v := nI 5) dX15_trial_56 rfl ?_
  refine J_G (fun g1 => ?_)
  refine J.callV (n := 1) (As := [.int (nI 5)]) kc_15 (ctX15_refused (lx x) (wx x) a0 (nI 5) h) kw_7_139 kw_7_136 kw_7_138 kp_8 kw_1_13 (by decide +kernel) rfl (by decide) (Nat.zero_le _) rfl dX15_trial_57 g1 (fun v3 h2 => ?_)
  show J x _ _ 60 _ [.int v3] h2 _
  exact J_iret dX15_trial_60
def X15_trial_B281 (a0 : Nat) (i2 : Int32) (i3 : Int32) (i4 : Int32) (h : AH) : Option (Int32 × AH) :=
  G (xc h a0 = 15) <|
  LT (pI h a0 40 i3) fun h2 =>
  G (xc h2 a0 = 15) <|
  LT (pI h2 a0 41 i2) fun h4 =>
  G (xc h4 a0 = 15) <|
  BN (X15_done_f a0 i4 h4) fun v7 h6 =>
  some (v7, h6)
theorem jX15_trial_B281 (x : CT) (a0 : Nat) (i2 : Int32) (i3 : Int32) (i4 : Int32) (h : AH) : J x qX15_trial ZI 281 [(0, rv (zx x) a0), (2, .int i2), (3, .int i3), (4, .int i4)] [] h (X15_trial_B281 a0 i2 i3 i4 h) := by
  unfold X15_trial_B281
  refine J_aload_n 0 dX15_trial_281 rv_is rfl ?_
  refine J_iload_n 2 dX15_trial_282 rfl ?_
  refine J_G (fun g1 => ?_)
  refine J_putI kc_15 40 (by decide) rfl rfl rfl rfl (Or.inl rfl) kw_7_10 dX15_trial_283 g1 ?_
  refine J_LTh (fun h2 => ?_)
  refine J_aload_n 0 dX15_trial_286 rv_is rfl ?_
  refine J_iload_n 1 dX15_trial_287 rfl ?_
  refine J_G (fun g3 => ?_)
  refine J_putI kc_15 41 (by decide) rfl rfl rfl rfl (Or.inl rfl) kw_7_11 dX15_trial_288 g3 ?_
  refine J_LTh (fun h4 => ?_)
  refine J_aload_n 0 dX15_trial_291 rv_is rfl ?_
  refine J_iload 3 dX15_trial_292 rfl ?_
  refine J_G (fun g5 => ?_)
  refine J.callV (n := 1) (As := [.int i4]) kc_15 (ctX15_done (lx x) (wx x) a0 i4 h4) kw_8_103 kw_8_100 kw_8_102 kp_24 kw_1_13 (by decide +kernel) rfl (by decide) (Nat.zero_le _) rfl dX15_trial_294 g5 (fun v7 h6 => ?_)
  show J x _ _ 297 _ [.int v7] h6 _
  exact J_iret dX15_trial_297
def X15_trial_B275 (k76 : (Nat → Int32 → Int32 → Int32 → Int32 → Int32 → AH → Option (Int32 × AH))) (a0 : Nat) (i1 : Int32) (i2 : Int32) (i3 : Int32) (i4 : Int32) (i5 : Int32) (h : AH) : Option (Int32 × AH) :=
  LT (i5 + nI 1) fun v1 =>
  k76 a0 i1 i2 i3 i4 v1 h
theorem jX15_trial_B275 (x : CT) (k76 : (Nat → Int32 → Int32 → Int32 → Int32 → Int32 → AH → Option (Int32 × AH))) (hk76 : ∀ (a0 : Nat) (i1 : Int32) (i2 : Int32) (i3 : Int32) (i4 : Int32) (i5 : Int32) (h : AH), J x qX15_trial ZI 76 [(0, rv (zx x) a0), (1, .int i1), (2, .int i2), (3, .int i3), (4, .int i4), (5, .int i5)] [] h (k76 a0 i1 i2 i3 i4 i5 h)) (a0 : Nat) (i1 : Int32) (i2 : Int32) (i3 : Int32) (i4 : Int32) (i5 : Int32) (h : AH) : J x qX15_trial ZI 275 [(0, rv (zx x) a0), (1, .int i1), (2, .int i2), (3, .int i3), (4, .int i4), (5, .int i5)] [] h (X15_trial_B275 k76 a0 i1 i2 i3 i4 i5 h) := by
  unfold X15_trial_B275
  refine J_iincL (u := i5 + nI 1) 5 dX15_trial_275 rfl rfl (by decide) (SD.a (lvr := [(0, rv (zx x) a0), (1, .int i1), (2, .int i2), (3, .int i3), (4, .int i4)]) [0, 1, 2, 3, 4] rfl rfl) (fun v1 => ?_)
  refine J_goto (tgt := 76) dX15_trial_278 rfl ?_
  exact J_sub [1, 2, 3, 4, 5, 0] rfl (hk76 a0 i1 i2 i3 i4 v1 h)
def X15_trial_B270 (k76 : (Nat → Int32 → Int32 → Int32 → Int32 → Int32 → AH → Option (Int32 × AH))) (k98 : (Nat → Int32 → Int32 → Int32 → Int32 → Int32 → Int32 → AH → Option (Int32 × AH))) (a0 : Nat) (i1 : Int32) (i2 : Int32) (i3 : Int32) (i4 : Int32) (i5 : Int32) (is0 : Int32) (h : AH) : Option (Int32 × AH) :=
  k98 a0 i1 i2 i3 i4 i5 is0 h
theorem jX15_trial_B270 (x : CT) (k76 : (Nat → Int32 → Int32 → Int32 → Int32 → Int32 → AH → Option (Int32 × AH))) (hk76 : ∀ (a0 : Nat) (i1 : Int32) (i2 : Int32) (i3 : Int32) (i4 : Int32) (i5 : Int32) (h : AH), J x qX15_trial ZI 76 [(0, rv (zx x) a0), (1, .int i1), (2, .int i2), (3, .int i3), (4, .int i4), (5, .int i5)] [] h (k76 a0 i1 i2 i3 i4 i5 h)) (k98 : (Nat → Int32 → Int32 → Int32 → Int32 → Int32 → Int32 → AH → Option (Int32 × AH))) (hk98 : ∀ (a0 : Nat) (i1 : Int32) (i2 : Int32) (i3 : Int32) (i4 : Int32) (i5 : Int32) (i6 : Int32) (h : AH), J x qX15_trial ZI 98 [(0, rv (zx x) a0), (1, .int i1), (2, .int i2), (3, .int i3), (4, .int i4), (5, .int i5), (6, .int i6)] [] h (k98 a0 i1 i2 i3 i4 i5 i6 h)) (a0 : Nat) (i1 : Int32) (i2 : Int32) (i3 : Int32) (i4 : Int32) (i5 : Int32) (is0 : Int32) (h : AH) : J x qX15_trial ZI 270 [(0, rv (zx x) a0), (1, .int i1), (2, .int i2), (3, .int i3), (4, .int i4), (5, .int i5)] [.int is0] h (X15_trial_B270 k76 k98 a0 i1 i2 i3 i4 i5 is0 h) := by
  unfold X15_trial_B270
  refine J_istore dX15_trial_270 (by decide) (SD.a (lvr := [(0, rv (zx x) a0), (1, .int i1), (2, .int i2), (3, .int i3), (4, .int i4), (5, .int i5)]) [0, 1, 2, 3, 4, 5] rfl rfl) ?_
  refine J_goto (tgt := 98) dX15_trial_272 rfl ?_
  exact J_sub [1, 2, 3, 4, 5, 6, 0] rfl (hk98 a0 i1 i2 i3 i4 i5 is0 h)
def X15_trial_B269 (k76 : (Nat → Int32 → Int32 → Int32 → Int32 → Int32 → AH → Option (Int32 × AH))) (k98 : (Nat → Int32 → Int32 → Int32 → Int32 → Int32 → Int32 → AH → Option (Int32 × AH))) (a0 : Nat) (i1 : Int32) (i2 : Int32) (i3 : Int32) (i4 : Int32) (i5 : Int32) (h : AH) : Option (Int32 × AH) :=
  X15_trial_B270 k76 k98 a0 i1 i2 i3 i4 i5 (nI 0) h
theorem jX15_trial_B269 (x : CT) (k76 : (Nat → Int32 → Int32 → Int32 → Int32 → Int32 → AH → Option (Int32 × AH))) (hk76 : ∀ (a0 : Nat) (i1 : Int32) (i2 : Int32) (i3 : Int32) (i4 : Int32) (i5 : Int32) (h : AH), J x qX15_trial ZI 76 [(0, rv (zx x) a0), (1, .int i1), (2, .int i2), (3, .int i3), (4, .int i4), (5, .int i5)] [] h (k76 a0 i1 i2 i3 i4 i5 h)) (k98 : (Nat → Int32 → Int32 → Int32 → Int32 → Int32 → Int32 → AH → Option (Int32 × AH))) (hk98 : ∀ (a0 : Nat) (i1 : Int32) (i2 : Int32) (i3 : Int32) (i4 : Int32) (i5 : Int32) (i6 : Int32) (h : AH), J x qX15_trial ZI 98 [(0, rv (zx x) a0), (1, .int i1), (2, .int i2), (3, .int i3), (4, .int i4), (5, .int i5), (6, .int i6)] [] h (k98 a0 i1 i2 i3 i4 i5 i6 h)) (a0 : Nat) (i1 : Int32) (i2 : Int32) (i3 : Int32) (i4 : Int32) (i5 : Int32) (h : AH) : J x qX15_trial ZI 269 [(0, rv (zx x) a0), (1, .int i1), (2, .int i2), (3, .int i3), (4, .int i4), (5, .int i5)] [] h (X15_trial_B269 k76 k98 a0 i1 i2 i3 i4 i5 h) := by
  unfold X15_trial_B269
  refine J_iconst (v := nI 0) dX15_trial_269 rfl ?_
  exact (jX15_trial_B270 x k76 hk76 k98 hk98 a0 i1 i2 i3 i4 i5 (nI 0) h)
def X15_trial_B251 (k76 : (Nat → Int32 → Int32 → Int32 → Int32 → Int32 → AH → Option (Int32 × AH))) (k98 : (Nat → Int32 → Int32 → Int32 → Int32 → Int32 → Int32 → AH → Option (Int32 × AH))) (a0 : Nat) (i1 : Int32) (i2 : Int32) (i3 : Int32) (i4 : Int32) (i5 : Int32) (h : AH) : Option (Int32 × AH) :=
  if i4 = 0 then (
    G (xc h a0 = 15) <|
    BN (X15_goesOn_f a0 i5 h) fun v3 h2 =>
    if v3 = 0 then (
      X15_trial_B269 k76 k98 a0 i1 i2 i3 i4 i5 h2
    ) else (
      X15_trial_B270 k76 k98 a0 i1 i2 i3 i4 i5 (nI 1) h2
    )
  ) else (
    X15_trial_B269 k76 k98 a0 i1 i2 i3 i4 i5 h
  )
theorem jX15_trial_B251 (x : CT) (k76 : (Nat → Int32 → Int32 → Int32 → Int32 → Int32 → AH → Option (Int32 × AH))) (hk76 : ∀ (a0 : Nat) (i1 : Int32) (i2 : Int32) (i3 : Int32) (i4 : Int32) (i5 : Int32) (h : AH), J x qX15_trial ZI 76 [(0, rv (zx x) a0), (1, .int i1), (2, .int i2), (3, .int i3), (4, .int i4), (5, .int i5)] [] h (k76 a0 i1 i2 i3 i4 i5 h)) (k98 : (Nat → Int32 → Int32 → Int32 → Int32 → Int32 → Int32 → AH → Option (Int32 × AH))) (hk98 : ∀ (a0 : Nat) (i1 : Int32) (i2 : Int32) (i3 : Int32) (i4 : Int32) (i5 : Int32) (i6 : Int32) (h : AH), J x qX15_trial ZI 98 [(0, rv (zx x) a0), (1, .int i1), (2, .int i2), (3, .int i3), (4, .int i4), (5, .int i5), (6, .int i6)] [] h (k98 a0 i1 i2 i3 i4 i5 i6 h)) (a0 : Nat) (i1 : Int32) (i2 : Int32) (i3 : Int32) (i4 : Int32) (i5 : Int32) (h : AH) : J x qX15_trial ZI 251 [(0, rv (zx x) a0), (1, .int i1), (2, .int i2), (3, .int i3), (4, .int i4), (5, .int i5)] [] h (X15_trial_B251 k76 k98 a0 i1 i2 i3 i4 i5 h) := by
  unfold X15_trial_B251
  refine J_iload 4 dX15_trial_251 rfl ?_
  refine J_if_ne (tgt := 269) dX15_trial_253 rfl ?_ ?_
  · exact (jX15_trial_B269 x k76 hk76 k98 hk98 a0 i1 i2 i3 i4 i5 h)
  · refine J_aload_n 0 dX15_trial_256 rv_is rfl ?_
    refine J_iload 5 dX15_trial_257 rfl ?_
    refine J_G (fun g1 => ?_)
    refine J.callV (n := 1) (As := [.int i5]) kc_15 (ctX15_goesOn (lx x) (wx x) a0 i5 h) kw_9_65 kw_9_62 kw_9_64 kp_56 kw_1_13 (by decide +kernel) rfl (by decide) (Nat.zero_le _) rfl dX15_trial_259 g1 (fun v3 h2 => ?_)
    show J x _ _ 262 _ [.int v3] h2 _
    refine J_if_eq (tgt := 269) dX15_trial_262 rfl ?_ ?_
    · exact (jX15_trial_B269 x k76 hk76 k98 hk98 a0 i1 i2 i3 i4 i5 h2)
    · refine J_iconst (v := nI 1) dX15_trial_265 rfl ?_
      refine J_goto (tgt := 270) dX15_trial_266 rfl ?_
      exact (jX15_trial_B270 x k76 hk76 k98 hk98 a0 i1 i2 i3 i4 i5 (nI 1) h2)
def X15_trial_B249 (k76 : (Nat → Int32 → Int32 → Int32 → Int32 → Int32 → AH → Option (Int32 × AH))) (k98 : (Nat → Int32 → Int32 → Int32 → Int32 → Int32 → Int32 → AH → Option (Int32 × AH))) (a0 : Nat) (i1 : Int32) (i3 : Int32) (i4 : Int32) (i5 : Int32) (is0 : Int32) (is1 : Int32) (h : AH) : Option (Int32 × AH) :=
  LT (is1 + is0) fun v1 =>
  X15_trial_B251 k76 k98 a0 i1 v1 i3 i4 i5 h
theorem jX15_trial_B249 (x : CT) (k76 : (Nat → Int32 → Int32 → Int32 → Int32 → Int32 → AH → Option (Int32 × AH))) (hk76 : ∀ (a0 : Nat) (i1 : Int32) (i2 : Int32) (i3 : Int32) (i4 : Int32) (i5 : Int32) (h : AH), J x qX15_trial ZI 76 [(0, rv (zx x) a0), (1, .int i1), (2, .int i2), (3, .int i3), (4, .int i4), (5, .int i5)] [] h (k76 a0 i1 i2 i3 i4 i5 h)) (k98 : (Nat → Int32 → Int32 → Int32 → Int32 → Int32 → Int32 → AH → Option (Int32 × AH))) (hk98 : ∀ (a0 : Nat) (i1 : Int32) (i2 : Int32) (i3 : Int32) (i4 : Int32) (i5 : Int32) (i6 : Int32) (h : AH), J x qX15_trial ZI 98 [(0, rv (zx x) a0), (1, .int i1), (2, .int i2), (3, .int i3), (4, .int i4), (5, .int i5), (6, .int i6)] [] h (k98 a0 i1 i2 i3 i4 i5 i6 h)) (a0 : Nat) (i1 : Int32) (i3 : Int32) (i4 : Int32) (i5 : Int32) (is0 : Int32) (is1 : Int32) (h : AH) : J x qX15_trial ZI 249 [(0, rv (zx x) a0), (1, .int i1), (3, .int i3), (4, .int i4), (5, .int i5)] [.int is0, .int is1] h (X15_trial_B249 k76 k98 a0 i1 i3 i4 i5 is0 is1 h) := by
  unfold X15_trial_B249
  refine J_iadd dX15_trial_249 ?_
  refine J_LTi (fun v1 => ?_)
  refine J_istore_n dX15_trial_250 (by decide) (SD.a (lvr := [(0, rv (zx x) a0), (1, .int i1), (3, .int i3), (4, .int i4), (5, .int i5)]) [0, 1, 2, 3, 4] rfl rfl) ?_
  exact J_sub [1, 2, 0, 3, 4, 5] rfl (jX15_trial_B251 x k76 hk76 k98 hk98 a0 i1 v1 i3 i4 i5 h)
def X15_trial_B238 (k76 : (Nat → Int32 → Int32 → Int32 → Int32 → Int32 → AH → Option (Int32 × AH))) (k98 : (Nat → Int32 → Int32 → Int32 → Int32 → Int32 → Int32 → AH → Option (Int32 × AH))) (a0 : Nat) (i1 : Int32) (i2 : Int32) (i3 : Int32) (i4 : Int32) (i5 : Int32) (i8 : Int32) (h : AH) : Option (Int32 × AH) :=
  if i8 = 0 then (
    X15_trial_B249 k76 k98 a0 i1 i3 i4 i5 (nI 1) i2 h
  ) else (
    X15_trial_B249 k76 k98 a0 i1 i3 i4 i5 (nI 0) i2 h
  )
theorem jX15_trial_B238 (x : CT) (k76 : (Nat → Int32 → Int32 → Int32 → Int32 → Int32 → AH → Option (Int32 × AH))) (hk76 : ∀ (a0 : Nat) (i1 : Int32) (i2 : Int32) (i3 : Int32) (i4 : Int32) (i5 : Int32) (h : AH), J x qX15_trial ZI 76 [(0, rv (zx x) a0), (1, .int i1), (2, .int i2), (3, .int i3), (4, .int i4), (5, .int i5)] [] h (k76 a0 i1 i2 i3 i4 i5 h)) (k98 : (Nat → Int32 → Int32 → Int32 → Int32 → Int32 → Int32 → AH → Option (Int32 × AH))) (hk98 : ∀ (a0 : Nat) (i1 : Int32) (i2 : Int32) (i3 : Int32) (i4 : Int32) (i5 : Int32) (i6 : Int32) (h : AH), J x qX15_trial ZI 98 [(0, rv (zx x) a0), (1, .int i1), (2, .int i2), (3, .int i3), (4, .int i4), (5, .int i5), (6, .int i6)] [] h (k98 a0 i1 i2 i3 i4 i5 i6 h)) (a0 : Nat) (i1 : Int32) (i2 : Int32) (i3 : Int32) (i4 : Int32) (i5 : Int32) (i8 : Int32) (h : AH) : J x qX15_trial ZI 238 [(0, rv (zx x) a0), (1, .int i1), (2, .int i2), (3, .int i3), (4, .int i4), (5, .int i5), (8, .int i8)] [] h (X15_trial_B238 k76 k98 a0 i1 i2 i3 i4 i5 i8 h) := by
  unfold X15_trial_B238
  refine J_iload_n 2 dX15_trial_238 rfl ?_
  refine J_iload 6 dX15_trial_239 rfl ?_
  refine J_if_ne (tgt := 248) dX15_trial_241 rfl ?_ ?_
  · refine J_iconst (v := nI 0) dX15_trial_248 rfl ?_
    exact J_sub [0, 1, 3, 4, 5] rfl (jX15_trial_B249 x k76 hk76 k98 hk98 a0 i1 i3 i4 i5 (nI 0) i2 h)
  · refine J_iconst (v := nI 1) dX15_trial_244 rfl ?_
    refine J_goto (tgt := 249) dX15_trial_245 rfl ?_
    exact J_sub [0, 1, 3, 4, 5] rfl (jX15_trial_B249 x k76 hk76 k98 hk98 a0 i1 i3 i4 i5 (nI 1) i2 h)
def X15_trial_B211 (k76 : (Nat → Int32 → Int32 → Int32 → Int32 → Int32 → AH → Option (Int32 × AH))) (k98 : (Nat → Int32 → Int32 → Int32 → Int32 → Int32 → Int32 → AH → Option (Int32 × AH))) : Nat → Nat → Int32 → Int32 → Int32 → Int32 → Int32 → Int32 → Int32 → AH → Option (Int32 × AH)
  | 0, _, _, _, _, _, _, _, _, _ => none
  | n + 1, a0, i1, i2, i3, i4, i5, i8, i9, h =>
    if i5 ≤ i9 then (
      X15_trial_B238 k76 k98 a0 i1 i2 i3 i4 i5 i8 h
    ) else (
      G (xc h a0 = 15) <|
      G (xc h (xR h a0 39) = 16) <|
      G (gx i9 (xz h (xR h a0 39))) <|
      G (xc h (xR h a0 44) = 16) <|
      G (gx i9 (xz h (xR h a0 44))) <|
      LT (pI h (xR h a0 44) i9.toNatClampNeg (xI h (xR h a0 39) i9.toNatClampNeg)) fun h6 =>
      LT (i9 + nI 1) fun v7 =>
      X15_trial_B211 k76 k98 n a0 i1 i2 i3 i4 i5 i8 v7 h6
    )
theorem jX15_trial_B211 (x : CT) (k76 : (Nat → Int32 → Int32 → Int32 → Int32 → Int32 → AH → Option (Int32 × AH))) (hk76 : ∀ (a0 : Nat) (i1 : Int32) (i2 : Int32) (i3 : Int32) (i4 : Int32) (i5 : Int32) (h : AH), J x qX15_trial ZI 76 [(0, rv (zx x) a0), (1, .int i1), (2, .int i2), (3, .int i3), (4, .int i4), (5, .int i5)] [] h (k76 a0 i1 i2 i3 i4 i5 h)) (k98 : (Nat → Int32 → Int32 → Int32 → Int32 → Int32 → Int32 → AH → Option (Int32 × AH))) (hk98 : ∀ (a0 : Nat) (i1 : Int32) (i2 : Int32) (i3 : Int32) (i4 : Int32) (i5 : Int32) (i6 : Int32) (h : AH), J x qX15_trial ZI 98 [(0, rv (zx x) a0), (1, .int i1), (2, .int i2), (3, .int i3), (4, .int i4), (5, .int i5), (6, .int i6)] [] h (k98 a0 i1 i2 i3 i4 i5 i6 h)) : ∀ (n : Nat) (a0 : Nat) (i1 : Int32) (i2 : Int32) (i3 : Int32) (i4 : Int32) (i5 : Int32) (i8 : Int32) (i9 : Int32) (h : AH), J x qX15_trial ZI 211 [(0, rv (zx x) a0), (1, .int i1), (2, .int i2), (3, .int i3), (4, .int i4), (5, .int i5), (8, .int i8), (9, .int i9)] [] h (X15_trial_B211 k76 k98 n a0 i1 i2 i3 i4 i5 i8 i9 h) := by
  intro n
  induction n with
  | zero => intro a0 i1 i2 i3 i4 i5 i8 i9 h; exact J_none
  | succ n ih =>
    intro a0 i1 i2 i3 i4 i5 i8 i9 h
    unfold X15_trial_B211
    refine J_iload 7 dX15_trial_211 rfl ?_
    refine J_iload 5 dX15_trial_213 rfl ?_
    refine J_icmp_ge (tgt := 238) dX15_trial_215 rfl ?_ ?_
    · exact J_sub [0, 1, 2, 3, 4, 5, 6] rfl (jX15_trial_B238 x k76 hk76 k98 hk98 a0 i1 i2 i3 i4 i5 i8 h)
    · refine J_aload_n 0 dX15_trial_218 rv_is rfl ?_
      refine J_G (fun g1 => ?_)
      refine J_getR kc_15 44 (by decide) rfl rfl kw_7_14 dX15_trial_219 g1 ?_
      refine J_iload 7 dX15_trial_222 rfl ?_
      refine J_aload_n 0 dX15_trial_224 rv_is rfl ?_
      refine J_getR kc_15 39 (by decide) rfl rfl kw_7_9 dX15_trial_225 g1 ?_
      refine J_iload 7 dX15_trial_228 rfl ?_
      refine J_G (fun g2 => ?_)
      refine J_G (fun g3 => ?_)
      refine J_iald dX15_trial_230 g2 g3 ?_
      refine J_G (fun g4 => ?_)
      refine J_G (fun g5 => ?_)
      refine J_iast dX15_trial_231 g4 g5 ?_
      refine J_LTh (fun h6 => ?_)
      refine J_iincL (u := i9 + nI 1) 7 dX15_trial_232 rfl rfl (by decide) (SD.a (lvr := [(0, rv (zx x) a0), (1, .int i1), (2, .int i2), (3, .int i3), (4, .int i4), (5, .int i5), (8, .int i8)]) [0, 1, 2, 3, 4, 5, 6] rfl rfl) (fun v7 => ?_)
      refine J_goto (tgt := 211) dX15_trial_235 rfl ?_
      exact J_sub [1, 2, 3, 4, 5, 6, 7, 0] rfl (ih a0 i1 i2 i3 i4 i5 i8 v7 h6)
def X15_trial_B155 (k76 : (Nat → Int32 → Int32 → Int32 → Int32 → Int32 → AH → Option (Int32 × AH))) (k98 : (Nat → Int32 → Int32 → Int32 → Int32 → Int32 → Int32 → AH → Option (Int32 × AH))) (a0 : Nat) (i1 : Int32) (i2 : Int32) (i3 : Int32) (i4 : Int32) (i5 : Int32) (i7 : Int32) (h : AH) : Option (Int32 × AH) :=
  if i7 = 0 then (
    X15_trial_B251 k76 k98 a0 i1 i2 i3 i4 i5 h
  ) else (
    if i3 = i1 then (
      X15_trial_B251 k76 k98 a0 i1 i2 i3 (nI 2) i5 h
    ) else (
      LT (i3 + nI 1) fun v1 =>
      G (xc h a0 = 15) <|
      BN (X15_runs_f a0 ((nI 3) + i2) (xR h a0 39) (nI 0) i5 h) fun v4 h3 =>
      if v4 = (nI 2) then (
        G (xc h3 a0 = 15) <|
        LT (pI h3 a0 42 i5) fun h6 =>
        X15_trial_B211 k76 k98 FU a0 i1 i2 v1 (nI 1) i5 v4 (nI 0) h6
      ) else (
        X15_trial_B238 k76 k98 a0 i1 i2 v1 i4 i5 v4 h3
      )
    )
  )
theorem jX15_trial_B155 (x : CT) (k76 : (Nat → Int32 → Int32 → Int32 → Int32 → Int32 → AH → Option (Int32 × AH))) (hk76 : ∀ (a0 : Nat) (i1 : Int32) (i2 : Int32) (i3 : Int32) (i4 : Int32) (i5 : Int32) (h : AH), J x qX15_trial ZI 76 [(0, rv (zx x) a0), (1, .int i1), (2, .int i2), (3, .int i3), (4, .int i4), (5, .int i5)] [] h (k76 a0 i1 i2 i3 i4 i5 h)) (k98 : (Nat → Int32 → Int32 → Int32 → Int32 → Int32 → Int32 → AH → Option (Int32 × AH))) (hk98 : ∀ (a0 : Nat) (i1 : Int32) (i2 : Int32) (i3 : Int32) (i4 : Int32) (i5 : Int32) (i6 : Int32) (h : AH), J x qX15_trial ZI 98 [(0, rv (zx x) a0), (1, .int i1), (2, .int i2), (3, .int i3), (4, .int i4), (5, .int i5), (6, .int i6)] [] h (k98 a0 i1 i2 i3 i4 i5 i6 h)) (a0 : Nat) (i1 : Int32) (i2 : Int32) (i3 : Int32) (i4 : Int32) (i5 : Int32) (i7 : Int32) (h : AH) : J x qX15_trial ZI 155 [(0, rv (zx x) a0), (1, .int i1), (2, .int i2), (3, .int i3), (4, .int i4), (5, .int i5), (7, .int i7)] [] h (X15_trial_B155 k76 k98 a0 i1 i2 i3 i4 i5 i7 h) := by
  unfold X15_trial_B155
  refine J_iload 6 dX15_trial_155 rfl ?_
  refine J_if_ne (tgt := 163) dX15_trial_157 rfl ?_ ?_
  · refine J_iload_n 3 dX15_trial_163 rfl ?_
    refine J_iload_n 1 dX15_trial_164 rfl ?_
    refine J_icmp_ne (tgt := 174) dX15_trial_165 rfl ?_ ?_
    · refine J_iincL (u := i3 + nI 1) 3 dX15_trial_174 rfl rfl (by decide) (SD.a (lvr := [(0, rv (zx x) a0), (1, .int i1), (2, .int i2), (4, .int i4), (5, .int i5)]) [0, 1, 2, 4, 5] rfl rfl) (fun v1 => ?_)
      refine J_aload_n 1 dX15_trial_177 rv_is rfl ?_
      refine J_iconst (v := nI 3) dX15_trial_178 rfl ?_
      refine J_iload_n 3 dX15_trial_179 rfl ?_
      refine J_iadd dX15_trial_180 ?_
      refine J_aload_n 1 dX15_trial_181 rv_is rfl ?_
      refine J_G (fun g2 => ?_)
      refine J_getR kc_15 39 (by decide) rfl rfl kw_7_9 dX15_trial_182 g2 ?_
      refine J_iconst (v := nI 0) dX15_trial_185 rfl ?_
      refine J_iload 5 dX15_trial_186 rfl ?_
      refine J.callV (n := 4) (As := [.int ((nI 3) + i2), rv (zx x) (xR h a0 39), .int (nI 0), .int i5]) kc_15 (ctX15_runs (lx x) (wx x) a0 ((nI 3) + i2) (xR h a0 39) (nI 0) i5 h) kw_8_154 kw_8_151 kw_8_153 kp_29 kw_1_13 (by decide +kernel) rfl (by decide) (Nat.zero_le _) rfl dX15_trial_188 g2 (fun v4 h3 => ?_)
      show J x _ _ 191 _ [.int v4] h3 _
      refine J_istore dX15_trial_191 (by decide) (SD.a (lvr := [(3, .int v1), (0, rv (zx x) a0), (1, .int i1), (2, .int i2), (4, .int i4), (5, .int i5)]) [0, 1, 2, 3, 4, 5] rfl rfl) ?_
      refine J_iload 0 dX15_trial_193 rfl ?_
      refine J_iconst (v := nI 2) dX15_trial_195 rfl ?_
      refine J_icmp_ne (tgt := 238) dX15_trial_196 rfl ?_ ?_
      · exact J_sub [2, 3, 4, 1, 5, 6, 0] rfl (jX15_trial_B238 x k76 hk76 k98 hk98 a0 i1 i2 v1 i4 i5 v4 h3)
      · refine J_iconst (v := nI 1) dX15_trial_199 rfl ?_
        refine J_istore dX15_trial_200 (by decide) (SD.a (lvr := [(8, .int v4), (3, .int v1), (0, rv (zx x) a0), (1, .int i1), (2, .int i2), (5, .int i5)]) [0, 1, 2, 3, 4, 6] rfl rfl) ?_
        refine J_aload_n 3 dX15_trial_202 rv_is rfl ?_
        refine J_iload 6 dX15_trial_203 rfl ?_
        refine J_G (fun g5 => ?_)
        refine J_putI kc_15 42 (by decide) rfl rfl rfl rfl (Or.inl rfl) kw_7_12 dX15_trial_205 g5 ?_
        refine J_LTh (fun h6 => ?_)
        refine J_iconst (v := nI 0) dX15_trial_208 rfl ?_
        refine J_istore dX15_trial_209 (by decide) (SD.a (lvr := [(4, .int (nI 1)), (8, .int v4), (3, .int v1), (0, rv (zx x) a0), (1, .int i1), (2, .int i2), (5, .int i5)]) [0, 1, 2, 3, 4, 5, 6] rfl rfl) ?_
        exact J_sub [4, 5, 6, 3, 1, 7, 2, 0] rfl (jX15_trial_B211 x k76 hk76 k98 hk98 FU a0 i1 i2 v1 (nI 1) i5 v4 (nI 0) h6)
    · refine J_iconst (v := nI 2) dX15_trial_168 rfl ?_
      refine J_istore dX15_trial_169 (by decide) (SD.a (lvr := [(0, rv (zx x) a0), (1, .int i1), (2, .int i2), (3, .int i3), (5, .int i5)]) [0, 1, 2, 3, 5] rfl rfl) ?_
      refine J_goto (tgt := 251) dX15_trial_171 rfl ?_
      exact J_sub [1, 2, 3, 4, 0, 5] rfl (jX15_trial_B251 x k76 hk76 k98 hk98 a0 i1 i2 i3 (nI 2) i5 h)
  · refine J_goto (tgt := 251) dX15_trial_160 rfl ?_
    exact J_sub [0, 1, 2, 3, 4, 5] rfl (jX15_trial_B251 x k76 hk76 k98 hk98 a0 i1 i2 i3 i4 i5 h)
def X15_trial_B128 (k76 : (Nat → Int32 → Int32 → Int32 → Int32 → Int32 → AH → Option (Int32 × AH))) (k98 : (Nat → Int32 → Int32 → Int32 → Int32 → Int32 → Int32 → AH → Option (Int32 × AH))) : Nat → Nat → Int32 → Int32 → Int32 → Int32 → Int32 → Int32 → Int32 → AH → Option (Int32 × AH)
  | 0, _, _, _, _, _, _, _, _, _ => none
  | n + 1, a0, i1, i2, i3, i4, i5, i7, i8, h =>
    if i2 ≤ i8 then (
      X15_trial_B155 k76 k98 a0 i1 i2 i3 i4 i5 i7 h
    ) else (
      if i7 = 0 then (
        X15_trial_B155 k76 k98 a0 i1 i2 i3 i4 i5 i7 h
      ) else (
        G (xc h a0 = 15) <|
        BN (X15_isSpoilt_f a0 ((nI 3) + i8) h) fun v3 h2 =>
        LT (i8 + nI 1) fun v4 =>
        X15_trial_B128 k76 k98 n a0 i1 i2 i3 i4 i5 v3 v4 h2
      )
    )
theorem jX15_trial_B128 (x : CT) (k76 : (Nat → Int32 → Int32 → Int32 → Int32 → Int32 → AH → Option (Int32 × AH))) (hk76 : ∀ (a0 : Nat) (i1 : Int32) (i2 : Int32) (i3 : Int32) (i4 : Int32) (i5 : Int32) (h : AH), J x qX15_trial ZI 76 [(0, rv (zx x) a0), (1, .int i1), (2, .int i2), (3, .int i3), (4, .int i4), (5, .int i5)] [] h (k76 a0 i1 i2 i3 i4 i5 h)) (k98 : (Nat → Int32 → Int32 → Int32 → Int32 → Int32 → Int32 → AH → Option (Int32 × AH))) (hk98 : ∀ (a0 : Nat) (i1 : Int32) (i2 : Int32) (i3 : Int32) (i4 : Int32) (i5 : Int32) (i6 : Int32) (h : AH), J x qX15_trial ZI 98 [(0, rv (zx x) a0), (1, .int i1), (2, .int i2), (3, .int i3), (4, .int i4), (5, .int i5), (6, .int i6)] [] h (k98 a0 i1 i2 i3 i4 i5 i6 h)) : ∀ (n : Nat) (a0 : Nat) (i1 : Int32) (i2 : Int32) (i3 : Int32) (i4 : Int32) (i5 : Int32) (i7 : Int32) (i8 : Int32) (h : AH), J x qX15_trial ZI 128 [(0, rv (zx x) a0), (1, .int i1), (2, .int i2), (3, .int i3), (4, .int i4), (5, .int i5), (7, .int i7), (8, .int i8)] [] h (X15_trial_B128 k76 k98 n a0 i1 i2 i3 i4 i5 i7 i8 h) := by
  intro n
  induction n with
  | zero => intro a0 i1 i2 i3 i4 i5 i7 i8 h; exact J_none
  | succ n ih =>
    intro a0 i1 i2 i3 i4 i5 i7 i8 h
    unfold X15_trial_B128
    refine J_iload 7 dX15_trial_128 rfl ?_
    refine J_iload_n 2 dX15_trial_130 rfl ?_
    refine J_icmp_ge (tgt := 155) dX15_trial_131 rfl ?_ ?_
    · exact J_sub [0, 1, 2, 3, 4, 5, 6] rfl (jX15_trial_B155 x k76 hk76 k98 hk98 a0 i1 i2 i3 i4 i5 i7 h)
    · refine J_iload 6 dX15_trial_134 rfl ?_
      refine J_if_eq (tgt := 155) dX15_trial_136 rfl ?_ ?_
      · exact J_sub [0, 1, 2, 3, 4, 5, 6] rfl (jX15_trial_B155 x k76 hk76 k98 hk98 a0 i1 i2 i3 i4 i5 i7 h)
      · refine J_aload_n 0 dX15_trial_139 rv_is rfl ?_
        refine J_iconst (v := nI 3) dX15_trial_140 rfl ?_
        refine J_iload 7 dX15_trial_141 rfl ?_
        refine J_iadd dX15_trial_143 ?_
        refine J_G (fun g1 => ?_)
        refine J.callV (n := 1) (As := [.int ((nI 3) + i8)]) kc_15 (ctX15_isSpoilt (lx x) (wx x) a0 ((nI 3) + i8) h) kw_9_21 kw_9_18 kw_9_20 kp_48 kw_1_13 (by decide +kernel) rfl (by decide) (Nat.zero_le _) rfl dX15_trial_144 g1 (fun v3 h2 => ?_)
        show J x _ _ 147 _ [.int v3] h2 _
        refine J_istore dX15_trial_147 (by decide) (SD.a (lvr := [(0, rv (zx x) a0), (1, .int i1), (2, .int i2), (3, .int i3), (4, .int i4), (5, .int i5), (8, .int i8)]) [0, 1, 2, 3, 4, 5, 7] rfl rfl) ?_
        refine J_iincL (u := i8 + nI 1) 7 dX15_trial_149 rfl rfl (by decide) (SD.a (lvr := [(7, .int v3), (0, rv (zx x) a0), (1, .int i1), (2, .int i2), (3, .int i3), (4, .int i4), (5, .int i5)]) [0, 1, 2, 3, 4, 5, 6] rfl rfl) (fun v4 => ?_)
        refine J_goto (tgt := 128) dX15_trial_152 rfl ?_
        exact J_sub [2, 3, 4, 5, 6, 7, 1, 0] rfl (ih a0 i1 i2 i3 i4 i5 v3 v4 h2)
def X15_trial_B98 (k76 : (Nat → Int32 → Int32 → Int32 → Int32 → Int32 → AH → Option (Int32 × AH))) : Nat → Nat → Int32 → Int32 → Int32 → Int32 → Int32 → Int32 → AH → Option (Int32 × AH)
  | 0, _, _, _, _, _, _, _, _ => none
  | n + 1, a0, i1, i2, i3, i4, i5, i6, h =>
    if i6 = 0 then (
      X15_trial_B275 k76 a0 i1 i2 i3 i4 i5 h
    ) else (
      if i4 = 0 then (
        G (xc h a0 = 15) <|
        G (xc h (xR h a0 27) = 13) <|
        BN (X13_lay_f (xR h a0 27) (xR h a0 39) (nI 0) i5 h) fun _ h3 =>
        X15_trial_B128 k76 (X15_trial_B98 k76 n) FU a0 i1 i2 i3 i4 i5 (nI 1) (nI 0) h3
      ) else (
        X15_trial_B275 k76 a0 i1 i2 i3 i4 i5 h
      )
    )
theorem jX15_trial_B98 (x : CT) (k76 : (Nat → Int32 → Int32 → Int32 → Int32 → Int32 → AH → Option (Int32 × AH))) (hk76 : ∀ (a0 : Nat) (i1 : Int32) (i2 : Int32) (i3 : Int32) (i4 : Int32) (i5 : Int32) (h : AH), J x qX15_trial ZI 76 [(0, rv (zx x) a0), (1, .int i1), (2, .int i2), (3, .int i3), (4, .int i4), (5, .int i5)] [] h (k76 a0 i1 i2 i3 i4 i5 h)) : ∀ (n : Nat) (a0 : Nat) (i1 : Int32) (i2 : Int32) (i3 : Int32) (i4 : Int32) (i5 : Int32) (i6 : Int32) (h : AH), J x qX15_trial ZI 98 [(0, rv (zx x) a0), (1, .int i1), (2, .int i2), (3, .int i3), (4, .int i4), (5, .int i5), (6, .int i6)] [] h (X15_trial_B98 k76 n a0 i1 i2 i3 i4 i5 i6 h) := by
  intro n
  induction n with
  | zero => intro a0 i1 i2 i3 i4 i5 i6 h; exact J_none
  | succ n ih =>
    intro a0 i1 i2 i3 i4 i5 i6 h
    unfold X15_trial_B98
    refine J_iload 6 dX15_trial_98 rfl ?_
    refine J_if_eq (tgt := 275) dX15_trial_100 rfl ?_ ?_
    · exact J_sub [0, 1, 2, 3, 4, 5] rfl (jX15_trial_B275 x k76 hk76 a0 i1 i2 i3 i4 i5 h)
    · refine J_iload 4 dX15_trial_103 rfl ?_
      refine J_if_ne (tgt := 275) dX15_trial_105 rfl ?_ ?_
      · exact J_sub [0, 1, 2, 3, 4, 5] rfl (jX15_trial_B275 x k76 hk76 a0 i1 i2 i3 i4 i5 h)
      · refine J_aload_n 0 dX15_trial_108 rv_is rfl ?_
        refine J_G (fun g1 => ?_)
        refine J_getR kc_15 27 (by decide) rfl rfl kw_6_237 dX15_trial_109 g1 ?_
        refine J_aload_n 0 dX15_trial_112 rv_is rfl ?_
        refine J_getR kc_15 39 (by decide) rfl rfl kw_7_9 dX15_trial_113 g1 ?_
        refine J_iconst (v := nI 0) dX15_trial_116 rfl ?_
        refine J_iload 5 dX15_trial_117 rfl ?_
        refine J_G (fun g2 => ?_)
        refine J.callV (n := 3) (As := [rv (zx x) (xR h a0 39), .int (nI 0), .int i5]) kc_13 (ctX13_lay (lx x) (wx x) (xR h a0 27) (xR h a0 39) (nI 0) i5 h) kw_8_158 kw_8_155 kw_8_156 kw_8_157 kw_1_18 (by decide +kernel) rfl (by decide) (Nat.zero_le _) rfl dX15_trial_119 g2 (fun _ h3 => ?_)
        show J x _ _ 122 _ [] h3 _
        refine J_iconst (v := nI 1) dX15_trial_122 rfl ?_
        refine J_istore dX15_trial_123 (by decide) (SD.a (lvr := [(0, rv (zx x) a0), (1, .int i1), (2, .int i2), (3, .int i3), (4, .int i4), (5, .int i5)]) [0, 1, 2, 3, 4, 5] rfl rfl) ?_
        refine J_iconst (v := nI 0) dX15_trial_125 rfl ?_
        refine J_istore dX15_trial_126 (by decide) (SD.a (lvr := [(7, .int (nI 1)), (0, rv (zx x) a0), (1, .int i1), (2, .int i2), (3, .int i3), (4, .int i4), (5, .int i5)]) [0, 1, 2, 3, 4, 5, 6] rfl rfl) ?_
        exact J_sub [2, 3, 4, 5, 6, 7, 1, 0] rfl (jX15_trial_B128 x k76 hk76 (X15_trial_B98 k76 n) ih FU a0 i1 i2 i3 i4 i5 (nI 1) (nI 0) h3)
def X15_trial_B76 : Nat → Nat → Int32 → Int32 → Int32 → Int32 → Int32 → AH → Option (Int32 × AH)
  | 0, _, _, _, _, _, _, _ => none
  | n + 1, a0, i1, i2, i3, i4, i5, h =>
    G (xc h a0 = 15) <|
    BN (X15_inPurse_f a0 h) fun v3 h2 =>
    if v3 < i5 then (
      X15_trial_B281 a0 i2 i3 i4 h2
    ) else (
      if i4 = 0 then (
        G (xc h2 a0 = 15) <|
        BN (X15_begins_f a0 i5 h2) fun v6 h5 =>
        X15_trial_B98 (X15_trial_B76 n) FU a0 i1 i2 i3 i4 i5 v6 h5
      ) else (
        X15_trial_B281 a0 i2 i3 i4 h2
      )
    )
theorem jX15_trial_B76 (x : CT) : ∀ (n : Nat) (a0 : Nat) (i1 : Int32) (i2 : Int32) (i3 : Int32) (i4 : Int32) (i5 : Int32) (h : AH), J x qX15_trial ZI 76 [(0, rv (zx x) a0), (1, .int i1), (2, .int i2), (3, .int i3), (4, .int i4), (5, .int i5)] [] h (X15_trial_B76 n a0 i1 i2 i3 i4 i5 h) := by
  intro n
  induction n with
  | zero => intro a0 i1 i2 i3 i4 i5 h; exact J_none
  | succ n ih =>
    intro a0 i1 i2 i3 i4 i5 h
    unfold X15_trial_B76
    refine J_iload 5 dX15_trial_76 rfl ?_
    refine J_aload_n 0 dX15_trial_78 rv_is rfl ?_
    refine J_G (fun g1 => ?_)
    refine J.callV (n := 0) (As := []) kc_15 (ctX15_inPurse (lx x) (wx x) a0 h) kw_8_134 kw_8_131 kw_8_133 kp_27 kw_1_13 (by decide +kernel) rfl (by decide) (by simp [rv_cat, cat_I, cat_L, cat_S]) rfl dX15_trial_79 g1 (fun v3 h2 => ?_)
    show J x _ _ 82 _ [.int v3, .int i5] h2 _
    refine J_icmp_gt (tgt := 281) dX15_trial_82 rfl ?_ ?_
    · exact J_sub [0, 2, 3, 4] rfl (jX15_trial_B281 x a0 i2 i3 i4 h2)
    · refine J_iload 4 dX15_trial_85 rfl ?_
      refine J_if_ne (tgt := 281) dX15_trial_87 rfl ?_ ?_
      · exact J_sub [0, 2, 3, 4] rfl (jX15_trial_B281 x a0 i2 i3 i4 h2)
      · refine J_aload_n 0 dX15_trial_90 rv_is rfl ?_
        refine J_iload 5 dX15_trial_91 rfl ?_
        refine J_G (fun g4 => ?_)
        refine J.callV (n := 1) (As := [.int i5]) kc_15 (ctX15_begins (lx x) (wx x) a0 i5 h2) kw_9_57 kw_9_54 kw_9_56 kp_54 kw_1_13 (by decide +kernel) rfl (by decide) (Nat.zero_le _) rfl dX15_trial_93 g4 (fun v6 h5 => ?_)
        show J x _ _ 96 _ [.int v6] h5 _
        refine J_istore dX15_trial_96 (by decide) (SD.a (lvr := [(0, rv (zx x) a0), (1, .int i1), (2, .int i2), (3, .int i3), (4, .int i4), (5, .int i5)]) [0, 1, 2, 3, 4, 5] rfl rfl) ?_
        exact J_sub [1, 2, 3, 4, 5, 6, 0] rfl (jX15_trial_B98 x (X15_trial_B76 n) ih FU a0 i1 i2 i3 i4 i5 v6 h5)
def X15_trial_f (a0 : Nat) (i1 : Int32) (h : AH) : Option (Int32 × AH) :=
  G (xc h a0 = 15) <|
  LT (pI h a0 0 (nI 0)) fun h2 =>
  G (xc h2 a0 = 15) <|
  if (xR h2 a0 4) = 0 then (
    G (xc h2 a0 = 15) <|
    BN (X15_refused_f a0 (nI 1) h2) fun v19 h18 =>
    some (v19, h18)
  ) else (
    BN (X15_in_f i1 (nI 1) (nI 100) h2) fun v5 h4 =>
    if v5 = 0 then (
      G (xc h4 a0 = 15) <|
      BN (X15_refused_f a0 (nI 2) h4) fun v16 h15 =>
      some (v16, h15)
    ) else (
      G (xc h4 a0 = 15) <|
      BN (X15_isTooMany_f a0 h4) fun v8 h7 =>
      if v8 = 0 then (
        G (xc h7 a0 = 15) <|
        BN (X15_runs_f a0 (nI 3) (xR h7 a0 20) (nI 0) (nI 0) h7) fun v11 h10 =>
        if v11 = 0 then (
          G (xc h10 a0 = 15) <|
          LT (pI h10 a0 42 (nI 0)) fun h13 =>
          X15_trial_B76 FU a0 i1 (nI 1) (nI 0) (nI 0) (nI 1) h13
        ) else (
          X15_trial_B55 a0 h10
        )
      ) else (
        X15_trial_B55 a0 h7
      )
    )
  )
theorem jX15_trial (x : CT) (a0 : Nat) (i1 : Int32) (h : AH) : J x qX15_trial ZI 0 [(0, rv (zx x) a0), (1, .int i1)] [] h (X15_trial_f a0 i1 h) := by
  unfold X15_trial_f
  refine J_aload_n 0 dX15_trial_0 rv_is rfl ?_
  refine J_iconst (v := nI 0) dX15_trial_1 rfl ?_
  refine J_G (fun g1 => ?_)
  refine J_putI kc_15 0 (by decide) rfl rfl rfl rfl (Or.inl rfl) kw_6_210 dX15_trial_2 g1 ?_
  refine J_LTh (fun h2 => ?_)
  refine J_aload_n 0 dX15_trial_5 rv_is rfl ?_
  refine J_G (fun g3 => ?_)
  refine J_getR kc_15 4 (by decide) rfl rfl kw_6_214 dX15_trial_6 g3 ?_
  refine J_ifnonnull (tgt := 18) dX15_trial_9 rfl ?_ ?_
  · refine J_iload_n 1 dX15_trial_18 rfl ?_
    refine J_iconst (v := nI 1) dX15_trial_19 rfl ?_
    refine J_bipush (v := nI 100) dX15_trial_20 rfl ?_
    refine J.callS (n := 3) (As := [.int i1, .int (nI 1), .int (nI 100)]) (ctX15_in (lx x) (wx x) i1 (nI 1) (nI 100) h2) kw_8_122 kw_8_120 kw_8_121 kw_1_13 (by decide +kernel) rfl (by decide) (Nat.zero_le _) rfl dX15_trial_22 (fun v5 h4 => ?_)
    show J x _ _ 25 _ [.int v5] h4 _
    refine J_if_ne (tgt := 34) dX15_trial_25 rfl ?_ ?_
    · refine J_aload_n 0 dX15_trial_34 rv_is rfl ?_
      refine J_G (fun g6 => ?_)
      refine J.callV (n := 0) (As := []) kc_15 (ctX15_isTooMany (lx x) (wx x) a0 h4) kw_9_49 kw_9_46 kw_9_48 kp_52 kw_1_13 (by decide +kernel) rfl (by decide) (Nat.zero_le _) rfl dX15_trial_35 g6 (fun v8 h7 => ?_)
      show J x _ _ 38 _ [.int v8] h7 _
      refine J_if_ne (tgt := 55) dX15_trial_38 rfl ?_ ?_
      · exact J_sub [0] rfl (jX15_trial_B55 x a0 h7)
      · refine J_aload_n 0 dX15_trial_41 rv_is rfl ?_
        refine J_iconst (v := nI 3) dX15_trial_42 rfl ?_
        refine J_aload_n 0 dX15_trial_43 rv_is rfl ?_
        refine J_G (fun g9 => ?_)
        refine J_getR kc_15 20 (by decide) rfl rfl kw_6_230 dX15_trial_44 g9 ?_
        refine J_iconst (v := nI 0) dX15_trial_47 rfl ?_
        refine J_iconst (v := nI 0) dX15_trial_48 rfl ?_
        refine J.callV (n := 4) (As := [.int (nI 3), rv (zx x) (xR h7 a0 20), .int (nI 0), .int (nI 0)]) kc_15 (ctX15_runs (lx x) (wx x) a0 (nI 3) (xR h7 a0 20) (nI 0) (nI 0) h7) kw_8_154 kw_8_151 kw_8_153 kp_29 kw_1_13 (by decide +kernel) rfl (by decide) (Nat.zero_le _) rfl dX15_trial_49 g9 (fun v11 h10 => ?_)
        show J x _ _ 52 _ [.int v11] h10 _
        refine J_if_eq (tgt := 61) dX15_trial_52 rfl ?_ ?_
        · refine J_iconst (v := nI 1) dX15_trial_61 rfl ?_
          refine J_istore_n dX15_trial_62 (by decide) (SD.a (lvr := [(0, rv (zx x) a0), (1, .int i1)]) [0, 1] rfl rfl) ?_
          refine J_iconst (v := nI 0) dX15_trial_63 rfl ?_
          refine J_istore_n dX15_trial_64 (by decide) (SD.a (lvr := [(2, .int (nI 1)), (0, rv (zx x) a0), (1, .int i1)]) [0, 1, 2] rfl rfl) ?_
          refine J_aload_n 2 dX15_trial_65 rv_is rfl ?_
          refine J_iconst (v := nI 0) dX15_trial_66 rfl ?_
          refine J_G (fun g12 => ?_)
          refine J_putI kc_15 42 (by decide) rfl rfl rfl rfl (Or.inl rfl) kw_7_12 dX15_trial_67 g12 ?_
          refine J_LTh (fun h13 => ?_)
          refine J_iconst (v := nI 0) dX15_trial_70 rfl ?_
          refine J_istore dX15_trial_71 (by decide) (SD.a (lvr := [(3, .int (nI 0)), (2, .int (nI 1)), (0, rv (zx x) a0), (1, .int i1)]) [0, 1, 2, 3] rfl rfl) ?_
          refine J_iconst (v := nI 1) dX15_trial_73 rfl ?_
          refine J_istore dX15_trial_74 (by decide) (SD.a (lvr := [(4, .int (nI 0)), (3, .int (nI 0)), (2, .int (nI 1)), (0, rv (zx x) a0), (1, .int i1)]) [0, 1, 2, 3, 4] rfl rfl) ?_
          exact J_sub [4, 5, 3, 2, 1, 0] rfl (jX15_trial_B76 x FU a0 i1 (nI 1) (nI 0) (nI 0) (nI 1) h13)
        · exact J_sub [0] rfl (jX15_trial_B55 x a0 h10)
    · refine J_aload_n 0 dX15_trial_28 rv_is rfl ?_
      refine J_iconst (v := nI 2) dX15_trial_29 rfl ?_
      refine J_G (fun g14 => ?_)
      refine J.callV (n := 1) (As := [.int (nI 2)]) kc_15 (ctX15_refused (lx x) (wx x) a0 (nI 2) h4) kw_7_139 kw_7_136 kw_7_138 kp_8 kw_1_13 (by decide +kernel) rfl (by decide) (Nat.zero_le _) rfl dX15_trial_30 g14 (fun v16 h15 => ?_)
      show J x _ _ 33 _ [.int v16] h15 _
      exact J_iret dX15_trial_33
  · refine J_aload_n 0 dX15_trial_12 rv_is rfl ?_
    refine J_iconst (v := nI 1) dX15_trial_13 rfl ?_
    refine J_G (fun g17 => ?_)
    refine J.callV (n := 1) (As := [.int (nI 1)]) kc_15 (ctX15_refused (lx x) (wx x) a0 (nI 1) h2) kw_7_139 kw_7_136 kw_7_138 kp_8 kw_1_13 (by decide +kernel) rfl (by decide) (Nat.zero_le _) rfl dX15_trial_14 g17 (fun v19 h18 => ?_)
    show J x _ _ 17 _ [.int v19] h18 _
    exact J_iret dX15_trial_17
theorem ctX15_trial (l : Launch) (w : WT) (a0 : Nat) (i1 : Int32) (h : AH) : CM l w yX15_trial cX15_trial 10 (some .int) 6 143 KI [rv (w.1) a0, .int i1] h (X15_trial_f a0 i1 h) :=
  CM.of (by decide +kernel) (by simp [lg_sl, rv_cat, cat_I, cat_L, cat_S]) (lv := [(0, rv (w.1) a0), (1, .int i1)]) (by simp [lv_args, rv_cat, cat_I, cat_L, cat_S]) (fun x hx => by subst hx; exact jX15_trial x a0 i1 h)
-- FallTrialsModel.exact()I
abbrev qX15_exact : MT := (cX15_exact, RX15, "exact", (some .int), 6, 143, 5)
def X15_exact_B132 (a0 : Nat) (i1 : Int32) (h : AH) : Option (Int32 × AH) :=
  G (xc h a0 = 15) <|
  BN (X15_done_f a0 i1 h) fun v3 h2 =>
  some (v3, h2)
theorem jX15_exact_B132 (x : CT) (a0 : Nat) (i1 : Int32) (h : AH) : J x qX15_exact ZI 132 [(0, rv (zx x) a0), (1, .int i1)] [] h (X15_exact_B132 a0 i1 h) := by
  unfold X15_exact_B132
  refine J_aload_n 0 dX15_exact_132 rv_is rfl ?_
  refine J_iload_n 1 dX15_exact_133 rfl ?_
  refine J_G (fun g1 => ?_)
  refine J.callV (n := 1) (As := [.int i1]) kc_15 (ctX15_done (lx x) (wx x) a0 i1 h) kw_8_103 kw_8_100 kw_8_102 kp_24 kw_1_13 (by decide +kernel) rfl (by decide) (Nat.zero_le _) rfl dX15_exact_134 g1 (fun v3 h2 => ?_)
  show J x _ _ 137 _ [.int v3] h2 _
  exact J_iret dX15_exact_137
def X15_exact_B126 (k40 : (Nat → Int32 → Int32 → AH → Option (Int32 × AH))) (a0 : Nat) (i1 : Int32) (i2 : Int32) (h : AH) : Option (Int32 × AH) :=
  LT (i2 + nI 1) fun v1 =>
  k40 a0 i1 v1 h
theorem jX15_exact_B126 (x : CT) (k40 : (Nat → Int32 → Int32 → AH → Option (Int32 × AH))) (hk40 : ∀ (a0 : Nat) (i1 : Int32) (i2 : Int32) (h : AH), J x qX15_exact ZI 40 [(0, rv (zx x) a0), (1, .int i1), (2, .int i2)] [] h (k40 a0 i1 i2 h)) (a0 : Nat) (i1 : Int32) (i2 : Int32) (h : AH) : J x qX15_exact ZI 126 [(0, rv (zx x) a0), (1, .int i1), (2, .int i2)] [] h (X15_exact_B126 k40 a0 i1 i2 h) := by
  unfold X15_exact_B126
  refine J_iincL (u := i2 + nI 1) 2 dX15_exact_126 rfl rfl (by decide) (SD.a (lvr := [(0, rv (zx x) a0), (1, .int i1)]) [0, 1] rfl rfl) (fun v1 => ?_)
  refine J_goto (tgt := 40) dX15_exact_129 rfl ?_
  exact J_sub [1, 2, 0] rfl (hk40 a0 i1 v1 h)
def X15_exact_B117 (k40 : (Nat → Int32 → Int32 → AH → Option (Int32 × AH))) (k54 : (Nat → Int32 → Int32 → Int32 → AH → Option (Int32 × AH))) (a0 : Nat) (i1 : Int32) (i2 : Int32) (h : AH) : Option (Int32 × AH) :=
  G (xc h a0 = 15) <|
  BN (X15_goesOn_f a0 i2 h) fun v3 h2 =>
  k54 a0 i1 i2 v3 h2
theorem jX15_exact_B117 (x : CT) (k40 : (Nat → Int32 → Int32 → AH → Option (Int32 × AH))) (hk40 : ∀ (a0 : Nat) (i1 : Int32) (i2 : Int32) (h : AH), J x qX15_exact ZI 40 [(0, rv (zx x) a0), (1, .int i1), (2, .int i2)] [] h (k40 a0 i1 i2 h)) (k54 : (Nat → Int32 → Int32 → Int32 → AH → Option (Int32 × AH))) (hk54 : ∀ (a0 : Nat) (i1 : Int32) (i2 : Int32) (i3 : Int32) (h : AH), J x qX15_exact ZI 54 [(0, rv (zx x) a0), (1, .int i1), (2, .int i2), (3, .int i3)] [] h (k54 a0 i1 i2 i3 h)) (a0 : Nat) (i1 : Int32) (i2 : Int32) (h : AH) : J x qX15_exact ZI 117 [(0, rv (zx x) a0), (1, .int i1), (2, .int i2)] [] h (X15_exact_B117 k40 k54 a0 i1 i2 h) := by
  unfold X15_exact_B117
  refine J_aload_n 0 dX15_exact_117 rv_is rfl ?_
  refine J_iload_n 2 dX15_exact_118 rfl ?_
  refine J_G (fun g1 => ?_)
  refine J.callV (n := 1) (As := [.int i2]) kc_15 (ctX15_goesOn (lx x) (wx x) a0 i2 h) kw_9_65 kw_9_62 kw_9_64 kp_56 kw_1_13 (by decide +kernel) rfl (by decide) (Nat.zero_le _) rfl dX15_exact_119 g1 (fun v3 h2 => ?_)
  show J x _ _ 122 _ [.int v3] h2 _
  refine J_istore_n dX15_exact_122 (by decide) (SD.a (lvr := [(0, rv (zx x) a0), (1, .int i1), (2, .int i2)]) [0, 1, 2] rfl rfl) ?_
  refine J_goto (tgt := 54) dX15_exact_123 rfl ?_
  exact J_sub [1, 2, 3, 0] rfl (hk54 a0 i1 i2 v3 h2)
def X15_exact_B114 (k40 : (Nat → Int32 → Int32 → AH → Option (Int32 × AH))) (k54 : (Nat → Int32 → Int32 → Int32 → AH → Option (Int32 × AH))) (a0 : Nat) (i1 : Int32) (i2 : Int32) (h : AH) : Option (Int32 × AH) :=
  LT (i1 + nI 1) fun v1 =>
  X15_exact_B117 k40 k54 a0 v1 i2 h
theorem jX15_exact_B114 (x : CT) (k40 : (Nat → Int32 → Int32 → AH → Option (Int32 × AH))) (hk40 : ∀ (a0 : Nat) (i1 : Int32) (i2 : Int32) (h : AH), J x qX15_exact ZI 40 [(0, rv (zx x) a0), (1, .int i1), (2, .int i2)] [] h (k40 a0 i1 i2 h)) (k54 : (Nat → Int32 → Int32 → Int32 → AH → Option (Int32 × AH))) (hk54 : ∀ (a0 : Nat) (i1 : Int32) (i2 : Int32) (i3 : Int32) (h : AH), J x qX15_exact ZI 54 [(0, rv (zx x) a0), (1, .int i1), (2, .int i2), (3, .int i3)] [] h (k54 a0 i1 i2 i3 h)) (a0 : Nat) (i1 : Int32) (i2 : Int32) (h : AH) : J x qX15_exact ZI 114 [(0, rv (zx x) a0), (1, .int i1), (2, .int i2)] [] h (X15_exact_B114 k40 k54 a0 i1 i2 h) := by
  unfold X15_exact_B114
  refine J_iincL (u := i1 + nI 1) 1 dX15_exact_114 rfl rfl (by decide) (SD.c (lvr := [(0, rv (zx x) a0), (2, .int i2)]) [0, 2] rfl rfl 0 rfl rfl rv_cat) (fun v1 => ?_)
  exact J_sub [1, 0, 2] rfl (jX15_exact_B117 x k40 hk40 k54 hk54 a0 v1 i2 h)
def X15_exact_B88 (k40 : (Nat → Int32 → Int32 → AH → Option (Int32 × AH))) (k54 : (Nat → Int32 → Int32 → Int32 → AH → Option (Int32 × AH))) : Nat → Nat → Int32 → Int32 → Int32 → AH → Option (Int32 × AH)
  | 0, _, _, _, _, _ => none
  | n + 1, a0, i1, i2, i4, h =>
    if i2 ≤ i4 then (
      X15_exact_B114 k40 k54 a0 i1 i2 h
    ) else (
      G (xc h a0 = 15) <|
      G (xc h (xR h a0 39) = 16) <|
      G (gx i4 (xz h (xR h a0 39))) <|
      G (xc h (xR h a0 45) = 16) <|
      G (gx i4 (xz h (xR h a0 45))) <|
      LT (pI h (xR h a0 45) i4.toNatClampNeg (xI h (xR h a0 39) i4.toNatClampNeg)) fun h6 =>
      LT (i4 + nI 1) fun v7 =>
      X15_exact_B88 k40 k54 n a0 i1 i2 v7 h6
    )
theorem jX15_exact_B88 (x : CT) (k40 : (Nat → Int32 → Int32 → AH → Option (Int32 × AH))) (hk40 : ∀ (a0 : Nat) (i1 : Int32) (i2 : Int32) (h : AH), J x qX15_exact ZI 40 [(0, rv (zx x) a0), (1, .int i1), (2, .int i2)] [] h (k40 a0 i1 i2 h)) (k54 : (Nat → Int32 → Int32 → Int32 → AH → Option (Int32 × AH))) (hk54 : ∀ (a0 : Nat) (i1 : Int32) (i2 : Int32) (i3 : Int32) (h : AH), J x qX15_exact ZI 54 [(0, rv (zx x) a0), (1, .int i1), (2, .int i2), (3, .int i3)] [] h (k54 a0 i1 i2 i3 h)) : ∀ (n : Nat) (a0 : Nat) (i1 : Int32) (i2 : Int32) (i4 : Int32) (h : AH), J x qX15_exact ZI 88 [(0, rv (zx x) a0), (1, .int i1), (2, .int i2), (4, .int i4)] [] h (X15_exact_B88 k40 k54 n a0 i1 i2 i4 h) := by
  intro n
  induction n with
  | zero => intro a0 i1 i2 i4 h; exact J_none
  | succ n ih =>
    intro a0 i1 i2 i4 h
    unfold X15_exact_B88
    refine J_iload 3 dX15_exact_88 rfl ?_
    refine J_iload_n 2 dX15_exact_90 rfl ?_
    refine J_icmp_ge (tgt := 114) dX15_exact_91 rfl ?_ ?_
    · exact J_sub [0, 1, 2] rfl (jX15_exact_B114 x k40 hk40 k54 hk54 a0 i1 i2 h)
    · refine J_aload_n 0 dX15_exact_94 rv_is rfl ?_
      refine J_G (fun g1 => ?_)
      refine J_getR kc_15 45 (by decide) rfl rfl kw_7_15 dX15_exact_95 g1 ?_
      refine J_iload 3 dX15_exact_98 rfl ?_
      refine J_aload_n 0 dX15_exact_100 rv_is rfl ?_
      refine J_getR kc_15 39 (by decide) rfl rfl kw_7_9 dX15_exact_101 g1 ?_
      refine J_iload 3 dX15_exact_104 rfl ?_
      refine J_G (fun g2 => ?_)
      refine J_G (fun g3 => ?_)
      refine J_iald dX15_exact_106 g2 g3 ?_
      refine J_G (fun g4 => ?_)
      refine J_G (fun g5 => ?_)
      refine J_iast dX15_exact_107 g4 g5 ?_
      refine J_LTh (fun h6 => ?_)
      refine J_iincL (u := i4 + nI 1) 3 dX15_exact_108 rfl rfl (by decide) (SD.a (lvr := [(0, rv (zx x) a0), (1, .int i1), (2, .int i2)]) [0, 1, 2] rfl rfl) (fun v7 => ?_)
      refine J_goto (tgt := 88) dX15_exact_111 rfl ?_
      exact J_sub [1, 2, 3, 0] rfl (ih a0 i1 i2 v7 h6)
def X15_exact_B54 (k40 : (Nat → Int32 → Int32 → AH → Option (Int32 × AH))) : Nat → Nat → Int32 → Int32 → Int32 → AH → Option (Int32 × AH)
  | 0, _, _, _, _, _ => none
  | n + 1, a0, i1, i2, i3, h =>
    if i3 = 0 then (
      X15_exact_B126 k40 a0 i1 i2 h
    ) else (
      G (xc h a0 = 15) <|
      BN (X15_runs_f a0 (nI 2) (xR h a0 39) (nI 0) i2 h) fun v3 h2 =>
      if v3 = (nI 2) then (
        if i1 = 0 then (
          G (xc h2 a0 = 15) <|
          LT (pI h2 a0 43 i2) fun h5 =>
          X15_exact_B88 k40 (X15_exact_B54 k40 n) FU a0 i1 i2 (nI 0) h5
        ) else (
          X15_exact_B114 k40 (X15_exact_B54 k40 n) a0 i1 i2 h2
        )
      ) else (
        X15_exact_B117 k40 (X15_exact_B54 k40 n) a0 i1 i2 h2
      )
    )
theorem jX15_exact_B54 (x : CT) (k40 : (Nat → Int32 → Int32 → AH → Option (Int32 × AH))) (hk40 : ∀ (a0 : Nat) (i1 : Int32) (i2 : Int32) (h : AH), J x qX15_exact ZI 40 [(0, rv (zx x) a0), (1, .int i1), (2, .int i2)] [] h (k40 a0 i1 i2 h)) : ∀ (n : Nat) (a0 : Nat) (i1 : Int32) (i2 : Int32) (i3 : Int32) (h : AH), J x qX15_exact ZI 54 [(0, rv (zx x) a0), (1, .int i1), (2, .int i2), (3, .int i3)] [] h (X15_exact_B54 k40 n a0 i1 i2 i3 h) := by
  intro n
  induction n with
  | zero => intro a0 i1 i2 i3 h; exact J_none
  | succ n ih =>
    intro a0 i1 i2 i3 h
    unfold X15_exact_B54
    refine J_iload_n 3 dX15_exact_54 rfl ?_
    refine J_if_eq (tgt := 126) dX15_exact_55 rfl ?_ ?_
    · exact J_sub [0, 1, 2] rfl (jX15_exact_B126 x k40 hk40 a0 i1 i2 h)
    · refine J_aload_n 0 dX15_exact_58 rv_is rfl ?_
      refine J_iconst (v := nI 2) dX15_exact_59 rfl ?_
      refine J_aload_n 0 dX15_exact_60 rv_is rfl ?_
      refine J_G (fun g1 => ?_)
      refine J_getR kc_15 39 (by decide) rfl rfl kw_7_9 dX15_exact_61 g1 ?_
      refine J_iconst (v := nI 0) dX15_exact_64 rfl ?_
      refine J_iload_n 2 dX15_exact_65 rfl ?_
      refine J.callV (n := 4) (As := [.int (nI 2), rv (zx x) (xR h a0 39), .int (nI 0), .int i2]) kc_15 (ctX15_runs (lx x) (wx x) a0 (nI 2) (xR h a0 39) (nI 0) i2 h) kw_8_154 kw_8_151 kw_8_153 kp_29 kw_1_13 (by decide +kernel) rfl (by decide) (Nat.zero_le _) rfl dX15_exact_66 g1 (fun v3 h2 => ?_)
      show J x _ _ 69 _ [.int v3] h2 _
      refine J_iconst (v := nI 2) dX15_exact_69 rfl ?_
      refine J_icmp_eq (tgt := 76) dX15_exact_70 rfl ?_ ?_
      · refine J_iload_n 1 dX15_exact_76 rfl ?_
        refine J_if_ne (tgt := 114) dX15_exact_77 rfl ?_ ?_
        · exact J_sub [0, 1, 2] rfl (jX15_exact_B114 x k40 hk40 (X15_exact_B54 k40 n) ih a0 i1 i2 h2)
        · refine J_aload_n 0 dX15_exact_80 rv_is rfl ?_
          refine J_iload_n 2 dX15_exact_81 rfl ?_
          refine J_G (fun g4 => ?_)
          refine J_putI kc_15 43 (by decide) rfl rfl rfl rfl (Or.inl rfl) kw_7_13 dX15_exact_82 g4 ?_
          refine J_LTh (fun h5 => ?_)
          refine J_iconst (v := nI 0) dX15_exact_85 rfl ?_
          refine J_istore dX15_exact_86 (by decide) (SD.a (lvr := [(0, rv (zx x) a0), (1, .int i1), (2, .int i2)]) [0, 1, 2] rfl rfl) ?_
          exact J_sub [1, 2, 3, 0] rfl (jX15_exact_B88 x k40 hk40 (X15_exact_B54 k40 n) ih FU a0 i1 i2 (nI 0) h5)
      · refine J_goto (tgt := 117) dX15_exact_73 rfl ?_
        exact J_sub [0, 1, 2] rfl (jX15_exact_B117 x k40 hk40 (X15_exact_B54 k40 n) ih a0 i1 i2 h2)
def X15_exact_B40 : Nat → Nat → Int32 → Int32 → AH → Option (Int32 × AH)
  | 0, _, _, _, _ => none
  | n + 1, a0, i1, i2, h =>
    G (xc h a0 = 15) <|
    BN (X15_inPurse_f a0 h) fun v3 h2 =>
    if v3 < i2 then (
      X15_exact_B132 a0 i1 h2
    ) else (
      G (xc h2 a0 = 15) <|
      BN (X15_begins_f a0 i2 h2) fun v6 h5 =>
      X15_exact_B54 (X15_exact_B40 n) FU a0 i1 i2 v6 h5
    )
theorem jX15_exact_B40 (x : CT) : ∀ (n : Nat) (a0 : Nat) (i1 : Int32) (i2 : Int32) (h : AH), J x qX15_exact ZI 40 [(0, rv (zx x) a0), (1, .int i1), (2, .int i2)] [] h (X15_exact_B40 n a0 i1 i2 h) := by
  intro n
  induction n with
  | zero => intro a0 i1 i2 h; exact J_none
  | succ n ih =>
    intro a0 i1 i2 h
    unfold X15_exact_B40
    refine J_iload_n 2 dX15_exact_40 rfl ?_
    refine J_aload_n 0 dX15_exact_41 rv_is rfl ?_
    refine J_G (fun g1 => ?_)
    refine J.callV (n := 0) (As := []) kc_15 (ctX15_inPurse (lx x) (wx x) a0 h) kw_8_134 kw_8_131 kw_8_133 kp_27 kw_1_13 (by decide +kernel) rfl (by decide) (by simp [rv_cat, cat_I, cat_L, cat_S]) rfl dX15_exact_42 g1 (fun v3 h2 => ?_)
    show J x _ _ 45 _ [.int v3, .int i2] h2 _
    refine J_icmp_gt (tgt := 132) dX15_exact_45 rfl ?_ ?_
    · exact J_sub [0, 1] rfl (jX15_exact_B132 x a0 i1 h2)
    · refine J_aload_n 0 dX15_exact_48 rv_is rfl ?_
      refine J_iload_n 2 dX15_exact_49 rfl ?_
      refine J_G (fun g4 => ?_)
      refine J.callV (n := 1) (As := [.int i2]) kc_15 (ctX15_begins (lx x) (wx x) a0 i2 h2) kw_9_57 kw_9_54 kw_9_56 kp_54 kw_1_13 (by decide +kernel) rfl (by decide) (Nat.zero_le _) rfl dX15_exact_50 g4 (fun v6 h5 => ?_)
      show J x _ _ 53 _ [.int v6] h5 _
      refine J_istore_n dX15_exact_53 (by decide) (SD.a (lvr := [(0, rv (zx x) a0), (1, .int i1), (2, .int i2)]) [0, 1, 2] rfl rfl) ?_
      exact J_sub [1, 2, 3, 0] rfl (jX15_exact_B54 x (X15_exact_B40 n) ih FU a0 i1 i2 v6 h5)
def X15_exact_f (a0 : Nat) (h : AH) : Option (Int32 × AH) :=
  G (xc h a0 = 15) <|
  LT (pI h a0 0 (nI 0)) fun h2 =>
  G (xc h2 a0 = 15) <|
  if (xR h2 a0 4) = 0 then (
    G (xc h2 a0 = 15) <|
    BN (X15_refused_f a0 (nI 1) h2) fun v14 h13 =>
    some (v14, h13)
  ) else (
    G (xc h2 a0 = 15) <|
    BN (X15_isTooMany_f a0 h2) fun v6 h5 =>
    if v6 = 0 then (
      G (xc h5 a0 = 15) <|
      LT (pI h5 a0 43 (nI 0)) fun h8 =>
      X15_exact_B40 FU a0 (nI 0) (nI 1) h8
    ) else (
      G (xc h5 a0 = 15) <|
      BN (X15_refused_f a0 (nI 5) h5) fun v11 h10 =>
      some (v11, h10)
    )
  )
theorem jX15_exact (x : CT) (a0 : Nat) (h : AH) : J x qX15_exact ZI 0 [(0, rv (zx x) a0)] [] h (X15_exact_f a0 h) := by
  unfold X15_exact_f
  refine J_aload_n 0 dX15_exact_0 rv_is rfl ?_
  refine J_iconst (v := nI 0) dX15_exact_1 rfl ?_
  refine J_G (fun g1 => ?_)
  refine J_putI kc_15 0 (by decide) rfl rfl rfl rfl (Or.inl rfl) kw_6_210 dX15_exact_2 g1 ?_
  refine J_LTh (fun h2 => ?_)
  refine J_aload_n 0 dX15_exact_5 rv_is rfl ?_
  refine J_G (fun g3 => ?_)
  refine J_getR kc_15 4 (by decide) rfl rfl kw_6_214 dX15_exact_6 g3 ?_
  refine J_ifnonnull (tgt := 18) dX15_exact_9 rfl ?_ ?_
  · refine J_aload_n 0 dX15_exact_18 rv_is rfl ?_
    refine J_G (fun g4 => ?_)
    refine J.callV (n := 0) (As := []) kc_15 (ctX15_isTooMany (lx x) (wx x) a0 h2) kw_9_49 kw_9_46 kw_9_48 kp_52 kw_1_13 (by decide +kernel) rfl (by decide) (Nat.zero_le _) rfl dX15_exact_19 g4 (fun v6 h5 => ?_)
    show J x _ _ 22 _ [.int v6] h5 _
    refine J_if_eq (tgt := 31) dX15_exact_22 rfl ?_ ?_
    · refine J_iconst (v := nI 0) dX15_exact_31 rfl ?_
      refine J_istore_n dX15_exact_32 (by decide) (SD.c (lvr := [(0, rv (zx x) a0)]) [0] rfl rfl 0 rfl rfl rv_cat) ?_
      refine J_aload_n 1 dX15_exact_33 rv_is rfl ?_
      refine J_iconst (v := nI 0) dX15_exact_34 rfl ?_
      refine J_G (fun g7 => ?_)
      refine J_putI kc_15 43 (by decide) rfl rfl rfl rfl (Or.inl rfl) kw_7_13 dX15_exact_35 g7 ?_
      refine J_LTh (fun h8 => ?_)
      refine J_iconst (v := nI 1) dX15_exact_38 rfl ?_
      refine J_istore_n dX15_exact_39 (by decide) (SD.a (lvr := [(1, .int (nI 0)), (0, rv (zx x) a0)]) [0, 1] rfl rfl) ?_
      exact J_sub [2, 1, 0] rfl (jX15_exact_B40 x FU a0 (nI 0) (nI 1) h8)
    · refine J_aload_n 0 dX15_exact_25 rv_is rfl ?_
      refine J_iconst (v := nI 5) dX15_exact_26 rfl ?_
      refine J_G (fun g9 => ?_)
      refine J.callV (n := 1) (As := [.int (nI 5)]) kc_15 (ctX15_refused (lx x) (wx x) a0 (nI 5) h5) kw_7_139 kw_7_136 kw_7_138 kp_8 kw_1_13 (by decide +kernel) rfl (by decide) (Nat.zero_le _) rfl dX15_exact_27 g9 (fun v11 h10 => ?_)
      show J x _ _ 30 _ [.int v11] h10 _
      exact J_iret dX15_exact_30
  · refine J_aload_n 0 dX15_exact_12 rv_is rfl ?_
    refine J_iconst (v := nI 1) dX15_exact_13 rfl ?_
    refine J_G (fun g12 => ?_)
    refine J.callV (n := 1) (As := [.int (nI 1)]) kc_15 (ctX15_refused (lx x) (wx x) a0 (nI 1) h2) kw_7_139 kw_7_136 kw_7_138 kp_8 kw_1_13 (by decide +kernel) rfl (by decide) (Nat.zero_le _) rfl dX15_exact_14 g12 (fun v14 h13 => ?_)
    show J x _ _ 17 _ [.int v14] h13 _
    exact J_iret dX15_exact_17
theorem ctX15_exact (l : Launch) (w : WT) (a0 : Nat) (h : AH) : CM l w yX15_exact cX15_exact 5 (some .int) 6 143 KI [rv (w.1) a0] h (X15_exact_f a0 h) :=
  CM.of (by decide +kernel) (by simp [lg_sl, rv_cat, cat_I, cat_L, cat_S]) (lv := [(0, rv (w.1) a0)]) (by simp [lv_args, rv_cat, cat_I, cat_L, cat_S]) (fun x hx => by subst hx; exact jX15_exact x a0 h)
