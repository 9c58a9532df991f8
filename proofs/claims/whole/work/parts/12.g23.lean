-- FallTrialsModel.puts(I)V
abbrev qX15_puts : MT := (cX15_puts, RX15, "puts", none, 3, 67, 9)
def X15_puts_B410 (k2 : (Nat → Int32 → Int32 → AH → Option (Unit × AH))) (a0 : Nat) (i1 : Int32) (i2 : Int32) (h : AH) : Option (Unit × AH) :=
  LT (i2 + nI 1) fun v1 =>
  k2 a0 i1 v1 h
theorem jX15_puts_B410 (x : CT) (k2 : (Nat → Int32 → Int32 → AH → Option (Unit × AH))) (hk2 : ∀ (a0 : Nat) (i1 : Int32) (i2 : Int32) (h : AH), J x qX15_puts ZV 2 [(0, rv (zx x) a0), (1, .int i1), (2, .int i2)] [] h (k2 a0 i1 i2 h)) (a0 : Nat) (i1 : Int32) (i2 : Int32) (h : AH) : J x qX15_puts ZV 410 [(0, rv (zx x) a0), (1, .int i1), (2, .int i2)] [] h (X15_puts_B410 k2 a0 i1 i2 h) := by
  unfold X15_puts_B410
  refine J_iincL (u := i2 + nI 1) 2 dX15_puts_410 rfl rfl (by decide) (SD.a (lvr := [(0, rv (zx x) a0), (1, .int i1)]) [0, 1] rfl rfl) (fun v1 => ?_)
  refine J_goto (tgt := 2) dX15_puts_413 rfl ?_
  exact J_sub [1, 2, 0] rfl (hk2 a0 i1 v1 h)
def X15_puts_B403 (k2 : (Nat → Int32 → Int32 → AH → Option (Unit × AH))) (k12 : (Nat → Int32 → Int32 → Int32 → AH → Option (Unit × AH))) (a0 : Nat) (i1 : Int32) (i2 : Int32) (i3 : Int32) (is0 : Int32) (is1 : Int32) (as2 : Nat) (h : AH) : Option (Unit × AH) :=
  G (xc h as2 = 16) <|
  G (gx is1 (xz h as2)) <|
  LT (pI h as2 is1.toNatClampNeg is0) fun h3 =>
  LT (i3 + nI 1) fun v4 =>
  k12 a0 i1 i2 v4 h3
theorem jX15_puts_B403 (x : CT) (k2 : (Nat → Int32 → Int32 → AH → Option (Unit × AH))) (hk2 : ∀ (a0 : Nat) (i1 : Int32) (i2 : Int32) (h : AH), J x qX15_puts ZV 2 [(0, rv (zx x) a0), (1, .int i1), (2, .int i2)] [] h (k2 a0 i1 i2 h)) (k12 : (Nat → Int32 → Int32 → Int32 → AH → Option (Unit × AH))) (hk12 : ∀ (a0 : Nat) (i1 : Int32) (i2 : Int32) (i3 : Int32) (h : AH), J x qX15_puts ZV 12 [(0, rv (zx x) a0), (1, .int i1), (2, .int i2), (3, .int i3)] [] h (k12 a0 i1 i2 i3 h)) (a0 : Nat) (i1 : Int32) (i2 : Int32) (i3 : Int32) (is0 : Int32) (is1 : Int32) (as2 : Nat) (h : AH) : J x qX15_puts ZV 403 [(0, rv (zx x) a0), (1, .int i1), (2, .int i2), (3, .int i3)] [.int is0, .int is1, rv (zx x) as2] h (X15_puts_B403 k2 k12 a0 i1 i2 i3 is0 is1 as2 h) := by
  unfold X15_puts_B403
  refine J_G (fun g1 => ?_)
  refine J_G (fun g2 => ?_)
  refine J_iast dX15_puts_403 g1 g2 ?_
  refine J_LTh (fun h3 => ?_)
  refine J_iincL (u := i3 + nI 1) 3 dX15_puts_404 rfl rfl (by decide) (SD.a (lvr := [(0, rv (zx x) a0), (1, .int i1), (2, .int i2)]) [0, 1, 2] rfl rfl) (fun v4 => ?_)
  refine J_goto (tgt := 12) dX15_puts_407 rfl ?_
  exact J_sub [1, 2, 3, 0] rfl (hk12 a0 i1 i2 v4 h3)
def X15_puts_B372 (k2 : (Nat → Int32 → Int32 → AH → Option (Unit × AH))) (k12 : (Nat → Int32 → Int32 → Int32 → AH → Option (Unit × AH))) (a0 : Nat) (i1 : Int32) (i2 : Int32) (i3 : Int32) (i4 : Int32) (i5 : Int32) (i6 : Int32) (h : AH) : Option (Unit × AH) :=
  G (xc h a0 = 15) <|
  if i6 = 0 then (
    G (xc h a0 = 15) <|
    BN (X15_closed_f a0 (i5 &&& i4) i3 h) fun v4 h3 =>
    X15_puts_B403 k2 k12 a0 i1 i2 i3 (v4 &&& i4) (((nI 4) * i2) + i3) (xR h a0 35) h3
  ) else (
    X15_puts_B403 k2 k12 a0 i1 i2 i3 (nI 0) (((nI 4) * i2) + i3) (xR h a0 35) h
  )
theorem jX15_puts_B372 (x : CT) (k2 : (Nat → Int32 → Int32 → AH → Option (Unit × AH))) (hk2 : ∀ (a0 : Nat) (i1 : Int32) (i2 : Int32) (h : AH), J x qX15_puts ZV 2 [(0, rv (zx x) a0), (1, .int i1), (2, .int i2)] [] h (k2 a0 i1 i2 h)) (k12 : (Nat → Int32 → Int32 → Int32 → AH → Option (Unit × AH))) (hk12 : ∀ (a0 : Nat) (i1 : Int32) (i2 : Int32) (i3 : Int32) (h : AH), J x qX15_puts ZV 12 [(0, rv (zx x) a0), (1, .int i1), (2, .int i2), (3, .int i3)] [] h (k12 a0 i1 i2 i3 h)) (a0 : Nat) (i1 : Int32) (i2 : Int32) (i3 : Int32) (i4 : Int32) (i5 : Int32) (i6 : Int32) (h : AH) : J x qX15_puts ZV 372 [(0, rv (zx x) a0), (1, .int i1), (2, .int i2), (3, .int i3), (4, .int i4), (5, .int i5), (6, .int i6)] [] h (X15_puts_B372 k2 k12 a0 i1 i2 i3 i4 i5 i6 h) := by
  unfold X15_puts_B372
  refine J_aload_n 0 dX15_puts_372 rv_is rfl ?_
  refine J_G (fun g1 => ?_)
  refine J_getR kc_15 35 (by decide) rfl rfl kw_7_5 dX15_puts_373 g1 ?_
  refine J_iconst (v := nI 4) dX15_puts_376 rfl ?_
  refine J_iload_n 2 dX15_puts_377 rfl ?_
  refine J_imul dX15_puts_378 ?_
  refine J_iload_n 3 dX15_puts_379 rfl ?_
  refine J_iadd dX15_puts_380 ?_
  refine J_iload 6 dX15_puts_381 rfl ?_
  refine J_if_eq (tgt := 390) dX15_puts_383 rfl ?_ ?_
  · refine J_aload_n 0 dX15_puts_390 rv_is rfl ?_
    refine J_iload 5 dX15_puts_391 rfl ?_
    refine J_iload 4 dX15_puts_393 rfl ?_
    refine J_iand dX15_puts_395 ?_
    refine J_iload_n 3 dX15_puts_396 rfl ?_
    refine J_G (fun g2 => ?_)
    refine J.callV (n := 2) (As := [.int (i5 &&& i4), .int i3]) kc_15 (ctX15_closed (lx x) (wx x) a0 (i5 &&& i4) i3 h) kw_8_201 kw_8_198 kw_8_200 kp_39 kw_1_13 (by decide +kernel) rfl (by decide) (by simp [rv_cat, cat_I, cat_L, cat_S]) rfl dX15_puts_397 g2 (fun v4 h3 => ?_)
    show J x _ _ 400 _ [.int v4, .int (((nI 4) * i2) + i3), rv (zx x) (xR h a0 35)] h3 _
    refine J_iload 4 dX15_puts_400 rfl ?_
    refine J_iand dX15_puts_402 ?_
    exact J_sub [0, 1, 2, 3] rfl (jX15_puts_B403 x k2 hk2 k12 hk12 a0 i1 i2 i3 (v4 &&& i4) (((nI 4) * i2) + i3) (xR h a0 35) h3)
  · refine J_iconst (v := nI 0) dX15_puts_386 rfl ?_
    refine J_goto (tgt := 403) dX15_puts_387 rfl ?_
    exact J_sub [0, 1, 2, 3] rfl (jX15_puts_B403 x k2 hk2 k12 hk12 a0 i1 i2 i3 (nI 0) (((nI 4) * i2) + i3) (xR h a0 35) h)
def X15_puts_B363 (k2 : (Nat → Int32 → Int32 → AH → Option (Unit × AH))) (k12 : (Nat → Int32 → Int32 → Int32 → AH → Option (Unit × AH))) (k265 : (Nat → Int32 → Int32 → Int32 → Int32 → Int32 → Int32 → Int32 → AH → Option (Unit × AH))) (a0 : Nat) (i1 : Int32) (i2 : Int32) (i3 : Int32) (i4 : Int32) (i6 : Int32) (i8 : Int32) (is0 : Int32) (is1 : Int32) (h : AH) : Option (Unit × AH) :=
  LT (is1 ||| is0) fun v1 =>
  LT (i8 + nI 1) fun v2 =>
  k265 a0 i1 i2 i3 i4 v1 i6 v2 h
theorem jX15_puts_B363 (x : CT) (k2 : (Nat → Int32 → Int32 → AH → Option (Unit × AH))) (hk2 : ∀ (a0 : Nat) (i1 : Int32) (i2 : Int32) (h : AH), J x qX15_puts ZV 2 [(0, rv (zx x) a0), (1, .int i1), (2, .int i2)] [] h (k2 a0 i1 i2 h)) (k12 : (Nat → Int32 → Int32 → Int32 → AH → Option (Unit × AH))) (hk12 : ∀ (a0 : Nat) (i1 : Int32) (i2 : Int32) (i3 : Int32) (h : AH), J x qX15_puts ZV 12 [(0, rv (zx x) a0), (1, .int i1), (2, .int i2), (3, .int i3)] [] h (k12 a0 i1 i2 i3 h)) (k265 : (Nat → Int32 → Int32 → Int32 → Int32 → Int32 → Int32 → Int32 → AH → Option (Unit × AH))) (hk265 : ∀ (a0 : Nat) (i1 : Int32) (i2 : Int32) (i3 : Int32) (i4 : Int32) (i5 : Int32) (i6 : Int32) (i8 : Int32) (h : AH), J x qX15_puts ZV 265 [(0, rv (zx x) a0), (1, .int i1), (2, .int i2), (3, .int i3), (4, .int i4), (5, .int i5), (6, .int i6), (8, .int i8)] [] h (k265 a0 i1 i2 i3 i4 i5 i6 i8 h)) (a0 : Nat) (i1 : Int32) (i2 : Int32) (i3 : Int32) (i4 : Int32) (i6 : Int32) (i8 : Int32) (is0 : Int32) (is1 : Int32) (h : AH) : J x qX15_puts ZV 363 [(0, rv (zx x) a0), (1, .int i1), (2, .int i2), (3, .int i3), (4, .int i4), (6, .int i6), (8, .int i8)] [.int is0, .int is1] h (X15_puts_B363 k2 k12 k265 a0 i1 i2 i3 i4 i6 i8 is0 is1 h) := by
  unfold X15_puts_B363
  refine J_ior dX15_puts_363 ?_
  refine J_LTi (fun v1 => ?_)
  refine J_istore dX15_puts_364 (by decide) (SD.a (lvr := [(0, rv (zx x) a0), (1, .int i1), (2, .int i2), (3, .int i3), (4, .int i4), (6, .int i6), (8, .int i8)]) [0, 1, 2, 3, 4, 5, 6] rfl rfl) ?_
  refine J_iincL (u := i8 + nI 1) 7 dX15_puts_366 rfl rfl (by decide) (SD.a (lvr := [(5, .int v1), (0, rv (zx x) a0), (1, .int i1), (2, .int i2), (3, .int i3), (4, .int i4), (6, .int i6)]) [0, 1, 2, 3, 4, 5, 6] rfl rfl) (fun v2 => ?_)
  refine J_goto (tgt := 265) dX15_puts_369 rfl ?_
  exact J_sub [2, 3, 4, 5, 6, 1, 7, 0] rfl (hk265 a0 i1 i2 i3 i4 v1 i6 v2 h)
def X15_puts_B362 (k2 : (Nat → Int32 → Int32 → AH → Option (Unit × AH))) (k12 : (Nat → Int32 → Int32 → Int32 → AH → Option (Unit × AH))) (k265 : (Nat → Int32 → Int32 → Int32 → Int32 → Int32 → Int32 → Int32 → AH → Option (Unit × AH))) (a0 : Nat) (i1 : Int32) (i2 : Int32) (i3 : Int32) (i4 : Int32) (i6 : Int32) (i8 : Int32) (is0 : Int32) (h : AH) : Option (Unit × AH) :=
  X15_puts_B363 k2 k12 k265 a0 i1 i2 i3 i4 i6 i8 (nI 0) is0 h
theorem jX15_puts_B362 (x : CT) (k2 : (Nat → Int32 → Int32 → AH → Option (Unit × AH))) (hk2 : ∀ (a0 : Nat) (i1 : Int32) (i2 : Int32) (h : AH), J x qX15_puts ZV 2 [(0, rv (zx x) a0), (1, .int i1), (2, .int i2)] [] h (k2 a0 i1 i2 h)) (k12 : (Nat → Int32 → Int32 → Int32 → AH → Option (Unit × AH))) (hk12 : ∀ (a0 : Nat) (i1 : Int32) (i2 : Int32) (i3 : Int32) (h : AH), J x qX15_puts ZV 12 [(0, rv (zx x) a0), (1, .int i1), (2, .int i2), (3, .int i3)] [] h (k12 a0 i1 i2 i3 h)) (k265 : (Nat → Int32 → Int32 → Int32 → Int32 → Int32 → Int32 → Int32 → AH → Option (Unit × AH))) (hk265 : ∀ (a0 : Nat) (i1 : Int32) (i2 : Int32) (i3 : Int32) (i4 : Int32) (i5 : Int32) (i6 : Int32) (i8 : Int32) (h : AH), J x qX15_puts ZV 265 [(0, rv (zx x) a0), (1, .int i1), (2, .int i2), (3, .int i3), (4, .int i4), (5, .int i5), (6, .int i6), (8, .int i8)] [] h (k265 a0 i1 i2 i3 i4 i5 i6 i8 h)) (a0 : Nat) (i1 : Int32) (i2 : Int32) (i3 : Int32) (i4 : Int32) (i6 : Int32) (i8 : Int32) (is0 : Int32) (h : AH) : J x qX15_puts ZV 362 [(0, rv (zx x) a0), (1, .int i1), (2, .int i2), (3, .int i3), (4, .int i4), (6, .int i6), (8, .int i8)] [.int is0] h (X15_puts_B362 k2 k12 k265 a0 i1 i2 i3 i4 i6 i8 is0 h) := by
  unfold X15_puts_B362
  refine J_iconst (v := nI 0) dX15_puts_362 rfl ?_
  exact (jX15_puts_B363 x k2 hk2 k12 hk12 k265 hk265 a0 i1 i2 i3 i4 i6 i8 (nI 0) is0 h)
def X15_puts_B265 (k2 : (Nat → Int32 → Int32 → AH → Option (Unit × AH))) (k12 : (Nat → Int32 → Int32 → Int32 → AH → Option (Unit × AH))) : Nat → Nat → Int32 → Int32 → Int32 → Int32 → Int32 → Int32 → Int32 → AH → Option (Unit × AH)
  | 0, _, _, _, _, _, _, _, _, _ => none
  | n + 1, a0, i1, i2, i3, i4, i5, i6, i8, h =>
    G (xc h a0 = 15) <|
    G (xc h (xR h a0 4) = 12) <|
    if (xI h (xR h a0 4) 5) ≤ i8 then (
      X15_puts_B372 k2 k12 a0 i1 i2 i3 i4 i5 i6 h
    ) else (
      if i2 ≤ 0 then (
        X15_puts_B372 k2 k12 a0 i1 i2 i3 i4 i5 i6 h
      ) else (
        G (xc h a0 = 15) <|
        G (xc h (xR h a0 4) = 12) <|
        G (xc h (xR h (xR h a0 4) 16) = 19) <|
        G (gx i8 (xz h (xR h (xR h a0 4) 16))) <|
        if (xI h (xR h (xR h a0 4) 16) i8.toNatClampNeg) = 0 then (
          G (xc h a0 = 15) <|
          BN (X15_isOf_f a0 i8 i3 h) fun v9 h8 =>
          if v9 = 0 then (
            X15_puts_B362 k2 k12 (X15_puts_B265 k2 k12 n) a0 i1 i2 i3 i4 i6 i8 i5 h8
          ) else (
            G (xc h8 a0 = 15) <|
            BN (X15_holds_f a0 i1 i8 (i2 - (nI 1)) i3 h8) fun v12 h11 =>
            if v12 = 0 then (
              X15_puts_B362 k2 k12 (X15_puts_B265 k2 k12 n) a0 i1 i2 i3 i4 i6 i8 i5 h11
            ) else (
              G (xc h11 a0 = 15) <|
              G (xc h11 (xR h11 a0 27) = 13) <|
              BN (X13_isDown_f (xR h11 a0 27) (i2 - (nI 1)) i3 h11) fun v16 h15 =>
              if v16 = 0 then (
                G (xc h15 a0 = 15) <|
                BN (X15_isStanding_f a0 i8 (i2 - (nI 1)) i3 h15) fun v19 h18 =>
                if v19 = 0 then (
                  X15_puts_B362 k2 k12 (X15_puts_B265 k2 k12 n) a0 i1 i2 i3 i4 i6 i8 i5 h18
                ) else (
                  G (xc h18 a0 = 15) <|
                  G (xc h18 (xR h18 a0 4) = 12) <|
                  G (xc h18 (xR h18 (xR h18 a0 4) 14) = 16) <|
                  G (gx i8 (xz h18 (xR h18 (xR h18 a0 4) 14))) <|
                  X15_puts_B363 k2 k12 (X15_puts_B265 k2 k12 n) a0 i1 i2 i3 i4 i6 i8 ((nI 1) <<< ((xI h18 (xR h18 (xR h18 a0 4) 14) i8.toNatClampNeg) &&& 31)) i5 h18
                )
              ) else (
                X15_puts_B362 k2 k12 (X15_puts_B265 k2 k12 n) a0 i1 i2 i3 i4 i6 i8 i5 h15
              )
            )
          )
        ) else (
          X15_puts_B362 k2 k12 (X15_puts_B265 k2 k12 n) a0 i1 i2 i3 i4 i6 i8 i5 h
        )
      )
    )
theorem jX15_puts_B265 (x : CT) (k2 : (Nat → Int32 → Int32 → AH → Option (Unit × AH))) (hk2 : ∀ (a0 : Nat) (i1 : Int32) (i2 : Int32) (h : AH), J x qX15_puts ZV 2 [(0, rv (zx x) a0), (1, .int i1), (2, .int i2)] [] h (k2 a0 i1 i2 h)) (k12 : (Nat → Int32 → Int32 → Int32 → AH → Option (Unit × AH))) (hk12 : ∀ (a0 : Nat) (i1 : Int32) (i2 : Int32) (i3 : Int32) (h : AH), J x qX15_puts ZV 12 [(0, rv (zx x) a0), (1, .int i1), (2, .int i2), (3, .int i3)] [] h (k12 a0 i1 i2 i3 h)) : ∀ (n : Nat) (a0 : Nat) (i1 : Int32) (i2 : Int32) (i3 : Int32) (i4 : Int32) (i5 : Int32) (i6 : Int32) (i8 : Int32) (h : AH), J x qX15_puts ZV 265 [(0, rv (zx x) a0), (1, .int i1), (2, .int i2), (3, .int i3), (4, .int i4), (5, .int i5), (6, .int i6), (8, .int i8)] [] h (X15_puts_B265 k2 k12 n a0 i1 i2 i3 i4 i5 i6 i8 h) := by
  intro n
  induction n with
  | zero => intro a0 i1 i2 i3 i4 i5 i6 i8 h; exact J_none
  | succ n ih =>
    intro a0 i1 i2 i3 i4 i5 i6 i8 h
    unfold X15_puts_B265
    refine J_iload 7 dX15_puts_265 rfl ?_
    refine J_aload_n 0 dX15_puts_267 rv_is rfl ?_
    refine J_G (fun g1 => ?_)
    refine J_getR kc_15 4 (by decide) rfl rfl kw_6_214 dX15_puts_268 g1 ?_
    refine J_G (fun g2 => ?_)
    refine J_getIN kc_12 5 (by decide) rfl rfl kn_29 dX15_puts_271 g2 ?_
    refine J_icmp_ge (tgt := 372) dX15_puts_274 rfl ?_ ?_
    · exact J_sub [0, 1, 2, 3, 4, 5, 6] rfl (jX15_puts_B372 x k2 hk2 k12 hk12 a0 i1 i2 i3 i4 i5 i6 h)
    · refine J_iload_n 2 dX15_puts_277 rfl ?_
      refine J_if_le (tgt := 372) dX15_puts_278 rfl ?_ ?_
      · exact J_sub [0, 1, 2, 3, 4, 5, 6] rfl (jX15_puts_B372 x k2 hk2 k12 hk12 a0 i1 i2 i3 i4 i5 i6 h)
      · refine J_iload 5 dX15_puts_281 rfl ?_
        refine J_aload_n 0 dX15_puts_283 rv_is rfl ?_
        refine J_G (fun g3 => ?_)
        refine J_getR kc_15 4 (by decide) rfl rfl kw_6_214 dX15_puts_284 g3 ?_
        refine J_G (fun g4 => ?_)
        refine J_getRN kc_12 16 (by decide) rfl rfl kn_40 dX15_puts_287 g4 ?_
        refine J_iload 7 dX15_puts_290 rfl ?_
        refine J_G (fun g5 => ?_)
        refine J_G (fun g6 => ?_)
        refine J_zald dX15_puts_292 g5 g6 ?_
        refine J_if_ne (tgt := 362) dX15_puts_293 rfl ?_ ?_
        · exact J_sub [0, 1, 2, 3, 4, 6, 7] rfl (jX15_puts_B362 x k2 hk2 k12 hk12 (X15_puts_B265 k2 k12 n) ih a0 i1 i2 i3 i4 i6 i8 i5 h)
        · refine J_aload_n 0 dX15_puts_296 rv_is rfl ?_
          refine J_iload 7 dX15_puts_297 rfl ?_
          refine J_iload_n 3 dX15_puts_299 rfl ?_
          refine J_G (fun g7 => ?_)
          refine J.callV (n := 2) (As := [.int i8, .int i3]) kc_15 (ctX15_isOf (lx x) (wx x) a0 i8 i3 h) kw_8_189 kw_8_186 kw_8_188 kp_36 kw_1_13 (by decide +kernel) rfl (by decide) (by simp [rv_cat, cat_I, cat_L, cat_S]) rfl dX15_puts_300 g7 (fun v9 h8 => ?_)
          show J x _ _ 303 _ [.int v9, .int i5] h8 _
          refine J_if_eq (tgt := 362) dX15_puts_303 rfl ?_ ?_
          · exact J_sub [0, 1, 2, 3, 4, 6, 7] rfl (jX15_puts_B362 x k2 hk2 k12 hk12 (X15_puts_B265 k2 k12 n) ih a0 i1 i2 i3 i4 i6 i8 i5 h8)
          · refine J_aload_n 0 dX15_puts_306 rv_is rfl ?_
            refine J_iload_n 1 dX15_puts_307 rfl ?_
            refine J_iload 7 dX15_puts_308 rfl ?_
            refine J_iload_n 2 dX15_puts_310 rfl ?_
            refine J_iconst (v := nI 1) dX15_puts_311 rfl ?_
            refine J_isub dX15_puts_312 ?_
            refine J_iload_n 3 dX15_puts_313 rfl ?_
            refine J_G (fun g10 => ?_)
            refine J.callV (n := 4) (As := [.int i1, .int i8, .int (i2 - (nI 1)), .int i3]) kc_15 (ctX15_holds (lx x) (wx x) a0 i1 i8 (i2 - (nI 1)) i3 h8) kw_8_193 kw_8_190 kw_8_192 kp_37 kw_1_13 (by decide +kernel) rfl (by decide) (by simp [rv_cat, cat_I, cat_L, cat_S]) rfl dX15_puts_314 g10 (fun v12 h11 => ?_)
            show J x _ _ 317 _ [.int v12, .int i5] h11 _
            refine J_if_eq (tgt := 362) dX15_puts_317 rfl ?_ ?_
            · exact J_sub [0, 1, 2, 3, 4, 6, 7] rfl (jX15_puts_B362 x k2 hk2 k12 hk12 (X15_puts_B265 k2 k12 n) ih a0 i1 i2 i3 i4 i6 i8 i5 h11)
            · refine J_aload_n 0 dX15_puts_320 rv_is rfl ?_
              refine J_G (fun g13 => ?_)
              refine J_getR kc_15 27 (by decide) rfl rfl kw_6_237 dX15_puts_321 g13 ?_
              refine J_iload_n 2 dX15_puts_324 rfl ?_
              refine J_iconst (v := nI 1) dX15_puts_325 rfl ?_
              refine J_isub dX15_puts_326 ?_
              refine J_iload_n 3 dX15_puts_327 rfl ?_
              refine J_G (fun g14 => ?_)
              refine J.callV (n := 2) (As := [.int (i2 - (nI 1)), .int i3]) kc_13 (ctX13_isDown (lx x) (wx x) (xR h11 a0 27) (i2 - (nI 1)) i3 h11) kw_9_29 kw_9_26 kw_9_27 kw_9_28 kw_1_18 (by decide +kernel) rfl (by decide) (by simp [rv_cat, cat_I, cat_L, cat_S]) rfl dX15_puts_328 g14 (fun v16 h15 => ?_)
              show J x _ _ 331 _ [.int v16, .int i5] h15 _
              refine J_if_ne (tgt := 362) dX15_puts_331 rfl ?_ ?_
              · exact J_sub [0, 1, 2, 3, 4, 6, 7] rfl (jX15_puts_B362 x k2 hk2 k12 hk12 (X15_puts_B265 k2 k12 n) ih a0 i1 i2 i3 i4 i6 i8 i5 h15)
              · refine J_aload_n 0 dX15_puts_334 rv_is rfl ?_
                refine J_iload 7 dX15_puts_335 rfl ?_
                refine J_iload_n 2 dX15_puts_337 rfl ?_
                refine J_iconst (v := nI 1) dX15_puts_338 rfl ?_
                refine J_isub dX15_puts_339 ?_
                refine J_iload_n 3 dX15_puts_340 rfl ?_
                refine J_G (fun g17 => ?_)
                refine J.callV (n := 3) (As := [.int i8, .int (i2 - (nI 1)), .int i3]) kc_15 (ctX15_isStanding (lx x) (wx x) a0 i8 (i2 - (nI 1)) i3 h15) kw_9_37 kw_9_34 kw_9_36 kp_51 kw_1_13 (by decide +kernel) rfl (by decide) (by simp [rv_cat, cat_I, cat_L, cat_S]) rfl dX15_puts_341 g17 (fun v19 h18 => ?_)
                show J x _ _ 344 _ [.int v19, .int i5] h18 _
                refine J_if_eq (tgt := 362) dX15_puts_344 rfl ?_ ?_
                · exact J_sub [0, 1, 2, 3, 4, 6, 7] rfl (jX15_puts_B362 x k2 hk2 k12 hk12 (X15_puts_B265 k2 k12 n) ih a0 i1 i2 i3 i4 i6 i8 i5 h18)
                · refine J_iconst (v := nI 1) dX15_puts_347 rfl ?_
                  refine J_aload_n 0 dX15_puts_348 rv_is rfl ?_
                  refine J_G (fun g20 => ?_)
                  refine J_getR kc_15 4 (by decide) rfl rfl kw_6_214 dX15_puts_349 g20 ?_
                  refine J_G (fun g21 => ?_)
                  refine J_getRN kc_12 14 (by decide) rfl rfl kn_38 dX15_puts_352 g21 ?_
                  refine J_iload 7 dX15_puts_355 rfl ?_
                  refine J_G (fun g22 => ?_)
                  refine J_G (fun g23 => ?_)
                  refine J_iald dX15_puts_357 g22 g23 ?_
                  refine J_ishl dX15_puts_358 ?_
                  refine J_goto (tgt := 363) dX15_puts_359 rfl ?_
                  exact J_sub [0, 1, 2, 3, 4, 6, 7] rfl (jX15_puts_B363 x k2 hk2 k12 hk12 (X15_puts_B265 k2 k12 n) ih a0 i1 i2 i3 i4 i6 i8 ((nI 1) <<< ((xI h18 (xR h18 (xR h18 a0 4) 14) i8.toNatClampNeg) &&& 31)) i5 h18)
def X15_puts_B262 (k2 : (Nat → Int32 → Int32 → AH → Option (Unit × AH))) (k12 : (Nat → Int32 → Int32 → Int32 → AH → Option (Unit × AH))) (a0 : Nat) (i1 : Int32) (i2 : Int32) (i3 : Int32) (i4 : Int32) (i5 : Int32) (i6 : Int32) (h : AH) : Option (Unit × AH) :=
  X15_puts_B265 k2 k12 FU a0 i1 i2 i3 i4 i5 i6 (nI 0) h
theorem jX15_puts_B262 (x : CT) (k2 : (Nat → Int32 → Int32 → AH → Option (Unit × AH))) (hk2 : ∀ (a0 : Nat) (i1 : Int32) (i2 : Int32) (h : AH), J x qX15_puts ZV 2 [(0, rv (zx x) a0), (1, .int i1), (2, .int i2)] [] h (k2 a0 i1 i2 h)) (k12 : (Nat → Int32 → Int32 → Int32 → AH → Option (Unit × AH))) (hk12 : ∀ (a0 : Nat) (i1 : Int32) (i2 : Int32) (i3 : Int32) (h : AH), J x qX15_puts ZV 12 [(0, rv (zx x) a0), (1, .int i1), (2, .int i2), (3, .int i3)] [] h (k12 a0 i1 i2 i3 h)) (a0 : Nat) (i1 : Int32) (i2 : Int32) (i3 : Int32) (i4 : Int32) (i5 : Int32) (i6 : Int32) (h : AH) : J x qX15_puts ZV 262 [(0, rv (zx x) a0), (1, .int i1), (2, .int i2), (3, .int i3), (4, .int i4), (5, .int i5), (6, .int i6)] [] h (X15_puts_B262 k2 k12 a0 i1 i2 i3 i4 i5 i6 h) := by
  unfold X15_puts_B262
  refine J_iconst (v := nI 0) dX15_puts_262 rfl ?_
  refine J_istore dX15_puts_263 (by decide) (SD.a (lvr := [(0, rv (zx x) a0), (1, .int i1), (2, .int i2), (3, .int i3), (4, .int i4), (5, .int i5), (6, .int i6)]) [0, 1, 2, 3, 4, 5, 6] rfl rfl) ?_
  exact J_sub [1, 2, 3, 4, 5, 6, 7, 0] rfl (jX15_puts_B265 x k2 hk2 k12 hk12 FU a0 i1 i2 i3 i4 i5 i6 (nI 0) h)
def X15_puts_B217 (k2 : (Nat → Int32 → Int32 → AH → Option (Unit × AH))) (k12 : (Nat → Int32 → Int32 → Int32 → AH → Option (Unit × AH))) (a0 : Nat) (i1 : Int32) (i2 : Int32) (i3 : Int32) (i4 : Int32) (i5 : Int32) (i6 : Int32) (h : AH) : Option (Unit × AH) :=
  G (xc h a0 = 15) <|
  BN (X15_keptFrom_f a0 i1 i2 i3 h) fun v3 h2 =>
  if v3 = (-1) then (
    X15_puts_B262 k2 k12 a0 i1 i2 i3 i4 i5 i6 h2
  ) else (
    G (xc h2 a0 = 15) <|
    BN (X15_rowsAt_f a0 i1 v3 i3 h2) fun v6 h5 =>
    G (xc h5 a0 = 15) <|
    G (xc h5 (xR h5 a0 35) = 16) <|
    G (gx (((nI 4) * v3) + i3) (xz h5 (xR h5 a0 35))) <|
    LT (i5 ||| ((v6 &&& (xI h5 a0 23)) &&& (xI h5 (xR h5 a0 35) (((nI 4) * v3) + i3).toNatClampNeg))) fun v10 =>
    X15_puts_B262 k2 k12 a0 i1 i2 i3 i4 v10 i6 h5
  )
theorem jX15_puts_B217 (x : CT) (k2 : (Nat → Int32 → Int32 → AH → Option (Unit × AH))) (hk2 : ∀ (a0 : Nat) (i1 : Int32) (i2 : Int32) (h : AH), J x qX15_puts ZV 2 [(0, rv (zx x) a0), (1, .int i1), (2, .int i2)] [] h (k2 a0 i1 i2 h)) (k12 : (Nat → Int32 → Int32 → Int32 → AH → Option (Unit × AH))) (hk12 : ∀ (a0 : Nat) (i1 : Int32) (i2 : Int32) (i3 : Int32) (h : AH), J x qX15_puts ZV 12 [(0, rv (zx x) a0), (1, .int i1), (2, .int i2), (3, .int i3)] [] h (k12 a0 i1 i2 i3 h)) (a0 : Nat) (i1 : Int32) (i2 : Int32) (i3 : Int32) (i4 : Int32) (i5 : Int32) (i6 : Int32) (h : AH) : J x qX15_puts ZV 217 [(0, rv (zx x) a0), (1, .int i1), (2, .int i2), (3, .int i3), (4, .int i4), (5, .int i5), (6, .int i6)] [] h (X15_puts_B217 k2 k12 a0 i1 i2 i3 i4 i5 i6 h) := by
  unfold X15_puts_B217
  refine J_aload_n 0 dX15_puts_217 rv_is rfl ?_
  refine J_iload_n 1 dX15_puts_218 rfl ?_
  refine J_iload_n 2 dX15_puts_219 rfl ?_
  refine J_iload_n 3 dX15_puts_220 rfl ?_
  refine J_G (fun g1 => ?_)
  refine J.callV (n := 3) (As := [.int i1, .int i2, .int i3]) kc_15 (ctX15_keptFrom (lx x) (wx x) a0 i1 i2 i3 h) kw_8_181 kw_8_178 kw_8_180 kp_34 kw_1_13 (by decide +kernel) rfl (by decide) (Nat.zero_le _) rfl dX15_puts_221 g1 (fun v3 h2 => ?_)
  show J x _ _ 224 _ [.int v3] h2 _
  refine J_istore dX15_puts_224 (by decide) (SD.a (lvr := [(0, rv (zx x) a0), (1, .int i1), (2, .int i2), (3, .int i3), (4, .int i4), (5, .int i5), (6, .int i6)]) [0, 1, 2, 3, 4, 5, 6] rfl rfl) ?_
  refine J_iload 0 dX15_puts_226 rfl ?_
  refine J_iconst (v := (-1)) dX15_puts_228 rfl ?_
  refine J_icmp_eq (tgt := 262) dX15_puts_229 rfl ?_ ?_
  · exact J_sub [1, 2, 3, 4, 5, 6, 7] rfl (jX15_puts_B262 x k2 hk2 k12 hk12 a0 i1 i2 i3 i4 i5 i6 h2)
  · refine J_iload 6 dX15_puts_232 rfl ?_
    refine J_aload_n 1 dX15_puts_234 rv_is rfl ?_
    refine J_iload_n 2 dX15_puts_235 rfl ?_
    refine J_iload 0 dX15_puts_236 rfl ?_
    refine J_iload_n 4 dX15_puts_238 rfl ?_
    refine J_G (fun g4 => ?_)
    refine J.callV (n := 3) (As := [.int i1, .int v3, .int i3]) kc_15 (ctX15_rowsAt (lx x) (wx x) a0 i1 v3 i3 h2) kw_8_185 kw_8_182 kw_8_184 kp_35 kw_1_13 (by decide +kernel) rfl (by decide) (by simp [rv_cat, cat_I, cat_L, cat_S]) rfl dX15_puts_239 g4 (fun v6 h5 => ?_)
    show J x _ _ 242 _ [.int v6, .int i5] h5 _
    refine J_aload_n 1 dX15_puts_242 rv_is rfl ?_
    refine J_G (fun g7 => ?_)
    refine J_getI kc_15 23 (by decide) rfl rfl kw_6_233 dX15_puts_243 g7 ?_
    refine J_iand dX15_puts_246 ?_
    refine J_aload_n 1 dX15_puts_247 rv_is rfl ?_
    refine J_getR kc_15 35 (by decide) rfl rfl kw_7_5 dX15_puts_248 g7 ?_
    refine J_iconst (v := nI 4) dX15_puts_251 rfl ?_
    refine J_iload 0 dX15_puts_252 rfl ?_
    refine J_imul dX15_puts_254 ?_
    refine J_iload_n 4 dX15_puts_255 rfl ?_
    refine J_iadd dX15_puts_256 ?_
    refine J_G (fun g8 => ?_)
    refine J_G (fun g9 => ?_)
    refine J_iald dX15_puts_257 g8 g9 ?_
    refine J_iand dX15_puts_258 ?_
    refine J_ior dX15_puts_259 ?_
    refine J_LTi (fun v10 => ?_)
    refine J_istore dX15_puts_260 (by decide) (SD.a (lvr := [(0, rv (zx x) a0), (1, .int i1), (2, .int i2), (3, .int i3), (4, .int i4), (6, .int i6)]) [1, 2, 3, 4, 5, 7] rfl rfl) ?_
    exact J_sub [1, 2, 3, 4, 5, 0, 6] rfl (jX15_puts_B262 x k2 hk2 k12 hk12 a0 i1 i2 i3 i4 v10 i6 h5)
def X15_puts_B211 (k2 : (Nat → Int32 → Int32 → AH → Option (Unit × AH))) (k12 : (Nat → Int32 → Int32 → Int32 → AH → Option (Unit × AH))) (k115 : (Nat → Int32 → Int32 → Int32 → Int32 → Int32 → Int32 → Int32 → AH → Option (Unit × AH))) (a0 : Nat) (i1 : Int32) (i2 : Int32) (i3 : Int32) (i4 : Int32) (i5 : Int32) (i6 : Int32) (i7 : Int32) (h : AH) : Option (Unit × AH) :=
  LT (i7 + nI 1) fun v1 =>
  k115 a0 i1 i2 i3 i4 i5 i6 v1 h
theorem jX15_puts_B211 (x : CT) (k2 : (Nat → Int32 → Int32 → AH → Option (Unit × AH))) (hk2 : ∀ (a0 : Nat) (i1 : Int32) (i2 : Int32) (h : AH), J x qX15_puts ZV 2 [(0, rv (zx x) a0), (1, .int i1), (2, .int i2)] [] h (k2 a0 i1 i2 h)) (k12 : (Nat → Int32 → Int32 → Int32 → AH → Option (Unit × AH))) (hk12 : ∀ (a0 : Nat) (i1 : Int32) (i2 : Int32) (i3 : Int32) (h : AH), J x qX15_puts ZV 12 [(0, rv (zx x) a0), (1, .int i1), (2, .int i2), (3, .int i3)] [] h (k12 a0 i1 i2 i3 h)) (k115 : (Nat → Int32 → Int32 → Int32 → Int32 → Int32 → Int32 → Int32 → AH → Option (Unit × AH))) (hk115 : ∀ (a0 : Nat) (i1 : Int32) (i2 : Int32) (i3 : Int32) (i4 : Int32) (i5 : Int32) (i6 : Int32) (i7 : Int32) (h : AH), J x qX15_puts ZV 115 [(0, rv (zx x) a0), (1, .int i1), (2, .int i2), (3, .int i3), (4, .int i4), (5, .int i5), (6, .int i6), (7, .int i7)] [] h (k115 a0 i1 i2 i3 i4 i5 i6 i7 h)) (a0 : Nat) (i1 : Int32) (i2 : Int32) (i3 : Int32) (i4 : Int32) (i5 : Int32) (i6 : Int32) (i7 : Int32) (h : AH) : J x qX15_puts ZV 211 [(0, rv (zx x) a0), (1, .int i1), (2, .int i2), (3, .int i3), (4, .int i4), (5, .int i5), (6, .int i6), (7, .int i7)] [] h (X15_puts_B211 k2 k12 k115 a0 i1 i2 i3 i4 i5 i6 i7 h) := by
  unfold X15_puts_B211
  refine J_iincL (u := i7 + nI 1) 7 dX15_puts_211 rfl rfl (by decide) (SD.a (lvr := [(0, rv (zx x) a0), (1, .int i1), (2, .int i2), (3, .int i3), (4, .int i4), (5, .int i5), (6, .int i6)]) [0, 1, 2, 3, 4, 5, 6] rfl rfl) (fun v1 => ?_)
  refine J_goto (tgt := 115) dX15_puts_214 rfl ?_
  exact J_sub [1, 2, 3, 4, 5, 6, 7, 0] rfl (hk115 a0 i1 i2 i3 i4 i5 i6 v1 h)
def X15_puts_B202 (k2 : (Nat → Int32 → Int32 → AH → Option (Unit × AH))) (k12 : (Nat → Int32 → Int32 → Int32 → AH → Option (Unit × AH))) (k115 : (Nat → Int32 → Int32 → Int32 → Int32 → Int32 → Int32 → Int32 → AH → Option (Unit × AH))) (k130 : (Nat → Int32 → Int32 → Int32 → Int32 → Int32 → Int32 → Int32 → Int32 → AH → Option (Unit × AH))) (a0 : Nat) (i1 : Int32) (i2 : Int32) (i3 : Int32) (i4 : Int32) (i6 : Int32) (i7 : Int32) (i8 : Int32) (is0 : Int32) (is1 : Int32) (h : AH) : Option (Unit × AH) :=
  LT (is1 ||| is0) fun v1 =>
  LT (i8 + nI 1) fun v2 =>
  k130 a0 i1 i2 i3 i4 v1 i6 i7 v2 h
theorem jX15_puts_B202 (x : CT) (k2 : (Nat → Int32 → Int32 → AH → Option (Unit × AH))) (hk2 : ∀ (a0 : Nat) (i1 : Int32) (i2 : Int32) (h : AH), J x qX15_puts ZV 2 [(0, rv (zx x) a0), (1, .int i1), (2, .int i2)] [] h (k2 a0 i1 i2 h)) (k12 : (Nat → Int32 → Int32 → Int32 → AH → Option (Unit × AH))) (hk12 : ∀ (a0 : Nat) (i1 : Int32) (i2 : Int32) (i3 : Int32) (h : AH), J x qX15_puts ZV 12 [(0, rv (zx x) a0), (1, .int i1), (2, .int i2), (3, .int i3)] [] h (k12 a0 i1 i2 i3 h)) (k115 : (Nat → Int32 → Int32 → Int32 → Int32 → Int32 → Int32 → Int32 → AH → Option (Unit × AH))) (hk115 : ∀ (a0 : Nat) (i1 : Int32) (i2 : Int32) (i3 : Int32) (i4 : Int32) (i5 : Int32) (i6 : Int32) (i7 : Int32) (h : AH), J x qX15_puts ZV 115 [(0, rv (zx x) a0), (1, .int i1), (2, .int i2), (3, .int i3), (4, .int i4), (5, .int i5), (6, .int i6), (7, .int i7)] [] h (k115 a0 i1 i2 i3 i4 i5 i6 i7 h)) (k130 : (Nat → Int32 → Int32 → Int32 → Int32 → Int32 → Int32 → Int32 → Int32 → AH → Option (Unit × AH))) (hk130 : ∀ (a0 : Nat) (i1 : Int32) (i2 : Int32) (i3 : Int32) (i4 : Int32) (i5 : Int32) (i6 : Int32) (i7 : Int32) (i8 : Int32) (h : AH), J x qX15_puts ZV 130 [(0, rv (zx x) a0), (1, .int i1), (2, .int i2), (3, .int i3), (4, .int i4), (5, .int i5), (6, .int i6), (7, .int i7), (8, .int i8)] [] h (k130 a0 i1 i2 i3 i4 i5 i6 i7 i8 h)) (a0 : Nat) (i1 : Int32) (i2 : Int32) (i3 : Int32) (i4 : Int32) (i6 : Int32) (i7 : Int32) (i8 : Int32) (is0 : Int32) (is1 : Int32) (h : AH) : J x qX15_puts ZV 202 [(0, rv (zx x) a0), (1, .int i1), (2, .int i2), (3, .int i3), (4, .int i4), (6, .int i6), (7, .int i7), (8, .int i8)] [.int is0, .int is1] h (X15_puts_B202 k2 k12 k115 k130 a0 i1 i2 i3 i4 i6 i7 i8 is0 is1 h) := by
  unfold X15_puts_B202
  refine J_ior dX15_puts_202 ?_
  refine J_LTi (fun v1 => ?_)
  refine J_istore dX15_puts_203 (by decide) (SD.a (lvr := [(0, rv (zx x) a0), (1, .int i1), (2, .int i2), (3, .int i3), (4, .int i4), (6, .int i6), (7, .int i7), (8, .int i8)]) [0, 1, 2, 3, 4, 5, 6, 7] rfl rfl) ?_
  refine J_iincL (u := i8 + nI 1) 8 dX15_puts_205 rfl rfl (by decide) (SD.a (lvr := [(5, .int v1), (0, rv (zx x) a0), (1, .int i1), (2, .int i2), (3, .int i3), (4, .int i4), (6, .int i6), (7, .int i7)]) [0, 1, 2, 3, 4, 5, 6, 7] rfl rfl) (fun v2 => ?_)
  refine J_goto (tgt := 130) dX15_puts_208 rfl ?_
  exact J_sub [2, 3, 4, 5, 6, 1, 7, 8, 0] rfl (hk130 a0 i1 i2 i3 i4 v1 i6 i7 v2 h)
def X15_puts_B201 (k2 : (Nat → Int32 → Int32 → AH → Option (Unit × AH))) (k12 : (Nat → Int32 → Int32 → Int32 → AH → Option (Unit × AH))) (k115 : (Nat → Int32 → Int32 → Int32 → Int32 → Int32 → Int32 → Int32 → AH → Option (Unit × AH))) (k130 : (Nat → Int32 → Int32 → Int32 → Int32 → Int32 → Int32 → Int32 → Int32 → AH → Option (Unit × AH))) (a0 : Nat) (i1 : Int32) (i2 : Int32) (i3 : Int32) (i4 : Int32) (i6 : Int32) (i7 : Int32) (i8 : Int32) (is0 : Int32) (h : AH) : Option (Unit × AH) :=
  X15_puts_B202 k2 k12 k115 k130 a0 i1 i2 i3 i4 i6 i7 i8 (nI 0) is0 h
theorem jX15_puts_B201 (x : CT) (k2 : (Nat → Int32 → Int32 → AH → Option (Unit × AH))) (hk2 : ∀ (a0 : Nat) (i1 : Int32) (i2 : Int32) (h : AH), J x qX15_puts ZV 2 [(0, rv (zx x) a0), (1, .int i1), (2, .int i2)] [] h (k2 a0 i1 i2 h)) (k12 : (Nat → Int32 → Int32 → Int32 → AH → Option (Unit × AH))) (hk12 : ∀ (a0 : Nat) (i1 : Int32) (i2 : Int32) (i3 : Int32) (h : AH), J x qX15_puts ZV 12 [(0, rv (zx x) a0), (1, .int i1), (2, .int i2), (3, .int i3)] [] h (k12 a0 i1 i2 i3 h)) (k115 : (Nat → Int32 → Int32 → Int32 → Int32 → Int32 → Int32 → Int32 → AH → Option (Unit × AH))) (hk115 : ∀ (a0 : Nat) (i1 : Int32) (i2 : Int32) (i3 : Int32) (i4 : Int32) (i5 : Int32) (i6 : Int32) (i7 : Int32) (h : AH), J x qX15_puts ZV 115 [(0, rv (zx x) a0), (1, .int i1), (2, .int i2), (3, .int i3), (4, .int i4), (5, .int i5), (6, .int i6), (7, .int i7)] [] h (k115 a0 i1 i2 i3 i4 i5 i6 i7 h)) (k130 : (Nat → Int32 → Int32 → Int32 → Int32 → Int32 → Int32 → Int32 → Int32 → AH → Option (Unit × AH))) (hk130 : ∀ (a0 : Nat) (i1 : Int32) (i2 : Int32) (i3 : Int32) (i4 : Int32) (i5 : Int32) (i6 : Int32) (i7 : Int32) (i8 : Int32) (h : AH), J x qX15_puts ZV 130 [(0, rv (zx x) a0), (1, .int i1), (2, .int i2), (3, .int i3), (4, .int i4), (5, .int i5), (6, .int i6), (7, .int i7), (8, .int i8)] [] h (k130 a0 i1 i2 i3 i4 i5 i6 i7 i8 h)) (a0 : Nat) (i1 : Int32) (i2 : Int32) (i3 : Int32) (i4 : Int32) (i6 : Int32) (i7 : Int32) (i8 : Int32) (is0 : Int32) (h : AH) : J x qX15_puts ZV 201 [(0, rv (zx x) a0), (1, .int i1), (2, .int i2), (3, .int i3), (4, .int i4), (6, .int i6), (7, .int i7), (8, .int i8)] [.int is0] h (X15_puts_B201 k2 k12 k115 k130 a0 i1 i2 i3 i4 i6 i7 i8 is0 h) := by
  unfold X15_puts_B201
  refine J_iconst (v := nI 0) dX15_puts_201 rfl ?_
  exact (jX15_puts_B202 x k2 hk2 k12 hk12 k115 hk115 k130 hk130 a0 i1 i2 i3 i4 i6 i7 i8 (nI 0) is0 h)
def X15_puts_B130 (k2 : (Nat → Int32 → Int32 → AH → Option (Unit × AH))) (k12 : (Nat → Int32 → Int32 → Int32 → AH → Option (Unit × AH))) (k115 : (Nat → Int32 → Int32 → Int32 → Int32 → Int32 → Int32 → Int32 → AH → Option (Unit × AH))) : Nat → Nat → Int32 → Int32 → Int32 → Int32 → Int32 → Int32 → Int32 → Int32 → AH → Option (Unit × AH)
  | 0, _, _, _, _, _, _, _, _, _, _ => none
  | n + 1, a0, i1, i2, i3, i4, i5, i6, i7, i8, h =>
    if i2 ≤ i8 then (
      X15_puts_B211 k2 k12 k115 a0 i1 i2 i3 i4 i5 i6 i7 h
    ) else (
      G (xc h a0 = 15) <|
      G (xc h (xR h a0 4) = 12) <|
      G (xc h (xR h (xR h a0 4) 18) = 16) <|
      G (gx i7 (xz h (xR h (xR h a0 4) 18))) <|
      if (xI h (xR h (xR h a0 4) 18) i7.toNatClampNeg) = i3 then (
        G (xc h a0 = 15) <|
        G (xc h (xR h a0 30) = 16) <|
        G (gx ((((nI 42) * i1) + ((nI 7) * i7)) + i8) (xz h (xR h a0 30))) <|
        if (xI h (xR h a0 30) ((((nI 42) * i1) + ((nI 7) * i7)) + i8).toNatClampNeg) = i2 then (
          G (xc h a0 = 15) <|
          BN (X15_isWordStanding_f a0 i1 i7 i8 h) fun v10 h9 =>
          if v10 = 0 then (
            X15_puts_B201 k2 k12 k115 (X15_puts_B130 k2 k12 k115 n) a0 i1 i2 i3 i4 i6 i7 i8 i5 h9
          ) else (
            G (xc h9 a0 = 15) <|
            G (xc h9 (xR h9 a0 4) = 12) <|
            G (xc h9 (xR h9 (xR h9 a0 4) 17) = 16) <|
            G (gx i7 (xz h9 (xR h9 (xR h9 a0 4) 17))) <|
            X15_puts_B202 k2 k12 k115 (X15_puts_B130 k2 k12 k115 n) a0 i1 i2 i3 i4 i6 i7 i8 ((nI 1) <<< ((xI h9 (xR h9 (xR h9 a0 4) 17) i7.toNatClampNeg) &&& 31)) i5 h9
          )
        ) else (
          X15_puts_B201 k2 k12 k115 (X15_puts_B130 k2 k12 k115 n) a0 i1 i2 i3 i4 i6 i7 i8 i5 h
        )
      ) else (
        X15_puts_B211 k2 k12 k115 a0 i1 i2 i3 i4 i5 i6 i7 h
      )
    )
theorem jX15_puts_B130 (x : CT) (k2 : (Nat → Int32 → Int32 → AH → Option (Unit × AH))) (hk2 : ∀ (a0 : Nat) (i1 : Int32) (i2 : Int32) (h : AH), J x qX15_puts ZV 2 [(0, rv (zx x) a0), (1, .int i1), (2, .int i2)] [] h (k2 a0 i1 i2 h)) (k12 : (Nat → Int32 → Int32 → Int32 → AH → Option (Unit × AH))) (hk12 : ∀ (a0 : Nat) (i1 : Int32) (i2 : Int32) (i3 : Int32) (h : AH), J x qX15_puts ZV 12 [(0, rv (zx x) a0), (1, .int i1), (2, .int i2), (3, .int i3)] [] h (k12 a0 i1 i2 i3 h)) (k115 : (Nat → Int32 → Int32 → Int32 → Int32 → Int32 → Int32 → Int32 → AH → Option (Unit × AH))) (hk115 : ∀ (a0 : Nat) (i1 : Int32) (i2 : Int32) (i3 : Int32) (i4 : Int32) (i5 : Int32) (i6 : Int32) (i7 : Int32) (h : AH), J x qX15_puts ZV 115 [(0, rv (zx x) a0), (1, .int i1), (2, .int i2), (3, .int i3), (4, .int i4), (5, .int i5), (6, .int i6), (7, .int i7)] [] h (k115 a0 i1 i2 i3 i4 i5 i6 i7 h)) : ∀ (n : Nat) (a0 : Nat) (i1 : Int32) (i2 : Int32) (i3 : Int32) (i4 : Int32) (i5 : Int32) (i6 : Int32) (i7 : Int32) (i8 : Int32) (h : AH), J x qX15_puts ZV 130 [(0, rv (zx x) a0), (1, .int i1), (2, .int i2), (3, .int i3), (4, .int i4), (5, .int i5), (6, .int i6), (7, .int i7), (8, .int i8)] [] h (X15_puts_B130 k2 k12 k115 n a0 i1 i2 i3 i4 i5 i6 i7 i8 h) := by
  intro n
  induction n with
  | zero => intro a0 i1 i2 i3 i4 i5 i6 i7 i8 h; exact J_none
  | succ n ih =>
    intro a0 i1 i2 i3 i4 i5 i6 i7 i8 h
    unfold X15_puts_B130
    refine J_iload 8 dX15_puts_130 rfl ?_
    refine J_iload_n 2 dX15_puts_132 rfl ?_
    refine J_icmp_ge (tgt := 211) dX15_puts_133 rfl ?_ ?_
    · exact J_sub [0, 1, 2, 3, 4, 5, 6, 7] rfl (jX15_puts_B211 x k2 hk2 k12 hk12 k115 hk115 a0 i1 i2 i3 i4 i5 i6 i7 h)
    · refine J_aload_n 0 dX15_puts_136 rv_is rfl ?_
      refine J_G (fun g1 => ?_)
      refine J_getR kc_15 4 (by decide) rfl rfl kw_6_214 dX15_puts_137 g1 ?_
      refine J_G (fun g2 => ?_)
      refine J_getRN kc_12 18 (by decide) rfl rfl kn_42 dX15_puts_140 g2 ?_
      refine J_iload 7 dX15_puts_143 rfl ?_
      refine J_G (fun g3 => ?_)
      refine J_G (fun g4 => ?_)
      refine J_iald dX15_puts_145 g3 g4 ?_
      refine J_iload_n 3 dX15_puts_146 rfl ?_
      refine J_icmp_ne (tgt := 211) dX15_puts_147 rfl ?_ ?_
      · exact J_sub [0, 1, 2, 3, 4, 5, 6, 7] rfl (jX15_puts_B211 x k2 hk2 k12 hk12 k115 hk115 a0 i1 i2 i3 i4 i5 i6 i7 h)
      · refine J_iload 5 dX15_puts_150 rfl ?_
        refine J_aload_n 0 dX15_puts_152 rv_is rfl ?_
        refine J_G (fun g5 => ?_)
        refine J_getR kc_15 30 (by decide) rfl rfl kw_7_0 dX15_puts_153 g5 ?_
        refine J_bipush (v := nI 42) dX15_puts_156 rfl ?_
        refine J_iload_n 1 dX15_puts_158 rfl ?_
        refine J_imul dX15_puts_159 ?_
        refine J_bipush (v := nI 7) dX15_puts_160 rfl ?_
        refine J_iload 7 dX15_puts_162 rfl ?_
        refine J_imul dX15_puts_164 ?_
        refine J_iadd dX15_puts_165 ?_
        refine J_iload 8 dX15_puts_166 rfl ?_
        refine J_iadd dX15_puts_168 ?_
        refine J_G (fun g6 => ?_)
        refine J_G (fun g7 => ?_)
        refine J_iald dX15_puts_169 g6 g7 ?_
        refine J_iload_n 2 dX15_puts_170 rfl ?_
        refine J_icmp_ne (tgt := 201) dX15_puts_171 rfl ?_ ?_
        · exact J_sub [0, 1, 2, 3, 4, 6, 7, 8] rfl (jX15_puts_B201 x k2 hk2 k12 hk12 k115 hk115 (X15_puts_B130 k2 k12 k115 n) ih a0 i1 i2 i3 i4 i6 i7 i8 i5 h)
        · refine J_aload_n 0 dX15_puts_174 rv_is rfl ?_
          refine J_iload_n 1 dX15_puts_175 rfl ?_
          refine J_iload 7 dX15_puts_176 rfl ?_
          refine J_iload 8 dX15_puts_178 rfl ?_
          refine J_G (fun g8 => ?_)
          refine J.callV (n := 3) (As := [.int i1, .int i7, .int i8]) kc_15 (ctX15_isWordStanding (lx x) (wx x) a0 i1 i7 i8 h) kw_9_33 kw_9_30 kw_9_32 kp_50 kw_1_13 (by decide +kernel) rfl (by decide) (by simp [rv_cat, cat_I, cat_L, cat_S]) rfl dX15_puts_180 g8 (fun v10 h9 => ?_)
          show J x _ _ 183 _ [.int v10, .int i5] h9 _
          refine J_if_eq (tgt := 201) dX15_puts_183 rfl ?_ ?_
          · exact J_sub [0, 1, 2, 3, 4, 6, 7, 8] rfl (jX15_puts_B201 x k2 hk2 k12 hk12 k115 hk115 (X15_puts_B130 k2 k12 k115 n) ih a0 i1 i2 i3 i4 i6 i7 i8 i5 h9)
          · refine J_iconst (v := nI 1) dX15_puts_186 rfl ?_
            refine J_aload_n 0 dX15_puts_187 rv_is rfl ?_
            refine J_G (fun g11 => ?_)
            refine J_getR kc_15 4 (by decide) rfl rfl kw_6_214 dX15_puts_188 g11 ?_
            refine J_G (fun g12 => ?_)
            refine J_getRN kc_12 17 (by decide) rfl rfl kn_41 dX15_puts_191 g12 ?_
            refine J_iload 7 dX15_puts_194 rfl ?_
            refine J_G (fun g13 => ?_)
            refine J_G (fun g14 => ?_)
            refine J_iald dX15_puts_196 g13 g14 ?_
            refine J_ishl dX15_puts_197 ?_
            refine J_goto (tgt := 202) dX15_puts_198 rfl ?_
            exact J_sub [0, 1, 2, 3, 4, 6, 7, 8] rfl (jX15_puts_B202 x k2 hk2 k12 hk12 k115 hk115 (X15_puts_B130 k2 k12 k115 n) ih a0 i1 i2 i3 i4 i6 i7 i8 ((nI 1) <<< ((xI h9 (xR h9 (xR h9 a0 4) 17) i7.toNatClampNeg) &&& 31)) i5 h9)
def X15_puts_B115 (k2 : (Nat → Int32 → Int32 → AH → Option (Unit × AH))) (k12 : (Nat → Int32 → Int32 → Int32 → AH → Option (Unit × AH))) : Nat → Nat → Int32 → Int32 → Int32 → Int32 → Int32 → Int32 → Int32 → AH → Option (Unit × AH)
  | 0, _, _, _, _, _, _, _, _, _ => none
  | n + 1, a0, i1, i2, i3, i4, i5, i6, i7, h =>
    G (xc h a0 = 15) <|
    G (xc h (xR h a0 4) = 12) <|
    if (xI h (xR h a0 4) 6) ≤ i7 then (
      X15_puts_B217 k2 k12 a0 i1 i2 i3 i4 i5 i6 h
    ) else (
      X15_puts_B130 k2 k12 (X15_puts_B115 k2 k12 n) FU a0 i1 i2 i3 i4 i5 i6 i7 (nI 0) h
    )
theorem jX15_puts_B115 (x : CT) (k2 : (Nat → Int32 → Int32 → AH → Option (Unit × AH))) (hk2 : ∀ (a0 : Nat) (i1 : Int32) (i2 : Int32) (h : AH), J x qX15_puts ZV 2 [(0, rv (zx x) a0), (1, .int i1), (2, .int i2)] [] h (k2 a0 i1 i2 h)) (k12 : (Nat → Int32 → Int32 → Int32 → AH → Option (Unit × AH))) (hk12 : ∀ (a0 : Nat) (i1 : Int32) (i2 : Int32) (i3 : Int32) (h : AH), J x qX15_puts ZV 12 [(0, rv (zx x) a0), (1, .int i1), (2, .int i2), (3, .int i3)] [] h (k12 a0 i1 i2 i3 h)) : ∀ (n : Nat) (a0 : Nat) (i1 : Int32) (i2 : Int32) (i3 : Int32) (i4 : Int32) (i5 : Int32) (i6 : Int32) (i7 : Int32) (h : AH), J x qX15_puts ZV 115 [(0, rv (zx x) a0), (1, .int i1), (2, .int i2), (3, .int i3), (4, .int i4), (5, .int i5), (6, .int i6), (7, .int i7)] [] h (X15_puts_B115 k2 k12 n a0 i1 i2 i3 i4 i5 i6 i7 h) := by
  intro n
  induction n with
  | zero => intro a0 i1 i2 i3 i4 i5 i6 i7 h; exact J_none
  | succ n ih =>
    intro a0 i1 i2 i3 i4 i5 i6 i7 h
    unfold X15_puts_B115
    refine J_iload 7 dX15_puts_115 rfl ?_
    refine J_aload_n 0 dX15_puts_117 rv_is rfl ?_
    refine J_G (fun g1 => ?_)
    refine J_getR kc_15 4 (by decide) rfl rfl kw_6_214 dX15_puts_118 g1 ?_
    refine J_G (fun g2 => ?_)
    refine J_getIN kc_12 6 (by decide) rfl rfl kn_30 dX15_puts_121 g2 ?_
    refine J_icmp_ge (tgt := 217) dX15_puts_124 rfl ?_ ?_
    · exact J_sub [0, 1, 2, 3, 4, 5, 6] rfl (jX15_puts_B217 x k2 hk2 k12 hk12 a0 i1 i2 i3 i4 i5 i6 h)
    · refine J_iconst (v := nI 0) dX15_puts_127 rfl ?_
      refine J_istore dX15_puts_128 (by decide) (SD.a (lvr := [(0, rv (zx x) a0), (1, .int i1), (2, .int i2), (3, .int i3), (4, .int i4), (5, .int i5), (6, .int i6), (7, .int i7)]) [0, 1, 2, 3, 4, 5, 6, 7] rfl rfl) ?_
      exact J_sub [1, 2, 3, 4, 5, 6, 7, 8, 0] rfl (jX15_puts_B130 x k2 hk2 k12 hk12 (X15_puts_B115 k2 k12 n) ih FU a0 i1 i2 i3 i4 i5 i6 i7 (nI 0) h)
def X15_puts_B112 (k2 : (Nat → Int32 → Int32 → AH → Option (Unit × AH))) (k12 : (Nat → Int32 → Int32 → Int32 → AH → Option (Unit × AH))) (a0 : Nat) (i1 : Int32) (i2 : Int32) (i3 : Int32) (i4 : Int32) (i5 : Int32) (i6 : Int32) (h : AH) : Option (Unit × AH) :=
  X15_puts_B115 k2 k12 FU a0 i1 i2 i3 i4 i5 i6 (nI 0) h
theorem jX15_puts_B112 (x : CT) (k2 : (Nat → Int32 → Int32 → AH → Option (Unit × AH))) (hk2 : ∀ (a0 : Nat) (i1 : Int32) (i2 : Int32) (h : AH), J x qX15_puts ZV 2 [(0, rv (zx x) a0), (1, .int i1), (2, .int i2)] [] h (k2 a0 i1 i2 h)) (k12 : (Nat → Int32 → Int32 → Int32 → AH → Option (Unit × AH))) (hk12 : ∀ (a0 : Nat) (i1 : Int32) (i2 : Int32) (i3 : Int32) (h : AH), J x qX15_puts ZV 12 [(0, rv (zx x) a0), (1, .int i1), (2, .int i2), (3, .int i3)] [] h (k12 a0 i1 i2 i3 h)) (a0 : Nat) (i1 : Int32) (i2 : Int32) (i3 : Int32) (i4 : Int32) (i5 : Int32) (i6 : Int32) (h : AH) : J x qX15_puts ZV 112 [(0, rv (zx x) a0), (1, .int i1), (2, .int i2), (3, .int i3), (4, .int i4), (5, .int i5), (6, .int i6)] [] h (X15_puts_B112 k2 k12 a0 i1 i2 i3 i4 i5 i6 h) := by
  unfold X15_puts_B112
  refine J_iconst (v := nI 0) dX15_puts_112 rfl ?_
  refine J_istore dX15_puts_113 (by decide) (SD.a (lvr := [(0, rv (zx x) a0), (1, .int i1), (2, .int i2), (3, .int i3), (4, .int i4), (5, .int i5), (6, .int i6)]) [0, 1, 2, 3, 4, 5, 6] rfl rfl) ?_
  exact J_sub [1, 2, 3, 4, 5, 6, 7, 0] rfl (jX15_puts_B115 x k2 hk2 k12 hk12 FU a0 i1 i2 i3 i4 i5 i6 (nI 0) h)
def X15_puts_B103 (k2 : (Nat → Int32 → Int32 → AH → Option (Unit × AH))) (k12 : (Nat → Int32 → Int32 → Int32 → AH → Option (Unit × AH))) (k67 : (Nat → Int32 → Int32 → Int32 → Int32 → Int32 → Int32 → Int32 → AH → Option (Unit × AH))) (a0 : Nat) (i1 : Int32) (i2 : Int32) (i3 : Int32) (i4 : Int32) (i6 : Int32) (i7 : Int32) (is0 : Int32) (is1 : Int32) (h : AH) : Option (Unit × AH) :=
  LT (is1 ||| is0) fun v1 =>
  LT (i7 + nI 1) fun v2 =>
  k67 a0 i1 i2 i3 i4 v1 i6 v2 h
theorem jX15_puts_B103 (x : CT) (k2 : (Nat → Int32 → Int32 → AH → Option (Unit × AH))) (hk2 : ∀ (a0 : Nat) (i1 : Int32) (i2 : Int32) (h : AH), J x qX15_puts ZV 2 [(0, rv (zx x) a0), (1, .int i1), (2, .int i2)] [] h (k2 a0 i1 i2 h)) (k12 : (Nat → Int32 → Int32 → Int32 → AH → Option (Unit × AH))) (hk12 : ∀ (a0 : Nat) (i1 : Int32) (i2 : Int32) (i3 : Int32) (h : AH), J x qX15_puts ZV 12 [(0, rv (zx x) a0), (1, .int i1), (2, .int i2), (3, .int i3)] [] h (k12 a0 i1 i2 i3 h)) (k67 : (Nat → Int32 → Int32 → Int32 → Int32 → Int32 → Int32 → Int32 → AH → Option (Unit × AH))) (hk67 : ∀ (a0 : Nat) (i1 : Int32) (i2 : Int32) (i3 : Int32) (i4 : Int32) (i5 : Int32) (i6 : Int32) (i7 : Int32) (h : AH), J x qX15_puts ZV 67 [(0, rv (zx x) a0), (1, .int i1), (2, .int i2), (3, .int i3), (4, .int i4), (5, .int i5), (6, .int i6), (7, .int i7)] [] h (k67 a0 i1 i2 i3 i4 i5 i6 i7 h)) (a0 : Nat) (i1 : Int32) (i2 : Int32) (i3 : Int32) (i4 : Int32) (i6 : Int32) (i7 : Int32) (is0 : Int32) (is1 : Int32) (h : AH) : J x qX15_puts ZV 103 [(0, rv (zx x) a0), (1, .int i1), (2, .int i2), (3, .int i3), (4, .int i4), (6, .int i6), (7, .int i7)] [.int is0, .int is1] h (X15_puts_B103 k2 k12 k67 a0 i1 i2 i3 i4 i6 i7 is0 is1 h) := by
  unfold X15_puts_B103
  refine J_ior dX15_puts_103 ?_
  refine J_LTi (fun v1 => ?_)
  refine J_istore dX15_puts_104 (by decide) (SD.a (lvr := [(0, rv (zx x) a0), (1, .int i1), (2, .int i2), (3, .int i3), (4, .int i4), (6, .int i6), (7, .int i7)]) [0, 1, 2, 3, 4, 5, 6] rfl rfl) ?_
  refine J_iincL (u := i7 + nI 1) 7 dX15_puts_106 rfl rfl (by decide) (SD.a (lvr := [(5, .int v1), (0, rv (zx x) a0), (1, .int i1), (2, .int i2), (3, .int i3), (4, .int i4), (6, .int i6)]) [0, 1, 2, 3, 4, 5, 6] rfl rfl) (fun v2 => ?_)
  refine J_goto (tgt := 67) dX15_puts_109 rfl ?_
  exact J_sub [2, 3, 4, 5, 6, 1, 7, 0] rfl (hk67 a0 i1 i2 i3 i4 v1 i6 v2 h)
def X15_puts_B67 (k2 : (Nat → Int32 → Int32 → AH → Option (Unit × AH))) (k12 : (Nat → Int32 → Int32 → Int32 → AH → Option (Unit × AH))) : Nat → Nat → Int32 → Int32 → Int32 → Int32 → Int32 → Int32 → Int32 → AH → Option (Unit × AH)
  | 0, _, _, _, _, _, _, _, _, _ => none
  | n + 1, a0, i1, i2, i3, i4, i5, i6, i7, h =>
    G (xc h a0 = 15) <|
    G (xc h (xR h a0 4) = 12) <|
    if (xI h (xR h a0 4) 2) ≤ i7 then (
      X15_puts_B112 k2 k12 a0 i1 i2 i3 i4 i5 i6 h
    ) else (
      if i2 = 0 then (
        G (xc h a0 = 15) <|
        BN (X15_isFact_f a0 i7 i3 h) fun v5 h4 =>
        if v5 = 0 then (
          X15_puts_B103 k2 k12 (X15_puts_B67 k2 k12 n) a0 i1 i2 i3 i4 i6 i7 (nI 0) i5 h4
        ) else (
          X15_puts_B103 k2 k12 (X15_puts_B67 k2 k12 n) a0 i1 i2 i3 i4 i6 i7 ((nI 1) <<< (i7 &&& 31)) i5 h4
        )
      ) else (
        X15_puts_B112 k2 k12 a0 i1 i2 i3 i4 i5 i6 h
      )
    )
theorem jX15_puts_B67 (x : CT) (k2 : (Nat → Int32 → Int32 → AH → Option (Unit × AH))) (hk2 : ∀ (a0 : Nat) (i1 : Int32) (i2 : Int32) (h : AH), J x qX15_puts ZV 2 [(0, rv (zx x) a0), (1, .int i1), (2, .int i2)] [] h (k2 a0 i1 i2 h)) (k12 : (Nat → Int32 → Int32 → Int32 → AH → Option (Unit × AH))) (hk12 : ∀ (a0 : Nat) (i1 : Int32) (i2 : Int32) (i3 : Int32) (h : AH), J x qX15_puts ZV 12 [(0, rv (zx x) a0), (1, .int i1), (2, .int i2), (3, .int i3)] [] h (k12 a0 i1 i2 i3 h)) : ∀ (n : Nat) (a0 : Nat) (i1 : Int32) (i2 : Int32) (i3 : Int32) (i4 : Int32) (i5 : Int32) (i6 : Int32) (i7 : Int32) (h : AH), J x qX15_puts ZV 67 [(0, rv (zx x) a0), (1, .int i1), (2, .int i2), (3, .int i3), (4, .int i4), (5, .int i5), (6, .int i6), (7, .int i7)] [] h (X15_puts_B67 k2 k12 n a0 i1 i2 i3 i4 i5 i6 i7 h) := by
  intro n
  induction n with
  | zero => intro a0 i1 i2 i3 i4 i5 i6 i7 h; exact J_none
  | succ n ih =>
    intro a0 i1 i2 i3 i4 i5 i6 i7 h
    unfold X15_puts_B67
    refine J_iload 7 dX15_puts_67 rfl ?_
    refine J_aload_n 0 dX15_puts_69 rv_is rfl ?_
    refine J_G (fun g1 => ?_)
    refine J_getR kc_15 4 (by decide) rfl rfl kw_6_214 dX15_puts_70 g1 ?_
    refine J_G (fun g2 => ?_)
    refine J_getIN kc_12 2 (by decide) rfl rfl kn_26 dX15_puts_73 g2 ?_
    refine J_icmp_ge (tgt := 112) dX15_puts_76 rfl ?_ ?_
    · exact J_sub [0, 1, 2, 3, 4, 5, 6] rfl (jX15_puts_B112 x k2 hk2 k12 hk12 a0 i1 i2 i3 i4 i5 i6 h)
    · refine J_iload_n 2 dX15_puts_79 rfl ?_
      refine J_if_ne (tgt := 112) dX15_puts_80 rfl ?_ ?_
      · exact J_sub [0, 1, 2, 3, 4, 5, 6] rfl (jX15_puts_B112 x k2 hk2 k12 hk12 a0 i1 i2 i3 i4 i5 i6 h)
      · refine J_iload 5 dX15_puts_83 rfl ?_
        refine J_aload_n 0 dX15_puts_85 rv_is rfl ?_
        refine J_iload 7 dX15_puts_86 rfl ?_
        refine J_iload_n 3 dX15_puts_88 rfl ?_
        refine J_G (fun g3 => ?_)
        refine J.callV (n := 2) (As := [.int i7, .int i3]) kc_15 (ctX15_isFact (lx x) (wx x) a0 i7 i3 h) kw_8_174 kw_8_171 kw_8_173 kp_33 kw_1_13 (by decide +kernel) rfl (by decide) (by simp [rv_cat, cat_I, cat_L, cat_S]) rfl dX15_puts_89 g3 (fun v5 h4 => ?_)
        show J x _ _ 92 _ [.int v5, .int i5] h4 _
        refine J_if_eq (tgt := 102) dX15_puts_92 rfl ?_ ?_
        · refine J_iconst (v := nI 0) dX15_puts_102 rfl ?_
          exact J_sub [0, 1, 2, 3, 4, 6, 7] rfl (jX15_puts_B103 x k2 hk2 k12 hk12 (X15_puts_B67 k2 k12 n) ih a0 i1 i2 i3 i4 i6 i7 (nI 0) i5 h4)
        · refine J_iconst (v := nI 1) dX15_puts_95 rfl ?_
          refine J_iload 7 dX15_puts_96 rfl ?_
          refine J_ishl dX15_puts_98 ?_
          refine J_goto (tgt := 103) dX15_puts_99 rfl ?_
          exact J_sub [0, 1, 2, 3, 4, 6, 7] rfl (jX15_puts_B103 x k2 hk2 k12 hk12 (X15_puts_B67 k2 k12 n) ih a0 i1 i2 i3 i4 i6 i7 ((nI 1) <<< (i7 &&& 31)) i5 h4)
def X15_puts_B62 (k2 : (Nat → Int32 → Int32 → AH → Option (Unit × AH))) (k12 : (Nat → Int32 → Int32 → Int32 → AH → Option (Unit × AH))) (a0 : Nat) (i1 : Int32) (i2 : Int32) (i3 : Int32) (i4 : Int32) (i5 : Int32) (is0 : Int32) (h : AH) : Option (Unit × AH) :=
  X15_puts_B67 k2 k12 FU a0 i1 i2 i3 i4 i5 is0 (nI 0) h
theorem jX15_puts_B62 (x : CT) (k2 : (Nat → Int32 → Int32 → AH → Option (Unit × AH))) (hk2 : ∀ (a0 : Nat) (i1 : Int32) (i2 : Int32) (h : AH), J x qX15_puts ZV 2 [(0, rv (zx x) a0), (1, .int i1), (2, .int i2)] [] h (k2 a0 i1 i2 h)) (k12 : (Nat → Int32 → Int32 → Int32 → AH → Option (Unit × AH))) (hk12 : ∀ (a0 : Nat) (i1 : Int32) (i2 : Int32) (i3 : Int32) (h : AH), J x qX15_puts ZV 12 [(0, rv (zx x) a0), (1, .int i1), (2, .int i2), (3, .int i3)] [] h (k12 a0 i1 i2 i3 h)) (a0 : Nat) (i1 : Int32) (i2 : Int32) (i3 : Int32) (i4 : Int32) (i5 : Int32) (is0 : Int32) (h : AH) : J x qX15_puts ZV 62 [(0, rv (zx x) a0), (1, .int i1), (2, .int i2), (3, .int i3), (4, .int i4), (5, .int i5)] [.int is0] h (X15_puts_B62 k2 k12 a0 i1 i2 i3 i4 i5 is0 h) := by
  unfold X15_puts_B62
  refine J_istore dX15_puts_62 (by decide) (SD.a (lvr := [(0, rv (zx x) a0), (1, .int i1), (2, .int i2), (3, .int i3), (4, .int i4), (5, .int i5)]) [0, 1, 2, 3, 4, 5] rfl rfl) ?_
  refine J_iconst (v := nI 0) dX15_puts_64 rfl ?_
  refine J_istore dX15_puts_65 (by decide) (SD.a (lvr := [(6, .int is0), (0, rv (zx x) a0), (1, .int i1), (2, .int i2), (3, .int i3), (4, .int i4), (5, .int i5)]) [0, 1, 2, 3, 4, 5, 6] rfl rfl) ?_
  exact J_sub [2, 3, 4, 5, 6, 7, 1, 0] rfl (jX15_puts_B67 x k2 hk2 k12 hk12 FU a0 i1 i2 i3 i4 i5 is0 (nI 0) h)
def X15_puts_B57 (k2 : (Nat → Int32 → Int32 → AH → Option (Unit × AH))) (k12 : (Nat → Int32 → Int32 → Int32 → AH → Option (Unit × AH))) (a0 : Nat) (i1 : Int32) (i2 : Int32) (i3 : Int32) (i4 : Int32) (i5 : Int32) (h : AH) : Option (Unit × AH) :=
  X15_puts_B62 k2 k12 a0 i1 i2 i3 i4 i5 (nI 1) h
theorem jX15_puts_B57 (x : CT) (k2 : (Nat → Int32 → Int32 → AH → Option (Unit × AH))) (hk2 : ∀ (a0 : Nat) (i1 : Int32) (i2 : Int32) (h : AH), J x qX15_puts ZV 2 [(0, rv (zx x) a0), (1, .int i1), (2, .int i2)] [] h (k2 a0 i1 i2 h)) (k12 : (Nat → Int32 → Int32 → Int32 → AH → Option (Unit × AH))) (hk12 : ∀ (a0 : Nat) (i1 : Int32) (i2 : Int32) (i3 : Int32) (h : AH), J x qX15_puts ZV 12 [(0, rv (zx x) a0), (1, .int i1), (2, .int i2), (3, .int i3)] [] h (k12 a0 i1 i2 i3 h)) (a0 : Nat) (i1 : Int32) (i2 : Int32) (i3 : Int32) (i4 : Int32) (i5 : Int32) (h : AH) : J x qX15_puts ZV 57 [(0, rv (zx x) a0), (1, .int i1), (2, .int i2), (3, .int i3), (4, .int i4), (5, .int i5)] [] h (X15_puts_B57 k2 k12 a0 i1 i2 i3 i4 i5 h) := by
  unfold X15_puts_B57
  refine J_iconst (v := nI 1) dX15_puts_57 rfl ?_
  refine J_goto (tgt := 62) dX15_puts_58 rfl ?_
  exact (jX15_puts_B62 x k2 hk2 k12 hk12 a0 i1 i2 i3 i4 i5 (nI 1) h)
def X15_puts_B12 (k2 : (Nat → Int32 → Int32 → AH → Option (Unit × AH))) : Nat → Nat → Int32 → Int32 → Int32 → AH → Option (Unit × AH)
  | 0, _, _, _, _, _ => none
  | n + 1, a0, i1, i2, i3, h =>
    G (xc h a0 = 15) <|
    G (xc h (xR h a0 4) = 12) <|
    if (xI h (xR h a0 4) 1) ≤ i3 then (
      X15_puts_B410 k2 a0 i1 i2 h
    ) else (
      G (xc h a0 = 15) <|
      BN (X15_rowsAt_f a0 i1 i2 i3 h) fun v5 h4 =>
      G (xc h4 a0 = 15) <|
      G (xc h4 (xR h4 a0 27) = 13) <|
      BN (X13_isDown_f (xR h4 a0 27) i2 i3 h4) fun v9 h8 =>
      if v9 = 0 then (
        G (xc h8 a0 = 15) <|
        BN (X15_isDown_f a0 i1 i2 i3 h8) fun v12 h11 =>
        if v12 = 0 then (
          X15_puts_B62 k2 (X15_puts_B12 k2 n) a0 i1 i2 i3 v5 (nI 0) (nI 0) h11
        ) else (
          X15_puts_B57 k2 (X15_puts_B12 k2 n) a0 i1 i2 i3 v5 (nI 0) h11
        )
      ) else (
        X15_puts_B57 k2 (X15_puts_B12 k2 n) a0 i1 i2 i3 v5 (nI 0) h8
      )
    )
theorem jX15_puts_B12 (x : CT) (k2 : (Nat → Int32 → Int32 → AH → Option (Unit × AH))) (hk2 : ∀ (a0 : Nat) (i1 : Int32) (i2 : Int32) (h : AH), J x qX15_puts ZV 2 [(0, rv (zx x) a0), (1, .int i1), (2, .int i2)] [] h (k2 a0 i1 i2 h)) : ∀ (n : Nat) (a0 : Nat) (i1 : Int32) (i2 : Int32) (i3 : Int32) (h : AH), J x qX15_puts ZV 12 [(0, rv (zx x) a0), (1, .int i1), (2, .int i2), (3, .int i3)] [] h (X15_puts_B12 k2 n a0 i1 i2 i3 h) := by
  intro n
  induction n with
  | zero => intro a0 i1 i2 i3 h; exact J_none
  | succ n ih =>
    intro a0 i1 i2 i3 h
    unfold X15_puts_B12
    refine J_iload_n 3 dX15_puts_12 rfl ?_
    refine J_aload_n 0 dX15_puts_13 rv_is rfl ?_
    refine J_G (fun g1 => ?_)
    refine J_getR kc_15 4 (by decide) rfl rfl kw_6_214 dX15_puts_14 g1 ?_
    refine J_G (fun g2 => ?_)
    refine J_getIN kc_12 1 (by decide) rfl rfl kn_25 dX15_puts_17 g2 ?_
    refine J_icmp_ge (tgt := 410) dX15_puts_20 rfl ?_ ?_
    · exact J_sub [0, 1, 2] rfl (jX15_puts_B410 x k2 hk2 a0 i1 i2 h)
    · refine J_aload_n 0 dX15_puts_23 rv_is rfl ?_
      refine J_iload_n 1 dX15_puts_24 rfl ?_
      refine J_iload_n 2 dX15_puts_25 rfl ?_
      refine J_iload_n 3 dX15_puts_26 rfl ?_
      refine J_G (fun g3 => ?_)
      refine J.callV (n := 3) (As := [.int i1, .int i2, .int i3]) kc_15 (ctX15_rowsAt (lx x) (wx x) a0 i1 i2 i3 h) kw_8_185 kw_8_182 kw_8_184 kp_35 kw_1_13 (by decide +kernel) rfl (by decide) (Nat.zero_le _) rfl dX15_puts_27 g3 (fun v5 h4 => ?_)
      show J x _ _ 30 _ [.int v5] h4 _
      refine J_istore dX15_puts_30 (by decide) (SD.a (lvr := [(0, rv (zx x) a0), (1, .int i1), (2, .int i2), (3, .int i3)]) [0, 1, 2, 3] rfl rfl) ?_
      refine J_iconst (v := nI 0) dX15_puts_32 rfl ?_
      refine J_istore dX15_puts_33 (by decide) (SD.a (lvr := [(4, .int v5), (0, rv (zx x) a0), (1, .int i1), (2, .int i2), (3, .int i3)]) [0, 1, 2, 3, 4] rfl rfl) ?_
      refine J_aload_n 2 dX15_puts_35 rv_is rfl ?_
      refine J_G (fun g6 => ?_)
      refine J_getR kc_15 27 (by decide) rfl rfl kw_6_237 dX15_puts_36 g6 ?_
      refine J_iload_n 4 dX15_puts_39 rfl ?_
      refine J_iload_n 5 dX15_puts_40 rfl ?_
      refine J_G (fun g7 => ?_)
      refine J.callV (n := 2) (As := [.int i2, .int i3]) kc_13 (ctX13_isDown (lx x) (wx x) (xR h4 a0 27) i2 i3 h4) kw_9_29 kw_9_26 kw_9_27 kw_9_28 kw_1_18 (by decide +kernel) rfl (by decide) (Nat.zero_le _) rfl dX15_puts_41 g7 (fun v9 h8 => ?_)
      show J x _ _ 44 _ [.int v9] h8 _
      refine J_if_ne (tgt := 57) dX15_puts_44 rfl ?_ ?_
      · exact J_sub [2, 3, 4, 5, 1, 0] rfl (jX15_puts_B57 x k2 hk2 (X15_puts_B12 k2 n) ih a0 i1 i2 i3 v5 (nI 0) h8)
      · refine J_aload_n 2 dX15_puts_47 rv_is rfl ?_
        refine J_iload_n 3 dX15_puts_48 rfl ?_
        refine J_iload_n 4 dX15_puts_49 rfl ?_
        refine J_iload_n 5 dX15_puts_50 rfl ?_
        refine J_G (fun g10 => ?_)
        refine J.callV (n := 3) (As := [.int i1, .int i2, .int i3]) kc_15 (ctX15_isDown (lx x) (wx x) a0 i1 i2 i3 h8) kw_8_166 kw_8_163 kw_8_165 kp_31 kw_1_13 (by decide +kernel) rfl (by decide) (Nat.zero_le _) rfl dX15_puts_51 g10 (fun v12 h11 => ?_)
        show J x _ _ 54 _ [.int v12] h11 _
        refine J_if_eq (tgt := 61) dX15_puts_54 rfl ?_ ?_
        · refine J_iconst (v := nI 0) dX15_puts_61 rfl ?_
          exact J_sub [2, 3, 4, 5, 1, 0] rfl (jX15_puts_B62 x k2 hk2 (X15_puts_B12 k2 n) ih a0 i1 i2 i3 v5 (nI 0) (nI 0) h11)
        · exact J_sub [2, 3, 4, 5, 1, 0] rfl (jX15_puts_B57 x k2 hk2 (X15_puts_B12 k2 n) ih a0 i1 i2 i3 v5 (nI 0) h11)
def X15_puts_B2 : Nat → Nat → Int32 → Int32 → AH → Option (Unit × AH)
  | 0, _, _, _, _ => none
  | n + 1, a0, i1, i2, h =>
    G (xc h a0 = 15) <|
    if (xI h a0 14) < i2 then (
      some ((), h)
    ) else (
      X15_puts_B12 (X15_puts_B2 n) FU a0 i1 i2 (nI 0) h
    )
theorem jX15_puts_B2 (x : CT) : ∀ (n : Nat) (a0 : Nat) (i1 : Int32) (i2 : Int32) (h : AH), J x qX15_puts ZV 2 [(0, rv (zx x) a0), (1, .int i1), (2, .int i2)] [] h (X15_puts_B2 n a0 i1 i2 h) := by
  intro n
  induction n with
  | zero => intro a0 i1 i2 h; exact J_none
  | succ n ih =>
    intro a0 i1 i2 h
    unfold X15_puts_B2
    refine J_iload_n 2 dX15_puts_2 rfl ?_
    refine J_aload_n 0 dX15_puts_3 rv_is rfl ?_
    refine J_G (fun g1 => ?_)
    refine J_getI kc_15 14 (by decide) rfl rfl kw_6_224 dX15_puts_4 g1 ?_
    refine J_icmp_gt (tgt := 416) dX15_puts_7 rfl ?_ ?_
    · exact J_vret dX15_puts_416
    · refine J_iconst (v := nI 0) dX15_puts_10 rfl ?_
      refine J_istore_n dX15_puts_11 (by decide) (SD.a (lvr := [(0, rv (zx x) a0), (1, .int i1), (2, .int i2)]) [0, 1, 2] rfl rfl) ?_
      exact J_sub [1, 2, 3, 0] rfl (jX15_puts_B12 x (X15_puts_B2 n) ih FU a0 i1 i2 (nI 0) h)
def X15_puts_f (a0 : Nat) (i1 : Int32) (h : AH) : Option (Unit × AH) :=
  X15_puts_B2 FU a0 i1 (nI 0) h
theorem jX15_puts (x : CT) (a0 : Nat) (i1 : Int32) (h : AH) : J x qX15_puts ZV 0 [(0, rv (zx x) a0), (1, .int i1)] [] h (X15_puts_f a0 i1 h) := by
  unfold X15_puts_f
  refine J_iconst (v := nI 0) dX15_puts_0 rfl ?_
  refine J_istore_n dX15_puts_1 (by decide) (SD.a (lvr := [(0, rv (zx x) a0), (1, .int i1)]) [0, 1] rfl rfl) ?_
  exact J_sub [1, 2, 0] rfl (jX15_puts_B2 x FU a0 i1 (nI 0) h)
theorem ctX15_puts (l : Launch) (w : WT) (a0 : Nat) (i1 : Int32) (h : AH) : CM l w yX15_puts cX15_puts 9 none 3 67 KV [rv (w.1) a0, .int i1] h (X15_puts_f a0 i1 h) :=
  CM.of (by decide +kernel) (by simp [lg_sl, rv_cat, cat_I, cat_L, cat_S]) (lv := [(0, rv (w.1) a0), (1, .int i1)]) (by simp [lv_args, rv_cat, cat_I, cat_L, cat_S]) (fun x hx => by subst hx; exact jX15_puts x a0 i1 h)
