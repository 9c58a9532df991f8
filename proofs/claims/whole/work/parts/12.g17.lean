-- FallTrialsModel.reasonsOf(IIII)V
abbrev qX15_reasonsOf : MT := (cX15_reasonsOf, RX15, "reasonsOf", none, 3, 67, 7)
def X15_reasonsOf_B372 (k281 : (Nat → Int32 → Int32 → Int32 → Int32 → Int32 → AH → Option (Unit × AH))) (a0 : Nat) (i1 : Int32) (i2 : Int32) (i3 : Int32) (i4 : Int32) (i6 : Int32) (h : AH) : Option (Unit × AH) :=
  LT (i6 + nI 1) fun v1 =>
  k281 a0 i1 i2 i3 i4 v1 h
theorem jX15_reasonsOf_B372 (x : CT) (k281 : (Nat → Int32 → Int32 → Int32 → Int32 → Int32 → AH → Option (Unit × AH))) (hk281 : ∀ (a0 : Nat) (i1 : Int32) (i2 : Int32) (i3 : Int32) (i4 : Int32) (i6 : Int32) (h : AH), J x qX15_reasonsOf ZV 281 [(0, rv (zx x) a0), (1, .int i1), (2, .int i2), (3, .int i3), (4, .int i4), (6, .int i6)] [] h (k281 a0 i1 i2 i3 i4 i6 h)) (a0 : Nat) (i1 : Int32) (i2 : Int32) (i3 : Int32) (i4 : Int32) (i6 : Int32) (h : AH) : J x qX15_reasonsOf ZV 372 [(0, rv (zx x) a0), (1, .int i1), (2, .int i2), (3, .int i3), (4, .int i4), (6, .int i6)] [] h (X15_reasonsOf_B372 k281 a0 i1 i2 i3 i4 i6 h) := by
  unfold X15_reasonsOf_B372
  refine J_iincL (u := i6 + nI 1) 5 dX15_reasonsOf_372 rfl rfl (by decide) (SD.a (lvr := [(0, rv (zx x) a0), (1, .int i1), (2, .int i2), (3, .int i3), (4, .int i4)]) [0, 1, 2, 3, 4] rfl rfl) (fun v1 => ?_)
  refine J_goto (tgt := 281) dX15_reasonsOf_375 rfl ?_
  exact J_sub [1, 2, 3, 4, 5, 0] rfl (hk281 a0 i1 i2 i3 i4 v1 h)
def X15_reasonsOf_B281 : Nat → Nat → Int32 → Int32 → Int32 → Int32 → Int32 → AH → Option (Unit × AH)
  | 0, _, _, _, _, _, _, _ => none
  | n + 1, a0, i1, i2, i3, i4, i6, h =>
    G (xc h a0 = 15) <|
    G (xc h (xR h a0 4) = 12) <|
    if (xI h (xR h a0 4) 5) ≤ i6 then (
      some ((), h)
    ) else (
      G (xc h a0 = 15) <|
      G (xc h (xR h a0 4) = 12) <|
      G (xc h (xR h (xR h a0 4) 16) = 19) <|
      G (gx i6 (xz h (xR h (xR h a0 4) 16))) <|
      if (xI h (xR h (xR h a0 4) 16) i6.toNatClampNeg) = 0 then (
        X15_reasonsOf_B372 (X15_reasonsOf_B281 n) a0 i1 i2 i3 i4 i6 h
      ) else (
        G (xc h a0 = 15) <|
        G (xc h (xR h a0 4) = 12) <|
        G (xc h (xR h (xR h a0 4) 14) = 16) <|
        G (gx i6 (xz h (xR h (xR h a0 4) 14))) <|
        if (xI h (xR h (xR h a0 4) 14) i6.toNatClampNeg) = i2 then (
          G (xc h a0 = 15) <|
          BN (X15_isOf_f a0 i6 i3 h) fun v13 h12 =>
          if v13 = 0 then (
            X15_reasonsOf_B372 (X15_reasonsOf_B281 n) a0 i1 i2 i3 i4 i6 h12
          ) else (
            G (xc h12 a0 = 15) <|
            BN (X15_rowsAt_f a0 i1 i4 i3 h12) fun v16 h15 =>
            G (xc h15 a0 = 15) <|
            G (xc h15 (xR h15 a0 4) = 12) <|
            G (xc h15 (xR h15 (xR h15 a0 4) 20) = 16) <|
            G (gx i6 (xz h15 (xR h15 (xR h15 a0 4) 20))) <|
            G (gx i6 (xz h15 (xR h15 (xR h15 a0 4) 20))) <|
            if (v16 &&& (xI h15 (xR h15 (xR h15 a0 4) 20) i6.toNatClampNeg)) = (xI h15 (xR h15 (xR h15 a0 4) 20) i6.toNatClampNeg) then (
              G (xc h15 a0 = 15) <|
              BN (X15_tells_f a0 ((nI 4000) + i6) h15) fun _ h23 =>
              X15_reasonsOf_B372 (X15_reasonsOf_B281 n) a0 i1 i2 i3 i4 i6 h23
            ) else (
              X15_reasonsOf_B372 (X15_reasonsOf_B281 n) a0 i1 i2 i3 i4 i6 h15
            )
          )
        ) else (
          X15_reasonsOf_B372 (X15_reasonsOf_B281 n) a0 i1 i2 i3 i4 i6 h
        )
      )
    )
theorem jX15_reasonsOf_B281 (x : CT) : ∀ (n : Nat) (a0 : Nat) (i1 : Int32) (i2 : Int32) (i3 : Int32) (i4 : Int32) (i6 : Int32) (h : AH), J x qX15_reasonsOf ZV 281 [(0, rv (zx x) a0), (1, .int i1), (2, .int i2), (3, .int i3), (4, .int i4), (6, .int i6)] [] h (X15_reasonsOf_B281 n a0 i1 i2 i3 i4 i6 h) := by
  intro n
  induction n with
  | zero => intro a0 i1 i2 i3 i4 i6 h; exact J_none
  | succ n ih =>
    intro a0 i1 i2 i3 i4 i6 h
    unfold X15_reasonsOf_B281
    refine J_iload 5 dX15_reasonsOf_281 rfl ?_
    refine J_aload_n 0 dX15_reasonsOf_283 rv_is rfl ?_
    refine J_G (fun g1 => ?_)
    refine J_getR kc_15 4 (by decide) rfl rfl kw_6_214 dX15_reasonsOf_284 g1 ?_
    refine J_G (fun g2 => ?_)
    refine J_getIN kc_12 5 (by decide) rfl rfl kn_29 dX15_reasonsOf_287 g2 ?_
    refine J_icmp_ge (tgt := 378) dX15_reasonsOf_290 rfl ?_ ?_
    · exact J_vret dX15_reasonsOf_378
    · refine J_aload_n 0 dX15_reasonsOf_293 rv_is rfl ?_
      refine J_G (fun g3 => ?_)
      refine J_getR kc_15 4 (by decide) rfl rfl kw_6_214 dX15_reasonsOf_294 g3 ?_
      refine J_G (fun g4 => ?_)
      refine J_getRN kc_12 16 (by decide) rfl rfl kn_40 dX15_reasonsOf_297 g4 ?_
      refine J_iload 5 dX15_reasonsOf_300 rfl ?_
      refine J_G (fun g5 => ?_)
      refine J_G (fun g6 => ?_)
      refine J_zald dX15_reasonsOf_302 g5 g6 ?_
      refine J_if_eq (tgt := 372) dX15_reasonsOf_303 rfl ?_ ?_
      · exact (jX15_reasonsOf_B372 x (X15_reasonsOf_B281 n) ih a0 i1 i2 i3 i4 i6 h)
      · refine J_aload_n 0 dX15_reasonsOf_306 rv_is rfl ?_
        refine J_G (fun g7 => ?_)
        refine J_getR kc_15 4 (by decide) rfl rfl kw_6_214 dX15_reasonsOf_307 g7 ?_
        refine J_G (fun g8 => ?_)
        refine J_getRN kc_12 14 (by decide) rfl rfl kn_38 dX15_reasonsOf_310 g8 ?_
        refine J_iload 5 dX15_reasonsOf_313 rfl ?_
        refine J_G (fun g9 => ?_)
        refine J_G (fun g10 => ?_)
        refine J_iald dX15_reasonsOf_315 g9 g10 ?_
        refine J_iload_n 2 dX15_reasonsOf_316 rfl ?_
        refine J_icmp_ne (tgt := 372) dX15_reasonsOf_317 rfl ?_ ?_
        · exact (jX15_reasonsOf_B372 x (X15_reasonsOf_B281 n) ih a0 i1 i2 i3 i4 i6 h)
        · refine J_aload_n 0 dX15_reasonsOf_320 rv_is rfl ?_
          refine J_iload 5 dX15_reasonsOf_321 rfl ?_
          refine J_iload_n 3 dX15_reasonsOf_323 rfl ?_
          refine J_G (fun g11 => ?_)
          refine J.callV (n := 2) (As := [.int i6, .int i3]) kc_15 (ctX15_isOf (lx x) (wx x) a0 i6 i3 h) kw_8_189 kw_8_186 kw_8_188 kp_36 kw_1_13 (by decide +kernel) rfl (by decide) (Nat.zero_le _) rfl dX15_reasonsOf_324 g11 (fun v13 h12 => ?_)
          show J x _ _ 327 _ [.int v13] h12 _
          refine J_if_eq (tgt := 372) dX15_reasonsOf_327 rfl ?_ ?_
          · exact (jX15_reasonsOf_B372 x (X15_reasonsOf_B281 n) ih a0 i1 i2 i3 i4 i6 h12)
          · refine J_aload_n 0 dX15_reasonsOf_330 rv_is rfl ?_
            refine J_iload_n 1 dX15_reasonsOf_331 rfl ?_
            refine J_iload 4 dX15_reasonsOf_332 rfl ?_
            refine J_iload_n 3 dX15_reasonsOf_334 rfl ?_
            refine J_G (fun g14 => ?_)
            refine J.callV (n := 3) (As := [.int i1, .int i4, .int i3]) kc_15 (ctX15_rowsAt (lx x) (wx x) a0 i1 i4 i3 h12) kw_8_185 kw_8_182 kw_8_184 kp_35 kw_1_13 (by decide +kernel) rfl (by decide) (Nat.zero_le _) rfl dX15_reasonsOf_335 g14 (fun v16 h15 => ?_)
            show J x _ _ 338 _ [.int v16] h15 _
            refine J_aload_n 0 dX15_reasonsOf_338 rv_is rfl ?_
            refine J_G (fun g17 => ?_)
            refine J_getR kc_15 4 (by decide) rfl rfl kw_6_214 dX15_reasonsOf_339 g17 ?_
            refine J_G (fun g18 => ?_)
            refine J_getRN kc_12 20 (by decide) rfl rfl kn_44 dX15_reasonsOf_342 g18 ?_
            refine J_iload 5 dX15_reasonsOf_345 rfl ?_
            refine J_G (fun g19 => ?_)
            refine J_G (fun g20 => ?_)
            refine J_iald dX15_reasonsOf_347 g19 g20 ?_
            refine J_iand dX15_reasonsOf_348 ?_
            refine J_aload_n 0 dX15_reasonsOf_349 rv_is rfl ?_
            refine J_getR kc_15 4 (by decide) rfl rfl kw_6_214 dX15_reasonsOf_350 g17 ?_
            refine J_getRN kc_12 20 (by decide) rfl rfl kn_44 dX15_reasonsOf_353 g18 ?_
            refine J_iload 5 dX15_reasonsOf_356 rfl ?_
            refine J_G (fun g21 => ?_)
            refine J_iald dX15_reasonsOf_358 g19 g21 ?_
            refine J_icmp_ne (tgt := 372) dX15_reasonsOf_359 rfl ?_ ?_
            · exact (jX15_reasonsOf_B372 x (X15_reasonsOf_B281 n) ih a0 i1 i2 i3 i4 i6 h15)
            · refine J_aload_n 0 dX15_reasonsOf_362 rv_is rfl ?_
              refine J_sipush (v := nI 4000) dX15_reasonsOf_363 rfl ?_
              refine J_iload 5 dX15_reasonsOf_366 rfl ?_
              refine J_iadd dX15_reasonsOf_368 ?_
              refine J_G (fun g22 => ?_)
              refine J.callV (n := 1) (As := [.int ((nI 4000) + i6)]) kc_15 (ctX15_tells (lx x) (wx x) a0 ((nI 4000) + i6) h15) kw_8_237 kw_8_234 kw_8_236 kp_46 kw_1_13 (by decide +kernel) rfl (by decide) (Nat.zero_le _) rfl dX15_reasonsOf_369 g22 (fun _ h23 => ?_)
              show J x _ _ 372 _ [] h23 _
              exact (jX15_reasonsOf_B372 x (X15_reasonsOf_B281 n) ih a0 i1 i2 i3 i4 i6 h23)
def X15_reasonsOf_B278 (a0 : Nat) (i1 : Int32) (i2 : Int32) (i3 : Int32) (i4 : Int32) (h : AH) : Option (Unit × AH) :=
  X15_reasonsOf_B281 FU a0 i1 i2 i3 i4 (nI 0) h
theorem jX15_reasonsOf_B278 (x : CT) (a0 : Nat) (i1 : Int32) (i2 : Int32) (i3 : Int32) (i4 : Int32) (h : AH) : J x qX15_reasonsOf ZV 278 [(0, rv (zx x) a0), (1, .int i1), (2, .int i2), (3, .int i3), (4, .int i4)] [] h (X15_reasonsOf_B278 a0 i1 i2 i3 i4 h) := by
  unfold X15_reasonsOf_B278
  refine J_iconst (v := nI 0) dX15_reasonsOf_278 rfl ?_
  refine J_istore dX15_reasonsOf_279 (by decide) (SD.a (lvr := [(0, rv (zx x) a0), (1, .int i1), (2, .int i2), (3, .int i3), (4, .int i4)]) [0, 1, 2, 3, 4] rfl rfl) ?_
  exact J_sub [1, 2, 3, 4, 5, 0] rfl (jX15_reasonsOf_B281 x FU a0 i1 i2 i3 i4 (nI 0) h)
def X15_reasonsOf_B272 (k193 : (Nat → Int32 → Int32 → Int32 → Int32 → Int32 → AH → Option (Unit × AH))) (a0 : Nat) (i1 : Int32) (i2 : Int32) (i3 : Int32) (i4 : Int32) (i6 : Int32) (h : AH) : Option (Unit × AH) :=
  LT (i6 + nI 1) fun v1 =>
  k193 a0 i1 i2 i3 i4 v1 h
theorem jX15_reasonsOf_B272 (x : CT) (k193 : (Nat → Int32 → Int32 → Int32 → Int32 → Int32 → AH → Option (Unit × AH))) (hk193 : ∀ (a0 : Nat) (i1 : Int32) (i2 : Int32) (i3 : Int32) (i4 : Int32) (i6 : Int32) (h : AH), J x qX15_reasonsOf ZV 193 [(0, rv (zx x) a0), (1, .int i1), (2, .int i2), (3, .int i3), (4, .int i4), (6, .int i6)] [] h (k193 a0 i1 i2 i3 i4 i6 h)) (a0 : Nat) (i1 : Int32) (i2 : Int32) (i3 : Int32) (i4 : Int32) (i6 : Int32) (h : AH) : J x qX15_reasonsOf ZV 272 [(0, rv (zx x) a0), (1, .int i1), (2, .int i2), (3, .int i3), (4, .int i4), (6, .int i6)] [] h (X15_reasonsOf_B272 k193 a0 i1 i2 i3 i4 i6 h) := by
  unfold X15_reasonsOf_B272
  refine J_iincL (u := i6 + nI 1) 5 dX15_reasonsOf_272 rfl rfl (by decide) (SD.a (lvr := [(0, rv (zx x) a0), (1, .int i1), (2, .int i2), (3, .int i3), (4, .int i4)]) [0, 1, 2, 3, 4] rfl rfl) (fun v1 => ?_)
  refine J_goto (tgt := 193) dX15_reasonsOf_275 rfl ?_
  exact J_sub [1, 2, 3, 4, 5, 0] rfl (hk193 a0 i1 i2 i3 i4 v1 h)
def X15_reasonsOf_B193 : Nat → Nat → Int32 → Int32 → Int32 → Int32 → Int32 → AH → Option (Unit × AH)
  | 0, _, _, _, _, _, _, _ => none
  | n + 1, a0, i1, i2, i3, i4, i6, h =>
    G (xc h a0 = 15) <|
    G (xc h (xR h a0 4) = 12) <|
    if (xI h (xR h a0 4) 5) ≤ i6 then (
      X15_reasonsOf_B278 a0 i1 i2 i3 i4 h
    ) else (
      G (xc h a0 = 15) <|
      G (xc h (xR h a0 4) = 12) <|
      G (xc h (xR h (xR h a0 4) 16) = 19) <|
      G (gx i6 (xz h (xR h (xR h a0 4) 16))) <|
      if (xI h (xR h (xR h a0 4) 16) i6.toNatClampNeg) = 0 then (
        G (xc h a0 = 15) <|
        G (xc h (xR h a0 4) = 12) <|
        G (xc h (xR h (xR h a0 4) 14) = 16) <|
        G (gx i6 (xz h (xR h (xR h a0 4) 14))) <|
        if (xI h (xR h (xR h a0 4) 14) i6.toNatClampNeg) = i2 then (
          G (xc h a0 = 15) <|
          BN (X15_isOf_f a0 i6 i3 h) fun v13 h12 =>
          if v13 = 0 then (
            X15_reasonsOf_B272 (X15_reasonsOf_B193 n) a0 i1 i2 i3 i4 i6 h12
          ) else (
            if i4 ≤ 0 then (
              X15_reasonsOf_B272 (X15_reasonsOf_B193 n) a0 i1 i2 i3 i4 i6 h12
            ) else (
              G (xc h12 a0 = 15) <|
              BN (X15_holds_f a0 i1 i6 (i4 - (nI 1)) i3 h12) fun v16 h15 =>
              if v16 = 0 then (
                X15_reasonsOf_B272 (X15_reasonsOf_B193 n) a0 i1 i2 i3 i4 i6 h15
              ) else (
                G (xc h15 a0 = 15) <|
                BN (X15_tells_f a0 ((nI 3000) + i6) h15) fun _ h18 =>
                X15_reasonsOf_B272 (X15_reasonsOf_B193 n) a0 i1 i2 i3 i4 i6 h18
              )
            )
          )
        ) else (
          X15_reasonsOf_B272 (X15_reasonsOf_B193 n) a0 i1 i2 i3 i4 i6 h
        )
      ) else (
        X15_reasonsOf_B272 (X15_reasonsOf_B193 n) a0 i1 i2 i3 i4 i6 h
      )
    )
theorem jX15_reasonsOf_B193 (x : CT) : ∀ (n : Nat) (a0 : Nat) (i1 : Int32) (i2 : Int32) (i3 : Int32) (i4 : Int32) (i6 : Int32) (h : AH), J x qX15_reasonsOf ZV 193 [(0, rv (zx x) a0), (1, .int i1), (2, .int i2), (3, .int i3), (4, .int i4), (6, .int i6)] [] h (X15_reasonsOf_B193 n a0 i1 i2 i3 i4 i6 h) := by
  intro n
  induction n with
  | zero => intro a0 i1 i2 i3 i4 i6 h; exact J_none
  | succ n ih =>
    intro a0 i1 i2 i3 i4 i6 h
    unfold X15_reasonsOf_B193
    refine J_iload 5 dX15_reasonsOf_193 rfl ?_
    refine J_aload_n 0 dX15_reasonsOf_195 rv_is rfl ?_
    refine J_G (fun g1 => ?_)
    refine J_getR kc_15 4 (by decide) rfl rfl kw_6_214 dX15_reasonsOf_196 g1 ?_
    refine J_G (fun g2 => ?_)
    refine J_getIN kc_12 5 (by decide) rfl rfl kn_29 dX15_reasonsOf_199 g2 ?_
    refine J_icmp_ge (tgt := 278) dX15_reasonsOf_202 rfl ?_ ?_
    · exact J_sub [0, 1, 2, 3, 4] rfl (jX15_reasonsOf_B278 x a0 i1 i2 i3 i4 h)
    · refine J_aload_n 0 dX15_reasonsOf_205 rv_is rfl ?_
      refine J_G (fun g3 => ?_)
      refine J_getR kc_15 4 (by decide) rfl rfl kw_6_214 dX15_reasonsOf_206 g3 ?_
      refine J_G (fun g4 => ?_)
      refine J_getRN kc_12 16 (by decide) rfl rfl kn_40 dX15_reasonsOf_209 g4 ?_
      refine J_iload 5 dX15_reasonsOf_212 rfl ?_
      refine J_G (fun g5 => ?_)
      refine J_G (fun g6 => ?_)
      refine J_zald dX15_reasonsOf_214 g5 g6 ?_
      refine J_if_ne (tgt := 272) dX15_reasonsOf_215 rfl ?_ ?_
      · exact (jX15_reasonsOf_B272 x (X15_reasonsOf_B193 n) ih a0 i1 i2 i3 i4 i6 h)
      · refine J_aload_n 0 dX15_reasonsOf_218 rv_is rfl ?_
        refine J_G (fun g7 => ?_)
        refine J_getR kc_15 4 (by decide) rfl rfl kw_6_214 dX15_reasonsOf_219 g7 ?_
        refine J_G (fun g8 => ?_)
        refine J_getRN kc_12 14 (by decide) rfl rfl kn_38 dX15_reasonsOf_222 g8 ?_
        refine J_iload 5 dX15_reasonsOf_225 rfl ?_
        refine J_G (fun g9 => ?_)
        refine J_G (fun g10 => ?_)
        refine J_iald dX15_reasonsOf_227 g9 g10 ?_
        refine J_iload_n 2 dX15_reasonsOf_228 rfl ?_
        refine J_icmp_ne (tgt := 272) dX15_reasonsOf_229 rfl ?_ ?_
        · exact (jX15_reasonsOf_B272 x (X15_reasonsOf_B193 n) ih a0 i1 i2 i3 i4 i6 h)
        · refine J_aload_n 0 dX15_reasonsOf_232 rv_is rfl ?_
          refine J_iload 5 dX15_reasonsOf_233 rfl ?_
          refine J_iload_n 3 dX15_reasonsOf_235 rfl ?_
          refine J_G (fun g11 => ?_)
          refine J.callV (n := 2) (As := [.int i6, .int i3]) kc_15 (ctX15_isOf (lx x) (wx x) a0 i6 i3 h) kw_8_189 kw_8_186 kw_8_188 kp_36 kw_1_13 (by decide +kernel) rfl (by decide) (Nat.zero_le _) rfl dX15_reasonsOf_236 g11 (fun v13 h12 => ?_)
          show J x _ _ 239 _ [.int v13] h12 _
          refine J_if_eq (tgt := 272) dX15_reasonsOf_239 rfl ?_ ?_
          · exact (jX15_reasonsOf_B272 x (X15_reasonsOf_B193 n) ih a0 i1 i2 i3 i4 i6 h12)
          · refine J_iload 4 dX15_reasonsOf_242 rfl ?_
            refine J_if_le (tgt := 272) dX15_reasonsOf_244 rfl ?_ ?_
            · exact (jX15_reasonsOf_B272 x (X15_reasonsOf_B193 n) ih a0 i1 i2 i3 i4 i6 h12)
            · refine J_aload_n 0 dX15_reasonsOf_247 rv_is rfl ?_
              refine J_iload_n 1 dX15_reasonsOf_248 rfl ?_
              refine J_iload 5 dX15_reasonsOf_249 rfl ?_
              refine J_iload 4 dX15_reasonsOf_251 rfl ?_
              refine J_iconst (v := nI 1) dX15_reasonsOf_253 rfl ?_
              refine J_isub dX15_reasonsOf_254 ?_
              refine J_iload_n 3 dX15_reasonsOf_255 rfl ?_
              refine J_G (fun g14 => ?_)
              refine J.callV (n := 4) (As := [.int i1, .int i6, .int (i4 - (nI 1)), .int i3]) kc_15 (ctX15_holds (lx x) (wx x) a0 i1 i6 (i4 - (nI 1)) i3 h12) kw_8_193 kw_8_190 kw_8_192 kp_37 kw_1_13 (by decide +kernel) rfl (by decide) (Nat.zero_le _) rfl dX15_reasonsOf_256 g14 (fun v16 h15 => ?_)
              show J x _ _ 259 _ [.int v16] h15 _
              refine J_if_eq (tgt := 272) dX15_reasonsOf_259 rfl ?_ ?_
              · exact (jX15_reasonsOf_B272 x (X15_reasonsOf_B193 n) ih a0 i1 i2 i3 i4 i6 h15)
              · refine J_aload_n 0 dX15_reasonsOf_262 rv_is rfl ?_
                refine J_sipush (v := nI 3000) dX15_reasonsOf_263 rfl ?_
                refine J_iload 5 dX15_reasonsOf_266 rfl ?_
                refine J_iadd dX15_reasonsOf_268 ?_
                refine J_G (fun g17 => ?_)
                refine J.callV (n := 1) (As := [.int ((nI 3000) + i6)]) kc_15 (ctX15_tells (lx x) (wx x) a0 ((nI 3000) + i6) h15) kw_8_237 kw_8_234 kw_8_236 kp_46 kw_1_13 (by decide +kernel) rfl (by decide) (Nat.zero_le _) rfl dX15_reasonsOf_269 g17 (fun _ h18 => ?_)
                show J x _ _ 272 _ [] h18 _
                exact (jX15_reasonsOf_B272 x (X15_reasonsOf_B193 n) ih a0 i1 i2 i3 i4 i6 h18)
def X15_reasonsOf_B190 (a0 : Nat) (i1 : Int32) (i2 : Int32) (i3 : Int32) (i4 : Int32) (h : AH) : Option (Unit × AH) :=
  X15_reasonsOf_B193 FU a0 i1 i2 i3 i4 (nI 0) h
theorem jX15_reasonsOf_B190 (x : CT) (a0 : Nat) (i1 : Int32) (i2 : Int32) (i3 : Int32) (i4 : Int32) (h : AH) : J x qX15_reasonsOf ZV 190 [(0, rv (zx x) a0), (1, .int i1), (2, .int i2), (3, .int i3), (4, .int i4)] [] h (X15_reasonsOf_B190 a0 i1 i2 i3 i4 h) := by
  unfold X15_reasonsOf_B190
  refine J_iconst (v := nI 0) dX15_reasonsOf_190 rfl ?_
  refine J_istore dX15_reasonsOf_191 (by decide) (SD.a (lvr := [(0, rv (zx x) a0), (1, .int i1), (2, .int i2), (3, .int i3), (4, .int i4)]) [0, 1, 2, 3, 4] rfl rfl) ?_
  exact J_sub [1, 2, 3, 4, 5, 0] rfl (jX15_reasonsOf_B193 x FU a0 i1 i2 i3 i4 (nI 0) h)
def X15_reasonsOf_B141 (a0 : Nat) (i1 : Int32) (i2 : Int32) (i3 : Int32) (i4 : Int32) (h : AH) : Option (Unit × AH) :=
  G (xc h a0 = 15) <|
  BN (X15_keptFrom_f a0 i1 i4 i3 h) fun v3 h2 =>
  if v3 = (-1) then (
    X15_reasonsOf_B190 a0 i1 i2 i3 i4 h2
  ) else (
    G (xc h2 a0 = 15) <|
    BN (X15_has_f (xI h2 a0 23) i2 h2) fun v6 h5 =>
    if v6 = 0 then (
      X15_reasonsOf_B190 a0 i1 i2 i3 i4 h5
    ) else (
      G (xc h5 a0 = 15) <|
      BN (X15_isThere_f a0 i1 i2 i3 v3 h5) fun v9 h8 =>
      if v9 = 0 then (
        X15_reasonsOf_B190 a0 i1 i2 i3 i4 h8
      ) else (
        G (xc h8 a0 = 15) <|
        BN (X15_tells_f a0 ((nI 2000) + v3) h8) fun _ h11 =>
        X15_reasonsOf_B190 a0 i1 i2 i3 i4 h11
      )
    )
  )
theorem jX15_reasonsOf_B141 (x : CT) (a0 : Nat) (i1 : Int32) (i2 : Int32) (i3 : Int32) (i4 : Int32) (h : AH) : J x qX15_reasonsOf ZV 141 [(0, rv (zx x) a0), (1, .int i1), (2, .int i2), (3, .int i3), (4, .int i4)] [] h (X15_reasonsOf_B141 a0 i1 i2 i3 i4 h) := by
  unfold X15_reasonsOf_B141
  refine J_aload_n 0 dX15_reasonsOf_141 rv_is rfl ?_
  refine J_iload_n 1 dX15_reasonsOf_142 rfl ?_
  refine J_iload 4 dX15_reasonsOf_143 rfl ?_
  refine J_iload_n 3 dX15_reasonsOf_145 rfl ?_
  refine J_G (fun g1 => ?_)
  refine J.callV (n := 3) (As := [.int i1, .int i4, .int i3]) kc_15 (ctX15_keptFrom (lx x) (wx x) a0 i1 i4 i3 h) kw_8_181 kw_8_178 kw_8_180 kp_34 kw_1_13 (by decide +kernel) rfl (by decide) (Nat.zero_le _) rfl dX15_reasonsOf_146 g1 (fun v3 h2 => ?_)
  show J x _ _ 149 _ [.int v3] h2 _
  refine J_istore dX15_reasonsOf_149 (by decide) (SD.a (lvr := [(0, rv (zx x) a0), (1, .int i1), (2, .int i2), (3, .int i3), (4, .int i4)]) [0, 1, 2, 3, 4] rfl rfl) ?_
  refine J_iload 0 dX15_reasonsOf_151 rfl ?_
  refine J_iconst (v := (-1)) dX15_reasonsOf_153 rfl ?_
  refine J_icmp_eq (tgt := 190) dX15_reasonsOf_154 rfl ?_ ?_
  · exact J_sub [1, 2, 3, 4, 5] rfl (jX15_reasonsOf_B190 x a0 i1 i2 i3 i4 h2)
  · refine J_aload_n 1 dX15_reasonsOf_157 rv_is rfl ?_
    refine J_G (fun g4 => ?_)
    refine J_getI kc_15 23 (by decide) rfl rfl kw_6_233 dX15_reasonsOf_158 g4 ?_
    refine J_iload_n 3 dX15_reasonsOf_161 rfl ?_
    refine J.callS (n := 2) (As := [.int (xI h2 a0 23), .int i2]) (ctX15_has (lx x) (wx x) (xI h2 a0 23) i2 h2) kw_8_177 kw_8_175 kw_8_176 kw_1_13 (by decide +kernel) rfl (by decide) (Nat.zero_le _) rfl dX15_reasonsOf_162 (fun v6 h5 => ?_)
    show J x _ _ 165 _ [.int v6] h5 _
    refine J_if_eq (tgt := 190) dX15_reasonsOf_165 rfl ?_ ?_
    · exact J_sub [1, 2, 3, 4, 5] rfl (jX15_reasonsOf_B190 x a0 i1 i2 i3 i4 h5)
    · refine J_aload_n 1 dX15_reasonsOf_168 rv_is rfl ?_
      refine J_iload_n 2 dX15_reasonsOf_169 rfl ?_
      refine J_iload_n 3 dX15_reasonsOf_170 rfl ?_
      refine J_iload_n 4 dX15_reasonsOf_171 rfl ?_
      refine J_iload 0 dX15_reasonsOf_172 rfl ?_
      refine J_G (fun g7 => ?_)
      refine J.callV (n := 4) (As := [.int i1, .int i2, .int i3, .int v3]) kc_15 (ctX15_isThere (lx x) (wx x) a0 i1 i2 i3 v3 h5) kw_8_213 kw_8_210 kw_8_212 kp_42 kw_1_13 (by decide +kernel) rfl (by decide) (Nat.zero_le _) rfl dX15_reasonsOf_174 g7 (fun v9 h8 => ?_)
      show J x _ _ 177 _ [.int v9] h8 _
      refine J_if_eq (tgt := 190) dX15_reasonsOf_177 rfl ?_ ?_
      · exact J_sub [1, 2, 3, 4, 5] rfl (jX15_reasonsOf_B190 x a0 i1 i2 i3 i4 h8)
      · refine J_aload_n 1 dX15_reasonsOf_180 rv_is rfl ?_
        refine J_sipush (v := nI 2000) dX15_reasonsOf_181 rfl ?_
        refine J_iload 0 dX15_reasonsOf_184 rfl ?_
        refine J_iadd dX15_reasonsOf_186 ?_
        refine J_G (fun g10 => ?_)
        refine J.callV (n := 1) (As := [.int ((nI 2000) + v3)]) kc_15 (ctX15_tells (lx x) (wx x) a0 ((nI 2000) + v3) h8) kw_8_237 kw_8_234 kw_8_236 kp_46 kw_1_13 (by decide +kernel) rfl (by decide) (Nat.zero_le _) rfl dX15_reasonsOf_187 g10 (fun _ h11 => ?_)
        show J x _ _ 190 _ [] h11 _
        exact J_sub [1, 2, 3, 4, 5] rfl (jX15_reasonsOf_B190 x a0 i1 i2 i3 i4 h11)
def X15_reasonsOf_B135 (k40 : (Nat → Int32 → Int32 → Int32 → Int32 → Int32 → AH → Option (Unit × AH))) (a0 : Nat) (i1 : Int32) (i2 : Int32) (i3 : Int32) (i4 : Int32) (i5 : Int32) (h : AH) : Option (Unit × AH) :=
  LT (i5 + nI 1) fun v1 =>
  k40 a0 i1 i2 i3 i4 v1 h
theorem jX15_reasonsOf_B135 (x : CT) (k40 : (Nat → Int32 → Int32 → Int32 → Int32 → Int32 → AH → Option (Unit × AH))) (hk40 : ∀ (a0 : Nat) (i1 : Int32) (i2 : Int32) (i3 : Int32) (i4 : Int32) (i5 : Int32) (h : AH), J x qX15_reasonsOf ZV 40 [(0, rv (zx x) a0), (1, .int i1), (2, .int i2), (3, .int i3), (4, .int i4), (5, .int i5)] [] h (k40 a0 i1 i2 i3 i4 i5 h)) (a0 : Nat) (i1 : Int32) (i2 : Int32) (i3 : Int32) (i4 : Int32) (i5 : Int32) (h : AH) : J x qX15_reasonsOf ZV 135 [(0, rv (zx x) a0), (1, .int i1), (2, .int i2), (3, .int i3), (4, .int i4), (5, .int i5)] [] h (X15_reasonsOf_B135 k40 a0 i1 i2 i3 i4 i5 h) := by
  unfold X15_reasonsOf_B135
  refine J_iincL (u := i5 + nI 1) 5 dX15_reasonsOf_135 rfl rfl (by decide) (SD.a (lvr := [(0, rv (zx x) a0), (1, .int i1), (2, .int i2), (3, .int i3), (4, .int i4)]) [0, 1, 2, 3, 4] rfl rfl) (fun v1 => ?_)
  refine J_goto (tgt := 40) dX15_reasonsOf_138 rfl ?_
  exact J_sub [1, 2, 3, 4, 5, 0] rfl (hk40 a0 i1 i2 i3 i4 v1 h)
def X15_reasonsOf_B129 (k40 : (Nat → Int32 → Int32 → Int32 → Int32 → Int32 → AH → Option (Unit × AH))) (k55 : (Nat → Int32 → Int32 → Int32 → Int32 → Int32 → Int32 → AH → Option (Unit × AH))) (a0 : Nat) (i1 : Int32) (i2 : Int32) (i3 : Int32) (i4 : Int32) (i5 : Int32) (i6 : Int32) (h : AH) : Option (Unit × AH) :=
  LT (i6 + nI 1) fun v1 =>
  k55 a0 i1 i2 i3 i4 i5 v1 h
theorem jX15_reasonsOf_B129 (x : CT) (k40 : (Nat → Int32 → Int32 → Int32 → Int32 → Int32 → AH → Option (Unit × AH))) (hk40 : ∀ (a0 : Nat) (i1 : Int32) (i2 : Int32) (i3 : Int32) (i4 : Int32) (i5 : Int32) (h : AH), J x qX15_reasonsOf ZV 40 [(0, rv (zx x) a0), (1, .int i1), (2, .int i2), (3, .int i3), (4, .int i4), (5, .int i5)] [] h (k40 a0 i1 i2 i3 i4 i5 h)) (k55 : (Nat → Int32 → Int32 → Int32 → Int32 → Int32 → Int32 → AH → Option (Unit × AH))) (hk55 : ∀ (a0 : Nat) (i1 : Int32) (i2 : Int32) (i3 : Int32) (i4 : Int32) (i5 : Int32) (i6 : Int32) (h : AH), J x qX15_reasonsOf ZV 55 [(0, rv (zx x) a0), (1, .int i1), (2, .int i2), (3, .int i3), (4, .int i4), (5, .int i5), (6, .int i6)] [] h (k55 a0 i1 i2 i3 i4 i5 i6 h)) (a0 : Nat) (i1 : Int32) (i2 : Int32) (i3 : Int32) (i4 : Int32) (i5 : Int32) (i6 : Int32) (h : AH) : J x qX15_reasonsOf ZV 129 [(0, rv (zx x) a0), (1, .int i1), (2, .int i2), (3, .int i3), (4, .int i4), (5, .int i5), (6, .int i6)] [] h (X15_reasonsOf_B129 k40 k55 a0 i1 i2 i3 i4 i5 i6 h) := by
  unfold X15_reasonsOf_B129
  refine J_iincL (u := i6 + nI 1) 6 dX15_reasonsOf_129 rfl rfl (by decide) (SD.a (lvr := [(0, rv (zx x) a0), (1, .int i1), (2, .int i2), (3, .int i3), (4, .int i4), (5, .int i5)]) [0, 1, 2, 3, 4, 5] rfl rfl) (fun v1 => ?_)
  refine J_goto (tgt := 55) dX15_reasonsOf_132 rfl ?_
  exact J_sub [1, 2, 3, 4, 5, 6, 0] rfl (hk55 a0 i1 i2 i3 i4 i5 v1 h)
def X15_reasonsOf_B55 (k40 : (Nat → Int32 → Int32 → Int32 → Int32 → Int32 → AH → Option (Unit × AH))) : Nat → Nat → Int32 → Int32 → Int32 → Int32 → Int32 → Int32 → AH → Option (Unit × AH)
  | 0, _, _, _, _, _, _, _, _ => none
  | n + 1, a0, i1, i2, i3, i4, i5, i6, h =>
    if i4 ≤ i6 then (
      X15_reasonsOf_B135 k40 a0 i1 i2 i3 i4 i5 h
    ) else (
      G (xc h a0 = 15) <|
      G (xc h (xR h a0 4) = 12) <|
      G (xc h (xR h (xR h a0 4) 18) = 16) <|
      G (gx i5 (xz h (xR h (xR h a0 4) 18))) <|
      if (xI h (xR h (xR h a0 4) 18) i5.toNatClampNeg) = i3 then (
        G (xc h a0 = 15) <|
        G (xc h (xR h a0 4) = 12) <|
        G (xc h (xR h (xR h a0 4) 17) = 16) <|
        G (gx i5 (xz h (xR h (xR h a0 4) 17))) <|
        if (xI h (xR h (xR h a0 4) 17) i5.toNatClampNeg) = i2 then (
          G (xc h a0 = 15) <|
          G (xc h (xR h a0 30) = 16) <|
          G (gx ((((nI 42) * i1) + ((nI 7) * i5)) + i6) (xz h (xR h a0 30))) <|
          if (xI h (xR h a0 30) ((((nI 42) * i1) + ((nI 7) * i5)) + i6).toNatClampNeg) = i4 then (
            G (xc h a0 = 15) <|
            BN (X15_tells_f a0 (((nI 1000) + ((nI 10) * i5)) + i6) h) fun _ h13 =>
            X15_reasonsOf_B129 k40 (X15_reasonsOf_B55 k40 n) a0 i1 i2 i3 i4 i5 i6 h13
          ) else (
            X15_reasonsOf_B129 k40 (X15_reasonsOf_B55 k40 n) a0 i1 i2 i3 i4 i5 i6 h
          )
        ) else (
          X15_reasonsOf_B129 k40 (X15_reasonsOf_B55 k40 n) a0 i1 i2 i3 i4 i5 i6 h
        )
      ) else (
        X15_reasonsOf_B129 k40 (X15_reasonsOf_B55 k40 n) a0 i1 i2 i3 i4 i5 i6 h
      )
    )
theorem jX15_reasonsOf_B55 (x : CT) (k40 : (Nat → Int32 → Int32 → Int32 → Int32 → Int32 → AH → Option (Unit × AH))) (hk40 : ∀ (a0 : Nat) (i1 : Int32) (i2 : Int32) (i3 : Int32) (i4 : Int32) (i5 : Int32) (h : AH), J x qX15_reasonsOf ZV 40 [(0, rv (zx x) a0), (1, .int i1), (2, .int i2), (3, .int i3), (4, .int i4), (5, .int i5)] [] h (k40 a0 i1 i2 i3 i4 i5 h)) : ∀ (n : Nat) (a0 : Nat) (i1 : Int32) (i2 : Int32) (i3 : Int32) (i4 : Int32) (i5 : Int32) (i6 : Int32) (h : AH), J x qX15_reasonsOf ZV 55 [(0, rv (zx x) a0), (1, .int i1), (2, .int i2), (3, .int i3), (4, .int i4), (5, .int i5), (6, .int i6)] [] h (X15_reasonsOf_B55 k40 n a0 i1 i2 i3 i4 i5 i6 h) := by
  intro n
  induction n with
  | zero => intro a0 i1 i2 i3 i4 i5 i6 h; exact J_none
  | succ n ih =>
    intro a0 i1 i2 i3 i4 i5 i6 h
    unfold X15_reasonsOf_B55
    refine J_iload 6 dX15_reasonsOf_55 rfl ?_
    refine J_iload 4 dX15_reasonsOf_57 rfl ?_
    refine J_icmp_ge (tgt := 135) dX15_reasonsOf_59 rfl ?_ ?_
    · exact J_sub [0, 1, 2, 3, 4, 5] rfl (jX15_reasonsOf_B135 x k40 hk40 a0 i1 i2 i3 i4 i5 h)
    · refine J_aload_n 0 dX15_reasonsOf_62 rv_is rfl ?_
      refine J_G (fun g1 => ?_)
      refine J_getR kc_15 4 (by decide) rfl rfl kw_6_214 dX15_reasonsOf_63 g1 ?_
      refine J_G (fun g2 => ?_)
      refine J_getRN kc_12 18 (by decide) rfl rfl kn_42 dX15_reasonsOf_66 g2 ?_
      refine J_iload 5 dX15_reasonsOf_69 rfl ?_
      refine J_G (fun g3 => ?_)
      refine J_G (fun g4 => ?_)
      refine J_iald dX15_reasonsOf_71 g3 g4 ?_
      refine J_iload_n 3 dX15_reasonsOf_72 rfl ?_
      refine J_icmp_ne (tgt := 129) dX15_reasonsOf_73 rfl ?_ ?_
      · exact (jX15_reasonsOf_B129 x k40 hk40 (X15_reasonsOf_B55 k40 n) ih a0 i1 i2 i3 i4 i5 i6 h)
      · refine J_aload_n 0 dX15_reasonsOf_76 rv_is rfl ?_
        refine J_G (fun g5 => ?_)
        refine J_getR kc_15 4 (by decide) rfl rfl kw_6_214 dX15_reasonsOf_77 g5 ?_
        refine J_G (fun g6 => ?_)
        refine J_getRN kc_12 17 (by decide) rfl rfl kn_41 dX15_reasonsOf_80 g6 ?_
        refine J_iload 5 dX15_reasonsOf_83 rfl ?_
        refine J_G (fun g7 => ?_)
        refine J_G (fun g8 => ?_)
        refine J_iald dX15_reasonsOf_85 g7 g8 ?_
        refine J_iload_n 2 dX15_reasonsOf_86 rfl ?_
        refine J_icmp_ne (tgt := 129) dX15_reasonsOf_87 rfl ?_ ?_
        · exact (jX15_reasonsOf_B129 x k40 hk40 (X15_reasonsOf_B55 k40 n) ih a0 i1 i2 i3 i4 i5 i6 h)
        · refine J_aload_n 0 dX15_reasonsOf_90 rv_is rfl ?_
          refine J_G (fun g9 => ?_)
          refine J_getR kc_15 30 (by decide) rfl rfl kw_7_0 dX15_reasonsOf_91 g9 ?_
          refine J_bipush (v := nI 42) dX15_reasonsOf_94 rfl ?_
          refine J_iload_n 1 dX15_reasonsOf_96 rfl ?_
          refine J_imul dX15_reasonsOf_97 ?_
          refine J_bipush (v := nI 7) dX15_reasonsOf_98 rfl ?_
          refine J_iload 5 dX15_reasonsOf_100 rfl ?_
          refine J_imul dX15_reasonsOf_102 ?_
          refine J_iadd dX15_reasonsOf_103 ?_
          refine J_iload 6 dX15_reasonsOf_104 rfl ?_
          refine J_iadd dX15_reasonsOf_106 ?_
          refine J_G (fun g10 => ?_)
          refine J_G (fun g11 => ?_)
          refine J_iald dX15_reasonsOf_107 g10 g11 ?_
          refine J_iload 4 dX15_reasonsOf_108 rfl ?_
          refine J_icmp_ne (tgt := 129) dX15_reasonsOf_110 rfl ?_ ?_
          · exact (jX15_reasonsOf_B129 x k40 hk40 (X15_reasonsOf_B55 k40 n) ih a0 i1 i2 i3 i4 i5 i6 h)
          · refine J_aload_n 0 dX15_reasonsOf_113 rv_is rfl ?_
            refine J_sipush (v := nI 1000) dX15_reasonsOf_114 rfl ?_
            refine J_bipush (v := nI 10) dX15_reasonsOf_117 rfl ?_
            refine J_iload 5 dX15_reasonsOf_119 rfl ?_
            refine J_imul dX15_reasonsOf_121 ?_
            refine J_iadd dX15_reasonsOf_122 ?_
            refine J_iload 6 dX15_reasonsOf_123 rfl ?_
            refine J_iadd dX15_reasonsOf_125 ?_
            refine J_G (fun g12 => ?_)
            refine J.callV (n := 1) (As := [.int (((nI 1000) + ((nI 10) * i5)) + i6)]) kc_15 (ctX15_tells (lx x) (wx x) a0 (((nI 1000) + ((nI 10) * i5)) + i6) h) kw_8_237 kw_8_234 kw_8_236 kp_46 kw_1_13 (by decide +kernel) rfl (by decide) (Nat.zero_le _) rfl dX15_reasonsOf_126 g12 (fun _ h13 => ?_)
            show J x _ _ 129 _ [] h13 _
            exact (jX15_reasonsOf_B129 x k40 hk40 (X15_reasonsOf_B55 k40 n) ih a0 i1 i2 i3 i4 i5 i6 h13)
def X15_reasonsOf_B40 : Nat → Nat → Int32 → Int32 → Int32 → Int32 → Int32 → AH → Option (Unit × AH)
  | 0, _, _, _, _, _, _, _ => none
  | n + 1, a0, i1, i2, i3, i4, i5, h =>
    G (xc h a0 = 15) <|
    G (xc h (xR h a0 4) = 12) <|
    if (xI h (xR h a0 4) 6) ≤ i5 then (
      X15_reasonsOf_B141 a0 i1 i2 i3 i4 h
    ) else (
      X15_reasonsOf_B55 (X15_reasonsOf_B40 n) FU a0 i1 i2 i3 i4 i5 (nI 0) h
    )
theorem jX15_reasonsOf_B40 (x : CT) : ∀ (n : Nat) (a0 : Nat) (i1 : Int32) (i2 : Int32) (i3 : Int32) (i4 : Int32) (i5 : Int32) (h : AH), J x qX15_reasonsOf ZV 40 [(0, rv (zx x) a0), (1, .int i1), (2, .int i2), (3, .int i3), (4, .int i4), (5, .int i5)] [] h (X15_reasonsOf_B40 n a0 i1 i2 i3 i4 i5 h) := by
  intro n
  induction n with
  | zero => intro a0 i1 i2 i3 i4 i5 h; exact J_none
  | succ n ih =>
    intro a0 i1 i2 i3 i4 i5 h
    unfold X15_reasonsOf_B40
    refine J_iload 5 dX15_reasonsOf_40 rfl ?_
    refine J_aload_n 0 dX15_reasonsOf_42 rv_is rfl ?_
    refine J_G (fun g1 => ?_)
    refine J_getR kc_15 4 (by decide) rfl rfl kw_6_214 dX15_reasonsOf_43 g1 ?_
    refine J_G (fun g2 => ?_)
    refine J_getIN kc_12 6 (by decide) rfl rfl kn_30 dX15_reasonsOf_46 g2 ?_
    refine J_icmp_ge (tgt := 141) dX15_reasonsOf_49 rfl ?_ ?_
    · exact J_sub [0, 1, 2, 3, 4] rfl (jX15_reasonsOf_B141 x a0 i1 i2 i3 i4 h)
    · refine J_iconst (v := nI 0) dX15_reasonsOf_52 rfl ?_
      refine J_istore dX15_reasonsOf_53 (by decide) (SD.a (lvr := [(0, rv (zx x) a0), (1, .int i1), (2, .int i2), (3, .int i3), (4, .int i4), (5, .int i5)]) [0, 1, 2, 3, 4, 5] rfl rfl) ?_
      exact J_sub [1, 2, 3, 4, 5, 6, 0] rfl (jX15_reasonsOf_B55 x (X15_reasonsOf_B40 n) ih FU a0 i1 i2 i3 i4 i5 (nI 0) h)
def X15_reasonsOf_B37 (a0 : Nat) (i1 : Int32) (i2 : Int32) (i3 : Int32) (i4 : Int32) (h : AH) : Option (Unit × AH) :=
  X15_reasonsOf_B40 FU a0 i1 i2 i3 i4 (nI 0) h
theorem jX15_reasonsOf_B37 (x : CT) (a0 : Nat) (i1 : Int32) (i2 : Int32) (i3 : Int32) (i4 : Int32) (h : AH) : J x qX15_reasonsOf ZV 37 [(0, rv (zx x) a0), (1, .int i1), (2, .int i2), (3, .int i3), (4, .int i4)] [] h (X15_reasonsOf_B37 a0 i1 i2 i3 i4 h) := by
  unfold X15_reasonsOf_B37
  refine J_iconst (v := nI 0) dX15_reasonsOf_37 rfl ?_
  refine J_istore dX15_reasonsOf_38 (by decide) (SD.a (lvr := [(0, rv (zx x) a0), (1, .int i1), (2, .int i2), (3, .int i3), (4, .int i4)]) [0, 1, 2, 3, 4] rfl rfl) ?_
  exact J_sub [1, 2, 3, 4, 5, 0] rfl (jX15_reasonsOf_B40 x FU a0 i1 i2 i3 i4 (nI 0) h)
def X15_reasonsOf_f (a0 : Nat) (i1 : Int32) (i2 : Int32) (i3 : Int32) (i4 : Int32) (h : AH) : Option (Unit × AH) :=
  G (xc h a0 = 15) <|
  LT (pI h a0 33 (nI 0)) fun h2 =>
  G (xc h2 a0 = 15) <|
  BN (X15_isThere_f a0 i1 i2 i3 i4 h2) fun v5 h4 =>
  if v5 = 0 then (
    some ((), h4)
  ) else (
    if i4 = 0 then (
      G (xc h4 a0 = 15) <|
      BN (X15_isFact_f a0 i2 i3 h4) fun v8 h7 =>
      if v8 = 0 then (
        X15_reasonsOf_B37 a0 i1 i2 i3 i4 h7
      ) else (
        G (xc h7 a0 = 15) <|
        BN (X15_tells_f a0 (nI 0) h7) fun _ h10 =>
        X15_reasonsOf_B37 a0 i1 i2 i3 i4 h10
      )
    ) else (
      X15_reasonsOf_B37 a0 i1 i2 i3 i4 h4
    )
  )
theorem jX15_reasonsOf (x : CT) (a0 : Nat) (i1 : Int32) (i2 : Int32) (i3 : Int32) (i4 : Int32) (h : AH) : J x qX15_reasonsOf ZV 0 [(0, rv (zx x) a0), (1, .int i1), (2, .int i2), (3, .int i3), (4, .int i4)] [] h (X15_reasonsOf_f a0 i1 i2 i3 i4 h) := by
  unfold X15_reasonsOf_f
  refine J_aload_n 0 dX15_reasonsOf_0 rv_is rfl ?_
  refine J_iconst (v := nI 0) dX15_reasonsOf_1 rfl ?_
  refine J_G (fun g1 => ?_)
  refine J_putI kc_15 33 (by decide) rfl rfl rfl rfl (Or.inl rfl) kw_7_3 dX15_reasonsOf_2 g1 ?_
  refine J_LTh (fun h2 => ?_)
  refine J_aload_n 0 dX15_reasonsOf_5 rv_is rfl ?_
  refine J_iload_n 1 dX15_reasonsOf_6 rfl ?_
  refine J_iload_n 2 dX15_reasonsOf_7 rfl ?_
  refine J_iload_n 3 dX15_reasonsOf_8 rfl ?_
  refine J_iload 4 dX15_reasonsOf_9 rfl ?_
  refine J_G (fun g3 => ?_)
  refine J.callV (n := 4) (As := [.int i1, .int i2, .int i3, .int i4]) kc_15 (ctX15_isThere (lx x) (wx x) a0 i1 i2 i3 i4 h2) kw_8_213 kw_8_210 kw_8_212 kp_42 kw_1_13 (by decide +kernel) rfl (by decide) (Nat.zero_le _) rfl dX15_reasonsOf_11 g3 (fun v5 h4 => ?_)
  show J x _ _ 14 _ [.int v5] h4 _
  refine J_if_ne (tgt := 18) dX15_reasonsOf_14 rfl ?_ ?_
  · refine J_iload 4 dX15_reasonsOf_18 rfl ?_
    refine J_if_ne (tgt := 37) dX15_reasonsOf_20 rfl ?_ ?_
    · exact (jX15_reasonsOf_B37 x a0 i1 i2 i3 i4 h4)
    · refine J_aload_n 0 dX15_reasonsOf_23 rv_is rfl ?_
      refine J_iload_n 2 dX15_reasonsOf_24 rfl ?_
      refine J_iload_n 3 dX15_reasonsOf_25 rfl ?_
      refine J_G (fun g6 => ?_)
      refine J.callV (n := 2) (As := [.int i2, .int i3]) kc_15 (ctX15_isFact (lx x) (wx x) a0 i2 i3 h4) kw_8_174 kw_8_171 kw_8_173 kp_33 kw_1_13 (by decide +kernel) rfl (by decide) (Nat.zero_le _) rfl dX15_reasonsOf_26 g6 (fun v8 h7 => ?_)
      show J x _ _ 29 _ [.int v8] h7 _
      refine J_if_eq (tgt := 37) dX15_reasonsOf_29 rfl ?_ ?_
      · exact (jX15_reasonsOf_B37 x a0 i1 i2 i3 i4 h7)
      · refine J_aload_n 0 dX15_reasonsOf_32 rv_is rfl ?_
        refine J_iconst (v := nI 0) dX15_reasonsOf_33 rfl ?_
        refine J_G (fun g9 => ?_)
        refine J.callV (n := 1) (As := [.int (nI 0)]) kc_15 (ctX15_tells (lx x) (wx x) a0 (nI 0) h7) kw_8_237 kw_8_234 kw_8_236 kp_46 kw_1_13 (by decide +kernel) rfl (by decide) (Nat.zero_le _) rfl dX15_reasonsOf_34 g9 (fun _ h10 => ?_)
        show J x _ _ 37 _ [] h10 _
        exact (jX15_reasonsOf_B37 x a0 i1 i2 i3 i4 h10)
  · exact J_vret dX15_reasonsOf_17
theorem ctX15_reasonsOf (l : Launch) (w : WT) (a0 : Nat) (i1 : Int32) (i2 : Int32) (i3 : Int32) (i4 : Int32) (h : AH) : CM l w yX15_reasonsOf cX15_reasonsOf 7 none 3 67 KV [rv (w.1) a0, .int i1, .int i2, .int i3, .int i4] h (X15_reasonsOf_f a0 i1 i2 i3 i4 h) :=
  CM.of (by decide +kernel) (by simp [lg_sl, rv_cat, cat_I, cat_L, cat_S]) (lv := [(0, rv (w.1) a0), (1, .int i1), (2, .int i2), (3, .int i3), (4, .int i4)]) (by simp [lv_args, rv_cat, cat_I, cat_L, cat_S]) (fun x hx => by subst hx; exact jX15_reasonsOf x a0 i1 i2 i3 i4 h)
-- FallTrialsModel.isWordStanding(III)Z
abbrev qX15_isWordStanding : MT := (cX15_isWordStanding, RX15, "isWordStanding", (some .boolean), 1, 23, 6)
def X15_isWordStanding_B85 (i5 : Int32) (is0 : Int32) (is1 : Int32) (as2 : Nat) (h : AH) : Option (Int32 × AH) :=
  G (xc h as2 = 15) <|
  BN (X15_isStanding_f as2 is1 is0 i5 h) fun v3 h2 =>
  if v3 = 0 then (
    some (nI 0, h2)
  ) else (
    some (nI 1, h2)
  )
theorem jX15_isWordStanding_B85 (x : CT) (i5 : Int32) (is0 : Int32) (is1 : Int32) (as2 : Nat) (h : AH) : J x qX15_isWordStanding ZI 85 [(5, .int i5)] [.int is0, .int is1, rv (zx x) as2] h (X15_isWordStanding_B85 i5 is0 is1 as2 h) := by
  unfold X15_isWordStanding_B85
  refine J_iload 0 dX15_isWordStanding_85 rfl ?_
  refine J_G (fun g1 => ?_)
  refine J.callV (n := 3) (As := [.int is1, .int is0, .int i5]) kc_15 (ctX15_isStanding (lx x) (wx x) as2 is1 is0 i5 h) kw_9_37 kw_9_34 kw_9_36 kp_51 kw_1_13 (by decide +kernel) rfl (by decide) (Nat.zero_le _) rfl dX15_isWordStanding_87 g1 (fun v3 h2 => ?_)
  show J x _ _ 90 _ [.int v3] h2 _
  refine J_if_eq (tgt := 97) dX15_isWordStanding_90 rfl ?_ ?_
  · refine J_iconst (v := nI 0) dX15_isWordStanding_97 rfl ?_
    exact J_zret dX15_isWordStanding_98 (by decide)
  · refine J_iconst (v := nI 1) dX15_isWordStanding_93 rfl ?_
    refine J_goto (tgt := 98) dX15_isWordStanding_94 rfl ?_
    exact J_zret dX15_isWordStanding_98 (by decide)
def X15_isWordStanding_f (a0 : Nat) (i1 : Int32) (i2 : Int32) (i3 : Int32) (h : AH) : Option (Int32 × AH) :=
  LT (((nI 7) * i2) + i3) fun v1 =>
  G (xc h a0 = 15) <|
  G (xc h (xR h a0 4) = 12) <|
  G (xc h (xR h (xR h a0 4) 19) = 16) <|
  G (gx i2 (xz h (xR h (xR h a0 4) 19))) <|
  LT (xI h (xR h (xR h a0 4) 19) i2.toNatClampNeg) fun v6 =>
  G (xc h (xR h a0 27) = 13) <|
  G (xc h (xR h (xR h a0 27) 0) = 19) <|
  G (gx v1 (xz h (xR h (xR h a0 27) 0))) <|
  if (xI h (xR h (xR h a0 27) 0) v1.toNatClampNeg) = 0 then (
    G (xc h a0 = 15) <|
    G (xc h (xR h a0 27) = 13) <|
    G (xc h (xR h (xR h a0 27) 1) = 19) <|
    G (gx v1 (xz h (xR h (xR h a0 27) 1))) <|
    if (xI h (xR h (xR h a0 27) 1) v1.toNatClampNeg) = 0 then (
      G (xc h a0 = 15) <|
      G (xc h (xR h a0 27) = 13) <|
      BN (X13_isDown_f (xR h a0 27) i3 v6 h) fun v17 h16 =>
      if v17 = 0 then (
        G (xc h16 a0 = 15) <|
        G (xc h16 (xR h16 a0 32) = 19) <|
        G (gx (((nI 42) * i1) + v1) (xz h16 (xR h16 a0 32))) <|
        if (xI h16 (xR h16 a0 32) (((nI 42) * i1) + v1).toNatClampNeg) = 0 then (
          X15_isWordStanding_B85 v6 i3 ((nI 10) + i2) a0 h16
        ) else (
          X15_isWordStanding_B85 v6 (i3 - (nI 1)) ((nI 10) + i2) a0 h16
        )
      ) else (
        some (nI 0, h16)
      )
    ) else (
      some (nI 0, h)
    )
  ) else (
    some (nI 0, h)
  )
theorem jX15_isWordStanding (x : CT) (a0 : Nat) (i1 : Int32) (i2 : Int32) (i3 : Int32) (h : AH) : J x qX15_isWordStanding ZI 0 [(0, rv (zx x) a0), (1, .int i1), (2, .int i2), (3, .int i3)] [] h (X15_isWordStanding_f a0 i1 i2 i3 h) := by
  unfold X15_isWordStanding_f
  refine J_bipush (v := nI 7) dX15_isWordStanding_0 rfl ?_
  refine J_iload_n 2 dX15_isWordStanding_2 rfl ?_
  refine J_imul dX15_isWordStanding_3 ?_
  refine J_iload_n 3 dX15_isWordStanding_4 rfl ?_
  refine J_iadd dX15_isWordStanding_5 ?_
  refine J_LTi (fun v1 => ?_)
  refine J_istore dX15_isWordStanding_6 (by decide) (SD.a (lvr := [(0, rv (zx x) a0), (1, .int i1), (2, .int i2), (3, .int i3)]) [0, 1, 2, 3] rfl rfl) ?_
  refine J_aload_n 1 dX15_isWordStanding_8 rv_is rfl ?_
  refine J_G (fun g2 => ?_)
  refine J_getR kc_15 4 (by decide) rfl rfl kw_6_214 dX15_isWordStanding_9 g2 ?_
  refine J_G (fun g3 => ?_)
  refine J_getRN kc_12 19 (by decide) rfl rfl kn_43 dX15_isWordStanding_12 g3 ?_
  refine J_iload_n 3 dX15_isWordStanding_15 rfl ?_
  refine J_G (fun g4 => ?_)
  refine J_G (fun g5 => ?_)
  refine J_iald dX15_isWordStanding_16 g4 g5 ?_
  refine J_LTi (fun v6 => ?_)
  refine J_istore dX15_isWordStanding_17 (by decide) (SD.a (lvr := [(4, .int v1), (0, rv (zx x) a0), (1, .int i1), (2, .int i2), (3, .int i3)]) [0, 1, 2, 3, 4] rfl rfl) ?_
  refine J_aload_n 2 dX15_isWordStanding_19 rv_is rfl ?_
  refine J_getR kc_15 27 (by decide) rfl rfl kw_6_237 dX15_isWordStanding_20 g2 ?_
  refine J_G (fun g7 => ?_)
  refine J_getRN kc_13 0 (by decide) rfl rfl kn_20 dX15_isWordStanding_23 g7 ?_
  refine J_iload 1 dX15_isWordStanding_26 rfl ?_
  refine J_G (fun g8 => ?_)
  refine J_G (fun g9 => ?_)
  refine J_zald dX15_isWordStanding_28 g8 g9 ?_
  refine J_if_ne (tgt := 97) dX15_isWordStanding_29 rfl ?_ ?_
  · refine J_iconst (v := nI 0) dX15_isWordStanding_97 rfl ?_
    exact J_zret dX15_isWordStanding_98 (by decide)
  · refine J_aload_n 2 dX15_isWordStanding_32 rv_is rfl ?_
    refine J_G (fun g10 => ?_)
    refine J_getR kc_15 27 (by decide) rfl rfl kw_6_237 dX15_isWordStanding_33 g10 ?_
    refine J_G (fun g11 => ?_)
    refine J_getRN kc_13 1 (by decide) rfl rfl kn_21 dX15_isWordStanding_36 g11 ?_
    refine J_iload 1 dX15_isWordStanding_39 rfl ?_
    refine J_G (fun g12 => ?_)
    refine J_G (fun g13 => ?_)
    refine J_zald dX15_isWordStanding_41 g12 g13 ?_
    refine J_if_ne (tgt := 97) dX15_isWordStanding_42 rfl ?_ ?_
    · refine J_iconst (v := nI 0) dX15_isWordStanding_97 rfl ?_
      exact J_zret dX15_isWordStanding_98 (by decide)
    · refine J_aload_n 2 dX15_isWordStanding_45 rv_is rfl ?_
      refine J_G (fun g14 => ?_)
      refine J_getR kc_15 27 (by decide) rfl rfl kw_6_237 dX15_isWordStanding_46 g14 ?_
      refine J_iload_n 5 dX15_isWordStanding_49 rfl ?_
      refine J_iload 0 dX15_isWordStanding_50 rfl ?_
      refine J_G (fun g15 => ?_)
      refine J.callV (n := 2) (As := [.int i3, .int v6]) kc_13 (ctX13_isDown (lx x) (wx x) (xR h a0 27) i3 v6 h) kw_9_29 kw_9_26 kw_9_27 kw_9_28 kw_1_18 (by decide +kernel) rfl (by decide) (Nat.zero_le _) rfl dX15_isWordStanding_52 g15 (fun v17 h16 => ?_)
      show J x _ _ 55 _ [.int v17] h16 _
      refine J_if_ne (tgt := 97) dX15_isWordStanding_55 rfl ?_ ?_
      · refine J_iconst (v := nI 0) dX15_isWordStanding_97 rfl ?_
        exact J_zret dX15_isWordStanding_98 (by decide)
      · refine J_aload_n 2 dX15_isWordStanding_58 rv_is rfl ?_
        refine J_bipush (v := nI 10) dX15_isWordStanding_59 rfl ?_
        refine J_iload_n 4 dX15_isWordStanding_61 rfl ?_
        refine J_iadd dX15_isWordStanding_62 ?_
        refine J_aload_n 2 dX15_isWordStanding_63 rv_is rfl ?_
        refine J_G (fun g18 => ?_)
        refine J_getR kc_15 32 (by decide) rfl rfl kw_7_2 dX15_isWordStanding_64 g18 ?_
        refine J_bipush (v := nI 42) dX15_isWordStanding_67 rfl ?_
        refine J_iload_n 3 dX15_isWordStanding_69 rfl ?_
        refine J_imul dX15_isWordStanding_70 ?_
        refine J_iload 1 dX15_isWordStanding_71 rfl ?_
        refine J_iadd dX15_isWordStanding_73 ?_
        refine J_G (fun g19 => ?_)
        refine J_G (fun g20 => ?_)
        refine J_zald dX15_isWordStanding_74 g19 g20 ?_
        refine J_if_eq (tgt := 84) dX15_isWordStanding_75 rfl ?_ ?_
        · refine J_iload_n 5 dX15_isWordStanding_84 rfl ?_
          exact J_sub [0] rfl (jX15_isWordStanding_B85 x v6 i3 ((nI 10) + i2) a0 h16)
        · refine J_iload_n 5 dX15_isWordStanding_78 rfl ?_
          refine J_iconst (v := nI 1) dX15_isWordStanding_79 rfl ?_
          refine J_isub dX15_isWordStanding_80 ?_
          refine J_goto (tgt := 85) dX15_isWordStanding_81 rfl ?_
          exact J_sub [0] rfl (jX15_isWordStanding_B85 x v6 (i3 - (nI 1)) ((nI 10) + i2) a0 h16)
theorem ctX15_isWordStanding (l : Launch) (w : WT) (a0 : Nat) (i1 : Int32) (i2 : Int32) (i3 : Int32) (h : AH) : CM l w yX15_isWordStanding cX15_isWordStanding 6 (some .boolean) 1 23 KI [rv (w.1) a0, .int i1, .int i2, .int i3] h (X15_isWordStanding_f a0 i1 i2 i3 h) :=
  CM.of (by decide +kernel) (by simp [lg_sl, rv_cat, cat_I, cat_L, cat_S]) (lv := [(0, rv (w.1) a0), (1, .int i1), (2, .int i2), (3, .int i3)]) (by simp [lv_args, rv_cat, cat_I, cat_L, cat_S]) (fun x hx => by subst hx; exact jX15_isWordStanding x a0 i1 i2 i3 h)
-- FallTrialsModel.isTooMany()Z
abbrev qX15_isTooMany : MT := (cX15_isTooMany, RX15, "isTooMany", (some .boolean), 2, 44, 1)
def X15_isTooMany_f (a0 : Nat) (h : AH) : Option (Int32 × AH) :=
  G (xc h a0 = 15) <|
  BN (X15_allFalls_f a0 h) fun _ h2 =>
  G (xc h2 a0 = 15) <|
  if (xI h2 a0 36) ≤ (nI 60) then (
    some (nI 0, h2)
  ) else (
    G (xc h2 a0 = 15) <|
    BN (X15_inPurse_f a0 h2) fun v6 h5 =>
    if v6 = (nI 3) then (
      some (nI 1, h5)
    ) else (
      some (nI 0, h5)
    )
  )
theorem jX15_isTooMany (x : CT) (a0 : Nat) (h : AH) : J x qX15_isTooMany ZI 0 [(0, rv (zx x) a0)] [] h (X15_isTooMany_f a0 h) := by
  unfold X15_isTooMany_f
  refine J_aload_n 0 dX15_isTooMany_0 rv_is rfl ?_
  refine J_G (fun g1 => ?_)
  refine J.callV (n := 0) (As := []) kc_15 (ctX15_allFalls (lx x) (wx x) a0 h) kw_9_53 kw_9_50 kw_9_52 kp_53 kw_1_13 (by decide +kernel) rfl (by decide) (Nat.zero_le _) rfl dX15_isTooMany_1 g1 (fun _ h2 => ?_)
  show J x _ _ 4 _ [] h2 _
  refine J_aload_n 0 dX15_isTooMany_4 rv_is rfl ?_
  refine J_G (fun g3 => ?_)
  refine J_getI kc_15 36 (by decide) rfl rfl kw_7_6 dX15_isTooMany_5 g3 ?_
  refine J_bipush (v := nI 60) dX15_isTooMany_8 rfl ?_
  refine J_icmp_le (tgt := 25) dX15_isTooMany_10 rfl ?_ ?_
  · refine J_iconst (v := nI 0) dX15_isTooMany_25 rfl ?_
    exact J_zret dX15_isTooMany_26 (by decide)
  · refine J_aload_n 0 dX15_isTooMany_13 rv_is rfl ?_
    refine J_G (fun g4 => ?_)
    refine J.callV (n := 0) (As := []) kc_15 (ctX15_inPurse (lx x) (wx x) a0 h2) kw_8_134 kw_8_131 kw_8_133 kp_27 kw_1_13 (by decide +kernel) rfl (by decide) (Nat.zero_le _) rfl dX15_isTooMany_14 g4 (fun v6 h5 => ?_)
    show J x _ _ 17 _ [.int v6] h5 _
    refine J_iconst (v := nI 3) dX15_isTooMany_17 rfl ?_
    refine J_icmp_ne (tgt := 25) dX15_isTooMany_18 rfl ?_ ?_
    · refine J_iconst (v := nI 0) dX15_isTooMany_25 rfl ?_
      exact J_zret dX15_isTooMany_26 (by decide)
    · refine J_iconst (v := nI 1) dX15_isTooMany_21 rfl ?_
      refine J_goto (tgt := 26) dX15_isTooMany_22 rfl ?_
      exact J_zret dX15_isTooMany_26 (by decide)
theorem ctX15_isTooMany (l : Launch) (w : WT) (a0 : Nat) (h : AH) : CM l w yX15_isTooMany cX15_isTooMany 1 (some .boolean) 2 44 KI [rv (w.1) a0] h (X15_isTooMany_f a0 h) :=
  CM.of (by decide +kernel) (by simp [lg_sl, rv_cat, cat_I, cat_L, cat_S]) (lv := [(0, rv (w.1) a0)]) (by simp [lv_args, rv_cat, cat_I, cat_L, cat_S]) (fun x hx => by subst hx; exact jX15_isTooMany x a0 h)
-- FallTrialsModel.begins(I)Z
abbrev qX15_begins : MT := (cX15_begins, RX15, "begins", (some .boolean), 2, 48, 3)
def X15_begins_B44 (h : AH) : Option (Int32 × AH) :=
  some (nI 1, h)
theorem jX15_begins_B44 (x : CT) (h : AH) : J x qX15_begins ZI 44 [] [] h (X15_begins_B44 h) := by
  unfold X15_begins_B44
  refine J_iconst (v := nI 1) dX15_begins_44 rfl ?_
  refine J_goto (tgt := 49) dX15_begins_45 rfl ?_
  exact J_zret dX15_begins_49 (by decide)
def X15_begins_B20 (a0 : Nat) (i1 : Int32) (h : AH) : Option (Int32 × AH) :=
  G (xc h a0 = 15) <|
  if (xI h a0 36) < i1 then (
    some (nI 0, h)
  ) else (
    G (xc h a0 = 15) <|
    BN (X15_isMeant_f a0 i1 h) fun v4 h3 =>
    if v4 = 0 then (
      G (xc h3 a0 = 15) <|
      BN (X15_goesOn_f a0 i1 h3) fun v7 h6 =>
      if v7 = 0 then (
        some (nI 0, h6)
      ) else (
        X15_begins_B44 h6
      )
    ) else (
      X15_begins_B44 h3
    )
  )
theorem jX15_begins_B20 (x : CT) (a0 : Nat) (i1 : Int32) (h : AH) : J x qX15_begins ZI 20 [(0, rv (zx x) a0), (1, .int i1)] [] h (X15_begins_B20 a0 i1 h) := by
  unfold X15_begins_B20
  refine J_iload_n 1 dX15_begins_20 rfl ?_
  refine J_aload_n 0 dX15_begins_21 rv_is rfl ?_
  refine J_G (fun g1 => ?_)
  refine J_getI kc_15 36 (by decide) rfl rfl kw_7_6 dX15_begins_22 g1 ?_
  refine J_icmp_gt (tgt := 48) dX15_begins_25 rfl ?_ ?_
  · refine J_iconst (v := nI 0) dX15_begins_48 rfl ?_
    exact J_zret dX15_begins_49 (by decide)
  · refine J_aload_n 0 dX15_begins_28 rv_is rfl ?_
    refine J_iload_n 1 dX15_begins_29 rfl ?_
    refine J_G (fun g2 => ?_)
    refine J.callV (n := 1) (As := [.int i1]) kc_15 (ctX15_isMeant (lx x) (wx x) a0 i1 h) kw_9_61 kw_9_58 kw_9_60 kp_55 kw_1_13 (by decide +kernel) rfl (by decide) (Nat.zero_le _) rfl dX15_begins_30 g2 (fun v4 h3 => ?_)
    show J x _ _ 33 _ [.int v4] h3 _
    refine J_if_ne (tgt := 44) dX15_begins_33 rfl ?_ ?_
    · exact J_sub [] rfl (jX15_begins_B44 x h3)
    · refine J_aload_n 0 dX15_begins_36 rv_is rfl ?_
      refine J_iload_n 1 dX15_begins_37 rfl ?_
      refine J_G (fun g5 => ?_)
      refine J.callV (n := 1) (As := [.int i1]) kc_15 (ctX15_goesOn (lx x) (wx x) a0 i1 h3) kw_9_65 kw_9_62 kw_9_64 kp_56 kw_1_13 (by decide +kernel) rfl (by decide) (Nat.zero_le _) rfl dX15_begins_38 g5 (fun v7 h6 => ?_)
      show J x _ _ 41 _ [.int v7] h6 _
      refine J_if_eq (tgt := 48) dX15_begins_41 rfl ?_ ?_
      · refine J_iconst (v := nI 0) dX15_begins_48 rfl ?_
        exact J_zret dX15_begins_49 (by decide)
      · exact J_sub [] rfl (jX15_begins_B44 x h6)
def X15_begins_B2 : Nat → Nat → Int32 → Int32 → AH → Option (Int32 × AH)
  | 0, _, _, _, _ => none
  | n + 1, a0, i1, i2, h =>
    if i1 ≤ i2 then (
      X15_begins_B20 a0 i1 h
    ) else (
      G (xc h a0 = 15) <|
      G (xc h (xR h a0 38) = 16) <|
      G (gx i2 (xz h (xR h a0 38))) <|
      LT (pI h (xR h a0 38) i2.toNatClampNeg i2) fun h4 =>
      LT (i2 + nI 1) fun v5 =>
      X15_begins_B2 n a0 i1 v5 h4
    )
theorem jX15_begins_B2 (x : CT) : ∀ (n : Nat) (a0 : Nat) (i1 : Int32) (i2 : Int32) (h : AH), J x qX15_begins ZI 2 [(0, rv (zx x) a0), (1, .int i1), (2, .int i2)] [] h (X15_begins_B2 n a0 i1 i2 h) := by
  intro n
  induction n with
  | zero => intro a0 i1 i2 h; exact J_none
  | succ n ih =>
    intro a0 i1 i2 h
    unfold X15_begins_B2
    refine J_iload_n 2 dX15_begins_2 rfl ?_
    refine J_iload_n 1 dX15_begins_3 rfl ?_
    refine J_icmp_ge (tgt := 20) dX15_begins_4 rfl ?_ ?_
    · exact J_sub [0, 1] rfl (jX15_begins_B20 x a0 i1 h)
    · refine J_aload_n 0 dX15_begins_7 rv_is rfl ?_
      refine J_G (fun g1 => ?_)
      refine J_getR kc_15 38 (by decide) rfl rfl kw_7_8 dX15_begins_8 g1 ?_
      refine J_iload_n 2 dX15_begins_11 rfl ?_
      refine J_iload_n 2 dX15_begins_12 rfl ?_
      refine J_G (fun g2 => ?_)
      refine J_G (fun g3 => ?_)
      refine J_iast dX15_begins_13 g2 g3 ?_
      refine J_LTh (fun h4 => ?_)
      refine J_iincL (u := i2 + nI 1) 2 dX15_begins_14 rfl rfl (by decide) (SD.a (lvr := [(0, rv (zx x) a0), (1, .int i1)]) [0, 1] rfl rfl) (fun v5 => ?_)
      refine J_goto (tgt := 2) dX15_begins_17 rfl ?_
      exact J_sub [1, 2, 0] rfl (ih a0 i1 v5 h4)
def X15_begins_f (a0 : Nat) (i1 : Int32) (h : AH) : Option (Int32 × AH) :=
  X15_begins_B2 FU a0 i1 (nI 0) h
theorem jX15_begins (x : CT) (a0 : Nat) (i1 : Int32) (h : AH) : J x qX15_begins ZI 0 [(0, rv (zx x) a0), (1, .int i1)] [] h (X15_begins_f a0 i1 h) := by
  unfold X15_begins_f
  refine J_iconst (v := nI 0) dX15_begins_0 rfl ?_
  refine J_istore_n dX15_begins_1 (by decide) (SD.a (lvr := [(0, rv (zx x) a0), (1, .int i1)]) [0, 1] rfl rfl) ?_
  exact J_sub [1, 2, 0] rfl (jX15_begins_B2 x FU a0 i1 (nI 0) h)
theorem ctX15_begins (l : Launch) (w : WT) (a0 : Nat) (i1 : Int32) (h : AH) : CM l w yX15_begins cX15_begins 3 (some .boolean) 2 48 KI [rv (w.1) a0, .int i1] h (X15_begins_f a0 i1 h) :=
  CM.of (by decide +kernel) (by simp [lg_sl, rv_cat, cat_I, cat_L, cat_S]) (lv := [(0, rv (w.1) a0), (1, .int i1)]) (by simp [lv_args, rv_cat, cat_I, cat_L, cat_S]) (fun x hx => by subst hx; exact jX15_begins x a0 i1 h)
-- FallTrialsModel.linked(III)I
abbrev qX15_linked : MT := (cX15_linked, RX15, "linked", (some .int), 2, 42, 4)
def X15_linked_f (i0 : Int32) (i1 : Int32) (i2 : Int32) (h : AH) : Option (Int32 × AH) :=
  BN (X15_leastRow_f i0 h) fun v2 h1 =>
  if v2 = (-1) then (
    some ((-1), h1)
  ) else (
    some ((((nI 1000) * i2) + ((nI 100) * i1)) + v2, h1)
  )
theorem jX15_linked (x : CT) (i0 : Int32) (i1 : Int32) (i2 : Int32) (h : AH) : J x qX15_linked ZI 0 [(0, .int i0), (1, .int i1), (2, .int i2)] [] h (X15_linked_f i0 i1 i2 h) := by
  unfold X15_linked_f
  refine J_iload_n 0 dX15_linked_0 rfl ?_
  refine J.callS (n := 1) (As := [.int i0]) (ctX15_leastRow (lx x) (wx x) i0 h) kw_9_123 kw_9_121 kw_9_122 kw_1_13 (by decide +kernel) rfl (by decide) (Nat.zero_le _) rfl dX15_linked_1 (fun v2 h1 => ?_)
  show J x _ _ 4 _ [.int v2] h1 _
  refine J_istore_n dX15_linked_4 (by decide) (SD.a (lvr := [(1, .int i1), (2, .int i2)]) [1, 2] rfl rfl) ?_
  refine J_iload_n 0 dX15_linked_5 rfl ?_
  refine J_iconst (v := (-1)) dX15_linked_6 rfl ?_
  refine J_icmp_ne (tgt := 14) dX15_linked_7 rfl ?_ ?_
  · refine J_sipush (v := nI 1000) dX15_linked_14 rfl ?_
    refine J_iload_n 2 dX15_linked_17 rfl ?_
    refine J_imul dX15_linked_18 ?_
    refine J_bipush (v := nI 100) dX15_linked_19 rfl ?_
    refine J_iload_n 1 dX15_linked_21 rfl ?_
    refine J_imul dX15_linked_22 ?_
    refine J_iadd dX15_linked_23 ?_
    refine J_iload_n 0 dX15_linked_24 rfl ?_
    refine J_iadd dX15_linked_25 ?_
    exact J_iret dX15_linked_26
  · refine J_iconst (v := (-1)) dX15_linked_10 rfl ?_
    refine J_goto (tgt := 26) dX15_linked_11 rfl ?_
    exact J_iret dX15_linked_26
theorem ctX15_linked (l : Launch) (w : WT) (i0 : Int32) (i1 : Int32) (i2 : Int32) (h : AH) : CM l w yX15_linked cX15_linked 4 (some .int) 2 42 KI [.int i0, .int i1, .int i2] h (X15_linked_f i0 i1 i2 h) :=
  CM.of (by decide +kernel) (by simp [lg_sl, rv_cat, cat_I, cat_L, cat_S]) (lv := [(0, .int i0), (1, .int i1), (2, .int i2)]) (by simp [lv_args, rv_cat, cat_I, cat_L, cat_S]) (fun x hx => by subst hx; exact jX15_linked x i0 i1 i2 h)
