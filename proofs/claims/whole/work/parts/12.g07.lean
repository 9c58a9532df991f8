-- FallTrialsModel.isOf(II)Z
abbrev qX15_isOf : MT := (cX15_isOf, RX15, "isOf", (some .boolean), 0, 0, 3)
def X15_isOf_B26 (h : AH) : Option (Int32 × AH) :=
  some (nI 1, h)
theorem jX15_isOf_B26 (x : CT) (h : AH) : J x qX15_isOf ZI 26 [] [] h (X15_isOf_B26 h) := by
  unfold X15_isOf_B26
  refine J_iconst (v := nI 1) dX15_isOf_26 rfl ?_
  refine J_goto (tgt := 31) dX15_isOf_27 rfl ?_
  exact J_zret dX15_isOf_31 (by decide)
def X15_isOf_f (a0 : Nat) (i1 : Int32) (i2 : Int32) (h : AH) : Option (Int32 × AH) :=
  G (xc h a0 = 15) <|
  G (xc h (xR h a0 4) = 12) <|
  G (xc h (xR h (xR h a0 4) 15) = 16) <|
  G (gx i1 (xz h (xR h (xR h a0 4) 15))) <|
  if (xI h (xR h (xR h a0 4) 15) i1.toNatClampNeg) = (-1) then (
    X15_isOf_B26 h
  ) else (
    G (xc h a0 = 15) <|
    G (xc h (xR h a0 4) = 12) <|
    G (xc h (xR h (xR h a0 4) 15) = 16) <|
    G (gx i1 (xz h (xR h (xR h a0 4) 15))) <|
    if (xI h (xR h (xR h a0 4) 15) i1.toNatClampNeg) = i2 then (
      X15_isOf_B26 h
    ) else (
      some (nI 0, h)
    )
  )
theorem jX15_isOf (x : CT) (a0 : Nat) (i1 : Int32) (i2 : Int32) (h : AH) : J x qX15_isOf ZI 0 [(0, rv (zx x) a0), (1, .int i1), (2, .int i2)] [] h (X15_isOf_f a0 i1 i2 h) := by
  unfold X15_isOf_f
  refine J_aload_n 0 dX15_isOf_0 rv_is rfl ?_
  refine J_G (fun g1 => ?_)
  refine J_getR kc_15 4 (by decide) rfl rfl kw_6_214 dX15_isOf_1 g1 ?_
  refine J_G (fun g2 => ?_)
  refine J_getRN kc_12 15 (by decide) rfl rfl kn_39 dX15_isOf_4 g2 ?_
  refine J_iload_n 1 dX15_isOf_7 rfl ?_
  refine J_G (fun g3 => ?_)
  refine J_G (fun g4 => ?_)
  refine J_iald dX15_isOf_8 g3 g4 ?_
  refine J_iconst (v := (-1)) dX15_isOf_9 rfl ?_
  refine J_icmp_eq (tgt := 26) dX15_isOf_10 rfl ?_ ?_
  · exact J_sub [] rfl (jX15_isOf_B26 x h)
  · refine J_aload_n 0 dX15_isOf_13 rv_is rfl ?_
    refine J_G (fun g5 => ?_)
    refine J_getR kc_15 4 (by decide) rfl rfl kw_6_214 dX15_isOf_14 g5 ?_
    refine J_G (fun g6 => ?_)
    refine J_getRN kc_12 15 (by decide) rfl rfl kn_39 dX15_isOf_17 g6 ?_
    refine J_iload_n 1 dX15_isOf_20 rfl ?_
    refine J_G (fun g7 => ?_)
    refine J_G (fun g8 => ?_)
    refine J_iald dX15_isOf_21 g7 g8 ?_
    refine J_iload_n 2 dX15_isOf_22 rfl ?_
    refine J_icmp_ne (tgt := 30) dX15_isOf_23 rfl ?_ ?_
    · refine J_iconst (v := nI 0) dX15_isOf_30 rfl ?_
      exact J_zret dX15_isOf_31 (by decide)
    · exact J_sub [] rfl (jX15_isOf_B26 x h)
theorem ctX15_isOf (l : Launch) (w : WT) (a0 : Nat) (i1 : Int32) (i2 : Int32) (h : AH) : CM l w yX15_isOf cX15_isOf 3 (some .boolean) 0 0 KI [rv (w.1) a0, .int i1, .int i2] h (X15_isOf_f a0 i1 i2 h) :=
  CM.of (by decide +kernel) (by simp [lg_sl, rv_cat, cat_I, cat_L, cat_S]) (lv := [(0, rv (w.1) a0), (1, .int i1), (2, .int i2)]) (by simp [lv_args, rv_cat, cat_I, cat_L, cat_S]) (fun x hx => by subst hx; exact jX15_isOf x a0 i1 i2 h)
-- FallTrialsModel.notsOf(I)I
abbrev qX15_notsOf : MT := (cX15_notsOf, RX15, "notsOf", (some .int), 1, 21, 2)
def X15_notsOf_B24 (a0 : Nat) (i1 : Int32) (h : AH) : Option (Int32 × AH) :=
  G (xc h a0 = 15) <|
  G (xc h (xR h a0 4) = 12) <|
  G (xc h (xR h (xR h a0 4) 21) = 16) <|
  G (gx i1 (xz h (xR h (xR h a0 4) 21))) <|
  some (xI h (xR h (xR h a0 4) 21) i1.toNatClampNeg, h)
theorem jX15_notsOf_B24 (x : CT) (a0 : Nat) (i1 : Int32) (h : AH) : J x qX15_notsOf ZI 24 [(0, rv (zx x) a0), (1, .int i1)] [] h (X15_notsOf_B24 a0 i1 h) := by
  unfold X15_notsOf_B24
  refine J_aload_n 0 dX15_notsOf_24 rv_is rfl ?_
  refine J_G (fun g1 => ?_)
  refine J_getR kc_15 4 (by decide) rfl rfl kw_6_214 dX15_notsOf_25 g1 ?_
  refine J_G (fun g2 => ?_)
  refine J_getRN kc_12 21 (by decide) rfl rfl kn_45 dX15_notsOf_28 g2 ?_
  refine J_iload_n 1 dX15_notsOf_31 rfl ?_
  refine J_G (fun g3 => ?_)
  refine J_G (fun g4 => ?_)
  refine J_iald dX15_notsOf_32 g3 g4 ?_
  exact J_iret dX15_notsOf_33
def X15_notsOf_f (a0 : Nat) (i1 : Int32) (h : AH) : Option (Int32 × AH) :=
  if i1 < (nI 10) then (
    X15_notsOf_B24 a0 i1 h
  ) else (
    G (xc h a0 = 15) <|
    BN (X15_has_f (xI h a0 25) (i1 - (nI 10)) h) fun v3 h2 =>
    if v3 = 0 then (
      X15_notsOf_B24 a0 i1 h2
    ) else (
      some (nI 0, h2)
    )
  )
theorem jX15_notsOf (x : CT) (a0 : Nat) (i1 : Int32) (h : AH) : J x qX15_notsOf ZI 0 [(0, rv (zx x) a0), (1, .int i1)] [] h (X15_notsOf_f a0 i1 h) := by
  unfold X15_notsOf_f
  refine J_iload_n 1 dX15_notsOf_0 rfl ?_
  refine J_bipush (v := nI 10) dX15_notsOf_1 rfl ?_
  refine J_icmp_lt (tgt := 24) dX15_notsOf_3 rfl ?_ ?_
  · exact (jX15_notsOf_B24 x a0 i1 h)
  · refine J_aload_n 0 dX15_notsOf_6 rv_is rfl ?_
    refine J_G (fun g1 => ?_)
    refine J_getI kc_15 25 (by decide) rfl rfl kw_6_235 dX15_notsOf_7 g1 ?_
    refine J_iload_n 1 dX15_notsOf_10 rfl ?_
    refine J_bipush (v := nI 10) dX15_notsOf_11 rfl ?_
    refine J_isub dX15_notsOf_13 ?_
    refine J.callS (n := 2) (As := [.int (xI h a0 25), .int (i1 - (nI 10))]) (ctX15_has (lx x) (wx x) (xI h a0 25) (i1 - (nI 10)) h) kw_8_177 kw_8_175 kw_8_176 kw_1_13 (by decide +kernel) rfl (by decide) (Nat.zero_le _) rfl dX15_notsOf_14 (fun v3 h2 => ?_)
    show J x _ _ 17 _ [.int v3] h2 _
    refine J_if_eq (tgt := 24) dX15_notsOf_17 rfl ?_ ?_
    · exact (jX15_notsOf_B24 x a0 i1 h2)
    · refine J_iconst (v := nI 0) dX15_notsOf_20 rfl ?_
      refine J_goto (tgt := 33) dX15_notsOf_21 rfl ?_
      exact J_iret dX15_notsOf_33
theorem ctX15_notsOf (l : Launch) (w : WT) (a0 : Nat) (i1 : Int32) (h : AH) : CM l w yX15_notsOf cX15_notsOf 2 (some .int) 1 21 KI [rv (w.1) a0, .int i1] h (X15_notsOf_f a0 i1 h) :=
  CM.of (by decide +kernel) (by simp [lg_sl, rv_cat, cat_I, cat_L, cat_S]) (lv := [(0, rv (w.1) a0), (1, .int i1)]) (by simp [lv_args, rv_cat, cat_I, cat_L, cat_S]) (fun x hx => by subst hx; exact jX15_notsOf x a0 i1 h)
-- FallTrialsModel.closed(II)I
abbrev qX15_closed : MT := (cX15_closed, RX15, "closed", (some .int), 1, 22, 6)
def X15_closed_B96 (k5 : (Nat → Int32 → Int32 → Int32 → AH → Option (Int32 × AH))) (a0 : Nat) (i2 : Int32) (i3 : Int32) (i4 : Int32) (h : AH) : Option (Int32 × AH) :=
  LT (i4 + nI 1) fun v1 =>
  k5 a0 i2 i3 v1 h
theorem jX15_closed_B96 (x : CT) (k5 : (Nat → Int32 → Int32 → Int32 → AH → Option (Int32 × AH))) (hk5 : ∀ (a0 : Nat) (i2 : Int32) (i3 : Int32) (i4 : Int32) (h : AH), J x qX15_closed ZI 5 [(0, rv (zx x) a0), (2, .int i2), (3, .int i3), (4, .int i4)] [] h (k5 a0 i2 i3 i4 h)) (a0 : Nat) (i2 : Int32) (i3 : Int32) (i4 : Int32) (h : AH) : J x qX15_closed ZI 96 [(0, rv (zx x) a0), (2, .int i2), (3, .int i3), (4, .int i4)] [] h (X15_closed_B96 k5 a0 i2 i3 i4 h) := by
  unfold X15_closed_B96
  refine J_iincL (u := i4 + nI 1) 3 dX15_closed_96 rfl rfl (by decide) (SD.a (lvr := [(0, rv (zx x) a0), (2, .int i2), (3, .int i3)]) [0, 1, 2] rfl rfl) (fun v1 => ?_)
  refine J_goto (tgt := 5) dX15_closed_99 rfl ?_
  exact J_sub [1, 2, 3, 0] rfl (hk5 a0 i2 i3 v1 h)
def X15_closed_B90 (k5 : (Nat → Int32 → Int32 → Int32 → AH → Option (Int32 × AH))) (k15 : (Nat → Int32 → Int32 → Int32 → Int32 → AH → Option (Int32 × AH))) (a0 : Nat) (i2 : Int32) (i3 : Int32) (i4 : Int32) (i5 : Int32) (h : AH) : Option (Int32 × AH) :=
  LT (i5 + nI 1) fun v1 =>
  k15 a0 i2 i3 i4 v1 h
theorem jX15_closed_B90 (x : CT) (k5 : (Nat → Int32 → Int32 → Int32 → AH → Option (Int32 × AH))) (hk5 : ∀ (a0 : Nat) (i2 : Int32) (i3 : Int32) (i4 : Int32) (h : AH), J x qX15_closed ZI 5 [(0, rv (zx x) a0), (2, .int i2), (3, .int i3), (4, .int i4)] [] h (k5 a0 i2 i3 i4 h)) (k15 : (Nat → Int32 → Int32 → Int32 → Int32 → AH → Option (Int32 × AH))) (hk15 : ∀ (a0 : Nat) (i2 : Int32) (i3 : Int32) (i4 : Int32) (i5 : Int32) (h : AH), J x qX15_closed ZI 15 [(0, rv (zx x) a0), (2, .int i2), (3, .int i3), (4, .int i4), (5, .int i5)] [] h (k15 a0 i2 i3 i4 i5 h)) (a0 : Nat) (i2 : Int32) (i3 : Int32) (i4 : Int32) (i5 : Int32) (h : AH) : J x qX15_closed ZI 90 [(0, rv (zx x) a0), (2, .int i2), (3, .int i3), (4, .int i4), (5, .int i5)] [] h (X15_closed_B90 k5 k15 a0 i2 i3 i4 i5 h) := by
  unfold X15_closed_B90
  refine J_iincL (u := i5 + nI 1) 4 dX15_closed_90 rfl rfl (by decide) (SD.a (lvr := [(0, rv (zx x) a0), (2, .int i2), (3, .int i3), (4, .int i4)]) [0, 1, 2, 3] rfl rfl) (fun v1 => ?_)
  refine J_goto (tgt := 15) dX15_closed_93 rfl ?_
  exact J_sub [1, 2, 3, 4, 0] rfl (hk15 a0 i2 i3 i4 v1 h)
def X15_closed_B15 (k5 : (Nat → Int32 → Int32 → Int32 → AH → Option (Int32 × AH))) : Nat → Nat → Int32 → Int32 → Int32 → Int32 → AH → Option (Int32 × AH)
  | 0, _, _, _, _, _, _ => none
  | n + 1, a0, i2, i3, i4, i5, h =>
    G (xc h a0 = 15) <|
    G (xc h (xR h a0 4) = 12) <|
    if (xI h (xR h a0 4) 5) ≤ i5 then (
      X15_closed_B96 k5 a0 i2 i3 i4 h
    ) else (
      G (xc h a0 = 15) <|
      G (xc h (xR h a0 4) = 12) <|
      G (xc h (xR h (xR h a0 4) 16) = 19) <|
      G (gx i5 (xz h (xR h (xR h a0 4) 16))) <|
      if (xI h (xR h (xR h a0 4) 16) i5.toNatClampNeg) = 0 then (
        X15_closed_B90 k5 (X15_closed_B15 k5 n) a0 i2 i3 i4 i5 h
      ) else (
        G (xc h a0 = 15) <|
        BN (X15_isOf_f a0 i5 i2 h) fun v9 h8 =>
        if v9 = 0 then (
          X15_closed_B90 k5 (X15_closed_B15 k5 n) a0 i2 i3 i4 i5 h8
        ) else (
          G (xc h8 a0 = 15) <|
          G (xc h8 (xR h8 a0 4) = 12) <|
          G (xc h8 (xR h8 (xR h8 a0 4) 20) = 16) <|
          G (gx i5 (xz h8 (xR h8 (xR h8 a0 4) 20))) <|
          G (gx i5 (xz h8 (xR h8 (xR h8 a0 4) 20))) <|
          if (i3 &&& (xI h8 (xR h8 (xR h8 a0 4) 20) i5.toNatClampNeg)) = (xI h8 (xR h8 (xR h8 a0 4) 20) i5.toNatClampNeg) then (
            G (xc h8 a0 = 15) <|
            G (xc h8 (xR h8 a0 4) = 12) <|
            G (xc h8 (xR h8 (xR h8 a0 4) 14) = 16) <|
            G (gx i5 (xz h8 (xR h8 (xR h8 a0 4) 14))) <|
            LT (i3 ||| ((nI 1) <<< ((xI h8 (xR h8 (xR h8 a0 4) 14) i5.toNatClampNeg) &&& 31))) fun v19 =>
            X15_closed_B90 k5 (X15_closed_B15 k5 n) a0 i2 v19 i4 i5 h8
          ) else (
            X15_closed_B90 k5 (X15_closed_B15 k5 n) a0 i2 i3 i4 i5 h8
          )
        )
      )
    )
theorem jX15_closed_B15 (x : CT) (k5 : (Nat → Int32 → Int32 → Int32 → AH → Option (Int32 × AH))) (hk5 : ∀ (a0 : Nat) (i2 : Int32) (i3 : Int32) (i4 : Int32) (h : AH), J x qX15_closed ZI 5 [(0, rv (zx x) a0), (2, .int i2), (3, .int i3), (4, .int i4)] [] h (k5 a0 i2 i3 i4 h)) : ∀ (n : Nat) (a0 : Nat) (i2 : Int32) (i3 : Int32) (i4 : Int32) (i5 : Int32) (h : AH), J x qX15_closed ZI 15 [(0, rv (zx x) a0), (2, .int i2), (3, .int i3), (4, .int i4), (5, .int i5)] [] h (X15_closed_B15 k5 n a0 i2 i3 i4 i5 h) := by
  intro n
  induction n with
  | zero => intro a0 i2 i3 i4 i5 h; exact J_none
  | succ n ih =>
    intro a0 i2 i3 i4 i5 h
    unfold X15_closed_B15
    refine J_iload 4 dX15_closed_15 rfl ?_
    refine J_aload_n 0 dX15_closed_17 rv_is rfl ?_
    refine J_G (fun g1 => ?_)
    refine J_getR kc_15 4 (by decide) rfl rfl kw_6_214 dX15_closed_18 g1 ?_
    refine J_G (fun g2 => ?_)
    refine J_getIN kc_12 5 (by decide) rfl rfl kn_29 dX15_closed_21 g2 ?_
    refine J_icmp_ge (tgt := 96) dX15_closed_24 rfl ?_ ?_
    · exact J_sub [0, 1, 2, 3] rfl (jX15_closed_B96 x k5 hk5 a0 i2 i3 i4 h)
    · refine J_aload_n 0 dX15_closed_27 rv_is rfl ?_
      refine J_G (fun g3 => ?_)
      refine J_getR kc_15 4 (by decide) rfl rfl kw_6_214 dX15_closed_28 g3 ?_
      refine J_G (fun g4 => ?_)
      refine J_getRN kc_12 16 (by decide) rfl rfl kn_40 dX15_closed_31 g4 ?_
      refine J_iload 4 dX15_closed_34 rfl ?_
      refine J_G (fun g5 => ?_)
      refine J_G (fun g6 => ?_)
      refine J_zald dX15_closed_36 g5 g6 ?_
      refine J_if_eq (tgt := 90) dX15_closed_37 rfl ?_ ?_
      · exact (jX15_closed_B90 x k5 hk5 (X15_closed_B15 k5 n) ih a0 i2 i3 i4 i5 h)
      · refine J_aload_n 0 dX15_closed_40 rv_is rfl ?_
        refine J_iload 4 dX15_closed_41 rfl ?_
        refine J_iload_n 1 dX15_closed_43 rfl ?_
        refine J_G (fun g7 => ?_)
        refine J.callV (n := 2) (As := [.int i5, .int i2]) kc_15 (ctX15_isOf (lx x) (wx x) a0 i5 i2 h) kw_8_189 kw_8_186 kw_8_188 kp_36 kw_1_13 (by decide +kernel) rfl (by decide) (Nat.zero_le _) rfl dX15_closed_44 g7 (fun v9 h8 => ?_)
        show J x _ _ 47 _ [.int v9] h8 _
        refine J_if_eq (tgt := 90) dX15_closed_47 rfl ?_ ?_
        · exact (jX15_closed_B90 x k5 hk5 (X15_closed_B15 k5 n) ih a0 i2 i3 i4 i5 h8)
        · refine J_iload_n 2 dX15_closed_50 rfl ?_
          refine J_aload_n 0 dX15_closed_51 rv_is rfl ?_
          refine J_G (fun g10 => ?_)
          refine J_getR kc_15 4 (by decide) rfl rfl kw_6_214 dX15_closed_52 g10 ?_
          refine J_G (fun g11 => ?_)
          refine J_getRN kc_12 20 (by decide) rfl rfl kn_44 dX15_closed_55 g11 ?_
          refine J_iload 4 dX15_closed_58 rfl ?_
          refine J_G (fun g12 => ?_)
          refine J_G (fun g13 => ?_)
          refine J_iald dX15_closed_60 g12 g13 ?_
          refine J_iand dX15_closed_61 ?_
          refine J_aload_n 0 dX15_closed_62 rv_is rfl ?_
          refine J_getR kc_15 4 (by decide) rfl rfl kw_6_214 dX15_closed_63 g10 ?_
          refine J_getRN kc_12 20 (by decide) rfl rfl kn_44 dX15_closed_66 g11 ?_
          refine J_iload 4 dX15_closed_69 rfl ?_
          refine J_G (fun g14 => ?_)
          refine J_iald dX15_closed_71 g12 g14 ?_
          refine J_icmp_ne (tgt := 90) dX15_closed_72 rfl ?_ ?_
          · exact (jX15_closed_B90 x k5 hk5 (X15_closed_B15 k5 n) ih a0 i2 i3 i4 i5 h8)
          · refine J_iload_n 2 dX15_closed_75 rfl ?_
            refine J_iconst (v := nI 1) dX15_closed_76 rfl ?_
            refine J_aload_n 0 dX15_closed_77 rv_is rfl ?_
            refine J_G (fun g15 => ?_)
            refine J_getR kc_15 4 (by decide) rfl rfl kw_6_214 dX15_closed_78 g15 ?_
            refine J_G (fun g16 => ?_)
            refine J_getRN kc_12 14 (by decide) rfl rfl kn_38 dX15_closed_81 g16 ?_
            refine J_iload 4 dX15_closed_84 rfl ?_
            refine J_G (fun g17 => ?_)
            refine J_G (fun g18 => ?_)
            refine J_iald dX15_closed_86 g17 g18 ?_
            refine J_ishl dX15_closed_87 ?_
            refine J_ior dX15_closed_88 ?_
            refine J_LTi (fun v19 => ?_)
            refine J_istore_n dX15_closed_89 (by decide) (SD.a (lvr := [(0, rv (zx x) a0), (2, .int i2), (4, .int i4), (5, .int i5)]) [0, 1, 3, 4] rfl rfl) ?_
            exact J_sub [1, 2, 0, 3, 4] rfl (jX15_closed_B90 x k5 hk5 (X15_closed_B15 k5 n) ih a0 i2 v19 i4 i5 h8)
def X15_closed_B5 : Nat → Nat → Int32 → Int32 → Int32 → AH → Option (Int32 × AH)
  | 0, _, _, _, _, _ => none
  | n + 1, a0, i2, i3, i4, h =>
    if (nI 10) ≤ i4 then (
      some (i3, h)
    ) else (
      X15_closed_B15 (X15_closed_B5 n) FU a0 i2 i3 i4 (nI 0) h
    )
theorem jX15_closed_B5 (x : CT) : ∀ (n : Nat) (a0 : Nat) (i2 : Int32) (i3 : Int32) (i4 : Int32) (h : AH), J x qX15_closed ZI 5 [(0, rv (zx x) a0), (2, .int i2), (3, .int i3), (4, .int i4)] [] h (X15_closed_B5 n a0 i2 i3 i4 h) := by
  intro n
  induction n with
  | zero => intro a0 i2 i3 i4 h; exact J_none
  | succ n ih =>
    intro a0 i2 i3 i4 h
    unfold X15_closed_B5
    refine J_iload 3 dX15_closed_5 rfl ?_
    refine J_bipush (v := nI 10) dX15_closed_7 rfl ?_
    refine J_icmp_ge (tgt := 102) dX15_closed_9 rfl ?_ ?_
    · refine J_iload_n 2 dX15_closed_102 rfl ?_
      exact J_iret dX15_closed_103
    · refine J_iconst (v := nI 0) dX15_closed_12 rfl ?_
      refine J_istore dX15_closed_13 (by decide) (SD.a (lvr := [(0, rv (zx x) a0), (2, .int i2), (3, .int i3), (4, .int i4)]) [0, 1, 2, 3] rfl rfl) ?_
      exact J_sub [1, 2, 3, 4, 0] rfl (jX15_closed_B15 x (X15_closed_B5 n) ih FU a0 i2 i3 i4 (nI 0) h)
def X15_closed_f (a0 : Nat) (i1 : Int32) (i2 : Int32) (h : AH) : Option (Int32 × AH) :=
  X15_closed_B5 FU a0 i2 i1 (nI 0) h
theorem jX15_closed (x : CT) (a0 : Nat) (i1 : Int32) (i2 : Int32) (h : AH) : J x qX15_closed ZI 0 [(0, rv (zx x) a0), (1, .int i1), (2, .int i2)] [] h (X15_closed_f a0 i1 i2 h) := by
  unfold X15_closed_f
  refine J_iload_n 1 dX15_closed_0 rfl ?_
  refine J_istore_n dX15_closed_1 (by decide) (SD.a (lvr := [(0, rv (zx x) a0), (2, .int i2)]) [0, 2] rfl rfl) ?_
  refine J_iconst (v := nI 0) dX15_closed_2 rfl ?_
  refine J_istore dX15_closed_3 (by decide) (SD.a (lvr := [(3, .int i1), (0, rv (zx x) a0), (2, .int i2)]) [0, 1, 2] rfl rfl) ?_
  exact J_sub [2, 3, 1, 0] rfl (jX15_closed_B5 x FU a0 i2 i1 (nI 0) h)
theorem ctX15_closed (l : Launch) (w : WT) (a0 : Nat) (i1 : Int32) (i2 : Int32) (h : AH) : CM l w yX15_closed cX15_closed 6 (some .int) 1 22 KI [rv (w.1) a0, .int i1, .int i2] h (X15_closed_f a0 i1 i2 h) :=
  CM.of (by decide +kernel) (by simp [lg_sl, rv_cat, cat_I, cat_L, cat_S]) (lv := [(0, rv (w.1) a0), (1, .int i1), (2, .int i2)]) (by simp [lv_args, rv_cat, cat_I, cat_L, cat_S]) (fun x hx => by subst hx; exact jX15_closed x a0 i1 i2 h)
-- FallTrialsModel.isThere(IIII)Z
abbrev qX15_isThere : MT := (cX15_isThere, RX15, "isThere", (some .boolean), 1, 23, 5)
def X15_isThere_f (a0 : Nat) (i1 : Int32) (i2 : Int32) (i3 : Int32) (i4 : Int32) (h : AH) : Option (Int32 × AH) :=
  G (xc h a0 = 15) <|
  BN (X15_rowsAt_f a0 i1 i4 i3 h) fun v3 h2 =>
  BN (X15_has_f v3 i2 h2) fun v5 h4 =>
  G (bz v5) <|
  some (v5, h4)
theorem jX15_isThere (x : CT) (a0 : Nat) (i1 : Int32) (i2 : Int32) (i3 : Int32) (i4 : Int32) (h : AH) : J x qX15_isThere ZI 0 [(0, rv (zx x) a0), (1, .int i1), (2, .int i2), (3, .int i3), (4, .int i4)] [] h (X15_isThere_f a0 i1 i2 i3 i4 h) := by
  unfold X15_isThere_f
  refine J_aload_n 0 dX15_isThere_0 rv_is rfl ?_
  refine J_iload_n 1 dX15_isThere_1 rfl ?_
  refine J_iload 4 dX15_isThere_2 rfl ?_
  refine J_iload_n 3 dX15_isThere_4 rfl ?_
  refine J_G (fun g1 => ?_)
  refine J.callV (n := 3) (As := [.int i1, .int i4, .int i3]) kc_15 (ctX15_rowsAt (lx x) (wx x) a0 i1 i4 i3 h) kw_8_185 kw_8_182 kw_8_184 kp_35 kw_1_13 (by decide +kernel) rfl (by decide) (Nat.zero_le _) rfl dX15_isThere_5 g1 (fun v3 h2 => ?_)
  show J x _ _ 8 _ [.int v3] h2 _
  refine J_iload_n 2 dX15_isThere_8 rfl ?_
  refine J.callS (n := 2) (As := [.int v3, .int i2]) (ctX15_has (lx x) (wx x) v3 i2 h2) kw_8_177 kw_8_175 kw_8_176 kw_1_13 (by decide +kernel) rfl (by decide) (Nat.zero_le _) rfl dX15_isThere_9 (fun v5 h4 => ?_)
  show J x _ _ 12 _ [.int v5] h4 _
  refine J_G (fun g6 => ?_)
  exact J_zret dX15_isThere_12 g6
theorem ctX15_isThere (l : Launch) (w : WT) (a0 : Nat) (i1 : Int32) (i2 : Int32) (i3 : Int32) (i4 : Int32) (h : AH) : CM l w yX15_isThere cX15_isThere 5 (some .boolean) 1 23 KI [rv (w.1) a0, .int i1, .int i2, .int i3, .int i4] h (X15_isThere_f a0 i1 i2 i3 i4 h) :=
  CM.of (by decide +kernel) (by simp [lg_sl, rv_cat, cat_I, cat_L, cat_S]) (lv := [(0, rv (w.1) a0), (1, .int i1), (2, .int i2), (3, .int i3), (4, .int i4)]) (by simp [lv_args, rv_cat, cat_I, cat_L, cat_S]) (fun x hx => by subst hx; exact jX15_isThere x a0 i1 i2 i3 i4 h)
-- FallTrialsModel.isRow(I)Z
abbrev qX15_isRow : MT := (cX15_isRow, RX15, "isRow", (some .boolean), 0, 0, 2)
def X15_isRow_f (a0 : Nat) (i1 : Int32) (h : AH) : Option (Int32 × AH) :=
  G (xc h a0 = 15) <|
  if (xR h a0 4) = 0 then (
    some (nI 0, h)
  ) else (
    if i1 < 0 then (
      some (nI 0, h)
    ) else (
      G (xc h a0 = 15) <|
      G (xc h (xR h a0 4) = 12) <|
      if (xI h (xR h a0 4) 2) ≤ i1 then (
        some (nI 0, h)
      ) else (
        some (nI 1, h)
      )
    )
  )
theorem jX15_isRow (x : CT) (a0 : Nat) (i1 : Int32) (h : AH) : J x qX15_isRow ZI 0 [(0, rv (zx x) a0), (1, .int i1)] [] h (X15_isRow_f a0 i1 h) := by
  unfold X15_isRow_f
  refine J_aload_n 0 dX15_isRow_0 rv_is rfl ?_
  refine J_G (fun g1 => ?_)
  refine J_getR kc_15 4 (by decide) rfl rfl kw_6_214 dX15_isRow_1 g1 ?_
  refine J_ifnull (tgt := 26) dX15_isRow_4 rfl ?_ ?_
  · refine J_iconst (v := nI 0) dX15_isRow_26 rfl ?_
    exact J_zret dX15_isRow_27 (by decide)
  · refine J_iload_n 1 dX15_isRow_7 rfl ?_
    refine J_if_lt (tgt := 26) dX15_isRow_8 rfl ?_ ?_
    · refine J_iconst (v := nI 0) dX15_isRow_26 rfl ?_
      exact J_zret dX15_isRow_27 (by decide)
    · refine J_iload_n 1 dX15_isRow_11 rfl ?_
      refine J_aload_n 0 dX15_isRow_12 rv_is rfl ?_
      refine J_G (fun g2 => ?_)
      refine J_getR kc_15 4 (by decide) rfl rfl kw_6_214 dX15_isRow_13 g2 ?_
      refine J_G (fun g3 => ?_)
      refine J_getIN kc_12 2 (by decide) rfl rfl kn_26 dX15_isRow_16 g3 ?_
      refine J_icmp_ge (tgt := 26) dX15_isRow_19 rfl ?_ ?_
      · refine J_iconst (v := nI 0) dX15_isRow_26 rfl ?_
        exact J_zret dX15_isRow_27 (by decide)
      · refine J_iconst (v := nI 1) dX15_isRow_22 rfl ?_
        refine J_goto (tgt := 27) dX15_isRow_23 rfl ?_
        exact J_zret dX15_isRow_27 (by decide)
theorem ctX15_isRow (l : Launch) (w : WT) (a0 : Nat) (i1 : Int32) (h : AH) : CM l w yX15_isRow cX15_isRow 2 (some .boolean) 0 0 KI [rv (w.1) a0, .int i1] h (X15_isRow_f a0 i1 h) :=
  CM.of (by decide +kernel) (by simp [lg_sl, rv_cat, cat_I, cat_L, cat_S]) (lv := [(0, rv (w.1) a0), (1, .int i1)]) (by simp [lv_args, rv_cat, cat_I, cat_L, cat_S]) (fun x hx => by subst hx; exact jX15_isRow x a0 i1 h)
-- FallTrialsModel.isMachine(I)Z
abbrev qX15_isMachine : MT := (cX15_isMachine, RX15, "isMachine", (some .boolean), 0, 0, 2)
def X15_isMachine_f (a0 : Nat) (i1 : Int32) (h : AH) : Option (Int32 × AH) :=
  G (xc h a0 = 15) <|
  if (xR h a0 4) = 0 then (
    some (nI 0, h)
  ) else (
    if i1 < 0 then (
      some (nI 0, h)
    ) else (
      G (xc h a0 = 15) <|
      G (xc h (xR h a0 4) = 12) <|
      if (xI h (xR h a0 4) 1) ≤ i1 then (
        some (nI 0, h)
      ) else (
        some (nI 1, h)
      )
    )
  )
theorem jX15_isMachine (x : CT) (a0 : Nat) (i1 : Int32) (h : AH) : J x qX15_isMachine ZI 0 [(0, rv (zx x) a0), (1, .int i1)] [] h (X15_isMachine_f a0 i1 h) := by
  unfold X15_isMachine_f
  refine J_aload_n 0 dX15_isMachine_0 rv_is rfl ?_
  refine J_G (fun g1 => ?_)
  refine J_getR kc_15 4 (by decide) rfl rfl kw_6_214 dX15_isMachine_1 g1 ?_
  refine J_ifnull (tgt := 26) dX15_isMachine_4 rfl ?_ ?_
  · refine J_iconst (v := nI 0) dX15_isMachine_26 rfl ?_
    exact J_zret dX15_isMachine_27 (by decide)
  · refine J_iload_n 1 dX15_isMachine_7 rfl ?_
    refine J_if_lt (tgt := 26) dX15_isMachine_8 rfl ?_ ?_
    · refine J_iconst (v := nI 0) dX15_isMachine_26 rfl ?_
      exact J_zret dX15_isMachine_27 (by decide)
    · refine J_iload_n 1 dX15_isMachine_11 rfl ?_
      refine J_aload_n 0 dX15_isMachine_12 rv_is rfl ?_
      refine J_G (fun g2 => ?_)
      refine J_getR kc_15 4 (by decide) rfl rfl kw_6_214 dX15_isMachine_13 g2 ?_
      refine J_G (fun g3 => ?_)
      refine J_getIN kc_12 1 (by decide) rfl rfl kn_25 dX15_isMachine_16 g3 ?_
      refine J_icmp_ge (tgt := 26) dX15_isMachine_19 rfl ?_ ?_
      · refine J_iconst (v := nI 0) dX15_isMachine_26 rfl ?_
        exact J_zret dX15_isMachine_27 (by decide)
      · refine J_iconst (v := nI 1) dX15_isMachine_22 rfl ?_
        refine J_goto (tgt := 27) dX15_isMachine_23 rfl ?_
        exact J_zret dX15_isMachine_27 (by decide)
theorem ctX15_isMachine (l : Launch) (w : WT) (a0 : Nat) (i1 : Int32) (h : AH) : CM l w yX15_isMachine cX15_isMachine 2 (some .boolean) 0 0 KI [rv (w.1) a0, .int i1] h (X15_isMachine_f a0 i1 h) :=
  CM.of (by decide +kernel) (by simp [lg_sl, rv_cat, cat_I, cat_L, cat_S]) (lv := [(0, rv (w.1) a0), (1, .int i1)]) (by simp [lv_args, rv_cat, cat_I, cat_L, cat_S]) (fun x hx => by subst hx; exact jX15_isMachine x a0 i1 h)
-- FallTrialsModel.tells(I)V
abbrev qX15_tells : MT := (cX15_tells, RX15, "tells", none, 0, 0, 2)
def X15_tells_f (a0 : Nat) (i1 : Int32) (h : AH) : Option (Unit × AH) :=
  G (xc h a0 = 15) <|
  G (xc h (xR h a0 34) = 16) <|
  G (gx (xI h a0 33) (xz h (xR h a0 34))) <|
  LT (pI h (xR h a0 34) (xI h a0 33).toNatClampNeg i1) fun h4 =>
  G (xc h4 a0 = 15) <|
  LT (pI h4 a0 33 ((xI h4 a0 33) + (nI 1))) fun h6 =>
  some ((), h6)
theorem jX15_tells (x : CT) (a0 : Nat) (i1 : Int32) (h : AH) : J x qX15_tells ZV 0 [(0, rv (zx x) a0), (1, .int i1)] [] h (X15_tells_f a0 i1 h) := by
  unfold X15_tells_f
  refine J_aload_n 0 dX15_tells_0 rv_is rfl ?_
  refine J_G (fun g1 => ?_)
  refine J_getR kc_15 34 (by decide) rfl rfl kw_7_4 dX15_tells_1 g1 ?_
  refine J_aload_n 0 dX15_tells_4 rv_is rfl ?_
  refine J_getI kc_15 33 (by decide) rfl rfl kw_7_3 dX15_tells_5 g1 ?_
  refine J_iload_n 1 dX15_tells_8 rfl ?_
  refine J_G (fun g2 => ?_)
  refine J_G (fun g3 => ?_)
  refine J_iast dX15_tells_9 g2 g3 ?_
  refine J_LTh (fun h4 => ?_)
  refine J_aload_n 0 dX15_tells_10 rv_is rfl ?_
  refine J_dup dX15_tells_11 rv_cat ?_
  refine J_G (fun g5 => ?_)
  refine J_getI kc_15 33 (by decide) rfl rfl kw_7_3 dX15_tells_12 g5 ?_
  refine J_iconst (v := nI 1) dX15_tells_15 rfl ?_
  refine J_iadd dX15_tells_16 ?_
  refine J_putI kc_15 33 (by decide) rfl rfl rfl rfl (Or.inl rfl) kw_7_3 dX15_tells_17 g5 ?_
  refine J_LTh (fun h6 => ?_)
  exact J_vret dX15_tells_20
theorem ctX15_tells (l : Launch) (w : WT) (a0 : Nat) (i1 : Int32) (h : AH) : CM l w yX15_tells cX15_tells 2 none 0 0 KV [rv (w.1) a0, .int i1] h (X15_tells_f a0 i1 h) :=
  CM.of (by decide +kernel) (by simp [lg_sl, rv_cat, cat_I, cat_L, cat_S]) (lv := [(0, rv (w.1) a0), (1, .int i1)]) (by simp [lv_args, rv_cat, cat_I, cat_L, cat_S]) (fun x hx => by subst hx; exact jX15_tells x a0 i1 h)
-- FallTrialsModel.isSend(I)Z
abbrev qX15_isSend : MT := (cX15_isSend, RX15, "isSend", (some .boolean), 0, 0, 2)
def X15_isSend_f (a0 : Nat) (i1 : Int32) (h : AH) : Option (Int32 × AH) :=
  G (xc h a0 = 15) <|
  if (xR h a0 4) = 0 then (
    some (nI 0, h)
  ) else (
    if i1 < 0 then (
      some (nI 0, h)
    ) else (
      G (xc h a0 = 15) <|
      G (xc h (xR h a0 4) = 12) <|
      if (xI h (xR h a0 4) 6) ≤ i1 then (
        some (nI 0, h)
      ) else (
        some (nI 1, h)
      )
    )
  )
theorem jX15_isSend (x : CT) (a0 : Nat) (i1 : Int32) (h : AH) : J x qX15_isSend ZI 0 [(0, rv (zx x) a0), (1, .int i1)] [] h (X15_isSend_f a0 i1 h) := by
  unfold X15_isSend_f
  refine J_aload_n 0 dX15_isSend_0 rv_is rfl ?_
  refine J_G (fun g1 => ?_)
  refine J_getR kc_15 4 (by decide) rfl rfl kw_6_214 dX15_isSend_1 g1 ?_
  refine J_ifnull (tgt := 26) dX15_isSend_4 rfl ?_ ?_
  · refine J_iconst (v := nI 0) dX15_isSend_26 rfl ?_
    exact J_zret dX15_isSend_27 (by decide)
  · refine J_iload_n 1 dX15_isSend_7 rfl ?_
    refine J_if_lt (tgt := 26) dX15_isSend_8 rfl ?_ ?_
    · refine J_iconst (v := nI 0) dX15_isSend_26 rfl ?_
      exact J_zret dX15_isSend_27 (by decide)
    · refine J_iload_n 1 dX15_isSend_11 rfl ?_
      refine J_aload_n 0 dX15_isSend_12 rv_is rfl ?_
      refine J_G (fun g2 => ?_)
      refine J_getR kc_15 4 (by decide) rfl rfl kw_6_214 dX15_isSend_13 g2 ?_
      refine J_G (fun g3 => ?_)
      refine J_getIN kc_12 6 (by decide) rfl rfl kn_30 dX15_isSend_16 g3 ?_
      refine J_icmp_ge (tgt := 26) dX15_isSend_19 rfl ?_ ?_
      · refine J_iconst (v := nI 0) dX15_isSend_26 rfl ?_
        exact J_zret dX15_isSend_27 (by decide)
      · refine J_iconst (v := nI 1) dX15_isSend_22 rfl ?_
        refine J_goto (tgt := 27) dX15_isSend_23 rfl ?_
        exact J_zret dX15_isSend_27 (by decide)
theorem ctX15_isSend (l : Launch) (w : WT) (a0 : Nat) (i1 : Int32) (h : AH) : CM l w yX15_isSend cX15_isSend 2 (some .boolean) 0 0 KI [rv (w.1) a0, .int i1] h (X15_isSend_f a0 i1 h) :=
  CM.of (by decide +kernel) (by simp [lg_sl, rv_cat, cat_I, cat_L, cat_S]) (lv := [(0, rv (w.1) a0), (1, .int i1)]) (by simp [lv_args, rv_cat, cat_I, cat_L, cat_S]) (fun x hx => by subst hx; exact jX15_isSend x a0 i1 h)
-- FallTrialsModel.isStanding(III)Z
abbrev qX15_isStanding : MT := (cX15_isStanding, RX15, "isStanding", (some .boolean), 0, 0, 4)
def X15_isStanding_f (a0 : Nat) (i1 : Int32) (i2 : Int32) (i3 : Int32) (h : AH) : Option (Int32 × AH) :=
  G (xc h a0 = 15) <|
  G (xc h (xR h a0 35) = 16) <|
  G (gx (((nI 4) * i2) + i3) (xz h (xR h a0 35))) <|
  G (xc h (xR h a0 4) = 12) <|
  G (xc h (xR h (xR h a0 4) 20) = 16) <|
  G (gx i1 (xz h (xR h (xR h a0 4) 20))) <|
  G (gx i1 (xz h (xR h (xR h a0 4) 20))) <|
  if ((xI h (xR h a0 35) (((nI 4) * i2) + i3).toNatClampNeg) &&& (xI h (xR h (xR h a0 4) 20) i1.toNatClampNeg)) = (xI h (xR h (xR h a0 4) 20) i1.toNatClampNeg) then (
    some (nI 1, h)
  ) else (
    some (nI 0, h)
  )
theorem jX15_isStanding (x : CT) (a0 : Nat) (i1 : Int32) (i2 : Int32) (i3 : Int32) (h : AH) : J x qX15_isStanding ZI 0 [(0, rv (zx x) a0), (1, .int i1), (2, .int i2), (3, .int i3)] [] h (X15_isStanding_f a0 i1 i2 i3 h) := by
  unfold X15_isStanding_f
  refine J_aload_n 0 dX15_isStanding_0 rv_is rfl ?_
  refine J_G (fun g1 => ?_)
  refine J_getR kc_15 35 (by decide) rfl rfl kw_7_5 dX15_isStanding_1 g1 ?_
  refine J_iconst (v := nI 4) dX15_isStanding_4 rfl ?_
  refine J_iload_n 2 dX15_isStanding_5 rfl ?_
  refine J_imul dX15_isStanding_6 ?_
  refine J_iload_n 3 dX15_isStanding_7 rfl ?_
  refine J_iadd dX15_isStanding_8 ?_
  refine J_G (fun g2 => ?_)
  refine J_G (fun g3 => ?_)
  refine J_iald dX15_isStanding_9 g2 g3 ?_
  refine J_aload_n 0 dX15_isStanding_10 rv_is rfl ?_
  refine J_getR kc_15 4 (by decide) rfl rfl kw_6_214 dX15_isStanding_11 g1 ?_
  refine J_G (fun g4 => ?_)
  refine J_getRN kc_12 20 (by decide) rfl rfl kn_44 dX15_isStanding_14 g4 ?_
  refine J_iload_n 1 dX15_isStanding_17 rfl ?_
  refine J_G (fun g5 => ?_)
  refine J_G (fun g6 => ?_)
  refine J_iald dX15_isStanding_18 g5 g6 ?_
  refine J_iand dX15_isStanding_19 ?_
  refine J_aload_n 0 dX15_isStanding_20 rv_is rfl ?_
  refine J_getR kc_15 4 (by decide) rfl rfl kw_6_214 dX15_isStanding_21 g1 ?_
  refine J_getRN kc_12 20 (by decide) rfl rfl kn_44 dX15_isStanding_24 g4 ?_
  refine J_iload_n 1 dX15_isStanding_27 rfl ?_
  refine J_G (fun g7 => ?_)
  refine J_iald dX15_isStanding_28 g5 g7 ?_
  refine J_icmp_ne (tgt := 36) dX15_isStanding_29 rfl ?_ ?_
  · refine J_iconst (v := nI 0) dX15_isStanding_36 rfl ?_
    exact J_zret dX15_isStanding_37 (by decide)
  · refine J_iconst (v := nI 1) dX15_isStanding_32 rfl ?_
    refine J_goto (tgt := 37) dX15_isStanding_33 rfl ?_
    exact J_zret dX15_isStanding_37 (by decide)
theorem ctX15_isStanding (l : Launch) (w : WT) (a0 : Nat) (i1 : Int32) (i2 : Int32) (i3 : Int32) (h : AH) : CM l w yX15_isStanding cX15_isStanding 4 (some .boolean) 0 0 KI [rv (w.1) a0, .int i1, .int i2, .int i3] h (X15_isStanding_f a0 i1 i2 i3 h) :=
  CM.of (by decide +kernel) (by simp [lg_sl, rv_cat, cat_I, cat_L, cat_S]) (lv := [(0, rv (w.1) a0), (1, .int i1), (2, .int i2), (3, .int i3)]) (by simp [lv_args, rv_cat, cat_I, cat_L, cat_S]) (fun x hx => by subst hx; exact jX15_isStanding x a0 i1 i2 i3 h)
-- FallTrialsModel.allFalls()V
abbrev qX15_allFalls : MT := (cX15_allFalls, RX15, "allFalls", none, 1, 21, 4)
def X15_allFalls_B84 (k7 : (Nat → Int32 → AH → Option (Unit × AH))) (a0 : Nat) (i1 : Int32) (h : AH) : Option (Unit × AH) :=
  LT (i1 + nI 1) fun v1 =>
  k7 a0 v1 h
theorem jX15_allFalls_B84 (x : CT) (k7 : (Nat → Int32 → AH → Option (Unit × AH))) (hk7 : ∀ (a0 : Nat) (i1 : Int32) (h : AH), J x qX15_allFalls ZV 7 [(0, rv (zx x) a0), (1, .int i1)] [] h (k7 a0 i1 h)) (a0 : Nat) (i1 : Int32) (h : AH) : J x qX15_allFalls ZV 84 [(0, rv (zx x) a0), (1, .int i1)] [] h (X15_allFalls_B84 k7 a0 i1 h) := by
  unfold X15_allFalls_B84
  refine J_iincL (u := i1 + nI 1) 1 dX15_allFalls_84 rfl rfl (by decide) (SD.c (lvr := [(0, rv (zx x) a0)]) [0] rfl rfl 0 rfl rfl rv_cat) (fun v1 => ?_)
  refine J_goto (tgt := 7) dX15_allFalls_87 rfl ?_
  exact J_sub [1, 0] rfl (hk7 a0 v1 h)
def X15_allFalls_B78 (k7 : (Nat → Int32 → AH → Option (Unit × AH))) (k14 : (Nat → Int32 → Int32 → AH → Option (Unit × AH))) (a0 : Nat) (i1 : Int32) (i2 : Int32) (h : AH) : Option (Unit × AH) :=
  LT (i2 + nI 1) fun v1 =>
  k14 a0 i1 v1 h
theorem jX15_allFalls_B78 (x : CT) (k7 : (Nat → Int32 → AH → Option (Unit × AH))) (hk7 : ∀ (a0 : Nat) (i1 : Int32) (h : AH), J x qX15_allFalls ZV 7 [(0, rv (zx x) a0), (1, .int i1)] [] h (k7 a0 i1 h)) (k14 : (Nat → Int32 → Int32 → AH → Option (Unit × AH))) (hk14 : ∀ (a0 : Nat) (i1 : Int32) (i2 : Int32) (h : AH), J x qX15_allFalls ZV 14 [(0, rv (zx x) a0), (1, .int i1), (2, .int i2)] [] h (k14 a0 i1 i2 h)) (a0 : Nat) (i1 : Int32) (i2 : Int32) (h : AH) : J x qX15_allFalls ZV 78 [(0, rv (zx x) a0), (1, .int i1), (2, .int i2)] [] h (X15_allFalls_B78 k7 k14 a0 i1 i2 h) := by
  unfold X15_allFalls_B78
  refine J_iincL (u := i2 + nI 1) 2 dX15_allFalls_78 rfl rfl (by decide) (SD.a (lvr := [(0, rv (zx x) a0), (1, .int i1)]) [0, 1] rfl rfl) (fun v1 => ?_)
  refine J_goto (tgt := 14) dX15_allFalls_81 rfl ?_
  exact J_sub [1, 2, 0] rfl (hk14 a0 i1 v1 h)
def X15_allFalls_B34 (k7 : (Nat → Int32 → AH → Option (Unit × AH))) (k14 : (Nat → Int32 → Int32 → AH → Option (Unit × AH))) : Nat → Nat → Int32 → Int32 → Int32 → AH → Option (Unit × AH)
  | 0, _, _, _, _, _ => none
  | n + 1, a0, i1, i2, i3, h =>
    G (xc h a0 = 15) <|
    if (xI h a0 14) ≤ i3 then (
      X15_allFalls_B78 k7 k14 a0 i1 i2 h
    ) else (
      G (xc h a0 = 15) <|
      G (xc h (xR h a0 37) = 16) <|
      G (gx (xI h a0 36) (xz h (xR h a0 37))) <|
      LT (pI h (xR h a0 37) (xI h a0 36).toNatClampNeg ((((nI 100) * i1) + ((nI 10) * i2)) + i3)) fun h5 =>
      G (xc h5 a0 = 15) <|
      LT (pI h5 a0 36 ((xI h5 a0 36) + (nI 1))) fun h7 =>
      LT (i3 + nI 1) fun v8 =>
      X15_allFalls_B34 k7 k14 n a0 i1 i2 v8 h7
    )
theorem jX15_allFalls_B34 (x : CT) (k7 : (Nat → Int32 → AH → Option (Unit × AH))) (hk7 : ∀ (a0 : Nat) (i1 : Int32) (h : AH), J x qX15_allFalls ZV 7 [(0, rv (zx x) a0), (1, .int i1)] [] h (k7 a0 i1 h)) (k14 : (Nat → Int32 → Int32 → AH → Option (Unit × AH))) (hk14 : ∀ (a0 : Nat) (i1 : Int32) (i2 : Int32) (h : AH), J x qX15_allFalls ZV 14 [(0, rv (zx x) a0), (1, .int i1), (2, .int i2)] [] h (k14 a0 i1 i2 h)) : ∀ (n : Nat) (a0 : Nat) (i1 : Int32) (i2 : Int32) (i3 : Int32) (h : AH), J x qX15_allFalls ZV 34 [(0, rv (zx x) a0), (1, .int i1), (2, .int i2), (3, .int i3)] [] h (X15_allFalls_B34 k7 k14 n a0 i1 i2 i3 h) := by
  intro n
  induction n with
  | zero => intro a0 i1 i2 i3 h; exact J_none
  | succ n ih =>
    intro a0 i1 i2 i3 h
    unfold X15_allFalls_B34
    refine J_iload_n 3 dX15_allFalls_34 rfl ?_
    refine J_aload_n 0 dX15_allFalls_35 rv_is rfl ?_
    refine J_G (fun g1 => ?_)
    refine J_getI kc_15 14 (by decide) rfl rfl kw_6_224 dX15_allFalls_36 g1 ?_
    refine J_icmp_ge (tgt := 78) dX15_allFalls_39 rfl ?_ ?_
    · exact J_sub [0, 1, 2] rfl (jX15_allFalls_B78 x k7 hk7 k14 hk14 a0 i1 i2 h)
    · refine J_aload_n 0 dX15_allFalls_42 rv_is rfl ?_
      refine J_G (fun g2 => ?_)
      refine J_getR kc_15 37 (by decide) rfl rfl kw_7_7 dX15_allFalls_43 g2 ?_
      refine J_aload_n 0 dX15_allFalls_46 rv_is rfl ?_
      refine J_getI kc_15 36 (by decide) rfl rfl kw_7_6 dX15_allFalls_47 g2 ?_
      refine J_bipush (v := nI 100) dX15_allFalls_50 rfl ?_
      refine J_iload_n 1 dX15_allFalls_52 rfl ?_
      refine J_imul dX15_allFalls_53 ?_
      refine J_bipush (v := nI 10) dX15_allFalls_54 rfl ?_
      refine J_iload_n 2 dX15_allFalls_56 rfl ?_
      refine J_imul dX15_allFalls_57 ?_
      refine J_iadd dX15_allFalls_58 ?_
      refine J_iload_n 3 dX15_allFalls_59 rfl ?_
      refine J_iadd dX15_allFalls_60 ?_
      refine J_G (fun g3 => ?_)
      refine J_G (fun g4 => ?_)
      refine J_iast dX15_allFalls_61 g3 g4 ?_
      refine J_LTh (fun h5 => ?_)
      refine J_aload_n 0 dX15_allFalls_62 rv_is rfl ?_
      refine J_dup dX15_allFalls_63 rv_cat ?_
      refine J_G (fun g6 => ?_)
      refine J_getI kc_15 36 (by decide) rfl rfl kw_7_6 dX15_allFalls_64 g6 ?_
      refine J_iconst (v := nI 1) dX15_allFalls_67 rfl ?_
      refine J_iadd dX15_allFalls_68 ?_
      refine J_putI kc_15 36 (by decide) rfl rfl rfl rfl (Or.inl rfl) kw_7_6 dX15_allFalls_69 g6 ?_
      refine J_LTh (fun h7 => ?_)
      refine J_iincL (u := i3 + nI 1) 3 dX15_allFalls_72 rfl rfl (by decide) (SD.a (lvr := [(0, rv (zx x) a0), (1, .int i1), (2, .int i2)]) [0, 1, 2] rfl rfl) (fun v8 => ?_)
      refine J_goto (tgt := 34) dX15_allFalls_75 rfl ?_
      exact J_sub [1, 2, 3, 0] rfl (ih a0 i1 i2 v8 h7)
def X15_allFalls_B14 (k7 : (Nat → Int32 → AH → Option (Unit × AH))) : Nat → Nat → Int32 → Int32 → AH → Option (Unit × AH)
  | 0, _, _, _, _ => none
  | n + 1, a0, i1, i2, h =>
    G (xc h a0 = 15) <|
    BN (X15_things_f a0 i1 h) fun v3 h2 =>
    if v3 ≤ i2 then (
      X15_allFalls_B84 k7 a0 i1 h2
    ) else (
      G (xc h2 a0 = 15) <|
      G (xc h2 (xR h2 a0 19) = 16) <|
      G (gx i1 (xz h2 (xR h2 a0 19))) <|
      if (xI h2 (xR h2 a0 19) i1.toNatClampNeg) ≤ 0 then (
        X15_allFalls_B84 k7 a0 i1 h2
      ) else (
        X15_allFalls_B34 k7 (X15_allFalls_B14 k7 n) FU a0 i1 i2 (nI 0) h2
      )
    )
theorem jX15_allFalls_B14 (x : CT) (k7 : (Nat → Int32 → AH → Option (Unit × AH))) (hk7 : ∀ (a0 : Nat) (i1 : Int32) (h : AH), J x qX15_allFalls ZV 7 [(0, rv (zx x) a0), (1, .int i1)] [] h (k7 a0 i1 h)) : ∀ (n : Nat) (a0 : Nat) (i1 : Int32) (i2 : Int32) (h : AH), J x qX15_allFalls ZV 14 [(0, rv (zx x) a0), (1, .int i1), (2, .int i2)] [] h (X15_allFalls_B14 k7 n a0 i1 i2 h) := by
  intro n
  induction n with
  | zero => intro a0 i1 i2 h; exact J_none
  | succ n ih =>
    intro a0 i1 i2 h
    unfold X15_allFalls_B14
    refine J_iload_n 2 dX15_allFalls_14 rfl ?_
    refine J_aload_n 0 dX15_allFalls_15 rv_is rfl ?_
    refine J_iload_n 1 dX15_allFalls_16 rfl ?_
    refine J_G (fun g1 => ?_)
    refine J.callV (n := 1) (As := [.int i1]) kc_15 (ctX15_things (lx x) (wx x) a0 i1 h) kw_8_142 kw_8_139 kw_8_141 kp_28 kw_1_13 (by decide +kernel) rfl (by decide) (by simp [rv_cat, cat_I, cat_L, cat_S]) rfl dX15_allFalls_17 g1 (fun v3 h2 => ?_)
    show J x _ _ 20 _ [.int v3, .int i2] h2 _
    refine J_icmp_ge (tgt := 84) dX15_allFalls_20 rfl ?_ ?_
    · exact J_sub [0, 1] rfl (jX15_allFalls_B84 x k7 hk7 a0 i1 h2)
    · refine J_aload_n 0 dX15_allFalls_23 rv_is rfl ?_
      refine J_G (fun g4 => ?_)
      refine J_getR kc_15 19 (by decide) rfl rfl kw_6_229 dX15_allFalls_24 g4 ?_
      refine J_iload_n 1 dX15_allFalls_27 rfl ?_
      refine J_G (fun g5 => ?_)
      refine J_G (fun g6 => ?_)
      refine J_iald dX15_allFalls_28 g5 g6 ?_
      refine J_if_le (tgt := 84) dX15_allFalls_29 rfl ?_ ?_
      · exact J_sub [0, 1] rfl (jX15_allFalls_B84 x k7 hk7 a0 i1 h2)
      · refine J_iconst (v := nI 0) dX15_allFalls_32 rfl ?_
        refine J_istore_n dX15_allFalls_33 (by decide) (SD.a (lvr := [(0, rv (zx x) a0), (1, .int i1), (2, .int i2)]) [0, 1, 2] rfl rfl) ?_
        exact J_sub [1, 2, 3, 0] rfl (jX15_allFalls_B34 x k7 hk7 (X15_allFalls_B14 k7 n) ih FU a0 i1 i2 (nI 0) h2)
def X15_allFalls_B7 : Nat → Nat → Int32 → AH → Option (Unit × AH)
  | 0, _, _, _ => none
  | n + 1, a0, i1, h =>
    if (nI 4) ≤ i1 then (
      some ((), h)
    ) else (
      X15_allFalls_B14 (X15_allFalls_B7 n) FU a0 i1 (nI 0) h
    )
theorem jX15_allFalls_B7 (x : CT) : ∀ (n : Nat) (a0 : Nat) (i1 : Int32) (h : AH), J x qX15_allFalls ZV 7 [(0, rv (zx x) a0), (1, .int i1)] [] h (X15_allFalls_B7 n a0 i1 h) := by
  intro n
  induction n with
  | zero => intro a0 i1 h; exact J_none
  | succ n ih =>
    intro a0 i1 h
    unfold X15_allFalls_B7
    refine J_iload_n 1 dX15_allFalls_7 rfl ?_
    refine J_iconst (v := nI 4) dX15_allFalls_8 rfl ?_
    refine J_icmp_ge (tgt := 90) dX15_allFalls_9 rfl ?_ ?_
    · exact J_vret dX15_allFalls_90
    · refine J_iconst (v := nI 0) dX15_allFalls_12 rfl ?_
      refine J_istore_n dX15_allFalls_13 (by decide) (SD.a (lvr := [(0, rv (zx x) a0), (1, .int i1)]) [0, 1] rfl rfl) ?_
      exact J_sub [1, 2, 0] rfl (jX15_allFalls_B14 x (X15_allFalls_B7 n) ih FU a0 i1 (nI 0) h)
def X15_allFalls_f (a0 : Nat) (h : AH) : Option (Unit × AH) :=
  G (xc h a0 = 15) <|
  LT (pI h a0 36 (nI 0)) fun h2 =>
  X15_allFalls_B7 FU a0 (nI 0) h2
theorem jX15_allFalls (x : CT) (a0 : Nat) (h : AH) : J x qX15_allFalls ZV 0 [(0, rv (zx x) a0)] [] h (X15_allFalls_f a0 h) := by
  unfold X15_allFalls_f
  refine J_aload_n 0 dX15_allFalls_0 rv_is rfl ?_
  refine J_iconst (v := nI 0) dX15_allFalls_1 rfl ?_
  refine J_G (fun g1 => ?_)
  refine J_putI kc_15 36 (by decide) rfl rfl rfl rfl (Or.inl rfl) kw_7_6 dX15_allFalls_2 g1 ?_
  refine J_LTh (fun h2 => ?_)
  refine J_iconst (v := nI 0) dX15_allFalls_5 rfl ?_
  refine J_istore_n dX15_allFalls_6 (by decide) (SD.c (lvr := [(0, rv (zx x) a0)]) [0] rfl rfl 0 rfl rfl rv_cat) ?_
  exact J_sub [1, 0] rfl (jX15_allFalls_B7 x FU a0 (nI 0) h2)
theorem ctX15_allFalls (l : Launch) (w : WT) (a0 : Nat) (h : AH) : CM l w yX15_allFalls cX15_allFalls 4 none 1 21 KV [rv (w.1) a0] h (X15_allFalls_f a0 h) :=
  CM.of (by decide +kernel) (by simp [lg_sl, rv_cat, cat_I, cat_L, cat_S]) (lv := [(0, rv (w.1) a0)]) (by simp [lv_args, rv_cat, cat_I, cat_L, cat_S]) (fun x hx => by subst hx; exact jX15_allFalls x a0 h)
-- FallTrialsModel.isMeant(I)Z
abbrev qX15_isMeant : MT := (cX15_isMeant, RX15, "isMeant", (some .boolean), 0, 0, 5)
def X15_isMeant_B76 (k32 : (Nat → Int32 → Int32 → AH → Option (Int32 × AH))) (a0 : Nat) (i1 : Int32) (i2 : Int32) (i3 : Int32) (h : AH) : Option (Int32 × AH) :=
  G (xc h a0 = 15) <|
  G (xc h (xR h a0 19) = 16) <|
  G (gx i2 (xz h (xR h a0 19))) <|
  if i3 ≤ (xI h (xR h a0 19) i2.toNatClampNeg) then (
    LT (i2 + nI 1) fun v4 =>
    k32 a0 i1 v4 h
  ) else (
    some (nI 0, h)
  )
theorem jX15_isMeant_B76 (x : CT) (k32 : (Nat → Int32 → Int32 → AH → Option (Int32 × AH))) (hk32 : ∀ (a0 : Nat) (i1 : Int32) (i2 : Int32) (h : AH), J x qX15_isMeant ZI 32 [(0, rv (zx x) a0), (1, .int i1), (2, .int i2)] [] h (k32 a0 i1 i2 h)) (a0 : Nat) (i1 : Int32) (i2 : Int32) (i3 : Int32) (h : AH) : J x qX15_isMeant ZI 76 [(0, rv (zx x) a0), (1, .int i1), (2, .int i2), (3, .int i3)] [] h (X15_isMeant_B76 k32 a0 i1 i2 i3 h) := by
  unfold X15_isMeant_B76
  refine J_iload_n 3 dX15_isMeant_76 rfl ?_
  refine J_aload_n 0 dX15_isMeant_77 rv_is rfl ?_
  refine J_G (fun g1 => ?_)
  refine J_getR kc_15 19 (by decide) rfl rfl kw_6_229 dX15_isMeant_78 g1 ?_
  refine J_iload_n 2 dX15_isMeant_81 rfl ?_
  refine J_G (fun g2 => ?_)
  refine J_G (fun g3 => ?_)
  refine J_iald dX15_isMeant_82 g2 g3 ?_
  refine J_icmp_le (tgt := 88) dX15_isMeant_83 rfl ?_ ?_
  · refine J_iincL (u := i2 + nI 1) 2 dX15_isMeant_88 rfl rfl (by decide) (SD.a (lvr := [(0, rv (zx x) a0), (1, .int i1)]) [0, 1] rfl rfl) (fun v4 => ?_)
    refine J_goto (tgt := 32) dX15_isMeant_91 rfl ?_
    exact J_sub [1, 2, 0] rfl (hk32 a0 i1 v4 h)
  · refine J_iconst (v := nI 0) dX15_isMeant_86 rfl ?_
    exact J_zret dX15_isMeant_87 (by decide)
def X15_isMeant_B68 (k32 : (Nat → Int32 → Int32 → AH → Option (Int32 × AH))) (k42 : (Nat → Int32 → Int32 → Int32 → Int32 → AH → Option (Int32 × AH))) (a0 : Nat) (i1 : Int32) (i2 : Int32) (i4 : Int32) (is0 : Int32) (is1 : Int32) (h : AH) : Option (Int32 × AH) :=
  LT (is1 + is0) fun v1 =>
  LT (i4 + nI 1) fun v2 =>
  k42 a0 i1 i2 v1 v2 h
theorem jX15_isMeant_B68 (x : CT) (k32 : (Nat → Int32 → Int32 → AH → Option (Int32 × AH))) (hk32 : ∀ (a0 : Nat) (i1 : Int32) (i2 : Int32) (h : AH), J x qX15_isMeant ZI 32 [(0, rv (zx x) a0), (1, .int i1), (2, .int i2)] [] h (k32 a0 i1 i2 h)) (k42 : (Nat → Int32 → Int32 → Int32 → Int32 → AH → Option (Int32 × AH))) (hk42 : ∀ (a0 : Nat) (i1 : Int32) (i2 : Int32) (i3 : Int32) (i4 : Int32) (h : AH), J x qX15_isMeant ZI 42 [(0, rv (zx x) a0), (1, .int i1), (2, .int i2), (3, .int i3), (4, .int i4)] [] h (k42 a0 i1 i2 i3 i4 h)) (a0 : Nat) (i1 : Int32) (i2 : Int32) (i4 : Int32) (is0 : Int32) (is1 : Int32) (h : AH) : J x qX15_isMeant ZI 68 [(0, rv (zx x) a0), (1, .int i1), (2, .int i2), (4, .int i4)] [.int is0, .int is1] h (X15_isMeant_B68 k32 k42 a0 i1 i2 i4 is0 is1 h) := by
  unfold X15_isMeant_B68
  refine J_iadd dX15_isMeant_68 ?_
  refine J_LTi (fun v1 => ?_)
  refine J_istore_n dX15_isMeant_69 (by decide) (SD.a (lvr := [(0, rv (zx x) a0), (1, .int i1), (2, .int i2), (4, .int i4)]) [0, 1, 2, 3] rfl rfl) ?_
  refine J_iincL (u := i4 + nI 1) 4 dX15_isMeant_70 rfl rfl (by decide) (SD.a (lvr := [(3, .int v1), (0, rv (zx x) a0), (1, .int i1), (2, .int i2)]) [0, 1, 2, 3] rfl rfl) (fun v2 => ?_)
  refine J_goto (tgt := 42) dX15_isMeant_73 rfl ?_
  exact J_sub [2, 3, 4, 1, 0] rfl (hk42 a0 i1 i2 v1 v2 h)
def X15_isMeant_B42 (k32 : (Nat → Int32 → Int32 → AH → Option (Int32 × AH))) : Nat → Nat → Int32 → Int32 → Int32 → Int32 → AH → Option (Int32 × AH)
  | 0, _, _, _, _, _, _ => none
  | n + 1, a0, i1, i2, i3, i4, h =>
    if i1 ≤ i4 then (
      X15_isMeant_B76 k32 a0 i1 i2 i3 h
    ) else (
      G (xc h a0 = 15) <|
      G (xc h (xR h a0 39) = 16) <|
      G (gx i4 (xz h (xR h a0 39))) <|
      if ((xI h (xR h a0 39) i4.toNatClampNeg) / (nI 100)) = i2 then (
        X15_isMeant_B68 k32 (X15_isMeant_B42 k32 n) a0 i1 i2 i4 (nI 1) i3 h
      ) else (
        X15_isMeant_B68 k32 (X15_isMeant_B42 k32 n) a0 i1 i2 i4 (nI 0) i3 h
      )
    )
theorem jX15_isMeant_B42 (x : CT) (k32 : (Nat → Int32 → Int32 → AH → Option (Int32 × AH))) (hk32 : ∀ (a0 : Nat) (i1 : Int32) (i2 : Int32) (h : AH), J x qX15_isMeant ZI 32 [(0, rv (zx x) a0), (1, .int i1), (2, .int i2)] [] h (k32 a0 i1 i2 h)) : ∀ (n : Nat) (a0 : Nat) (i1 : Int32) (i2 : Int32) (i3 : Int32) (i4 : Int32) (h : AH), J x qX15_isMeant ZI 42 [(0, rv (zx x) a0), (1, .int i1), (2, .int i2), (3, .int i3), (4, .int i4)] [] h (X15_isMeant_B42 k32 n a0 i1 i2 i3 i4 h) := by
  intro n
  induction n with
  | zero => intro a0 i1 i2 i3 i4 h; exact J_none
  | succ n ih =>
    intro a0 i1 i2 i3 i4 h
    unfold X15_isMeant_B42
    refine J_iload 4 dX15_isMeant_42 rfl ?_
    refine J_iload_n 1 dX15_isMeant_44 rfl ?_
    refine J_icmp_ge (tgt := 76) dX15_isMeant_45 rfl ?_ ?_
    · exact J_sub [0, 1, 2, 3] rfl (jX15_isMeant_B76 x k32 hk32 a0 i1 i2 i3 h)
    · refine J_iload_n 3 dX15_isMeant_48 rfl ?_
      refine J_aload_n 0 dX15_isMeant_49 rv_is rfl ?_
      refine J_G (fun g1 => ?_)
      refine J_getR kc_15 39 (by decide) rfl rfl kw_7_9 dX15_isMeant_50 g1 ?_
      refine J_iload 4 dX15_isMeant_53 rfl ?_
      refine J_G (fun g2 => ?_)
      refine J_G (fun g3 => ?_)
      refine J_iald dX15_isMeant_55 g2 g3 ?_
      refine J_bipush (v := nI 100) dX15_isMeant_56 rfl ?_
      refine J_idiv dX15_isMeant_58 (by decide) ?_
      refine J_iload_n 2 dX15_isMeant_59 rfl ?_
      refine J_icmp_ne (tgt := 67) dX15_isMeant_60 rfl ?_ ?_
      · refine J_iconst (v := nI 0) dX15_isMeant_67 rfl ?_
        exact J_sub [0, 1, 2, 4] rfl (jX15_isMeant_B68 x k32 hk32 (X15_isMeant_B42 k32 n) ih a0 i1 i2 i4 (nI 0) i3 h)
      · refine J_iconst (v := nI 1) dX15_isMeant_63 rfl ?_
        refine J_goto (tgt := 68) dX15_isMeant_64 rfl ?_
        exact J_sub [0, 1, 2, 4] rfl (jX15_isMeant_B68 x k32 hk32 (X15_isMeant_B42 k32 n) ih a0 i1 i2 i4 (nI 1) i3 h)
def X15_isMeant_B32 : Nat → Nat → Int32 → Int32 → AH → Option (Int32 × AH)
  | 0, _, _, _, _ => none
  | n + 1, a0, i1, i2, h =>
    if (nI 4) ≤ i2 then (
      some (nI 1, h)
    ) else (
      X15_isMeant_B42 (X15_isMeant_B32 n) FU a0 i1 i2 (nI 0) (nI 0) h
    )
theorem jX15_isMeant_B32 (x : CT) : ∀ (n : Nat) (a0 : Nat) (i1 : Int32) (i2 : Int32) (h : AH), J x qX15_isMeant ZI 32 [(0, rv (zx x) a0), (1, .int i1), (2, .int i2)] [] h (X15_isMeant_B32 n a0 i1 i2 h) := by
  intro n
  induction n with
  | zero => intro a0 i1 i2 h; exact J_none
  | succ n ih =>
    intro a0 i1 i2 h
    unfold X15_isMeant_B32
    refine J_iload_n 2 dX15_isMeant_32 rfl ?_
    refine J_iconst (v := nI 4) dX15_isMeant_33 rfl ?_
    refine J_icmp_ge (tgt := 94) dX15_isMeant_34 rfl ?_ ?_
    · refine J_iconst (v := nI 1) dX15_isMeant_94 rfl ?_
      exact J_zret dX15_isMeant_95 (by decide)
    · refine J_iconst (v := nI 0) dX15_isMeant_37 rfl ?_
      refine J_istore_n dX15_isMeant_38 (by decide) (SD.a (lvr := [(0, rv (zx x) a0), (1, .int i1), (2, .int i2)]) [0, 1, 2] rfl rfl) ?_
      refine J_iconst (v := nI 0) dX15_isMeant_39 rfl ?_
      refine J_istore dX15_isMeant_40 (by decide) (SD.a (lvr := [(3, .int (nI 0)), (0, rv (zx x) a0), (1, .int i1), (2, .int i2)]) [0, 1, 2, 3] rfl rfl) ?_
      exact J_sub [2, 3, 4, 1, 0] rfl (jX15_isMeant_B42 x (X15_isMeant_B32 n) ih FU a0 i1 i2 (nI 0) (nI 0) h)
def X15_isMeant_B30 (a0 : Nat) (i1 : Int32) (h : AH) : Option (Int32 × AH) :=
  X15_isMeant_B32 FU a0 i1 (nI 0) h
theorem jX15_isMeant_B30 (x : CT) (a0 : Nat) (i1 : Int32) (h : AH) : J x qX15_isMeant ZI 30 [(0, rv (zx x) a0), (1, .int i1)] [] h (X15_isMeant_B30 a0 i1 h) := by
  unfold X15_isMeant_B30
  refine J_iconst (v := nI 0) dX15_isMeant_30 rfl ?_
  refine J_istore_n dX15_isMeant_31 (by decide) (SD.a (lvr := [(0, rv (zx x) a0), (1, .int i1)]) [0, 1] rfl rfl) ?_
  exact J_sub [1, 2, 0] rfl (jX15_isMeant_B32 x FU a0 i1 (nI 0) h)
def X15_isMeant_B2 : Nat → Nat → Int32 → Int32 → AH → Option (Int32 × AH)
  | 0, _, _, _, _ => none
  | n + 1, a0, i1, i2, h =>
    if i1 ≤ i2 then (
      X15_isMeant_B30 a0 i1 h
    ) else (
      G (xc h a0 = 15) <|
      G (xc h (xR h a0 38) = 16) <|
      G (gx i2 (xz h (xR h a0 38))) <|
      G (xc h (xR h a0 37) = 16) <|
      G (gx (xI h (xR h a0 38) i2.toNatClampNeg) (xz h (xR h a0 37))) <|
      G (xc h (xR h a0 39) = 16) <|
      G (gx i2 (xz h (xR h a0 39))) <|
      LT (pI h (xR h a0 39) i2.toNatClampNeg (xI h (xR h a0 37) (xI h (xR h a0 38) i2.toNatClampNeg).toNatClampNeg)) fun h8 =>
      LT (i2 + nI 1) fun v9 =>
      X15_isMeant_B2 n a0 i1 v9 h8
    )
theorem jX15_isMeant_B2 (x : CT) : ∀ (n : Nat) (a0 : Nat) (i1 : Int32) (i2 : Int32) (h : AH), J x qX15_isMeant ZI 2 [(0, rv (zx x) a0), (1, .int i1), (2, .int i2)] [] h (X15_isMeant_B2 n a0 i1 i2 h) := by
  intro n
  induction n with
  | zero => intro a0 i1 i2 h; exact J_none
  | succ n ih =>
    intro a0 i1 i2 h
    unfold X15_isMeant_B2
    refine J_iload_n 2 dX15_isMeant_2 rfl ?_
    refine J_iload_n 1 dX15_isMeant_3 rfl ?_
    refine J_icmp_ge (tgt := 30) dX15_isMeant_4 rfl ?_ ?_
    · exact J_sub [0, 1] rfl (jX15_isMeant_B30 x a0 i1 h)
    · refine J_aload_n 0 dX15_isMeant_7 rv_is rfl ?_
      refine J_G (fun g1 => ?_)
      refine J_getR kc_15 39 (by decide) rfl rfl kw_7_9 dX15_isMeant_8 g1 ?_
      refine J_iload_n 2 dX15_isMeant_11 rfl ?_
      refine J_aload_n 0 dX15_isMeant_12 rv_is rfl ?_
      refine J_getR kc_15 37 (by decide) rfl rfl kw_7_7 dX15_isMeant_13 g1 ?_
      refine J_aload_n 0 dX15_isMeant_16 rv_is rfl ?_
      refine J_getR kc_15 38 (by decide) rfl rfl kw_7_8 dX15_isMeant_17 g1 ?_
      refine J_iload_n 2 dX15_isMeant_20 rfl ?_
      refine J_G (fun g2 => ?_)
      refine J_G (fun g3 => ?_)
      refine J_iald dX15_isMeant_21 g2 g3 ?_
      refine J_G (fun g4 => ?_)
      refine J_G (fun g5 => ?_)
      refine J_iald dX15_isMeant_22 g4 g5 ?_
      refine J_G (fun g6 => ?_)
      refine J_G (fun g7 => ?_)
      refine J_iast dX15_isMeant_23 g6 g7 ?_
      refine J_LTh (fun h8 => ?_)
      refine J_iincL (u := i2 + nI 1) 2 dX15_isMeant_24 rfl rfl (by decide) (SD.a (lvr := [(0, rv (zx x) a0), (1, .int i1)]) [0, 1] rfl rfl) (fun v9 => ?_)
      refine J_goto (tgt := 2) dX15_isMeant_27 rfl ?_
      exact J_sub [1, 2, 0] rfl (ih a0 i1 v9 h8)
def X15_isMeant_f (a0 : Nat) (i1 : Int32) (h : AH) : Option (Int32 × AH) :=
  X15_isMeant_B2 FU a0 i1 (nI 0) h
theorem jX15_isMeant (x : CT) (a0 : Nat) (i1 : Int32) (h : AH) : J x qX15_isMeant ZI 0 [(0, rv (zx x) a0), (1, .int i1)] [] h (X15_isMeant_f a0 i1 h) := by
  unfold X15_isMeant_f
  refine J_iconst (v := nI 0) dX15_isMeant_0 rfl ?_
  refine J_istore_n dX15_isMeant_1 (by decide) (SD.a (lvr := [(0, rv (zx x) a0), (1, .int i1)]) [0, 1] rfl rfl) ?_
  exact J_sub [1, 2, 0] rfl (jX15_isMeant_B2 x FU a0 i1 (nI 0) h)
theorem ctX15_isMeant (l : Launch) (w : WT) (a0 : Nat) (i1 : Int32) (h : AH) : CM l w yX15_isMeant cX15_isMeant 5 (some .boolean) 0 0 KI [rv (w.1) a0, .int i1] h (X15_isMeant_f a0 i1 h) :=
  CM.of (by decide +kernel) (by simp [lg_sl, rv_cat, cat_I, cat_L, cat_S]) (lv := [(0, rv (w.1) a0), (1, .int i1)]) (by simp [lv_args, rv_cat, cat_I, cat_L, cat_S]) (fun x hx => by subst hx; exact jX15_isMeant x a0 i1 h)
