-- FallTrialsModel.reason(IIII)I
abbrev qX15_reason : MT := (cX15_reason, RX15, "reason", (some .int), 6, 143, 6)
def X15_reason_f (a0 : Nat) (i1 : Int32) (i2 : Int32) (i3 : Int32) (i4 : Int32) (h : AH) : Option (Int32 × AH) :=
  G (xc h a0 = 15) <|
  LT (pI h a0 0 (nI 1)) fun h2 =>
  G (xc h2 a0 = 15) <|
  BN (X15_isRow_f a0 i1 h2) fun v5 h4 =>
  if v5 = 0 then (
    some (nI 0, h4)
  ) else (
    G (xc h4 a0 = 15) <|
    BN (X15_isMachine_f a0 i2 h4) fun v8 h7 =>
    if v8 = 0 then (
      some (nI 0, h7)
    ) else (
      G (xc h7 a0 = 15) <|
      BN (X15_in_f i3 (nI 0) (xI h7 a0 14) h7) fun v11 h10 =>
      if v11 = 0 then (
        some (nI 0, h10)
      ) else (
        G (xc h10 a0 = 15) <|
        BN (X15_runs_f a0 (nI 0) (xR h10 a0 20) (nI 0) (xI h10 a0 16) h10) fun v14 h13 =>
        G (xc h13 a0 = 15) <|
        BN (X15_reasonsOf_f a0 (nI 0) i1 i2 i3 h13) fun _ h16 =>
        if i4 < 0 then (
          some (nI 0, h16)
        ) else (
          G (xc h16 a0 = 15) <|
          if i4 < (xI h16 a0 33) then (
            G (xc h16 a0 = 15) <|
            LT (pI h16 a0 0 (nI 0)) fun h19 =>
            G (xc h19 a0 = 15) <|
            G (xc h19 (xR h19 a0 34) = 16) <|
            G (gx i4 (xz h19 (xR h19 a0 34))) <|
            some (xI h19 (xR h19 a0 34) i4.toNatClampNeg, h19)
          ) else (
            some (nI 0, h16)
          )
        )
      )
    )
  )
theorem jX15_reason (x : CT) (a0 : Nat) (i1 : Int32) (i2 : Int32) (i3 : Int32) (i4 : Int32) (h : AH) : J x qX15_reason ZI 0 [(0, rv (zx x) a0), (1, .int i1), (2, .int i2), (3, .int i3), (4, .int i4)] [] h (X15_reason_f a0 i1 i2 i3 i4 h) := by
  unfold X15_reason_f
  refine J_aload_n 0 dX15_reason_0 rv_is rfl ?_
  refine J_iconst (v := nI 1) dX15_reason_1 rfl ?_
  refine J_G (fun g1 => ?_)
  refine J_putI kc_15 0 (by decide) rfl rfl rfl rfl (Or.inl rfl) kw_6_210 dX15_reason_2 g1 ?_
  refine J_LTh (fun h2 => ?_)
  refine J_aload_n 0 dX15_reason_5 rv_is rfl ?_
  refine J_iload_n 1 dX15_reason_6 rfl ?_
  refine J_G (fun g3 => ?_)
  refine J.callV (n := 1) (As := [.int i1]) kc_15 (ctX15_isRow (lx x) (wx x) a0 i1 h2) kw_8_221 kw_8_218 kw_8_220 kp_43 kw_1_13 (by decide +kernel) rfl (by decide) (Nat.zero_le _) rfl dX15_reason_7 g3 (fun v5 h4 => ?_)
  show J x _ _ 10 _ [.int v5] h4 _
  refine J_if_eq (tgt := 33) dX15_reason_10 rfl ?_ ?_
  · refine J_iconst (v := nI 0) dX15_reason_33 rfl ?_
    exact J_iret dX15_reason_34
  · refine J_aload_n 0 dX15_reason_13 rv_is rfl ?_
    refine J_iload_n 2 dX15_reason_14 rfl ?_
    refine J_G (fun g6 => ?_)
    refine J.callV (n := 1) (As := [.int i2]) kc_15 (ctX15_isMachine (lx x) (wx x) a0 i2 h4) kw_8_225 kw_8_222 kw_8_224 kp_44 kw_1_13 (by decide +kernel) rfl (by decide) (Nat.zero_le _) rfl dX15_reason_15 g6 (fun v8 h7 => ?_)
    show J x _ _ 18 _ [.int v8] h7 _
    refine J_if_eq (tgt := 33) dX15_reason_18 rfl ?_ ?_
    · refine J_iconst (v := nI 0) dX15_reason_33 rfl ?_
      exact J_iret dX15_reason_34
    · refine J_iload_n 3 dX15_reason_21 rfl ?_
      refine J_iconst (v := nI 0) dX15_reason_22 rfl ?_
      refine J_aload_n 0 dX15_reason_23 rv_is rfl ?_
      refine J_G (fun g9 => ?_)
      refine J_getI kc_15 14 (by decide) rfl rfl kw_6_224 dX15_reason_24 g9 ?_
      refine J.callS (n := 3) (As := [.int i3, .int (nI 0), .int (xI h7 a0 14)]) (ctX15_in (lx x) (wx x) i3 (nI 0) (xI h7 a0 14) h7) kw_8_122 kw_8_120 kw_8_121 kw_1_13 (by decide +kernel) rfl (by decide) (Nat.zero_le _) rfl dX15_reason_27 (fun v11 h10 => ?_)
      show J x _ _ 30 _ [.int v11] h10 _
      refine J_if_ne (tgt := 35) dX15_reason_30 rfl ?_ ?_
      · refine J_aload_n 0 dX15_reason_35 rv_is rfl ?_
        refine J_iconst (v := nI 0) dX15_reason_36 rfl ?_
        refine J_aload_n 0 dX15_reason_37 rv_is rfl ?_
        refine J_G (fun g12 => ?_)
        refine J_getR kc_15 20 (by decide) rfl rfl kw_6_230 dX15_reason_38 g12 ?_
        refine J_iconst (v := nI 0) dX15_reason_41 rfl ?_
        refine J_aload_n 0 dX15_reason_42 rv_is rfl ?_
        refine J_getI kc_15 16 (by decide) rfl rfl kw_6_226 dX15_reason_43 g12 ?_
        refine J.callV (n := 4) (As := [.int (nI 0), rv (zx x) (xR h10 a0 20), .int (nI 0), .int (xI h10 a0 16)]) kc_15 (ctX15_runs (lx x) (wx x) a0 (nI 0) (xR h10 a0 20) (nI 0) (xI h10 a0 16) h10) kw_8_154 kw_8_151 kw_8_153 kp_29 kw_1_13 (by decide +kernel) rfl (by decide) (Nat.zero_le _) rfl dX15_reason_46 g12 (fun v14 h13 => ?_)
        show J x _ _ 49 _ [.int v14] h13 _
        refine J_istore dX15_reason_49 (by decide) (SD.a (lvr := [(0, rv (zx x) a0), (1, .int i1), (2, .int i2), (3, .int i3), (4, .int i4)]) [0, 1, 2, 3, 4] rfl rfl) ?_
        refine J_aload_n 1 dX15_reason_51 rv_is rfl ?_
        refine J_iconst (v := nI 0) dX15_reason_52 rfl ?_
        refine J_iload_n 2 dX15_reason_53 rfl ?_
        refine J_iload_n 3 dX15_reason_54 rfl ?_
        refine J_iload_n 4 dX15_reason_55 rfl ?_
        refine J_G (fun g15 => ?_)
        refine J.callV (n := 4) (As := [.int (nI 0), .int i1, .int i2, .int i3]) kc_15 (ctX15_reasonsOf (lx x) (wx x) a0 (nI 0) i1 i2 i3 h13) kw_8_233 kw_8_230 kw_8_232 kp_45 kw_1_13 (by decide +kernel) rfl (by decide) (Nat.zero_le _) rfl dX15_reason_56 g15 (fun _ h16 => ?_)
        show J x _ _ 59 _ [] h16 _
        refine J_iload 5 dX15_reason_59 rfl ?_
        refine J_if_lt (tgt := 73) dX15_reason_61 rfl ?_ ?_
        · refine J_iconst (v := nI 0) dX15_reason_73 rfl ?_
          exact J_iret dX15_reason_74
        · refine J_iload 5 dX15_reason_64 rfl ?_
          refine J_aload_n 1 dX15_reason_66 rv_is rfl ?_
          refine J_G (fun g17 => ?_)
          refine J_getI kc_15 33 (by decide) rfl rfl kw_7_3 dX15_reason_67 g17 ?_
          refine J_icmp_lt (tgt := 75) dX15_reason_70 rfl ?_ ?_
          · refine J_aload_n 1 dX15_reason_75 rv_is rfl ?_
            refine J_iconst (v := nI 0) dX15_reason_76 rfl ?_
            refine J_G (fun g18 => ?_)
            refine J_putI kc_15 0 (by decide) rfl rfl rfl rfl (Or.inl rfl) kw_6_210 dX15_reason_77 g18 ?_
            refine J_LTh (fun h19 => ?_)
            refine J_aload_n 1 dX15_reason_80 rv_is rfl ?_
            refine J_G (fun g20 => ?_)
            refine J_getR kc_15 34 (by decide) rfl rfl kw_7_4 dX15_reason_81 g20 ?_
            refine J_iload 5 dX15_reason_84 rfl ?_
            refine J_G (fun g21 => ?_)
            refine J_G (fun g22 => ?_)
            refine J_iald dX15_reason_86 g21 g22 ?_
            exact J_iret dX15_reason_87
          · refine J_iconst (v := nI 0) dX15_reason_73 rfl ?_
            exact J_iret dX15_reason_74
      · refine J_iconst (v := nI 0) dX15_reason_33 rfl ?_
        exact J_iret dX15_reason_34
theorem ctX15_reason (l : Launch) (w : WT) (a0 : Nat) (i1 : Int32) (i2 : Int32) (i3 : Int32) (i4 : Int32) (h : AH) : CM l w yX15_reason cX15_reason 6 (some .int) 6 143 KI [rv (w.1) a0, .int i1, .int i2, .int i3, .int i4] h (X15_reason_f a0 i1 i2 i3 i4 h) :=
  CM.of (by decide +kernel) (by simp [lg_sl, rv_cat, cat_I, cat_L, cat_S]) (lv := [(0, rv (w.1) a0), (1, .int i1), (2, .int i2), (3, .int i3), (4, .int i4)]) (by simp [lv_args, rv_cat, cat_I, cat_L, cat_S]) (fun x hx => by subst hx; exact jX15_reason x a0 i1 i2 i3 i4 h)
-- FallTrialsModel.word(II)I
abbrev qX15_word : MT := (cX15_word, RX15, "word", (some .int), 6, 143, 4)
def X15_word_f (a0 : Nat) (i1 : Int32) (i2 : Int32) (h : AH) : Option (Int32 × AH) :=
  G (xc h a0 = 15) <|
  LT (pI h a0 0 (nI 0)) fun h2 =>
  G (xc h2 a0 = 15) <|
  BN (X15_isSend_f a0 i1 h2) fun v5 h4 =>
  if v5 = 0 then (
    G (xc h4 a0 = 15) <|
    BN (X15_refused_f a0 (nI 1) h4) fun v22 h21 =>
    some (v22, h21)
  ) else (
    G (xc h4 a0 = 15) <|
    BN (X15_in_f i2 (nI 0) ((xI h4 a0 14) - (nI 1)) h4) fun v8 h7 =>
    if v8 = 0 then (
      G (xc h7 a0 = 15) <|
      BN (X15_refused_f a0 (nI 2) h7) fun v19 h18 =>
      some (v19, h18)
    ) else (
      G (xc h7 a0 = 15) <|
      BN (X15_runs_f a0 (nI 0) (xR h7 a0 20) (nI 0) (xI h7 a0 16) h7) fun v11 h10 =>
      G (xc h10 a0 = 15) <|
      G (xc h10 (xR h10 a0 31) = 16) <|
      G (gx (((nI 0) + ((nI 7) * i1)) + i2) (xz h10 (xR h10 a0 31))) <|
      BN (X15_done_f a0 (xI h10 (xR h10 a0 31) (((nI 0) + ((nI 7) * i1)) + i2).toNatClampNeg) h10) fun v16 h15 =>
      some (v16, h15)
    )
  )
theorem jX15_word (x : CT) (a0 : Nat) (i1 : Int32) (i2 : Int32) (h : AH) : J x qX15_word ZI 0 [(0, rv (zx x) a0), (1, .int i1), (2, .int i2)] [] h (X15_word_f a0 i1 i2 h) := by
  unfold X15_word_f
  refine J_aload_n 0 dX15_word_0 rv_is rfl ?_
  refine J_iconst (v := nI 0) dX15_word_1 rfl ?_
  refine J_G (fun g1 => ?_)
  refine J_putI kc_15 0 (by decide) rfl rfl rfl rfl (Or.inl rfl) kw_6_210 dX15_word_2 g1 ?_
  refine J_LTh (fun h2 => ?_)
  refine J_aload_n 0 dX15_word_5 rv_is rfl ?_
  refine J_iload_n 1 dX15_word_6 rfl ?_
  refine J_G (fun g3 => ?_)
  refine J.callV (n := 1) (As := [.int i1]) kc_15 (ctX15_isSend (lx x) (wx x) a0 i1 h2) kw_9_9 kw_9_6 kw_9_8 kp_47 kw_1_13 (by decide +kernel) rfl (by decide) (Nat.zero_le _) rfl dX15_word_7 g3 (fun v5 h4 => ?_)
  show J x _ _ 10 _ [.int v5] h4 _
  refine J_if_ne (tgt := 19) dX15_word_10 rfl ?_ ?_
  · refine J_iload_n 2 dX15_word_19 rfl ?_
    refine J_iconst (v := nI 0) dX15_word_20 rfl ?_
    refine J_aload_n 0 dX15_word_21 rv_is rfl ?_
    refine J_G (fun g6 => ?_)
    refine J_getI kc_15 14 (by decide) rfl rfl kw_6_224 dX15_word_22 g6 ?_
    refine J_iconst (v := nI 1) dX15_word_25 rfl ?_
    refine J_isub dX15_word_26 ?_
    refine J.callS (n := 3) (As := [.int i2, .int (nI 0), .int ((xI h4 a0 14) - (nI 1))]) (ctX15_in (lx x) (wx x) i2 (nI 0) ((xI h4 a0 14) - (nI 1)) h4) kw_8_122 kw_8_120 kw_8_121 kw_1_13 (by decide +kernel) rfl (by decide) (Nat.zero_le _) rfl dX15_word_27 (fun v8 h7 => ?_)
    show J x _ _ 30 _ [.int v8] h7 _
    refine J_if_ne (tgt := 39) dX15_word_30 rfl ?_ ?_
    · refine J_aload_n 0 dX15_word_39 rv_is rfl ?_
      refine J_iconst (v := nI 0) dX15_word_40 rfl ?_
      refine J_aload_n 0 dX15_word_41 rv_is rfl ?_
      refine J_G (fun g9 => ?_)
      refine J_getR kc_15 20 (by decide) rfl rfl kw_6_230 dX15_word_42 g9 ?_
      refine J_iconst (v := nI 0) dX15_word_45 rfl ?_
      refine J_aload_n 0 dX15_word_46 rv_is rfl ?_
      refine J_getI kc_15 16 (by decide) rfl rfl kw_6_226 dX15_word_47 g9 ?_
      refine J.callV (n := 4) (As := [.int (nI 0), rv (zx x) (xR h7 a0 20), .int (nI 0), .int (xI h7 a0 16)]) kc_15 (ctX15_runs (lx x) (wx x) a0 (nI 0) (xR h7 a0 20) (nI 0) (xI h7 a0 16) h7) kw_8_154 kw_8_151 kw_8_153 kp_29 kw_1_13 (by decide +kernel) rfl (by decide) (Nat.zero_le _) rfl dX15_word_50 g9 (fun v11 h10 => ?_)
      show J x _ _ 53 _ [.int v11] h10 _
      refine J_istore_n dX15_word_53 (by decide) (SD.a (lvr := [(0, rv (zx x) a0), (1, .int i1), (2, .int i2)]) [0, 1, 2] rfl rfl) ?_
      refine J_aload_n 1 dX15_word_54 rv_is rfl ?_
      refine J_aload_n 1 dX15_word_55 rv_is rfl ?_
      refine J_G (fun g12 => ?_)
      refine J_getR kc_15 31 (by decide) rfl rfl kw_7_1 dX15_word_56 g12 ?_
      refine J_iconst (v := nI 0) dX15_word_59 rfl ?_
      refine J_bipush (v := nI 7) dX15_word_60 rfl ?_
      refine J_iload_n 2 dX15_word_62 rfl ?_
      refine J_imul dX15_word_63 ?_
      refine J_iadd dX15_word_64 ?_
      refine J_iload_n 3 dX15_word_65 rfl ?_
      refine J_iadd dX15_word_66 ?_
      refine J_G (fun g13 => ?_)
      refine J_G (fun g14 => ?_)
      refine J_iald dX15_word_67 g13 g14 ?_
      refine J.callV (n := 1) (As := [.int (xI h10 (xR h10 a0 31) (((nI 0) + ((nI 7) * i1)) + i2).toNatClampNeg)]) kc_15 (ctX15_done (lx x) (wx x) a0 (xI h10 (xR h10 a0 31) (((nI 0) + ((nI 7) * i1)) + i2).toNatClampNeg) h10) kw_8_103 kw_8_100 kw_8_102 kp_24 kw_1_13 (by decide +kernel) rfl (by decide) (Nat.zero_le _) rfl dX15_word_68 g12 (fun v16 h15 => ?_)
      show J x _ _ 71 _ [.int v16] h15 _
      exact J_iret dX15_word_71
    · refine J_aload_n 0 dX15_word_33 rv_is rfl ?_
      refine J_iconst (v := nI 2) dX15_word_34 rfl ?_
      refine J_G (fun g17 => ?_)
      refine J.callV (n := 1) (As := [.int (nI 2)]) kc_15 (ctX15_refused (lx x) (wx x) a0 (nI 2) h7) kw_7_139 kw_7_136 kw_7_138 kp_8 kw_1_13 (by decide +kernel) rfl (by decide) (Nat.zero_le _) rfl dX15_word_35 g17 (fun v19 h18 => ?_)
      show J x _ _ 38 _ [.int v19] h18 _
      exact J_iret dX15_word_38
  · refine J_aload_n 0 dX15_word_13 rv_is rfl ?_
    refine J_iconst (v := nI 1) dX15_word_14 rfl ?_
    refine J_G (fun g20 => ?_)
    refine J.callV (n := 1) (As := [.int (nI 1)]) kc_15 (ctX15_refused (lx x) (wx x) a0 (nI 1) h4) kw_7_139 kw_7_136 kw_7_138 kp_8 kw_1_13 (by decide +kernel) rfl (by decide) (Nat.zero_le _) rfl dX15_word_15 g20 (fun v22 h21 => ?_)
    show J x _ _ 18 _ [.int v22] h21 _
    exact J_iret dX15_word_18
theorem ctX15_word (l : Launch) (w : WT) (a0 : Nat) (i1 : Int32) (i2 : Int32) (h : AH) : CM l w yX15_word cX15_word 4 (some .int) 6 143 KI [rv (w.1) a0, .int i1, .int i2] h (X15_word_f a0 i1 i2 h) :=
  CM.of (by decide +kernel) (by simp [lg_sl, rv_cat, cat_I, cat_L, cat_S]) (lv := [(0, rv (w.1) a0), (1, .int i1), (2, .int i2)]) (by simp [lv_args, rv_cat, cat_I, cat_L, cat_S]) (fun x hx => by subst hx; exact jX15_word x a0 i1 i2 h)
-- FallTrialsModel.differs(I)I
abbrev qX15_differs : MT := (cX15_differs, RX15, "differs", (some .int), 6, 143, 7)
def X15_differs_B21 (a0 : Nat) (h : AH) : Option (Int32 × AH) :=
  G (xc h a0 = 15) <|
  BN (X15_refused_f a0 (nI 1) h) fun v3 h2 =>
  some (v3, h2)
theorem jX15_differs_B21 (x : CT) (a0 : Nat) (h : AH) : J x qX15_differs ZI 21 [(0, rv (zx x) a0)] [] h (X15_differs_B21 a0 h) := by
  unfold X15_differs_B21
  refine J_aload_n 0 dX15_differs_21 rv_is rfl ?_
  refine J_iconst (v := nI 1) dX15_differs_22 rfl ?_
  refine J_G (fun g1 => ?_)
  refine J.callV (n := 1) (As := [.int (nI 1)]) kc_15 (ctX15_refused (lx x) (wx x) a0 (nI 1) h) kw_7_139 kw_7_136 kw_7_138 kp_8 kw_1_13 (by decide +kernel) rfl (by decide) (Nat.zero_le _) rfl dX15_differs_23 g1 (fun v3 h2 => ?_)
  show J x _ _ 26 _ [.int v3] h2 _
  exact J_iret dX15_differs_26
def X15_differs_B185 (a0 : Nat) (h : AH) : Option (Int32 × AH) :=
  G (xc h a0 = 15) <|
  BN (X15_done_f a0 (-2) h) fun v3 h2 =>
  some (v3, h2)
theorem jX15_differs_B185 (x : CT) (a0 : Nat) (h : AH) : J x qX15_differs ZI 185 [(0, rv (zx x) a0)] [] h (X15_differs_B185 a0 h) := by
  unfold X15_differs_B185
  refine J_aload_n 0 dX15_differs_185 rv_is rfl ?_
  refine J_bipush (v := (-2)) dX15_differs_186 rfl ?_
  refine J_G (fun g1 => ?_)
  refine J.callV (n := 1) (As := [.int ((-2))]) kc_15 (ctX15_done (lx x) (wx x) a0 (-2) h) kw_8_103 kw_8_100 kw_8_102 kp_24 kw_1_13 (by decide +kernel) rfl (by decide) (Nat.zero_le _) rfl dX15_differs_188 g1 (fun v3 h2 => ?_)
  show J x _ _ 191 _ [.int v3] h2 _
  exact J_iret dX15_differs_191
def X15_differs_B179 (k56 : (Nat → Int32 → Int32 → AH → Option (Int32 × AH))) (a0 : Nat) (i1 : Int32) (i3 : Int32) (h : AH) : Option (Int32 × AH) :=
  LT (i3 + nI 1) fun v1 =>
  k56 a0 i1 v1 h
theorem jX15_differs_B179 (x : CT) (k56 : (Nat → Int32 → Int32 → AH → Option (Int32 × AH))) (hk56 : ∀ (a0 : Nat) (i1 : Int32) (i3 : Int32) (h : AH), J x qX15_differs ZI 56 [(0, rv (zx x) a0), (1, .int i1), (3, .int i3)] [] h (k56 a0 i1 i3 h)) (a0 : Nat) (i1 : Int32) (i3 : Int32) (h : AH) : J x qX15_differs ZI 179 [(0, rv (zx x) a0), (1, .int i1), (3, .int i3)] [] h (X15_differs_B179 k56 a0 i1 i3 h) := by
  unfold X15_differs_B179
  refine J_iincL (u := i3 + nI 1) 2 dX15_differs_179 rfl rfl (by decide) (SD.a (lvr := [(0, rv (zx x) a0), (1, .int i1)]) [0, 1] rfl rfl) (fun v1 => ?_)
  refine J_goto (tgt := 56) dX15_differs_182 rfl ?_
  exact J_sub [1, 2, 0] rfl (hk56 a0 i1 v1 h)
def X15_differs_B173 (k56 : (Nat → Int32 → Int32 → AH → Option (Int32 × AH))) (k67 : (Nat → Int32 → Int32 → Int32 → AH → Option (Int32 × AH))) (a0 : Nat) (i1 : Int32) (i3 : Int32) (i4 : Int32) (h : AH) : Option (Int32 × AH) :=
  LT (i4 + nI 1) fun v1 =>
  k67 a0 i1 i3 v1 h
theorem jX15_differs_B173 (x : CT) (k56 : (Nat → Int32 → Int32 → AH → Option (Int32 × AH))) (hk56 : ∀ (a0 : Nat) (i1 : Int32) (i3 : Int32) (h : AH), J x qX15_differs ZI 56 [(0, rv (zx x) a0), (1, .int i1), (3, .int i3)] [] h (k56 a0 i1 i3 h)) (k67 : (Nat → Int32 → Int32 → Int32 → AH → Option (Int32 × AH))) (hk67 : ∀ (a0 : Nat) (i1 : Int32) (i3 : Int32) (i4 : Int32) (h : AH), J x qX15_differs ZI 67 [(0, rv (zx x) a0), (1, .int i1), (3, .int i3), (4, .int i4)] [] h (k67 a0 i1 i3 i4 h)) (a0 : Nat) (i1 : Int32) (i3 : Int32) (i4 : Int32) (h : AH) : J x qX15_differs ZI 173 [(0, rv (zx x) a0), (1, .int i1), (3, .int i3), (4, .int i4)] [] h (X15_differs_B173 k56 k67 a0 i1 i3 i4 h) := by
  unfold X15_differs_B173
  refine J_iincL (u := i4 + nI 1) 3 dX15_differs_173 rfl rfl (by decide) (SD.a (lvr := [(0, rv (zx x) a0), (1, .int i1), (3, .int i3)]) [0, 1, 2] rfl rfl) (fun v1 => ?_)
  refine J_goto (tgt := 67) dX15_differs_176 rfl ?_
  exact J_sub [1, 2, 3, 0] rfl (hk67 a0 i1 i3 v1 h)
def X15_differs_B163 (is0 : Int32) (as1 : Nat) (h : AH) : Option (Int32 × AH) :=
  G (xc h as1 = 15) <|
  BN (X15_done_f as1 is0 h) fun v3 h2 =>
  some (v3, h2)
theorem jX15_differs_B163 (x : CT) (is0 : Int32) (as1 : Nat) (h : AH) : J x qX15_differs ZI 163 [] [.int is0, rv (zx x) as1] h (X15_differs_B163 is0 as1 h) := by
  unfold X15_differs_B163
  refine J_G (fun g1 => ?_)
  refine J.callV (n := 1) (As := [.int is0]) kc_15 (ctX15_done (lx x) (wx x) as1 is0 h) kw_8_103 kw_8_100 kw_8_102 kp_24 kw_1_13 (by decide +kernel) rfl (by decide) (Nat.zero_le _) rfl dX15_differs_163 g1 (fun v3 h2 => ?_)
  show J x _ _ 166 _ [.int v3] h2 _
  exact J_iret dX15_differs_166
def X15_differs_B124 (a0 : Nat) (i1 : Int32) (i3 : Int32) (i4 : Int32) (i5 : Int32) (i6 : Int32) (h : AH) : Option (Int32 × AH) :=
  if i1 = 0 then (
    X15_differs_B163 i3 a0 h
  ) else (
    if i1 = (nI 1) then (
      X15_differs_B163 i4 a0 h
    ) else (
      if i1 = (nI 2) then (
        X15_differs_B163 i5 a0 h
      ) else (
        if i6 = 0 then (
          X15_differs_B163 (nI 0) a0 h
        ) else (
          X15_differs_B163 (nI 1) a0 h
        )
      )
    )
  )
theorem jX15_differs_B124 (x : CT) (a0 : Nat) (i1 : Int32) (i3 : Int32) (i4 : Int32) (i5 : Int32) (i6 : Int32) (h : AH) : J x qX15_differs ZI 124 [(0, rv (zx x) a0), (1, .int i1), (3, .int i3), (4, .int i4), (5, .int i5), (6, .int i6)] [] h (X15_differs_B124 a0 i1 i3 i4 i5 i6 h) := by
  unfold X15_differs_B124
  refine J_aload_n 0 dX15_differs_124 rv_is rfl ?_
  refine J_iload_n 1 dX15_differs_125 rfl ?_
  refine J_if_ne (tgt := 133) dX15_differs_126 rfl ?_ ?_
  · refine J_iload_n 1 dX15_differs_133 rfl ?_
    refine J_iconst (v := nI 1) dX15_differs_134 rfl ?_
    refine J_icmp_ne (tgt := 143) dX15_differs_135 rfl ?_ ?_
    · refine J_iload_n 1 dX15_differs_143 rfl ?_
      refine J_iconst (v := nI 2) dX15_differs_144 rfl ?_
      refine J_icmp_ne (tgt := 153) dX15_differs_145 rfl ?_ ?_
      · refine J_iload 5 dX15_differs_153 rfl ?_
        refine J_if_eq (tgt := 162) dX15_differs_155 rfl ?_ ?_
        · refine J_iconst (v := nI 0) dX15_differs_162 rfl ?_
          exact J_sub [] rfl (jX15_differs_B163 x (nI 0) a0 h)
        · refine J_iconst (v := nI 1) dX15_differs_158 rfl ?_
          refine J_goto (tgt := 163) dX15_differs_159 rfl ?_
          exact J_sub [] rfl (jX15_differs_B163 x (nI 1) a0 h)
      · refine J_iload 4 dX15_differs_148 rfl ?_
        refine J_goto (tgt := 163) dX15_differs_150 rfl ?_
        exact J_sub [] rfl (jX15_differs_B163 x i5 a0 h)
    · refine J_iload 3 dX15_differs_138 rfl ?_
      refine J_goto (tgt := 163) dX15_differs_140 rfl ?_
      exact J_sub [] rfl (jX15_differs_B163 x i4 a0 h)
  · refine J_iload_n 2 dX15_differs_129 rfl ?_
    refine J_goto (tgt := 163) dX15_differs_130 rfl ?_
    exact J_sub [] rfl (jX15_differs_B163 x i3 a0 h)
def X15_differs_B82 (k56 : (Nat → Int32 → Int32 → AH → Option (Int32 × AH))) (k67 : (Nat → Int32 → Int32 → Int32 → AH → Option (Int32 × AH))) : Nat → Nat → Int32 → Int32 → Int32 → Int32 → AH → Option (Int32 × AH)
  | 0, _, _, _, _, _, _ => none
  | n + 1, a0, i1, i3, i4, i5, h =>
    G (xc h a0 = 15) <|
    G (xc h (xR h a0 4) = 12) <|
    if (xI h (xR h a0 4) 2) ≤ i5 then (
      X15_differs_B173 k56 k67 a0 i1 i3 i4 h
    ) else (
      G (xc h a0 = 15) <|
      BN (X15_isThere_f a0 (nI 0) i5 i4 i3 h) fun v5 h4 =>
      G (xc h4 a0 = 15) <|
      BN (X15_isThere_f a0 (nI 1) i5 i4 i3 h4) fun v8 h7 =>
      if v5 = v8 then (
        LT (i5 + nI 1) fun v9 =>
        X15_differs_B82 k56 k67 n a0 i1 i3 i4 v9 h7
      ) else (
        X15_differs_B124 a0 i1 i3 i4 i5 v5 h7
      )
    )
theorem jX15_differs_B82 (x : CT) (k56 : (Nat → Int32 → Int32 → AH → Option (Int32 × AH))) (hk56 : ∀ (a0 : Nat) (i1 : Int32) (i3 : Int32) (h : AH), J x qX15_differs ZI 56 [(0, rv (zx x) a0), (1, .int i1), (3, .int i3)] [] h (k56 a0 i1 i3 h)) (k67 : (Nat → Int32 → Int32 → Int32 → AH → Option (Int32 × AH))) (hk67 : ∀ (a0 : Nat) (i1 : Int32) (i3 : Int32) (i4 : Int32) (h : AH), J x qX15_differs ZI 67 [(0, rv (zx x) a0), (1, .int i1), (3, .int i3), (4, .int i4)] [] h (k67 a0 i1 i3 i4 h)) : ∀ (n : Nat) (a0 : Nat) (i1 : Int32) (i3 : Int32) (i4 : Int32) (i5 : Int32) (h : AH), J x qX15_differs ZI 82 [(0, rv (zx x) a0), (1, .int i1), (3, .int i3), (4, .int i4), (5, .int i5)] [] h (X15_differs_B82 k56 k67 n a0 i1 i3 i4 i5 h) := by
  intro n
  induction n with
  | zero => intro a0 i1 i3 i4 i5 h; exact J_none
  | succ n ih =>
    intro a0 i1 i3 i4 i5 h
    unfold X15_differs_B82
    refine J_iload 4 dX15_differs_82 rfl ?_
    refine J_aload_n 0 dX15_differs_84 rv_is rfl ?_
    refine J_G (fun g1 => ?_)
    refine J_getR kc_15 4 (by decide) rfl rfl kw_6_214 dX15_differs_85 g1 ?_
    refine J_G (fun g2 => ?_)
    refine J_getIN kc_12 2 (by decide) rfl rfl kn_26 dX15_differs_88 g2 ?_
    refine J_icmp_ge (tgt := 173) dX15_differs_91 rfl ?_ ?_
    · exact J_sub [0, 1, 2, 3] rfl (jX15_differs_B173 x k56 hk56 k67 hk67 a0 i1 i3 i4 h)
    · refine J_aload_n 0 dX15_differs_94 rv_is rfl ?_
      refine J_iconst (v := nI 0) dX15_differs_95 rfl ?_
      refine J_iload 4 dX15_differs_96 rfl ?_
      refine J_iload 3 dX15_differs_98 rfl ?_
      refine J_iload_n 2 dX15_differs_100 rfl ?_
      refine J_G (fun g3 => ?_)
      refine J.callV (n := 4) (As := [.int (nI 0), .int i5, .int i4, .int i3]) kc_15 (ctX15_isThere (lx x) (wx x) a0 (nI 0) i5 i4 i3 h) kw_8_213 kw_8_210 kw_8_212 kp_42 kw_1_13 (by decide +kernel) rfl (by decide) (Nat.zero_le _) rfl dX15_differs_101 g3 (fun v5 h4 => ?_)
      show J x _ _ 104 _ [.int v5] h4 _
      refine J_istore dX15_differs_104 (by decide) (SD.a (lvr := [(0, rv (zx x) a0), (1, .int i1), (3, .int i3), (4, .int i4), (5, .int i5)]) [0, 1, 2, 3, 4] rfl rfl) ?_
      refine J_iload 0 dX15_differs_106 rfl ?_
      refine J_aload_n 1 dX15_differs_108 rv_is rfl ?_
      refine J_iconst (v := nI 1) dX15_differs_109 rfl ?_
      refine J_iload 5 dX15_differs_110 rfl ?_
      refine J_iload 4 dX15_differs_112 rfl ?_
      refine J_iload_n 3 dX15_differs_114 rfl ?_
      refine J_G (fun g6 => ?_)
      refine J.callV (n := 4) (As := [.int (nI 1), .int i5, .int i4, .int i3]) kc_15 (ctX15_isThere (lx x) (wx x) a0 (nI 1) i5 i4 i3 h4) kw_8_213 kw_8_210 kw_8_212 kp_42 kw_1_13 (by decide +kernel) rfl (by decide) (by simp [rv_cat, cat_I, cat_L, cat_S]) rfl dX15_differs_115 g6 (fun v8 h7 => ?_)
      show J x _ _ 118 _ [.int v8, .int v5] h7 _
      refine J_icmp_ne (tgt := 124) dX15_differs_118 rfl ?_ ?_
      · exact J_sub [1, 2, 3, 4, 5, 0] rfl (jX15_differs_B124 x a0 i1 i3 i4 i5 v5 h7)
      · refine J_goto (tgt := 167) dX15_differs_121 rfl ?_
        refine J_iincL (u := i5 + nI 1) 5 dX15_differs_167 rfl rfl (by decide) (SD.a (lvr := [(0, rv (zx x) a0), (1, .int i1), (3, .int i3), (4, .int i4)]) [1, 2, 3, 4] rfl rfl) (fun v9 => ?_)
        refine J_goto (tgt := 82) dX15_differs_170 rfl ?_
        exact J_sub [1, 2, 3, 4, 0] rfl (ih a0 i1 i3 i4 v9 h7)
def X15_differs_B67 (k56 : (Nat → Int32 → Int32 → AH → Option (Int32 × AH))) : Nat → Nat → Int32 → Int32 → Int32 → AH → Option (Int32 × AH)
  | 0, _, _, _, _, _ => none
  | n + 1, a0, i1, i3, i4, h =>
    G (xc h a0 = 15) <|
    G (xc h (xR h a0 4) = 12) <|
    if (xI h (xR h a0 4) 1) ≤ i4 then (
      X15_differs_B179 k56 a0 i1 i3 h
    ) else (
      X15_differs_B82 k56 (X15_differs_B67 k56 n) FU a0 i1 i3 i4 (nI 0) h
    )
theorem jX15_differs_B67 (x : CT) (k56 : (Nat → Int32 → Int32 → AH → Option (Int32 × AH))) (hk56 : ∀ (a0 : Nat) (i1 : Int32) (i3 : Int32) (h : AH), J x qX15_differs ZI 56 [(0, rv (zx x) a0), (1, .int i1), (3, .int i3)] [] h (k56 a0 i1 i3 h)) : ∀ (n : Nat) (a0 : Nat) (i1 : Int32) (i3 : Int32) (i4 : Int32) (h : AH), J x qX15_differs ZI 67 [(0, rv (zx x) a0), (1, .int i1), (3, .int i3), (4, .int i4)] [] h (X15_differs_B67 k56 n a0 i1 i3 i4 h) := by
  intro n
  induction n with
  | zero => intro a0 i1 i3 i4 h; exact J_none
  | succ n ih =>
    intro a0 i1 i3 i4 h
    unfold X15_differs_B67
    refine J_iload 3 dX15_differs_67 rfl ?_
    refine J_aload_n 0 dX15_differs_69 rv_is rfl ?_
    refine J_G (fun g1 => ?_)
    refine J_getR kc_15 4 (by decide) rfl rfl kw_6_214 dX15_differs_70 g1 ?_
    refine J_G (fun g2 => ?_)
    refine J_getIN kc_12 1 (by decide) rfl rfl kn_25 dX15_differs_73 g2 ?_
    refine J_icmp_ge (tgt := 179) dX15_differs_76 rfl ?_ ?_
    · exact J_sub [0, 1, 2] rfl (jX15_differs_B179 x k56 hk56 a0 i1 i3 h)
    · refine J_iconst (v := nI 0) dX15_differs_79 rfl ?_
      refine J_istore dX15_differs_80 (by decide) (SD.a (lvr := [(0, rv (zx x) a0), (1, .int i1), (3, .int i3), (4, .int i4)]) [0, 1, 2, 3] rfl rfl) ?_
      exact J_sub [1, 2, 3, 4, 0] rfl (jX15_differs_B82 x k56 hk56 (X15_differs_B67 k56 n) ih FU a0 i1 i3 i4 (nI 0) h)
def X15_differs_B56 : Nat → Nat → Int32 → Int32 → AH → Option (Int32 × AH)
  | 0, _, _, _, _ => none
  | n + 1, a0, i1, i3, h =>
    G (xc h a0 = 15) <|
    if (xI h a0 14) < i3 then (
      X15_differs_B185 a0 h
    ) else (
      X15_differs_B67 (X15_differs_B56 n) FU a0 i1 i3 (nI 0) h
    )
theorem jX15_differs_B56 (x : CT) : ∀ (n : Nat) (a0 : Nat) (i1 : Int32) (i3 : Int32) (h : AH), J x qX15_differs ZI 56 [(0, rv (zx x) a0), (1, .int i1), (3, .int i3)] [] h (X15_differs_B56 n a0 i1 i3 h) := by
  intro n
  induction n with
  | zero => intro a0 i1 i3 h; exact J_none
  | succ n ih =>
    intro a0 i1 i3 h
    unfold X15_differs_B56
    refine J_iload_n 2 dX15_differs_56 rfl ?_
    refine J_aload_n 0 dX15_differs_57 rv_is rfl ?_
    refine J_G (fun g1 => ?_)
    refine J_getI kc_15 14 (by decide) rfl rfl kw_6_224 dX15_differs_58 g1 ?_
    refine J_icmp_gt (tgt := 185) dX15_differs_61 rfl ?_ ?_
    · exact J_sub [0] rfl (jX15_differs_B185 x a0 h)
    · refine J_iconst (v := nI 0) dX15_differs_64 rfl ?_
      refine J_istore dX15_differs_65 (by decide) (SD.a (lvr := [(0, rv (zx x) a0), (1, .int i1), (3, .int i3)]) [0, 1, 2] rfl rfl) ?_
      exact J_sub [1, 2, 3, 0] rfl (jX15_differs_B67 x (X15_differs_B56 n) ih FU a0 i1 i3 (nI 0) h)
def X15_differs_f (a0 : Nat) (i1 : Int32) (h : AH) : Option (Int32 × AH) :=
  G (xc h a0 = 15) <|
  LT (pI h a0 0 (nI 0)) fun h2 =>
  G (xc h2 a0 = 15) <|
  if (xR h2 a0 4) = 0 then (
    X15_differs_B21 a0 h2
  ) else (
    BN (X15_in_f i1 (nI 0) (nI 3) h2) fun v5 h4 =>
    if v5 = 0 then (
      X15_differs_B21 a0 h4
    ) else (
      G (xc h4 a0 = 15) <|
      BN (X15_runs_f a0 (nI 0) (xR h4 a0 20) (nI 0) (xI h4 a0 16) h4) fun v8 h7 =>
      G (xc h7 a0 = 15) <|
      BN (X15_runs_f a0 (nI 1) (xR h7 a0 20) (nI 0) (nI 0) h7) fun v11 h10 =>
      X15_differs_B56 FU a0 i1 (nI 0) h10
    )
  )
theorem jX15_differs (x : CT) (a0 : Nat) (i1 : Int32) (h : AH) : J x qX15_differs ZI 0 [(0, rv (zx x) a0), (1, .int i1)] [] h (X15_differs_f a0 i1 h) := by
  unfold X15_differs_f
  refine J_aload_n 0 dX15_differs_0 rv_is rfl ?_
  refine J_iconst (v := nI 0) dX15_differs_1 rfl ?_
  refine J_G (fun g1 => ?_)
  refine J_putI kc_15 0 (by decide) rfl rfl rfl rfl (Or.inl rfl) kw_6_210 dX15_differs_2 g1 ?_
  refine J_LTh (fun h2 => ?_)
  refine J_aload_n 0 dX15_differs_5 rv_is rfl ?_
  refine J_G (fun g3 => ?_)
  refine J_getR kc_15 4 (by decide) rfl rfl kw_6_214 dX15_differs_6 g3 ?_
  refine J_ifnull (tgt := 21) dX15_differs_9 rfl ?_ ?_
  · exact J_sub [0] rfl (jX15_differs_B21 x a0 h2)
  · refine J_iload_n 1 dX15_differs_12 rfl ?_
    refine J_iconst (v := nI 0) dX15_differs_13 rfl ?_
    refine J_iconst (v := nI 3) dX15_differs_14 rfl ?_
    refine J.callS (n := 3) (As := [.int i1, .int (nI 0), .int (nI 3)]) (ctX15_in (lx x) (wx x) i1 (nI 0) (nI 3) h2) kw_8_122 kw_8_120 kw_8_121 kw_1_13 (by decide +kernel) rfl (by decide) (Nat.zero_le _) rfl dX15_differs_15 (fun v5 h4 => ?_)
    show J x _ _ 18 _ [.int v5] h4 _
    refine J_if_ne (tgt := 27) dX15_differs_18 rfl ?_ ?_
    · refine J_aload_n 0 dX15_differs_27 rv_is rfl ?_
      refine J_iconst (v := nI 0) dX15_differs_28 rfl ?_
      refine J_aload_n 0 dX15_differs_29 rv_is rfl ?_
      refine J_G (fun g6 => ?_)
      refine J_getR kc_15 20 (by decide) rfl rfl kw_6_230 dX15_differs_30 g6 ?_
      refine J_iconst (v := nI 0) dX15_differs_33 rfl ?_
      refine J_aload_n 0 dX15_differs_34 rv_is rfl ?_
      refine J_getI kc_15 16 (by decide) rfl rfl kw_6_226 dX15_differs_35 g6 ?_
      refine J.callV (n := 4) (As := [.int (nI 0), rv (zx x) (xR h4 a0 20), .int (nI 0), .int (xI h4 a0 16)]) kc_15 (ctX15_runs (lx x) (wx x) a0 (nI 0) (xR h4 a0 20) (nI 0) (xI h4 a0 16) h4) kw_8_154 kw_8_151 kw_8_153 kp_29 kw_1_13 (by decide +kernel) rfl (by decide) (Nat.zero_le _) rfl dX15_differs_38 g6 (fun v8 h7 => ?_)
      show J x _ _ 41 _ [.int v8] h7 _
      refine J_istore_n dX15_differs_41 (by decide) (SD.a (lvr := [(0, rv (zx x) a0), (1, .int i1)]) [0, 1] rfl rfl) ?_
      refine J_aload_n 1 dX15_differs_42 rv_is rfl ?_
      refine J_iconst (v := nI 1) dX15_differs_43 rfl ?_
      refine J_aload_n 1 dX15_differs_44 rv_is rfl ?_
      refine J_G (fun g9 => ?_)
      refine J_getR kc_15 20 (by decide) rfl rfl kw_6_230 dX15_differs_45 g9 ?_
      refine J_iconst (v := nI 0) dX15_differs_48 rfl ?_
      refine J_iconst (v := nI 0) dX15_differs_49 rfl ?_
      refine J.callV (n := 4) (As := [.int (nI 1), rv (zx x) (xR h7 a0 20), .int (nI 0), .int (nI 0)]) kc_15 (ctX15_runs (lx x) (wx x) a0 (nI 1) (xR h7 a0 20) (nI 0) (nI 0) h7) kw_8_154 kw_8_151 kw_8_153 kp_29 kw_1_13 (by decide +kernel) rfl (by decide) (Nat.zero_le _) rfl dX15_differs_50 g9 (fun v11 h10 => ?_)
      show J x _ _ 53 _ [.int v11] h10 _
      refine J_istore_n dX15_differs_53 (by decide) (SD.a (lvr := [(0, rv (zx x) a0), (1, .int i1)]) [1, 2] rfl rfl) ?_
      refine J_iconst (v := nI 0) dX15_differs_54 rfl ?_
      refine J_istore_n dX15_differs_55 (by decide) (SD.a (lvr := [(0, rv (zx x) a0), (1, .int i1)]) [1, 2] rfl rfl) ?_
      exact J_sub [1, 2, 0] rfl (jX15_differs_B56 x FU a0 i1 (nI 0) h10)
    · exact J_sub [0] rfl (jX15_differs_B21 x a0 h4)
theorem ctX15_differs (l : Launch) (w : WT) (a0 : Nat) (i1 : Int32) (h : AH) : CM l w yX15_differs cX15_differs 7 (some .int) 6 143 KI [rv (w.1) a0, .int i1] h (X15_differs_f a0 i1 h) :=
  CM.of (by decide +kernel) (by simp [lg_sl, rv_cat, cat_I, cat_L, cat_S]) (lv := [(0, rv (w.1) a0), (1, .int i1)]) (by simp [lv_args, rv_cat, cat_I, cat_L, cat_S]) (fun x hx => by subst hx; exact jX15_differs x a0 i1 h)
-- FallTrialsModel.spoils()I
abbrev qX15_spoils : MT := (cX15_spoils, RX15, "spoils", (some .int), 6, 143, 1)
def X15_spoils_B69 (is0 : Int32) (as1 : Nat) (h : AH) : Option (Int32 × AH) :=
  G (xc h as1 = 15) <|
  BN (X15_done_f as1 is0 h) fun v3 h2 =>
  some (v3, h2)
theorem jX15_spoils_B69 (x : CT) (is0 : Int32) (as1 : Nat) (h : AH) : J x qX15_spoils ZI 69 [] [.int is0, rv (zx x) as1] h (X15_spoils_B69 is0 as1 h) := by
  unfold X15_spoils_B69
  refine J_G (fun g1 => ?_)
  refine J.callV (n := 1) (As := [.int is0]) kc_15 (ctX15_done (lx x) (wx x) as1 is0 h) kw_8_103 kw_8_100 kw_8_102 kp_24 kw_1_13 (by decide +kernel) rfl (by decide) (Nat.zero_le _) rfl dX15_spoils_69 g1 (fun v3 h2 => ?_)
  show J x _ _ 72 _ [.int v3] h2 _
  exact J_iret dX15_spoils_72
def X15_spoils_f (a0 : Nat) (h : AH) : Option (Int32 × AH) :=
  G (xc h a0 = 15) <|
  LT (pI h a0 0 (nI 0)) fun h2 =>
  G (xc h2 a0 = 15) <|
  if (xR h2 a0 4) = 0 then (
    G (xc h2 a0 = 15) <|
    BN (X15_refused_f a0 (nI 1) h2) fun v18 h17 =>
    some (v18, h17)
  ) else (
    G (xc h2 a0 = 15) <|
    BN (X15_runs_f a0 (nI 1) (xR h2 a0 20) (nI 0) (nI 0) h2) fun v6 h5 =>
    if v6 = (nI 2) then (
      G (xc h5 a0 = 15) <|
      BN (X15_refused_f a0 (nI 5) h5) fun v15 h14 =>
      some (v15, h14)
    ) else (
      G (xc h5 a0 = 15) <|
      G (xc h5 (xR h5 a0 27) = 13) <|
      BN (X13_lay_f (xR h5 a0 27) (xR h5 a0 20) (nI 0) (xI h5 a0 16) h5) fun _ h9 =>
      G (xc h9 a0 = 15) <|
      BN (X15_isSpoilt_f a0 (nI 1) h9) fun v12 h11 =>
      if v12 = 0 then (
        X15_spoils_B69 (nI 0) a0 h11
      ) else (
        X15_spoils_B69 (nI 1) a0 h11
      )
    )
  )
theorem jX15_spoils (x : CT) (a0 : Nat) (h : AH) : J x qX15_spoils ZI 0 [(0, rv (zx x) a0)] [] h (X15_spoils_f a0 h) := by
  unfold X15_spoils_f
  refine J_aload_n 0 dX15_spoils_0 rv_is rfl ?_
  refine J_iconst (v := nI 0) dX15_spoils_1 rfl ?_
  refine J_G (fun g1 => ?_)
  refine J_putI kc_15 0 (by decide) rfl rfl rfl rfl (Or.inl rfl) kw_6_210 dX15_spoils_2 g1 ?_
  refine J_LTh (fun h2 => ?_)
  refine J_aload_n 0 dX15_spoils_5 rv_is rfl ?_
  refine J_G (fun g3 => ?_)
  refine J_getR kc_15 4 (by decide) rfl rfl kw_6_214 dX15_spoils_6 g3 ?_
  refine J_ifnonnull (tgt := 18) dX15_spoils_9 rfl ?_ ?_
  · refine J_aload_n 0 dX15_spoils_18 rv_is rfl ?_
    refine J_iconst (v := nI 1) dX15_spoils_19 rfl ?_
    refine J_aload_n 0 dX15_spoils_20 rv_is rfl ?_
    refine J_G (fun g4 => ?_)
    refine J_getR kc_15 20 (by decide) rfl rfl kw_6_230 dX15_spoils_21 g4 ?_
    refine J_iconst (v := nI 0) dX15_spoils_24 rfl ?_
    refine J_iconst (v := nI 0) dX15_spoils_25 rfl ?_
    refine J.callV (n := 4) (As := [.int (nI 1), rv (zx x) (xR h2 a0 20), .int (nI 0), .int (nI 0)]) kc_15 (ctX15_runs (lx x) (wx x) a0 (nI 1) (xR h2 a0 20) (nI 0) (nI 0) h2) kw_8_154 kw_8_151 kw_8_153 kp_29 kw_1_13 (by decide +kernel) rfl (by decide) (Nat.zero_le _) rfl dX15_spoils_26 g4 (fun v6 h5 => ?_)
    show J x _ _ 29 _ [.int v6] h5 _
    refine J_iconst (v := nI 2) dX15_spoils_29 rfl ?_
    refine J_icmp_ne (tgt := 39) dX15_spoils_30 rfl ?_ ?_
    · refine J_aload_n 0 dX15_spoils_39 rv_is rfl ?_
      refine J_G (fun g7 => ?_)
      refine J_getR kc_15 27 (by decide) rfl rfl kw_6_237 dX15_spoils_40 g7 ?_
      refine J_aload_n 0 dX15_spoils_43 rv_is rfl ?_
      refine J_getR kc_15 20 (by decide) rfl rfl kw_6_230 dX15_spoils_44 g7 ?_
      refine J_iconst (v := nI 0) dX15_spoils_47 rfl ?_
      refine J_aload_n 0 dX15_spoils_48 rv_is rfl ?_
      refine J_getI kc_15 16 (by decide) rfl rfl kw_6_226 dX15_spoils_49 g7 ?_
      refine J_G (fun g8 => ?_)
      refine J.callV (n := 3) (As := [rv (zx x) (xR h5 a0 20), .int (nI 0), .int (xI h5 a0 16)]) kc_13 (ctX13_lay (lx x) (wx x) (xR h5 a0 27) (xR h5 a0 20) (nI 0) (xI h5 a0 16) h5) kw_8_158 kw_8_155 kw_8_156 kw_8_157 kw_1_18 (by decide +kernel) rfl (by decide) (Nat.zero_le _) rfl dX15_spoils_52 g8 (fun _ h9 => ?_)
      show J x _ _ 55 _ [] h9 _
      refine J_aload_n 0 dX15_spoils_55 rv_is rfl ?_
      refine J_aload_n 0 dX15_spoils_56 rv_is rfl ?_
      refine J_iconst (v := nI 1) dX15_spoils_57 rfl ?_
      refine J_G (fun g10 => ?_)
      refine J.callV (n := 1) (As := [.int (nI 1)]) kc_15 (ctX15_isSpoilt (lx x) (wx x) a0 (nI 1) h9) kw_9_21 kw_9_18 kw_9_20 kp_48 kw_1_13 (by decide +kernel) rfl (by decide) (by simp [rv_cat, cat_I, cat_L, cat_S]) rfl dX15_spoils_58 g10 (fun v12 h11 => ?_)
      show J x _ _ 61 _ [.int v12, rv (zx x) a0] h11 _
      refine J_if_eq (tgt := 68) dX15_spoils_61 rfl ?_ ?_
      · refine J_iconst (v := nI 0) dX15_spoils_68 rfl ?_
        exact J_sub [] rfl (jX15_spoils_B69 x (nI 0) a0 h11)
      · refine J_iconst (v := nI 1) dX15_spoils_64 rfl ?_
        refine J_goto (tgt := 69) dX15_spoils_65 rfl ?_
        exact J_sub [] rfl (jX15_spoils_B69 x (nI 1) a0 h11)
    · refine J_aload_n 0 dX15_spoils_33 rv_is rfl ?_
      refine J_iconst (v := nI 5) dX15_spoils_34 rfl ?_
      refine J_G (fun g13 => ?_)
      refine J.callV (n := 1) (As := [.int (nI 5)]) kc_15 (ctX15_refused (lx x) (wx x) a0 (nI 5) h5) kw_7_139 kw_7_136 kw_7_138 kp_8 kw_1_13 (by decide +kernel) rfl (by decide) (Nat.zero_le _) rfl dX15_spoils_35 g13 (fun v15 h14 => ?_)
      show J x _ _ 38 _ [.int v15] h14 _
      exact J_iret dX15_spoils_38
  · refine J_aload_n 0 dX15_spoils_12 rv_is rfl ?_
    refine J_iconst (v := nI 1) dX15_spoils_13 rfl ?_
    refine J_G (fun g16 => ?_)
    refine J.callV (n := 1) (As := [.int (nI 1)]) kc_15 (ctX15_refused (lx x) (wx x) a0 (nI 1) h2) kw_7_139 kw_7_136 kw_7_138 kp_8 kw_1_13 (by decide +kernel) rfl (by decide) (Nat.zero_le _) rfl dX15_spoils_14 g16 (fun v18 h17 => ?_)
    show J x _ _ 17 _ [.int v18] h17 _
    exact J_iret dX15_spoils_17
theorem ctX15_spoils (l : Launch) (w : WT) (a0 : Nat) (h : AH) : CM l w yX15_spoils cX15_spoils 1 (some .int) 6 143 KI [rv (w.1) a0] h (X15_spoils_f a0 h) :=
  CM.of (by decide +kernel) (by simp [lg_sl, rv_cat, cat_I, cat_L, cat_S]) (lv := [(0, rv (w.1) a0)]) (by simp [lv_args, rv_cat, cat_I, cat_L, cat_S]) (fun x hx => by subst hx; exact jX15_spoils x a0 h)
-- FallTrialsModel.stands(III)I
abbrev qX15_stands : MT := (cX15_stands, RX15, "stands", (some .int), 6, 143, 5)
def X15_stands_B21 (a0 : Nat) (h : AH) : Option (Int32 × AH) :=
  G (xc h a0 = 15) <|
  BN (X15_refused_f a0 (nI 1) h) fun v3 h2 =>
  some (v3, h2)
theorem jX15_stands_B21 (x : CT) (a0 : Nat) (h : AH) : J x qX15_stands ZI 21 [(0, rv (zx x) a0)] [] h (X15_stands_B21 a0 h) := by
  unfold X15_stands_B21
  refine J_aload_n 0 dX15_stands_21 rv_is rfl ?_
  refine J_iconst (v := nI 1) dX15_stands_22 rfl ?_
  refine J_G (fun g1 => ?_)
  refine J.callV (n := 1) (As := [.int (nI 1)]) kc_15 (ctX15_refused (lx x) (wx x) a0 (nI 1) h) kw_7_139 kw_7_136 kw_7_138 kp_8 kw_1_13 (by decide +kernel) rfl (by decide) (Nat.zero_le _) rfl dX15_stands_23 g1 (fun v3 h2 => ?_)
  show J x _ _ 26 _ [.int v3] h2 _
  exact J_iret dX15_stands_26
def X15_stands_B119 (is0 : Int32) (as1 : Nat) (h : AH) : Option (Int32 × AH) :=
  G (xc h as1 = 15) <|
  BN (X15_done_f as1 is0 h) fun v3 h2 =>
  some (v3, h2)
theorem jX15_stands_B119 (x : CT) (is0 : Int32) (as1 : Nat) (h : AH) : J x qX15_stands ZI 119 [] [.int is0, rv (zx x) as1] h (X15_stands_B119 is0 as1 h) := by
  unfold X15_stands_B119
  refine J_G (fun g1 => ?_)
  refine J.callV (n := 1) (As := [.int is0]) kc_15 (ctX15_done (lx x) (wx x) as1 is0 h) kw_8_103 kw_8_100 kw_8_102 kp_24 kw_1_13 (by decide +kernel) rfl (by decide) (Nat.zero_le _) rfl dX15_stands_119 g1 (fun v3 h2 => ?_)
  show J x _ _ 122 _ [.int v3] h2 _
  exact J_iret dX15_stands_122
def X15_stands_f (a0 : Nat) (i1 : Int32) (i2 : Int32) (i3 : Int32) (h : AH) : Option (Int32 × AH) :=
  G (xc h a0 = 15) <|
  LT (pI h a0 0 (nI 0)) fun h2 =>
  G (xc h2 a0 = 15) <|
  BN (X15_isRow_f a0 i1 h2) fun v5 h4 =>
  if v5 = 0 then (
    X15_stands_B21 a0 h4
  ) else (
    G (xc h4 a0 = 15) <|
    BN (X15_isMachine_f a0 i2 h4) fun v8 h7 =>
    if v8 = 0 then (
      X15_stands_B21 a0 h7
    ) else (
      G (xc h7 a0 = 15) <|
      BN (X15_in_f i3 (nI 0) (xI h7 a0 14) h7) fun v11 h10 =>
      if v11 = 0 then (
        G (xc h10 a0 = 15) <|
        BN (X15_refused_f a0 (nI 2) h10) fun v33 h32 =>
        some (v33, h32)
      ) else (
        G (xc h10 a0 = 15) <|
        BN (X15_runs_f a0 (nI 1) (xR h10 a0 20) (nI 0) (nI 0) h10) fun v14 h13 =>
        G (xc h13 a0 = 15) <|
        BN (X15_isThere_f a0 (nI 1) i1 i2 i3 h13) fun v17 h16 =>
        if v17 = 0 then (
          G (xc h16 a0 = 15) <|
          BN (X15_refused_f a0 (nI 5) h16) fun v30 h29 =>
          some (v30, h29)
        ) else (
          G (xc h16 a0 = 15) <|
          G (xc h16 (xR h16 a0 27) = 13) <|
          BN (X13_lay_f (xR h16 a0 27) (xR h16 a0 20) (nI 0) (xI h16 a0 16) h16) fun _ h20 =>
          G (xc h20 a0 = 15) <|
          BN (X15_puts_f a0 (nI 1) h20) fun _ h22 =>
          G (xc h22 a0 = 15) <|
          G (xc h22 (xR h22 a0 35) = 16) <|
          G (gx (((nI 4) * i3) + i2) (xz h22 (xR h22 a0 35))) <|
          BN (X15_has_f (xI h22 (xR h22 a0 35) (((nI 4) * i3) + i2).toNatClampNeg) i1 h22) fun v27 h26 =>
          if v27 = 0 then (
            X15_stands_B119 (nI 0) a0 h26
          ) else (
            X15_stands_B119 (nI 1) a0 h26
          )
        )
      )
    )
  )
theorem jX15_stands (x : CT) (a0 : Nat) (i1 : Int32) (i2 : Int32) (i3 : Int32) (h : AH) : J x qX15_stands ZI 0 [(0, rv (zx x) a0), (1, .int i1), (2, .int i2), (3, .int i3)] [] h (X15_stands_f a0 i1 i2 i3 h) := by
  unfold X15_stands_f
  refine J_aload_n 0 dX15_stands_0 rv_is rfl ?_
  refine J_iconst (v := nI 0) dX15_stands_1 rfl ?_
  refine J_G (fun g1 => ?_)
  refine J_putI kc_15 0 (by decide) rfl rfl rfl rfl (Or.inl rfl) kw_6_210 dX15_stands_2 g1 ?_
  refine J_LTh (fun h2 => ?_)
  refine J_aload_n 0 dX15_stands_5 rv_is rfl ?_
  refine J_iload_n 1 dX15_stands_6 rfl ?_
  refine J_G (fun g3 => ?_)
  refine J.callV (n := 1) (As := [.int i1]) kc_15 (ctX15_isRow (lx x) (wx x) a0 i1 h2) kw_8_221 kw_8_218 kw_8_220 kp_43 kw_1_13 (by decide +kernel) rfl (by decide) (Nat.zero_le _) rfl dX15_stands_7 g3 (fun v5 h4 => ?_)
  show J x _ _ 10 _ [.int v5] h4 _
  refine J_if_eq (tgt := 21) dX15_stands_10 rfl ?_ ?_
  · exact J_sub [0] rfl (jX15_stands_B21 x a0 h4)
  · refine J_aload_n 0 dX15_stands_13 rv_is rfl ?_
    refine J_iload_n 2 dX15_stands_14 rfl ?_
    refine J_G (fun g6 => ?_)
    refine J.callV (n := 1) (As := [.int i2]) kc_15 (ctX15_isMachine (lx x) (wx x) a0 i2 h4) kw_8_225 kw_8_222 kw_8_224 kp_44 kw_1_13 (by decide +kernel) rfl (by decide) (Nat.zero_le _) rfl dX15_stands_15 g6 (fun v8 h7 => ?_)
    show J x _ _ 18 _ [.int v8] h7 _
    refine J_if_ne (tgt := 27) dX15_stands_18 rfl ?_ ?_
    · refine J_iload_n 3 dX15_stands_27 rfl ?_
      refine J_iconst (v := nI 0) dX15_stands_28 rfl ?_
      refine J_aload_n 0 dX15_stands_29 rv_is rfl ?_
      refine J_G (fun g9 => ?_)
      refine J_getI kc_15 14 (by decide) rfl rfl kw_6_224 dX15_stands_30 g9 ?_
      refine J.callS (n := 3) (As := [.int i3, .int (nI 0), .int (xI h7 a0 14)]) (ctX15_in (lx x) (wx x) i3 (nI 0) (xI h7 a0 14) h7) kw_8_122 kw_8_120 kw_8_121 kw_1_13 (by decide +kernel) rfl (by decide) (Nat.zero_le _) rfl dX15_stands_33 (fun v11 h10 => ?_)
      show J x _ _ 36 _ [.int v11] h10 _
      refine J_if_ne (tgt := 45) dX15_stands_36 rfl ?_ ?_
      · refine J_aload_n 0 dX15_stands_45 rv_is rfl ?_
        refine J_iconst (v := nI 1) dX15_stands_46 rfl ?_
        refine J_aload_n 0 dX15_stands_47 rv_is rfl ?_
        refine J_G (fun g12 => ?_)
        refine J_getR kc_15 20 (by decide) rfl rfl kw_6_230 dX15_stands_48 g12 ?_
        refine J_iconst (v := nI 0) dX15_stands_51 rfl ?_
        refine J_iconst (v := nI 0) dX15_stands_52 rfl ?_
        refine J.callV (n := 4) (As := [.int (nI 1), rv (zx x) (xR h10 a0 20), .int (nI 0), .int (nI 0)]) kc_15 (ctX15_runs (lx x) (wx x) a0 (nI 1) (xR h10 a0 20) (nI 0) (nI 0) h10) kw_8_154 kw_8_151 kw_8_153 kp_29 kw_1_13 (by decide +kernel) rfl (by decide) (Nat.zero_le _) rfl dX15_stands_53 g12 (fun v14 h13 => ?_)
        show J x _ _ 56 _ [.int v14] h13 _
        refine J_istore dX15_stands_56 (by decide) (SD.a (lvr := [(0, rv (zx x) a0), (1, .int i1), (2, .int i2), (3, .int i3)]) [0, 1, 2, 3] rfl rfl) ?_
        refine J_aload_n 1 dX15_stands_58 rv_is rfl ?_
        refine J_iconst (v := nI 1) dX15_stands_59 rfl ?_
        refine J_iload_n 2 dX15_stands_60 rfl ?_
        refine J_iload_n 3 dX15_stands_61 rfl ?_
        refine J_iload_n 4 dX15_stands_62 rfl ?_
        refine J_G (fun g15 => ?_)
        refine J.callV (n := 4) (As := [.int (nI 1), .int i1, .int i2, .int i3]) kc_15 (ctX15_isThere (lx x) (wx x) a0 (nI 1) i1 i2 i3 h13) kw_8_213 kw_8_210 kw_8_212 kp_42 kw_1_13 (by decide +kernel) rfl (by decide) (Nat.zero_le _) rfl dX15_stands_63 g15 (fun v17 h16 => ?_)
        show J x _ _ 66 _ [.int v17] h16 _
        refine J_if_ne (tgt := 75) dX15_stands_66 rfl ?_ ?_
        · refine J_aload_n 1 dX15_stands_75 rv_is rfl ?_
          refine J_G (fun g18 => ?_)
          refine J_getR kc_15 27 (by decide) rfl rfl kw_6_237 dX15_stands_76 g18 ?_
          refine J_aload_n 1 dX15_stands_79 rv_is rfl ?_
          refine J_getR kc_15 20 (by decide) rfl rfl kw_6_230 dX15_stands_80 g18 ?_
          refine J_iconst (v := nI 0) dX15_stands_83 rfl ?_
          refine J_aload_n 1 dX15_stands_84 rv_is rfl ?_
          refine J_getI kc_15 16 (by decide) rfl rfl kw_6_226 dX15_stands_85 g18 ?_
          refine J_G (fun g19 => ?_)
          refine J.callV (n := 3) (As := [rv (zx x) (xR h16 a0 20), .int (nI 0), .int (xI h16 a0 16)]) kc_13 (ctX13_lay (lx x) (wx x) (xR h16 a0 27) (xR h16 a0 20) (nI 0) (xI h16 a0 16) h16) kw_8_158 kw_8_155 kw_8_156 kw_8_157 kw_1_18 (by decide +kernel) rfl (by decide) (Nat.zero_le _) rfl dX15_stands_88 g19 (fun _ h20 => ?_)
          show J x _ _ 91 _ [] h20 _
          refine J_aload_n 1 dX15_stands_91 rv_is rfl ?_
          refine J_iconst (v := nI 1) dX15_stands_92 rfl ?_
          refine J_G (fun g21 => ?_)
          refine J.callV (n := 1) (As := [.int (nI 1)]) kc_15 (ctX15_puts (lx x) (wx x) a0 (nI 1) h20) kw_9_25 kw_9_22 kw_9_24 kp_49 kw_1_13 (by decide +kernel) rfl (by decide) (Nat.zero_le _) rfl dX15_stands_93 g21 (fun _ h22 => ?_)
          show J x _ _ 96 _ [] h22 _
          refine J_aload_n 1 dX15_stands_96 rv_is rfl ?_
          refine J_aload_n 1 dX15_stands_97 rv_is rfl ?_
          refine J_G (fun g23 => ?_)
          refine J_getR kc_15 35 (by decide) rfl rfl kw_7_5 dX15_stands_98 g23 ?_
          refine J_iconst (v := nI 4) dX15_stands_101 rfl ?_
          refine J_iload_n 4 dX15_stands_102 rfl ?_
          refine J_imul dX15_stands_103 ?_
          refine J_iload_n 3 dX15_stands_104 rfl ?_
          refine J_iadd dX15_stands_105 ?_
          refine J_G (fun g24 => ?_)
          refine J_G (fun g25 => ?_)
          refine J_iald dX15_stands_106 g24 g25 ?_
          refine J_iload_n 2 dX15_stands_107 rfl ?_
          refine J.callS (n := 2) (As := [.int (xI h22 (xR h22 a0 35) (((nI 4) * i3) + i2).toNatClampNeg), .int i1]) (ctX15_has (lx x) (wx x) (xI h22 (xR h22 a0 35) (((nI 4) * i3) + i2).toNatClampNeg) i1 h22) kw_8_177 kw_8_175 kw_8_176 kw_1_13 (by decide +kernel) rfl (by decide) (by simp [rv_cat, cat_I, cat_L, cat_S]) rfl dX15_stands_108 (fun v27 h26 => ?_)
          show J x _ _ 111 _ [.int v27, rv (zx x) a0] h26 _
          refine J_if_eq (tgt := 118) dX15_stands_111 rfl ?_ ?_
          · refine J_iconst (v := nI 0) dX15_stands_118 rfl ?_
            exact J_sub [] rfl (jX15_stands_B119 x (nI 0) a0 h26)
          · refine J_iconst (v := nI 1) dX15_stands_114 rfl ?_
            refine J_goto (tgt := 119) dX15_stands_115 rfl ?_
            exact J_sub [] rfl (jX15_stands_B119 x (nI 1) a0 h26)
        · refine J_aload_n 1 dX15_stands_69 rv_is rfl ?_
          refine J_iconst (v := nI 5) dX15_stands_70 rfl ?_
          refine J_G (fun g28 => ?_)
          refine J.callV (n := 1) (As := [.int (nI 5)]) kc_15 (ctX15_refused (lx x) (wx x) a0 (nI 5) h16) kw_7_139 kw_7_136 kw_7_138 kp_8 kw_1_13 (by decide +kernel) rfl (by decide) (Nat.zero_le _) rfl dX15_stands_71 g28 (fun v30 h29 => ?_)
          show J x _ _ 74 _ [.int v30] h29 _
          exact J_iret dX15_stands_74
      · refine J_aload_n 0 dX15_stands_39 rv_is rfl ?_
        refine J_iconst (v := nI 2) dX15_stands_40 rfl ?_
        refine J_G (fun g31 => ?_)
        refine J.callV (n := 1) (As := [.int (nI 2)]) kc_15 (ctX15_refused (lx x) (wx x) a0 (nI 2) h10) kw_7_139 kw_7_136 kw_7_138 kp_8 kw_1_13 (by decide +kernel) rfl (by decide) (Nat.zero_le _) rfl dX15_stands_41 g31 (fun v33 h32 => ?_)
        show J x _ _ 44 _ [.int v33] h32 _
        exact J_iret dX15_stands_44
    · exact J_sub [0] rfl (jX15_stands_B21 x a0 h7)
theorem ctX15_stands (l : Launch) (w : WT) (a0 : Nat) (i1 : Int32) (i2 : Int32) (i3 : Int32) (h : AH) : CM l w yX15_stands cX15_stands 5 (some .int) 6 143 KI [rv (w.1) a0, .int i1, .int i2, .int i3] h (X15_stands_f a0 i1 i2 i3 h) :=
  CM.of (by decide +kernel) (by simp [lg_sl, rv_cat, cat_I, cat_L, cat_S]) (lv := [(0, rv (w.1) a0), (1, .int i1), (2, .int i2), (3, .int i3)]) (by simp [lv_args, rv_cat, cat_I, cat_L, cat_S]) (fun x hx => by subst hx; exact jX15_stands x a0 i1 i2 i3 h)
