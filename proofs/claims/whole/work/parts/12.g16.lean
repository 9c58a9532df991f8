-- FallTrialsModel.fall(III)I
abbrev qX15_fall : MT := (cX15_fall, RX15, "fall", (some .int), 1, 22, 6)
def X15_fall_B34 (a0 : Nat) (h : AH) : Option (Int32 × AH) :=
  G (xc h a0 = 15) <|
  BN (X15_refused_f a0 (nI 1) h) fun v3 h2 =>
  some (v3, h2)
theorem jX15_fall_B34 (x : CT) (a0 : Nat) (h : AH) : J x qX15_fall ZI 34 [(0, rv (zx x) a0)] [] h (X15_fall_B34 a0 h) := by
  unfold X15_fall_B34
  refine J_aload_n 0 dX15_fall_34 rv_is rfl ?_
  refine J_iconst (v := nI 1) dX15_fall_35 rfl ?_
  refine J_G (fun g1 => ?_)
  refine J.callV (n := 1) (As := [.int (nI 1)]) kc_15 (ctX15_refused (lx x) (wx x) a0 (nI 1) h) kw_7_139 kw_7_136 kw_7_138 kp_8 kw_1_13 (by decide +kernel) rfl (by decide) (Nat.zero_le _) rfl dX15_fall_36 g1 (fun v3 h2 => ?_)
  show J x _ _ 39 _ [.int v3] h2 _
  exact J_iret dX15_fall_39
def X15_fall_B171 (a0 : Nat) (i4 : Int32) (i5 : Int32) (h : AH) : Option (Int32 × AH) :=
  G (xc h a0 = 15) <|
  G (xc h (xR h a0 20) = 16) <|
  G (gx i5 (xz h (xR h a0 20))) <|
  LT (pI h (xR h a0 20) i5.toNatClampNeg i4) fun h4 =>
  G (xc h4 a0 = 15) <|
  LT (pI h4 a0 16 ((xI h4 a0 16) + (nI 1))) fun h6 =>
  G (xc h6 a0 = 15) <|
  BN (X15_done_f a0 (xI h6 a0 16) h6) fun v9 h8 =>
  some (v9, h8)
theorem jX15_fall_B171 (x : CT) (a0 : Nat) (i4 : Int32) (i5 : Int32) (h : AH) : J x qX15_fall ZI 171 [(0, rv (zx x) a0), (4, .int i4), (5, .int i5)] [] h (X15_fall_B171 a0 i4 i5 h) := by
  unfold X15_fall_B171
  refine J_aload_n 0 dX15_fall_171 rv_is rfl ?_
  refine J_G (fun g1 => ?_)
  refine J_getR kc_15 20 (by decide) rfl rfl kw_6_230 dX15_fall_172 g1 ?_
  refine J_iload 2 dX15_fall_175 rfl ?_
  refine J_iload 1 dX15_fall_177 rfl ?_
  refine J_G (fun g2 => ?_)
  refine J_G (fun g3 => ?_)
  refine J_iast dX15_fall_179 g2 g3 ?_
  refine J_LTh (fun h4 => ?_)
  refine J_aload_n 0 dX15_fall_180 rv_is rfl ?_
  refine J_dup dX15_fall_181 rv_cat ?_
  refine J_G (fun g5 => ?_)
  refine J_getI kc_15 16 (by decide) rfl rfl kw_6_226 dX15_fall_182 g5 ?_
  refine J_iconst (v := nI 1) dX15_fall_185 rfl ?_
  refine J_iadd dX15_fall_186 ?_
  refine J_putI kc_15 16 (by decide) rfl rfl rfl rfl (Or.inl rfl) kw_6_226 dX15_fall_187 g5 ?_
  refine J_LTh (fun h6 => ?_)
  refine J_aload_n 0 dX15_fall_190 rv_is rfl ?_
  refine J_aload_n 0 dX15_fall_191 rv_is rfl ?_
  refine J_G (fun g7 => ?_)
  refine J_getI kc_15 16 (by decide) rfl rfl kw_6_226 dX15_fall_192 g7 ?_
  refine J.callV (n := 1) (As := [.int (xI h6 a0 16)]) kc_15 (ctX15_done (lx x) (wx x) a0 (xI h6 a0 16) h6) kw_8_103 kw_8_100 kw_8_102 kp_24 kw_1_13 (by decide +kernel) rfl (by decide) (Nat.zero_le _) rfl dX15_fall_195 g7 (fun v9 h8 => ?_)
  show J x _ _ 198 _ [.int v9] h8 _
  exact J_iret dX15_fall_198
def X15_fall_B130 : Nat → Nat → Int32 → Int32 → AH → Option (Int32 × AH)
  | 0, _, _, _, _ => none
  | n + 1, a0, i4, i5, h =>
    if i5 ≤ 0 then (
      X15_fall_B171 a0 i4 i5 h
    ) else (
      G (xc h a0 = 15) <|
      G (xc h (xR h a0 20) = 16) <|
      G (gx (i5 - (nI 1)) (xz h (xR h a0 20))) <|
      if (xI h (xR h a0 20) (i5 - (nI 1)).toNatClampNeg) ≤ i4 then (
        X15_fall_B171 a0 i4 i5 h
      ) else (
        G (xc h a0 = 15) <|
        G (xc h (xR h a0 20) = 16) <|
        G (gx (i5 - (nI 1)) (xz h (xR h a0 20))) <|
        G (gx i5 (xz h (xR h a0 20))) <|
        LT (pI h (xR h a0 20) i5.toNatClampNeg (xI h (xR h a0 20) (i5 - (nI 1)).toNatClampNeg)) fun h8 =>
        LT (i5 + (-1)) fun v9 =>
        X15_fall_B130 n a0 i4 v9 h8
      )
    )
theorem jX15_fall_B130 (x : CT) : ∀ (n : Nat) (a0 : Nat) (i4 : Int32) (i5 : Int32) (h : AH), J x qX15_fall ZI 130 [(0, rv (zx x) a0), (4, .int i4), (5, .int i5)] [] h (X15_fall_B130 n a0 i4 i5 h) := by
  intro n
  induction n with
  | zero => intro a0 i4 i5 h; exact J_none
  | succ n ih =>
    intro a0 i4 i5 h
    unfold X15_fall_B130
    refine J_iload 2 dX15_fall_130 rfl ?_
    refine J_if_le (tgt := 171) dX15_fall_132 rfl ?_ ?_
    · exact (jX15_fall_B171 x a0 i4 i5 h)
    · refine J_aload_n 0 dX15_fall_135 rv_is rfl ?_
      refine J_G (fun g1 => ?_)
      refine J_getR kc_15 20 (by decide) rfl rfl kw_6_230 dX15_fall_136 g1 ?_
      refine J_iload 2 dX15_fall_139 rfl ?_
      refine J_iconst (v := nI 1) dX15_fall_141 rfl ?_
      refine J_isub dX15_fall_142 ?_
      refine J_G (fun g2 => ?_)
      refine J_G (fun g3 => ?_)
      refine J_iald dX15_fall_143 g2 g3 ?_
      refine J_iload 1 dX15_fall_144 rfl ?_
      refine J_icmp_le (tgt := 171) dX15_fall_146 rfl ?_ ?_
      · exact (jX15_fall_B171 x a0 i4 i5 h)
      · refine J_aload_n 0 dX15_fall_149 rv_is rfl ?_
        refine J_G (fun g4 => ?_)
        refine J_getR kc_15 20 (by decide) rfl rfl kw_6_230 dX15_fall_150 g4 ?_
        refine J_iload 2 dX15_fall_153 rfl ?_
        refine J_aload_n 0 dX15_fall_155 rv_is rfl ?_
        refine J_getR kc_15 20 (by decide) rfl rfl kw_6_230 dX15_fall_156 g4 ?_
        refine J_iload 2 dX15_fall_159 rfl ?_
        refine J_iconst (v := nI 1) dX15_fall_161 rfl ?_
        refine J_isub dX15_fall_162 ?_
        refine J_G (fun g5 => ?_)
        refine J_G (fun g6 => ?_)
        refine J_iald dX15_fall_163 g5 g6 ?_
        refine J_G (fun g7 => ?_)
        refine J_iast dX15_fall_164 g5 g7 ?_
        refine J_LTh (fun h8 => ?_)
        refine J_iincL (u := i5 + (-1)) 2 dX15_fall_165 rfl rfl (by decide) (SD.a (lvr := [(0, rv (zx x) a0), (4, .int i4)]) [0, 1] rfl rfl) (fun v9 => ?_)
        refine J_goto (tgt := 130) dX15_fall_168 rfl ?_
        exact J_sub [1, 2, 0] rfl (ih a0 i4 v9 h8)
def X15_fall_B109 (a0 : Nat) (i4 : Int32) (h : AH) : Option (Int32 × AH) :=
  G (xc h a0 = 15) <|
  if (xI h a0 16) = (nI 6) then (
    G (xc h a0 = 15) <|
    BN (X15_refused_f a0 (nI 3) h) fun v6 h5 =>
    some (v6, h5)
  ) else (
    G (xc h a0 = 15) <|
    LT (xI h a0 16) fun v3 =>
    X15_fall_B130 FU a0 i4 v3 h
  )
theorem jX15_fall_B109 (x : CT) (a0 : Nat) (i4 : Int32) (h : AH) : J x qX15_fall ZI 109 [(0, rv (zx x) a0), (4, .int i4)] [] h (X15_fall_B109 a0 i4 h) := by
  unfold X15_fall_B109
  refine J_aload_n 0 dX15_fall_109 rv_is rfl ?_
  refine J_G (fun g1 => ?_)
  refine J_getI kc_15 16 (by decide) rfl rfl kw_6_226 dX15_fall_110 g1 ?_
  refine J_bipush (v := nI 6) dX15_fall_113 rfl ?_
  refine J_icmp_ne (tgt := 124) dX15_fall_115 rfl ?_ ?_
  · refine J_aload_n 0 dX15_fall_124 rv_is rfl ?_
    refine J_G (fun g2 => ?_)
    refine J_getI kc_15 16 (by decide) rfl rfl kw_6_226 dX15_fall_125 g2 ?_
    refine J_LTi (fun v3 => ?_)
    refine J_istore dX15_fall_128 (by decide) (SD.a (lvr := [(0, rv (zx x) a0), (4, .int i4)]) [0, 1] rfl rfl) ?_
    exact J_sub [1, 2, 0] rfl (jX15_fall_B130 x FU a0 i4 v3 h)
  · refine J_aload_n 0 dX15_fall_118 rv_is rfl ?_
    refine J_iconst (v := nI 3) dX15_fall_119 rfl ?_
    refine J_G (fun g4 => ?_)
    refine J.callV (n := 1) (As := [.int (nI 3)]) kc_15 (ctX15_refused (lx x) (wx x) a0 (nI 3) h) kw_7_139 kw_7_136 kw_7_138 kp_8 kw_1_13 (by decide +kernel) rfl (by decide) (Nat.zero_le _) rfl dX15_fall_120 g4 (fun v6 h5 => ?_)
    show J x _ _ 123 _ [.int v6] h5 _
    exact J_iret dX15_fall_123
def X15_fall_B97 (a0 : Nat) (h : AH) : Option (Int32 × AH) :=
  G (xc h a0 = 15) <|
  BN (X15_refused_f a0 (nI 5) h) fun v3 h2 =>
  some (v3, h2)
theorem jX15_fall_B97 (x : CT) (a0 : Nat) (h : AH) : J x qX15_fall ZI 97 [(0, rv (zx x) a0)] [] h (X15_fall_B97 a0 h) := by
  unfold X15_fall_B97
  refine J_aload_n 0 dX15_fall_97 rv_is rfl ?_
  refine J_iconst (v := nI 5) dX15_fall_98 rfl ?_
  refine J_G (fun g1 => ?_)
  refine J.callV (n := 1) (As := [.int (nI 5)]) kc_15 (ctX15_refused (lx x) (wx x) a0 (nI 5) h) kw_7_139 kw_7_136 kw_7_138 kp_8 kw_1_13 (by decide +kernel) rfl (by decide) (Nat.zero_le _) rfl dX15_fall_99 g1 (fun v3 h2 => ?_)
  show J x _ _ 102 _ [.int v3] h2 _
  exact J_iret dX15_fall_102
def X15_fall_B76 : Nat → Nat → Int32 → Int32 → AH → Option (Int32 × AH)
  | 0, _, _, _, _ => none
  | n + 1, a0, i4, i5, h =>
    G (xc h a0 = 15) <|
    if (xI h a0 16) ≤ i5 then (
      X15_fall_B109 a0 i4 h
    ) else (
      G (xc h a0 = 15) <|
      G (xc h (xR h a0 20) = 16) <|
      G (gx i5 (xz h (xR h a0 20))) <|
      if (xI h (xR h a0 20) i5.toNatClampNeg) = i4 then (
        X15_fall_B97 a0 h
      ) else (
        LT (i5 + nI 1) fun v5 =>
        X15_fall_B76 n a0 i4 v5 h
      )
    )
theorem jX15_fall_B76 (x : CT) : ∀ (n : Nat) (a0 : Nat) (i4 : Int32) (i5 : Int32) (h : AH), J x qX15_fall ZI 76 [(0, rv (zx x) a0), (4, .int i4), (5, .int i5)] [] h (X15_fall_B76 n a0 i4 i5 h) := by
  intro n
  induction n with
  | zero => intro a0 i4 i5 h; exact J_none
  | succ n ih =>
    intro a0 i4 i5 h
    unfold X15_fall_B76
    refine J_iload 2 dX15_fall_76 rfl ?_
    refine J_aload_n 0 dX15_fall_78 rv_is rfl ?_
    refine J_G (fun g1 => ?_)
    refine J_getI kc_15 16 (by decide) rfl rfl kw_6_226 dX15_fall_79 g1 ?_
    refine J_icmp_ge (tgt := 109) dX15_fall_82 rfl ?_ ?_
    · exact J_sub [0, 1] rfl (jX15_fall_B109 x a0 i4 h)
    · refine J_aload_n 0 dX15_fall_85 rv_is rfl ?_
      refine J_G (fun g2 => ?_)
      refine J_getR kc_15 20 (by decide) rfl rfl kw_6_230 dX15_fall_86 g2 ?_
      refine J_iload 2 dX15_fall_89 rfl ?_
      refine J_G (fun g3 => ?_)
      refine J_G (fun g4 => ?_)
      refine J_iald dX15_fall_91 g3 g4 ?_
      refine J_iload 1 dX15_fall_92 rfl ?_
      refine J_icmp_ne (tgt := 103) dX15_fall_94 rfl ?_ ?_
      · refine J_iincL (u := i5 + nI 1) 2 dX15_fall_103 rfl rfl (by decide) (SD.a (lvr := [(0, rv (zx x) a0), (4, .int i4)]) [0, 1] rfl rfl) (fun v5 => ?_)
        refine J_goto (tgt := 76) dX15_fall_106 rfl ?_
        exact J_sub [1, 2, 0] rfl (ih a0 i4 v5 h)
      · exact J_sub [0] rfl (jX15_fall_B97 x a0 h)
def X15_fall_f (a0 : Nat) (i1 : Int32) (i2 : Int32) (i3 : Int32) (h : AH) : Option (Int32 × AH) :=
  G (xc h a0 = 15) <|
  LT (pI h a0 0 (nI 0)) fun h2 =>
  G (xc h2 a0 = 15) <|
  if (xR h2 a0 4) = 0 then (
    X15_fall_B34 a0 h2
  ) else (
    BN (X15_in_f i1 (nI 0) (nI 3) h2) fun v5 h4 =>
    if v5 = 0 then (
      X15_fall_B34 a0 h4
    ) else (
      if i2 < 0 then (
        X15_fall_B34 a0 h4
      ) else (
        G (xc h4 a0 = 15) <|
        BN (X15_things_f a0 i1 h4) fun v8 h7 =>
        if i2 < v8 then (
          G (xc h7 a0 = 15) <|
          BN (X15_in_f i3 (nI 0) ((xI h7 a0 14) - (nI 1)) h7) fun v11 h10 =>
          if v11 = 0 then (
            G (xc h10 a0 = 15) <|
            BN (X15_refused_f a0 (nI 2) h10) fun v15 h14 =>
            some (v15, h14)
          ) else (
            LT ((((nI 100) * i1) + ((nI 10) * i2)) + i3) fun v12 =>
            X15_fall_B76 FU a0 v12 (nI 0) h10
          )
        ) else (
          X15_fall_B34 a0 h7
        )
      )
    )
  )
theorem jX15_fall (x : CT) (a0 : Nat) (i1 : Int32) (i2 : Int32) (i3 : Int32) (h : AH) : J x qX15_fall ZI 0 [(0, rv (zx x) a0), (1, .int i1), (2, .int i2), (3, .int i3)] [] h (X15_fall_f a0 i1 i2 i3 h) := by
  unfold X15_fall_f
  refine J_aload_n 0 dX15_fall_0 rv_is rfl ?_
  refine J_iconst (v := nI 0) dX15_fall_1 rfl ?_
  refine J_G (fun g1 => ?_)
  refine J_putI kc_15 0 (by decide) rfl rfl rfl rfl (Or.inl rfl) kw_6_210 dX15_fall_2 g1 ?_
  refine J_LTh (fun h2 => ?_)
  refine J_aload_n 0 dX15_fall_5 rv_is rfl ?_
  refine J_G (fun g3 => ?_)
  refine J_getR kc_15 4 (by decide) rfl rfl kw_6_214 dX15_fall_6 g3 ?_
  refine J_ifnull (tgt := 34) dX15_fall_9 rfl ?_ ?_
  · exact J_sub [0] rfl (jX15_fall_B34 x a0 h2)
  · refine J_iload_n 1 dX15_fall_12 rfl ?_
    refine J_iconst (v := nI 0) dX15_fall_13 rfl ?_
    refine J_iconst (v := nI 3) dX15_fall_14 rfl ?_
    refine J.callS (n := 3) (As := [.int i1, .int (nI 0), .int (nI 3)]) (ctX15_in (lx x) (wx x) i1 (nI 0) (nI 3) h2) kw_8_122 kw_8_120 kw_8_121 kw_1_13 (by decide +kernel) rfl (by decide) (Nat.zero_le _) rfl dX15_fall_15 (fun v5 h4 => ?_)
    show J x _ _ 18 _ [.int v5] h4 _
    refine J_if_eq (tgt := 34) dX15_fall_18 rfl ?_ ?_
    · exact J_sub [0] rfl (jX15_fall_B34 x a0 h4)
    · refine J_iload_n 2 dX15_fall_21 rfl ?_
      refine J_if_lt (tgt := 34) dX15_fall_22 rfl ?_ ?_
      · exact J_sub [0] rfl (jX15_fall_B34 x a0 h4)
      · refine J_iload_n 2 dX15_fall_25 rfl ?_
        refine J_aload_n 0 dX15_fall_26 rv_is rfl ?_
        refine J_iload_n 1 dX15_fall_27 rfl ?_
        refine J_G (fun g6 => ?_)
        refine J.callV (n := 1) (As := [.int i1]) kc_15 (ctX15_things (lx x) (wx x) a0 i1 h4) kw_8_142 kw_8_139 kw_8_141 kp_28 kw_1_13 (by decide +kernel) rfl (by decide) (by simp [rv_cat, cat_I, cat_L, cat_S]) rfl dX15_fall_28 g6 (fun v8 h7 => ?_)
        show J x _ _ 31 _ [.int v8, .int i2] h7 _
        refine J_icmp_lt (tgt := 40) dX15_fall_31 rfl ?_ ?_
        · refine J_iload_n 3 dX15_fall_40 rfl ?_
          refine J_iconst (v := nI 0) dX15_fall_41 rfl ?_
          refine J_aload_n 0 dX15_fall_42 rv_is rfl ?_
          refine J_G (fun g9 => ?_)
          refine J_getI kc_15 14 (by decide) rfl rfl kw_6_224 dX15_fall_43 g9 ?_
          refine J_iconst (v := nI 1) dX15_fall_46 rfl ?_
          refine J_isub dX15_fall_47 ?_
          refine J.callS (n := 3) (As := [.int i3, .int (nI 0), .int ((xI h7 a0 14) - (nI 1))]) (ctX15_in (lx x) (wx x) i3 (nI 0) ((xI h7 a0 14) - (nI 1)) h7) kw_8_122 kw_8_120 kw_8_121 kw_1_13 (by decide +kernel) rfl (by decide) (Nat.zero_le _) rfl dX15_fall_48 (fun v11 h10 => ?_)
          show J x _ _ 51 _ [.int v11] h10 _
          refine J_if_ne (tgt := 60) dX15_fall_51 rfl ?_ ?_
          · refine J_bipush (v := nI 100) dX15_fall_60 rfl ?_
            refine J_iload_n 1 dX15_fall_62 rfl ?_
            refine J_imul dX15_fall_63 ?_
            refine J_bipush (v := nI 10) dX15_fall_64 rfl ?_
            refine J_iload_n 2 dX15_fall_66 rfl ?_
            refine J_imul dX15_fall_67 ?_
            refine J_iadd dX15_fall_68 ?_
            refine J_iload_n 3 dX15_fall_69 rfl ?_
            refine J_iadd dX15_fall_70 ?_
            refine J_LTi (fun v12 => ?_)
            refine J_istore dX15_fall_71 (by decide) (SD.a (lvr := [(0, rv (zx x) a0)]) [0] rfl rfl) ?_
            refine J_iconst (v := nI 0) dX15_fall_73 rfl ?_
            refine J_istore dX15_fall_74 (by decide) (SD.a (lvr := [(4, .int v12), (0, rv (zx x) a0)]) [0, 1] rfl rfl) ?_
            exact J_sub [2, 1, 0] rfl (jX15_fall_B76 x FU a0 v12 (nI 0) h10)
          · refine J_aload_n 0 dX15_fall_54 rv_is rfl ?_
            refine J_iconst (v := nI 2) dX15_fall_55 rfl ?_
            refine J_G (fun g13 => ?_)
            refine J.callV (n := 1) (As := [.int (nI 2)]) kc_15 (ctX15_refused (lx x) (wx x) a0 (nI 2) h10) kw_7_139 kw_7_136 kw_7_138 kp_8 kw_1_13 (by decide +kernel) rfl (by decide) (Nat.zero_le _) rfl dX15_fall_56 g13 (fun v15 h14 => ?_)
            show J x _ _ 59 _ [.int v15] h14 _
            exact J_iret dX15_fall_59
        · exact J_sub [0] rfl (jX15_fall_B34 x a0 h7)
theorem ctX15_fall (l : Launch) (w : WT) (a0 : Nat) (i1 : Int32) (i2 : Int32) (i3 : Int32) (h : AH) : CM l w yX15_fall cX15_fall 6 (some .int) 1 22 KI [rv (w.1) a0, .int i1, .int i2, .int i3] h (X15_fall_f a0 i1 i2 i3 h) :=
  CM.of (by decide +kernel) (by simp [lg_sl, rv_cat, cat_I, cat_L, cat_S]) (lv := [(0, rv (w.1) a0), (1, .int i1), (2, .int i2), (3, .int i3)]) (by simp [lv_args, rv_cat, cat_I, cat_L, cat_S]) (fun x hx => by subst hx; exact jX15_fall x a0 i1 i2 i3 h)
-- FallTrialsModel.isFact(II)Z
abbrev qX15_isFact : MT := (cX15_isFact, RX15, "isFact", (some .boolean), 1, 21, 4)
def X15_isFact_B73 (k2 : (Nat → Int32 → Int32 → Int32 → AH → Option (Int32 × AH))) (a0 : Nat) (i1 : Int32) (i2 : Int32) (i3 : Int32) (h : AH) : Option (Int32 × AH) :=
  LT (i3 + nI 1) fun v1 =>
  k2 a0 i1 i2 v1 h
theorem jX15_isFact_B73 (x : CT) (k2 : (Nat → Int32 → Int32 → Int32 → AH → Option (Int32 × AH))) (hk2 : ∀ (a0 : Nat) (i1 : Int32) (i2 : Int32) (i3 : Int32) (h : AH), J x qX15_isFact ZI 2 [(0, rv (zx x) a0), (1, .int i1), (2, .int i2), (3, .int i3)] [] h (k2 a0 i1 i2 i3 h)) (a0 : Nat) (i1 : Int32) (i2 : Int32) (i3 : Int32) (h : AH) : J x qX15_isFact ZI 73 [(0, rv (zx x) a0), (1, .int i1), (2, .int i2), (3, .int i3)] [] h (X15_isFact_B73 k2 a0 i1 i2 i3 h) := by
  unfold X15_isFact_B73
  refine J_iincL (u := i3 + nI 1) 3 dX15_isFact_73 rfl rfl (by decide) (SD.a (lvr := [(0, rv (zx x) a0), (1, .int i1), (2, .int i2)]) [0, 1, 2] rfl rfl) (fun v1 => ?_)
  refine J_goto (tgt := 2) dX15_isFact_76 rfl ?_
  exact J_sub [1, 2, 3, 0] rfl (hk2 a0 i1 i2 v1 h)
def X15_isFact_B2 : Nat → Nat → Int32 → Int32 → Int32 → AH → Option (Int32 × AH)
  | 0, _, _, _, _, _ => none
  | n + 1, a0, i1, i2, i3, h =>
    G (xc h a0 = 15) <|
    G (xc h (xR h a0 4) = 12) <|
    if (xI h (xR h a0 4) 3) ≤ i3 then (
      some (nI 0, h)
    ) else (
      G (xc h a0 = 15) <|
      G (xc h (xR h a0 4) = 12) <|
      G (xc h (xR h (xR h a0 4) 11) = 16) <|
      G (gx i3 (xz h (xR h (xR h a0 4) 11))) <|
      if (xI h (xR h (xR h a0 4) 11) i3.toNatClampNeg) = i1 then (
        G (xc h a0 = 15) <|
        G (xc h (xR h a0 4) = 12) <|
        G (xc h (xR h (xR h a0 4) 12) = 16) <|
        G (gx i3 (xz h (xR h (xR h a0 4) 12))) <|
        if (xI h (xR h (xR h a0 4) 12) i3.toNatClampNeg) = i2 then (
          G (xc h a0 = 15) <|
          G (xc h (xR h a0 4) = 12) <|
          G (xc h (xR h (xR h a0 4) 13) = 16) <|
          G (gx i3 (xz h (xR h (xR h a0 4) 13))) <|
          if (xI h (xR h (xR h a0 4) 13) i3.toNatClampNeg) = (-1) then (
            some (nI 1, h)
          ) else (
            G (xc h a0 = 15) <|
            G (xc h (xR h a0 4) = 12) <|
            G (xc h (xR h (xR h a0 4) 13) = 16) <|
            G (gx i3 (xz h (xR h (xR h a0 4) 13))) <|
            BN (X15_has_f (xI h a0 15) (xI h (xR h (xR h a0 4) 13) i3.toNatClampNeg) h) fun v20 h19 =>
            if v20 = 0 then (
              X15_isFact_B73 (X15_isFact_B2 n) a0 i1 i2 i3 h19
            ) else (
              some (nI 1, h19)
            )
          )
        ) else (
          X15_isFact_B73 (X15_isFact_B2 n) a0 i1 i2 i3 h
        )
      ) else (
        X15_isFact_B73 (X15_isFact_B2 n) a0 i1 i2 i3 h
      )
    )
theorem jX15_isFact_B2 (x : CT) : ∀ (n : Nat) (a0 : Nat) (i1 : Int32) (i2 : Int32) (i3 : Int32) (h : AH), J x qX15_isFact ZI 2 [(0, rv (zx x) a0), (1, .int i1), (2, .int i2), (3, .int i3)] [] h (X15_isFact_B2 n a0 i1 i2 i3 h) := by
  intro n
  induction n with
  | zero => intro a0 i1 i2 i3 h; exact J_none
  | succ n ih =>
    intro a0 i1 i2 i3 h
    unfold X15_isFact_B2
    refine J_iload_n 3 dX15_isFact_2 rfl ?_
    refine J_aload_n 0 dX15_isFact_3 rv_is rfl ?_
    refine J_G (fun g1 => ?_)
    refine J_getR kc_15 4 (by decide) rfl rfl kw_6_214 dX15_isFact_4 g1 ?_
    refine J_G (fun g2 => ?_)
    refine J_getIN kc_12 3 (by decide) rfl rfl kn_27 dX15_isFact_7 g2 ?_
    refine J_icmp_ge (tgt := 79) dX15_isFact_10 rfl ?_ ?_
    · refine J_iconst (v := nI 0) dX15_isFact_79 rfl ?_
      exact J_zret dX15_isFact_80 (by decide)
    · refine J_aload_n 0 dX15_isFact_13 rv_is rfl ?_
      refine J_G (fun g3 => ?_)
      refine J_getR kc_15 4 (by decide) rfl rfl kw_6_214 dX15_isFact_14 g3 ?_
      refine J_G (fun g4 => ?_)
      refine J_getRN kc_12 11 (by decide) rfl rfl kn_35 dX15_isFact_17 g4 ?_
      refine J_iload_n 3 dX15_isFact_20 rfl ?_
      refine J_G (fun g5 => ?_)
      refine J_G (fun g6 => ?_)
      refine J_iald dX15_isFact_21 g5 g6 ?_
      refine J_iload_n 1 dX15_isFact_22 rfl ?_
      refine J_icmp_ne (tgt := 73) dX15_isFact_23 rfl ?_ ?_
      · exact (jX15_isFact_B73 x (X15_isFact_B2 n) ih a0 i1 i2 i3 h)
      · refine J_aload_n 0 dX15_isFact_26 rv_is rfl ?_
        refine J_G (fun g7 => ?_)
        refine J_getR kc_15 4 (by decide) rfl rfl kw_6_214 dX15_isFact_27 g7 ?_
        refine J_G (fun g8 => ?_)
        refine J_getRN kc_12 12 (by decide) rfl rfl kn_36 dX15_isFact_30 g8 ?_
        refine J_iload_n 3 dX15_isFact_33 rfl ?_
        refine J_G (fun g9 => ?_)
        refine J_G (fun g10 => ?_)
        refine J_iald dX15_isFact_34 g9 g10 ?_
        refine J_iload_n 2 dX15_isFact_35 rfl ?_
        refine J_icmp_ne (tgt := 73) dX15_isFact_36 rfl ?_ ?_
        · exact (jX15_isFact_B73 x (X15_isFact_B2 n) ih a0 i1 i2 i3 h)
        · refine J_aload_n 0 dX15_isFact_39 rv_is rfl ?_
          refine J_G (fun g11 => ?_)
          refine J_getR kc_15 4 (by decide) rfl rfl kw_6_214 dX15_isFact_40 g11 ?_
          refine J_G (fun g12 => ?_)
          refine J_getRN kc_12 13 (by decide) rfl rfl kn_37 dX15_isFact_43 g12 ?_
          refine J_iload_n 3 dX15_isFact_46 rfl ?_
          refine J_G (fun g13 => ?_)
          refine J_G (fun g14 => ?_)
          refine J_iald dX15_isFact_47 g13 g14 ?_
          refine J_iconst (v := (-1)) dX15_isFact_48 rfl ?_
          refine J_icmp_eq (tgt := 71) dX15_isFact_49 rfl ?_ ?_
          · refine J_iconst (v := nI 1) dX15_isFact_71 rfl ?_
            exact J_zret dX15_isFact_72 (by decide)
          · refine J_aload_n 0 dX15_isFact_52 rv_is rfl ?_
            refine J_G (fun g15 => ?_)
            refine J_getI kc_15 15 (by decide) rfl rfl kw_6_225 dX15_isFact_53 g15 ?_
            refine J_aload_n 0 dX15_isFact_56 rv_is rfl ?_
            refine J_getR kc_15 4 (by decide) rfl rfl kw_6_214 dX15_isFact_57 g15 ?_
            refine J_G (fun g16 => ?_)
            refine J_getRN kc_12 13 (by decide) rfl rfl kn_37 dX15_isFact_60 g16 ?_
            refine J_iload_n 3 dX15_isFact_63 rfl ?_
            refine J_G (fun g17 => ?_)
            refine J_G (fun g18 => ?_)
            refine J_iald dX15_isFact_64 g17 g18 ?_
            refine J.callS (n := 2) (As := [.int (xI h a0 15), .int (xI h (xR h (xR h a0 4) 13) i3.toNatClampNeg)]) (ctX15_has (lx x) (wx x) (xI h a0 15) (xI h (xR h (xR h a0 4) 13) i3.toNatClampNeg) h) kw_8_177 kw_8_175 kw_8_176 kw_1_13 (by decide +kernel) rfl (by decide) (Nat.zero_le _) rfl dX15_isFact_65 (fun v20 h19 => ?_)
            show J x _ _ 68 _ [.int v20] h19 _
            refine J_if_eq (tgt := 73) dX15_isFact_68 rfl ?_ ?_
            · exact (jX15_isFact_B73 x (X15_isFact_B2 n) ih a0 i1 i2 i3 h19)
            · refine J_iconst (v := nI 1) dX15_isFact_71 rfl ?_
              exact J_zret dX15_isFact_72 (by decide)
def X15_isFact_f (a0 : Nat) (i1 : Int32) (i2 : Int32) (h : AH) : Option (Int32 × AH) :=
  X15_isFact_B2 FU a0 i1 i2 (nI 0) h
theorem jX15_isFact (x : CT) (a0 : Nat) (i1 : Int32) (i2 : Int32) (h : AH) : J x qX15_isFact ZI 0 [(0, rv (zx x) a0), (1, .int i1), (2, .int i2)] [] h (X15_isFact_f a0 i1 i2 h) := by
  unfold X15_isFact_f
  refine J_iconst (v := nI 0) dX15_isFact_0 rfl ?_
  refine J_istore_n dX15_isFact_1 (by decide) (SD.a (lvr := [(0, rv (zx x) a0), (1, .int i1), (2, .int i2)]) [0, 1, 2] rfl rfl) ?_
  exact J_sub [1, 2, 3, 0] rfl (jX15_isFact_B2 x FU a0 i1 i2 (nI 0) h)
theorem ctX15_isFact (l : Launch) (w : WT) (a0 : Nat) (i1 : Int32) (i2 : Int32) (h : AH) : CM l w yX15_isFact cX15_isFact 4 (some .boolean) 1 21 KI [rv (w.1) a0, .int i1, .int i2] h (X15_isFact_f a0 i1 i2 h) :=
  CM.of (by decide +kernel) (by simp [lg_sl, rv_cat, cat_I, cat_L, cat_S]) (lv := [(0, rv (w.1) a0), (1, .int i1), (2, .int i2)]) (by simp [lv_args, rv_cat, cat_I, cat_L, cat_S]) (fun x hx => by subst hx; exact jX15_isFact x a0 i1 i2 h)
-- FallTrialsModel.holds(IIII)Z
abbrev qX15_holds : MT := (cX15_holds, RX15, "holds", (some .boolean), 2, 42, 6)
def X15_holds_f (a0 : Nat) (i1 : Int32) (i2 : Int32) (i3 : Int32) (i4 : Int32) (h : AH) : Option (Int32 × AH) :=
  G (xc h a0 = 15) <|
  BN (X15_rowsAt_f a0 i1 i3 i4 h) fun v3 h2 =>
  G (xc h2 a0 = 15) <|
  BN (X15_isDown_f a0 i1 i3 i4 h2) fun v6 h5 =>
  if v6 = 0 then (
    G (xc h5 a0 = 15) <|
    G (xc h5 (xR h5 a0 4) = 12) <|
    G (xc h5 (xR h5 (xR h5 a0 4) 20) = 16) <|
    G (gx i2 (xz h5 (xR h5 (xR h5 a0 4) 20))) <|
    G (gx i2 (xz h5 (xR h5 (xR h5 a0 4) 20))) <|
    if (v3 &&& (xI h5 (xR h5 (xR h5 a0 4) 20) i2.toNatClampNeg)) = (xI h5 (xR h5 (xR h5 a0 4) 20) i2.toNatClampNeg) then (
      G (xc h5 a0 = 15) <|
      BN (X15_notsOf_f a0 i2 h5) fun v14 h13 =>
      if (v3 &&& v14) = 0 then (
        some (nI 1, h13)
      ) else (
        some (nI 0, h13)
      )
    ) else (
      some (nI 0, h5)
    )
  ) else (
    some (nI 0, h5)
  )
theorem jX15_holds (x : CT) (a0 : Nat) (i1 : Int32) (i2 : Int32) (i3 : Int32) (i4 : Int32) (h : AH) : J x qX15_holds ZI 0 [(0, rv (zx x) a0), (1, .int i1), (2, .int i2), (3, .int i3), (4, .int i4)] [] h (X15_holds_f a0 i1 i2 i3 i4 h) := by
  unfold X15_holds_f
  refine J_aload_n 0 dX15_holds_0 rv_is rfl ?_
  refine J_iload_n 1 dX15_holds_1 rfl ?_
  refine J_iload_n 3 dX15_holds_2 rfl ?_
  refine J_iload 4 dX15_holds_3 rfl ?_
  refine J_G (fun g1 => ?_)
  refine J.callV (n := 3) (As := [.int i1, .int i3, .int i4]) kc_15 (ctX15_rowsAt (lx x) (wx x) a0 i1 i3 i4 h) kw_8_185 kw_8_182 kw_8_184 kp_35 kw_1_13 (by decide +kernel) rfl (by decide) (Nat.zero_le _) rfl dX15_holds_5 g1 (fun v3 h2 => ?_)
  show J x _ _ 8 _ [.int v3] h2 _
  refine J_istore dX15_holds_8 (by decide) (SD.a (lvr := [(0, rv (zx x) a0), (1, .int i1), (2, .int i2), (3, .int i3), (4, .int i4)]) [0, 1, 2, 3, 4] rfl rfl) ?_
  refine J_aload_n 1 dX15_holds_10 rv_is rfl ?_
  refine J_iload_n 2 dX15_holds_11 rfl ?_
  refine J_iload_n 4 dX15_holds_12 rfl ?_
  refine J_iload 5 dX15_holds_13 rfl ?_
  refine J_G (fun g4 => ?_)
  refine J.callV (n := 3) (As := [.int i1, .int i3, .int i4]) kc_15 (ctX15_isDown (lx x) (wx x) a0 i1 i3 i4 h2) kw_8_166 kw_8_163 kw_8_165 kp_31 kw_1_13 (by decide +kernel) rfl (by decide) (Nat.zero_le _) rfl dX15_holds_15 g4 (fun v6 h5 => ?_)
  show J x _ _ 18 _ [.int v6] h5 _
  refine J_if_ne (tgt := 60) dX15_holds_18 rfl ?_ ?_
  · refine J_iconst (v := nI 0) dX15_holds_60 rfl ?_
    exact J_zret dX15_holds_61 (by decide)
  · refine J_iload 0 dX15_holds_21 rfl ?_
    refine J_aload_n 1 dX15_holds_23 rv_is rfl ?_
    refine J_G (fun g7 => ?_)
    refine J_getR kc_15 4 (by decide) rfl rfl kw_6_214 dX15_holds_24 g7 ?_
    refine J_G (fun g8 => ?_)
    refine J_getRN kc_12 20 (by decide) rfl rfl kn_44 dX15_holds_27 g8 ?_
    refine J_iload_n 3 dX15_holds_30 rfl ?_
    refine J_G (fun g9 => ?_)
    refine J_G (fun g10 => ?_)
    refine J_iald dX15_holds_31 g9 g10 ?_
    refine J_iand dX15_holds_32 ?_
    refine J_aload_n 1 dX15_holds_33 rv_is rfl ?_
    refine J_getR kc_15 4 (by decide) rfl rfl kw_6_214 dX15_holds_34 g7 ?_
    refine J_getRN kc_12 20 (by decide) rfl rfl kn_44 dX15_holds_37 g8 ?_
    refine J_iload_n 3 dX15_holds_40 rfl ?_
    refine J_G (fun g11 => ?_)
    refine J_iald dX15_holds_41 g9 g11 ?_
    refine J_icmp_ne (tgt := 60) dX15_holds_42 rfl ?_ ?_
    · refine J_iconst (v := nI 0) dX15_holds_60 rfl ?_
      exact J_zret dX15_holds_61 (by decide)
    · refine J_iload 0 dX15_holds_45 rfl ?_
      refine J_aload_n 1 dX15_holds_47 rv_is rfl ?_
      refine J_iload_n 3 dX15_holds_48 rfl ?_
      refine J_G (fun g12 => ?_)
      refine J.callV (n := 1) (As := [.int i2]) kc_15 (ctX15_notsOf (lx x) (wx x) a0 i2 h5) kw_8_197 kw_8_194 kw_8_196 kp_38 kw_1_13 (by decide +kernel) rfl (by decide) (by simp [rv_cat, cat_I, cat_L, cat_S]) rfl dX15_holds_49 g12 (fun v14 h13 => ?_)
      show J x _ _ 52 _ [.int v14, .int v3] h13 _
      refine J_iand dX15_holds_52 ?_
      refine J_if_ne (tgt := 60) dX15_holds_53 rfl ?_ ?_
      · refine J_iconst (v := nI 0) dX15_holds_60 rfl ?_
        exact J_zret dX15_holds_61 (by decide)
      · refine J_iconst (v := nI 1) dX15_holds_56 rfl ?_
        refine J_goto (tgt := 61) dX15_holds_57 rfl ?_
        exact J_zret dX15_holds_61 (by decide)
theorem ctX15_holds (l : Launch) (w : WT) (a0 : Nat) (i1 : Int32) (i2 : Int32) (i3 : Int32) (i4 : Int32) (h : AH) : CM l w yX15_holds cX15_holds 6 (some .boolean) 2 42 KI [rv (w.1) a0, .int i1, .int i2, .int i3, .int i4] h (X15_holds_f a0 i1 i2 i3 i4 h) :=
  CM.of (by decide +kernel) (by simp [lg_sl, rv_cat, cat_I, cat_L, cat_S]) (lv := [(0, rv (w.1) a0), (1, .int i1), (2, .int i2), (3, .int i3), (4, .int i4)]) (by simp [lv_args, rv_cat, cat_I, cat_L, cat_S]) (fun x hx => by subst hx; exact jX15_holds x a0 i1 i2 i3 i4 h)
-- FallTrialsModel.sends(III)V
abbrev qX15_sends : MT := (cX15_sends, RX15, "sends", none, 3, 67, 10)
def X15_sends_B230 (a0 : Nat) (i5 : Int32) (i9 : Int32) (is0 : Int32) (is1 : Int32) (as2 : Nat) (h : AH) : Option (Unit × AH) :=
  G (xc h as2 = 16) <|
  G (gx is1 (xz h as2)) <|
  LT (pI h as2 is1.toNatClampNeg is0) fun h3 =>
  G (xc h3 a0 = 15) <|
  G (xc h3 (xR h3 a0 30) = 16) <|
  G (gx i5 (xz h3 (xR h3 a0 30))) <|
  LT (pI h3 (xR h3 a0 30) i5.toNatClampNeg i9) fun h7 =>
  some ((), h7)
theorem jX15_sends_B230 (x : CT) (a0 : Nat) (i5 : Int32) (i9 : Int32) (is0 : Int32) (is1 : Int32) (as2 : Nat) (h : AH) : J x qX15_sends ZV 230 [(0, rv (zx x) a0), (5, .int i5), (9, .int i9)] [.int is0, .int is1, rv (zx x) as2] h (X15_sends_B230 a0 i5 i9 is0 is1 as2 h) := by
  unfold X15_sends_B230
  refine J_G (fun g1 => ?_)
  refine J_G (fun g2 => ?_)
  refine J_iast dX15_sends_230 g1 g2 ?_
  refine J_LTh (fun h3 => ?_)
  refine J_aload_n 0 dX15_sends_231 rv_is rfl ?_
  refine J_G (fun g4 => ?_)
  refine J_getR kc_15 30 (by decide) rfl rfl kw_7_0 dX15_sends_232 g4 ?_
  refine J_iload 1 dX15_sends_235 rfl ?_
  refine J_iload 2 dX15_sends_237 rfl ?_
  refine J_G (fun g5 => ?_)
  refine J_G (fun g6 => ?_)
  refine J_iast dX15_sends_239 g5 g6 ?_
  refine J_LTh (fun h7 => ?_)
  exact J_vret dX15_sends_240
def X15_sends_B195 (a0 : Nat) (i5 : Int32) (h : AH) : Option (Unit × AH) :=
  G (xc h a0 = 15) <|
  G (xc h (xR h a0 31) = 16) <|
  G (gx i5 (xz h (xR h a0 31))) <|
  LT (pI h (xR h a0 31) i5.toNatClampNeg (nI 4)) fun h4 =>
  some ((), h4)
theorem jX15_sends_B195 (x : CT) (a0 : Nat) (i5 : Int32) (h : AH) : J x qX15_sends ZV 195 [(0, rv (zx x) a0), (5, .int i5)] [] h (X15_sends_B195 a0 i5 h) := by
  unfold X15_sends_B195
  refine J_aload_n 0 dX15_sends_195 rv_is rfl ?_
  refine J_G (fun g1 => ?_)
  refine J_getR kc_15 31 (by decide) rfl rfl kw_7_1 dX15_sends_196 g1 ?_
  refine J_iload 1 dX15_sends_199 rfl ?_
  refine J_iconst (v := nI 4) dX15_sends_201 rfl ?_
  refine J_G (fun g2 => ?_)
  refine J_G (fun g3 => ?_)
  refine J_iast dX15_sends_202 g2 g3 ?_
  refine J_LTh (fun h4 => ?_)
  refine J_goto (tgt := 240) dX15_sends_203 rfl ?_
  exact J_vret dX15_sends_240
def X15_sends_B140 (a0 : Nat) (i1 : Int32) (i2 : Int32) (i5 : Int32) (i8 : Int32) (is0 : Int32) (is1 : Int32) (h : AH) : Option (Unit × AH) :=
  LT (is1 + is0) fun v1 =>
  G (xc h a0 = 15) <|
  G (xc h (xR h a0 26) = 13) <|
  G (xc h (xR h (xR h a0 26) 0) = 19) <|
  G (gx i8 (xz h (xR h (xR h a0 26) 0))) <|
  if (xI h (xR h (xR h a0 26) 0) i8.toNatClampNeg) = 0 then (
    G (xc h a0 = 15) <|
    if (xI h a0 14) < v1 then (
      X15_sends_B195 a0 i5 h
    ) else (
      G (xc h a0 = 15) <|
      G (xc h (xR h a0 4) = 12) <|
      G (xc h (xR h (xR h a0 4) 18) = 16) <|
      G (gx i2 (xz h (xR h (xR h a0 4) 18))) <|
      BN (X15_isDown_f a0 i1 v1 (xI h (xR h (xR h a0 4) 18) i2.toNatClampNeg) h) fun v12 h11 =>
      if v12 = 0 then (
        G (xc h11 a0 = 15) <|
        G (xc h11 (xR h11 a0 26) = 13) <|
        G (xc h11 (xR h11 (xR h11 a0 26) 1) = 19) <|
        G (gx i8 (xz h11 (xR h11 (xR h11 a0 26) 1))) <|
        if (xI h11 (xR h11 (xR h11 a0 26) 1) i8.toNatClampNeg) = 0 then (
          X15_sends_B230 a0 i5 v1 (nI 1) i5 (xR h11 a0 31) h11
        ) else (
          X15_sends_B230 a0 i5 v1 (nI 3) i5 (xR h11 a0 31) h11
        )
      ) else (
        X15_sends_B195 a0 i5 h11
      )
    )
  ) else (
    G (xc h a0 = 15) <|
    G (xc h (xR h a0 31) = 16) <|
    G (gx i5 (xz h (xR h a0 31))) <|
    LT (pI h (xR h a0 31) i5.toNatClampNeg (nI 2)) fun h20 =>
    some ((), h20)
  )
theorem jX15_sends_B140 (x : CT) (a0 : Nat) (i1 : Int32) (i2 : Int32) (i5 : Int32) (i8 : Int32) (is0 : Int32) (is1 : Int32) (h : AH) : J x qX15_sends ZV 140 [(0, rv (zx x) a0), (1, .int i1), (2, .int i2), (5, .int i5), (8, .int i8)] [.int is0, .int is1] h (X15_sends_B140 a0 i1 i2 i5 i8 is0 is1 h) := by
  unfold X15_sends_B140
  refine J_iadd dX15_sends_140 ?_
  refine J_LTi (fun v1 => ?_)
  refine J_istore dX15_sends_141 (by decide) (SD.a (lvr := [(0, rv (zx x) a0), (1, .int i1), (2, .int i2), (5, .int i5), (8, .int i8)]) [0, 1, 2, 3, 4] rfl rfl) ?_
  refine J_aload_n 1 dX15_sends_143 rv_is rfl ?_
  refine J_G (fun g2 => ?_)
  refine J_getR kc_15 26 (by decide) rfl rfl kw_6_236 dX15_sends_144 g2 ?_
  refine J_G (fun g3 => ?_)
  refine J_getRN kc_13 0 (by decide) rfl rfl kn_20 dX15_sends_147 g3 ?_
  refine J_iload 5 dX15_sends_150 rfl ?_
  refine J_G (fun g4 => ?_)
  refine J_G (fun g5 => ?_)
  refine J_zald dX15_sends_152 g4 g5 ?_
  refine J_if_eq (tgt := 167) dX15_sends_153 rfl ?_ ?_
  · refine J_iload 0 dX15_sends_167 rfl ?_
    refine J_aload_n 1 dX15_sends_169 rv_is rfl ?_
    refine J_G (fun g6 => ?_)
    refine J_getI kc_15 14 (by decide) rfl rfl kw_6_224 dX15_sends_170 g6 ?_
    refine J_icmp_gt (tgt := 195) dX15_sends_173 rfl ?_ ?_
    · exact J_sub [1, 4] rfl (jX15_sends_B195 x a0 i5 h)
    · refine J_aload_n 1 dX15_sends_176 rv_is rfl ?_
      refine J_iload_n 2 dX15_sends_177 rfl ?_
      refine J_iload 0 dX15_sends_178 rfl ?_
      refine J_aload_n 1 dX15_sends_180 rv_is rfl ?_
      refine J_G (fun g7 => ?_)
      refine J_getR kc_15 4 (by decide) rfl rfl kw_6_214 dX15_sends_181 g7 ?_
      refine J_G (fun g8 => ?_)
      refine J_getRN kc_12 18 (by decide) rfl rfl kn_42 dX15_sends_184 g8 ?_
      refine J_iload_n 3 dX15_sends_187 rfl ?_
      refine J_G (fun g9 => ?_)
      refine J_G (fun g10 => ?_)
      refine J_iald dX15_sends_188 g9 g10 ?_
      refine J.callV (n := 3) (As := [.int i1, .int v1, .int (xI h (xR h (xR h a0 4) 18) i2.toNatClampNeg)]) kc_15 (ctX15_isDown (lx x) (wx x) a0 i1 v1 (xI h (xR h (xR h a0 4) 18) i2.toNatClampNeg) h) kw_8_166 kw_8_163 kw_8_165 kp_31 kw_1_13 (by decide +kernel) rfl (by decide) (Nat.zero_le _) rfl dX15_sends_189 g7 (fun v12 h11 => ?_)
      show J x _ _ 192 _ [.int v12] h11 _
      refine J_if_eq (tgt := 206) dX15_sends_192 rfl ?_ ?_
      · refine J_aload_n 1 dX15_sends_206 rv_is rfl ?_
        refine J_G (fun g13 => ?_)
        refine J_getR kc_15 31 (by decide) rfl rfl kw_7_1 dX15_sends_207 g13 ?_
        refine J_iload 4 dX15_sends_210 rfl ?_
        refine J_aload_n 1 dX15_sends_212 rv_is rfl ?_
        refine J_getR kc_15 26 (by decide) rfl rfl kw_6_236 dX15_sends_213 g13 ?_
        refine J_G (fun g14 => ?_)
        refine J_getRN kc_13 1 (by decide) rfl rfl kn_21 dX15_sends_216 g14 ?_
        refine J_iload 5 dX15_sends_219 rfl ?_
        refine J_G (fun g15 => ?_)
        refine J_G (fun g16 => ?_)
        refine J_zald dX15_sends_221 g15 g16 ?_
        refine J_if_eq (tgt := 229) dX15_sends_222 rfl ?_ ?_
        · refine J_iconst (v := nI 1) dX15_sends_229 rfl ?_
          exact J_sub [1, 4, 0] rfl (jX15_sends_B230 x a0 i5 v1 (nI 1) i5 (xR h11 a0 31) h11)
        · refine J_iconst (v := nI 3) dX15_sends_225 rfl ?_
          refine J_goto (tgt := 230) dX15_sends_226 rfl ?_
          exact J_sub [1, 4, 0] rfl (jX15_sends_B230 x a0 i5 v1 (nI 3) i5 (xR h11 a0 31) h11)
      · exact J_sub [1, 4] rfl (jX15_sends_B195 x a0 i5 h11)
  · refine J_aload_n 1 dX15_sends_156 rv_is rfl ?_
    refine J_G (fun g17 => ?_)
    refine J_getR kc_15 31 (by decide) rfl rfl kw_7_1 dX15_sends_157 g17 ?_
    refine J_iload 4 dX15_sends_160 rfl ?_
    refine J_iconst (v := nI 2) dX15_sends_162 rfl ?_
    refine J_G (fun g18 => ?_)
    refine J_G (fun g19 => ?_)
    refine J_iast dX15_sends_163 g18 g19 ?_
    refine J_LTh (fun h20 => ?_)
    refine J_goto (tgt := 240) dX15_sends_164 rfl ?_
    exact J_vret dX15_sends_240
def X15_sends_B104 (a0 : Nat) (i1 : Int32) (i2 : Int32) (i3 : Int32) (i5 : Int32) (i7 : Int32) (h : AH) : Option (Unit × AH) :=
  G (xc h a0 = 15) <|
  G (xc h (xR h a0 32) = 19) <|
  G (gx i5 (xz h (xR h a0 32))) <|
  LT (pI h (xR h a0 32) i5.toNatClampNeg (vp_nar .boolean i7)) fun h4 =>
  LT (((nI 7) * i2) + i3) fun v5 =>
  G (xc h4 a0 = 15) <|
  G (xc h4 (xR h4 a0 26) = 13) <|
  G (xc h4 (xR h4 (xR h4 a0 26) 1) = 19) <|
  G (gx v5 (xz h4 (xR h4 (xR h4 a0 26) 1))) <|
  if (xI h4 (xR h4 (xR h4 a0 26) 1) v5.toNatClampNeg) = 0 then (
    X15_sends_B140 a0 i1 i2 i5 v5 (nI 1) i3 h4
  ) else (
    X15_sends_B140 a0 i1 i2 i5 v5 (nI 3) i3 h4
  )
theorem jX15_sends_B104 (x : CT) (a0 : Nat) (i1 : Int32) (i2 : Int32) (i3 : Int32) (i5 : Int32) (i7 : Int32) (h : AH) : J x qX15_sends ZV 104 [(0, rv (zx x) a0), (1, .int i1), (2, .int i2), (3, .int i3), (5, .int i5), (7, .int i7)] [] h (X15_sends_B104 a0 i1 i2 i3 i5 i7 h) := by
  unfold X15_sends_B104
  refine J_aload_n 0 dX15_sends_104 rv_is rfl ?_
  refine J_G (fun g1 => ?_)
  refine J_getR kc_15 32 (by decide) rfl rfl kw_7_2 dX15_sends_105 g1 ?_
  refine J_iload 4 dX15_sends_108 rfl ?_
  refine J_iload 5 dX15_sends_110 rfl ?_
  refine J_G (fun g2 => ?_)
  refine J_G (fun g3 => ?_)
  refine J_zast dX15_sends_112 g2 g3 ?_
  refine J_LTh (fun h4 => ?_)
  refine J_bipush (v := nI 7) dX15_sends_113 rfl ?_
  refine J_iload_n 2 dX15_sends_115 rfl ?_
  refine J_imul dX15_sends_116 ?_
  refine J_iload_n 3 dX15_sends_117 rfl ?_
  refine J_iadd dX15_sends_118 ?_
  refine J_LTi (fun v5 => ?_)
  refine J_istore dX15_sends_119 (by decide) (SD.a (lvr := [(0, rv (zx x) a0), (1, .int i1), (2, .int i2), (3, .int i3), (5, .int i5)]) [0, 1, 2, 3, 4] rfl rfl) ?_
  refine J_iload_n 4 dX15_sends_121 rfl ?_
  refine J_aload_n 1 dX15_sends_122 rv_is rfl ?_
  refine J_G (fun g6 => ?_)
  refine J_getR kc_15 26 (by decide) rfl rfl kw_6_236 dX15_sends_123 g6 ?_
  refine J_G (fun g7 => ?_)
  refine J_getRN kc_13 1 (by decide) rfl rfl kn_21 dX15_sends_126 g7 ?_
  refine J_iload 0 dX15_sends_129 rfl ?_
  refine J_G (fun g8 => ?_)
  refine J_G (fun g9 => ?_)
  refine J_zald dX15_sends_131 g8 g9 ?_
  refine J_if_eq (tgt := 139) dX15_sends_132 rfl ?_ ?_
  · refine J_iconst (v := nI 1) dX15_sends_139 rfl ?_
    exact J_sub [1, 2, 3, 5, 0] rfl (jX15_sends_B140 x a0 i1 i2 i5 v5 (nI 1) i3 h4)
  · refine J_iconst (v := nI 3) dX15_sends_135 rfl ?_
    refine J_goto (tgt := 140) dX15_sends_136 rfl ?_
    exact J_sub [1, 2, 3, 5, 0] rfl (jX15_sends_B140 x a0 i1 i2 i5 v5 (nI 3) i3 h4)
def X15_sends_B91 (a0 : Nat) (i1 : Int32) (i2 : Int32) (i3 : Int32) (i5 : Int32) (i6 : Int32) (is0 : Int32) (h : AH) : Option (Unit × AH) :=
  if i6 = 0 then (
    if is0 = 0 then (
      some ((), h)
    ) else (
      X15_sends_B104 a0 i1 i2 i3 i5 is0 h
    )
  ) else (
    X15_sends_B104 a0 i1 i2 i3 i5 is0 h
  )
theorem jX15_sends_B91 (x : CT) (a0 : Nat) (i1 : Int32) (i2 : Int32) (i3 : Int32) (i5 : Int32) (i6 : Int32) (is0 : Int32) (h : AH) : J x qX15_sends ZV 91 [(0, rv (zx x) a0), (1, .int i1), (2, .int i2), (3, .int i3), (5, .int i5), (6, .int i6)] [.int is0] h (X15_sends_B91 a0 i1 i2 i3 i5 i6 is0 h) := by
  unfold X15_sends_B91
  refine J_istore dX15_sends_91 (by decide) (SD.a (lvr := [(0, rv (zx x) a0), (1, .int i1), (2, .int i2), (3, .int i3), (5, .int i5), (6, .int i6)]) [0, 1, 2, 3, 4, 5] rfl rfl) ?_
  refine J_iload 6 dX15_sends_93 rfl ?_
  refine J_if_ne (tgt := 104) dX15_sends_95 rfl ?_ ?_
  · exact J_sub [1, 2, 3, 4, 5, 0] rfl (jX15_sends_B104 x a0 i1 i2 i3 i5 is0 h)
  · refine J_iload 0 dX15_sends_98 rfl ?_
    refine J_if_ne (tgt := 104) dX15_sends_100 rfl ?_ ?_
    · exact J_sub [1, 2, 3, 4, 5, 0] rfl (jX15_sends_B104 x a0 i1 i2 i3 i5 is0 h)
    · exact J_vret dX15_sends_103
def X15_sends_B90 (a0 : Nat) (i1 : Int32) (i2 : Int32) (i3 : Int32) (i5 : Int32) (i6 : Int32) (h : AH) : Option (Unit × AH) :=
  X15_sends_B91 a0 i1 i2 i3 i5 i6 (nI 0) h
theorem jX15_sends_B90 (x : CT) (a0 : Nat) (i1 : Int32) (i2 : Int32) (i3 : Int32) (i5 : Int32) (i6 : Int32) (h : AH) : J x qX15_sends ZV 90 [(0, rv (zx x) a0), (1, .int i1), (2, .int i2), (3, .int i3), (5, .int i5), (6, .int i6)] [] h (X15_sends_B90 a0 i1 i2 i3 i5 i6 h) := by
  unfold X15_sends_B90
  refine J_iconst (v := nI 0) dX15_sends_90 rfl ?_
  exact (jX15_sends_B91 x a0 i1 i2 i3 i5 i6 (nI 0) h)
def X15_sends_f (a0 : Nat) (i1 : Int32) (i2 : Int32) (i3 : Int32) (h : AH) : Option (Unit × AH) :=
  G (xc h a0 = 15) <|
  G (xc h (xR h a0 4) = 12) <|
  G (xc h (xR h (xR h a0 4) 19) = 16) <|
  G (gx i2 (xz h (xR h (xR h a0 4) 19))) <|
  LT (xI h (xR h (xR h a0 4) 19) i2.toNatClampNeg) fun v5 =>
  LT ((((nI 42) * i1) + ((nI 7) * i2)) + i3) fun v6 =>
  BN (X15_holds_f a0 i1 ((nI 10) + i2) i3 v5 h) fun v8 h7 =>
  if v8 = 0 then (
    G (xc h7 a0 = 15) <|
    BN (X15_has_f (xI h7 a0 24) i2 h7) fun v11 h10 =>
    if v11 = 0 then (
      X15_sends_B90 a0 i1 i2 i3 v6 v8 h10
    ) else (
      if i3 ≤ 0 then (
        X15_sends_B90 a0 i1 i2 i3 v6 v8 h10
      ) else (
        G (xc h10 a0 = 15) <|
        BN (X15_isDown_f a0 i1 i3 v5 h10) fun v14 h13 =>
        if v14 = 0 then (
          G (xc h13 a0 = 15) <|
          BN (X15_holds_f a0 i1 ((nI 10) + i2) (i3 - (nI 1)) v5 h13) fun v17 h16 =>
          if v17 = 0 then (
            X15_sends_B90 a0 i1 i2 i3 v6 v8 h16
          ) else (
            X15_sends_B91 a0 i1 i2 i3 v6 v8 (nI 1) h16
          )
        ) else (
          X15_sends_B90 a0 i1 i2 i3 v6 v8 h13
        )
      )
    )
  ) else (
    X15_sends_B90 a0 i1 i2 i3 v6 v8 h7
  )
theorem jX15_sends (x : CT) (a0 : Nat) (i1 : Int32) (i2 : Int32) (i3 : Int32) (h : AH) : J x qX15_sends ZV 0 [(0, rv (zx x) a0), (1, .int i1), (2, .int i2), (3, .int i3)] [] h (X15_sends_f a0 i1 i2 i3 h) := by
  unfold X15_sends_f
  refine J_aload_n 0 dX15_sends_0 rv_is rfl ?_
  refine J_G (fun g1 => ?_)
  refine J_getR kc_15 4 (by decide) rfl rfl kw_6_214 dX15_sends_1 g1 ?_
  refine J_G (fun g2 => ?_)
  refine J_getRN kc_12 19 (by decide) rfl rfl kn_43 dX15_sends_4 g2 ?_
  refine J_iload_n 2 dX15_sends_7 rfl ?_
  refine J_G (fun g3 => ?_)
  refine J_G (fun g4 => ?_)
  refine J_iald dX15_sends_8 g3 g4 ?_
  refine J_LTi (fun v5 => ?_)
  refine J_istore dX15_sends_9 (by decide) (SD.a (lvr := [(0, rv (zx x) a0), (1, .int i1), (2, .int i2), (3, .int i3)]) [0, 1, 2, 3] rfl rfl) ?_
  refine J_bipush (v := nI 42) dX15_sends_11 rfl ?_
  refine J_iload_n 2 dX15_sends_13 rfl ?_
  refine J_imul dX15_sends_14 ?_
  refine J_bipush (v := nI 7) dX15_sends_15 rfl ?_
  refine J_iload_n 3 dX15_sends_17 rfl ?_
  refine J_imul dX15_sends_18 ?_
  refine J_iadd dX15_sends_19 ?_
  refine J_iload_n 4 dX15_sends_20 rfl ?_
  refine J_iadd dX15_sends_21 ?_
  refine J_LTi (fun v6 => ?_)
  refine J_istore dX15_sends_22 (by decide) (SD.a (lvr := [(4, .int v5), (0, rv (zx x) a0), (1, .int i1), (2, .int i2), (3, .int i3)]) [0, 1, 2, 3, 4] rfl rfl) ?_
  refine J_aload_n 2 dX15_sends_24 rv_is rfl ?_
  refine J_iload_n 3 dX15_sends_25 rfl ?_
  refine J_bipush (v := nI 10) dX15_sends_26 rfl ?_
  refine J_iload_n 4 dX15_sends_28 rfl ?_
  refine J_iadd dX15_sends_29 ?_
  refine J_iload_n 5 dX15_sends_30 rfl ?_
  refine J_iload 1 dX15_sends_31 rfl ?_
  refine J.callV (n := 4) (As := [.int i1, .int ((nI 10) + i2), .int i3, .int v5]) kc_15 (ctX15_holds (lx x) (wx x) a0 i1 ((nI 10) + i2) i3 v5 h) kw_8_193 kw_8_190 kw_8_192 kp_37 kw_1_13 (by decide +kernel) rfl (by decide) (Nat.zero_le _) rfl dX15_sends_33 g1 (fun v8 h7 => ?_)
  show J x _ _ 36 _ [.int v8] h7 _
  refine J_istore dX15_sends_36 (by decide) (SD.a (lvr := [(5, .int v6), (4, .int v5), (0, rv (zx x) a0), (1, .int i1), (2, .int i2), (3, .int i3)]) [0, 1, 2, 3, 4, 5] rfl rfl) ?_
  refine J_iload 0 dX15_sends_38 rfl ?_
  refine J_if_ne (tgt := 90) dX15_sends_40 rfl ?_ ?_
  · exact J_sub [3, 4, 5, 6, 1, 0] rfl (jX15_sends_B90 x a0 i1 i2 i3 v6 v8 h7)
  · refine J_aload_n 3 dX15_sends_43 rv_is rfl ?_
    refine J_G (fun g9 => ?_)
    refine J_getI kc_15 24 (by decide) rfl rfl kw_6_234 dX15_sends_44 g9 ?_
    refine J_iload_n 5 dX15_sends_47 rfl ?_
    refine J.callS (n := 2) (As := [.int (xI h7 a0 24), .int i2]) (ctX15_has (lx x) (wx x) (xI h7 a0 24) i2 h7) kw_8_177 kw_8_175 kw_8_176 kw_1_13 (by decide +kernel) rfl (by decide) (Nat.zero_le _) rfl dX15_sends_48 (fun v11 h10 => ?_)
    show J x _ _ 51 _ [.int v11] h10 _
    refine J_if_eq (tgt := 90) dX15_sends_51 rfl ?_ ?_
    · exact J_sub [3, 4, 5, 6, 1, 0] rfl (jX15_sends_B90 x a0 i1 i2 i3 v6 v8 h10)
    · refine J_iload_n 6 dX15_sends_54 rfl ?_
      refine J_if_le (tgt := 90) dX15_sends_55 rfl ?_ ?_
      · exact J_sub [3, 4, 5, 6, 1, 0] rfl (jX15_sends_B90 x a0 i1 i2 i3 v6 v8 h10)
      · refine J_aload_n 3 dX15_sends_58 rv_is rfl ?_
        refine J_iload_n 4 dX15_sends_59 rfl ?_
        refine J_iload_n 6 dX15_sends_60 rfl ?_
        refine J_iload 2 dX15_sends_61 rfl ?_
        refine J_G (fun g12 => ?_)
        refine J.callV (n := 3) (As := [.int i1, .int i3, .int v5]) kc_15 (ctX15_isDown (lx x) (wx x) a0 i1 i3 v5 h10) kw_8_166 kw_8_163 kw_8_165 kp_31 kw_1_13 (by decide +kernel) rfl (by decide) (Nat.zero_le _) rfl dX15_sends_63 g12 (fun v14 h13 => ?_)
        show J x _ _ 66 _ [.int v14] h13 _
        refine J_if_ne (tgt := 90) dX15_sends_66 rfl ?_ ?_
        · exact J_sub [3, 4, 5, 6, 1, 0] rfl (jX15_sends_B90 x a0 i1 i2 i3 v6 v8 h13)
        · refine J_aload_n 3 dX15_sends_69 rv_is rfl ?_
          refine J_iload_n 4 dX15_sends_70 rfl ?_
          refine J_bipush (v := nI 10) dX15_sends_71 rfl ?_
          refine J_iload_n 5 dX15_sends_73 rfl ?_
          refine J_iadd dX15_sends_74 ?_
          refine J_iload_n 6 dX15_sends_75 rfl ?_
          refine J_iconst (v := nI 1) dX15_sends_76 rfl ?_
          refine J_isub dX15_sends_77 ?_
          refine J_iload 2 dX15_sends_78 rfl ?_
          refine J_G (fun g15 => ?_)
          refine J.callV (n := 4) (As := [.int i1, .int ((nI 10) + i2), .int (i3 - (nI 1)), .int v5]) kc_15 (ctX15_holds (lx x) (wx x) a0 i1 ((nI 10) + i2) (i3 - (nI 1)) v5 h13) kw_8_193 kw_8_190 kw_8_192 kp_37 kw_1_13 (by decide +kernel) rfl (by decide) (Nat.zero_le _) rfl dX15_sends_80 g15 (fun v17 h16 => ?_)
          show J x _ _ 83 _ [.int v17] h16 _
          refine J_if_eq (tgt := 90) dX15_sends_83 rfl ?_ ?_
          · exact J_sub [3, 4, 5, 6, 1, 0] rfl (jX15_sends_B90 x a0 i1 i2 i3 v6 v8 h16)
          · refine J_iconst (v := nI 1) dX15_sends_86 rfl ?_
            refine J_goto (tgt := 91) dX15_sends_87 rfl ?_
            exact J_sub [3, 4, 5, 6, 1, 0] rfl (jX15_sends_B91 x a0 i1 i2 i3 v6 v8 (nI 1) h16)
theorem ctX15_sends (l : Launch) (w : WT) (a0 : Nat) (i1 : Int32) (i2 : Int32) (i3 : Int32) (h : AH) : CM l w yX15_sends cX15_sends 10 none 3 67 KV [rv (w.1) a0, .int i1, .int i2, .int i3] h (X15_sends_f a0 i1 i2 i3 h) :=
  CM.of (by decide +kernel) (by simp [lg_sl, rv_cat, cat_I, cat_L, cat_S]) (lv := [(0, rv (w.1) a0), (1, .int i1), (2, .int i2), (3, .int i3)]) (by simp [lv_args, rv_cat, cat_I, cat_L, cat_S]) (fun x hx => by subst hx; exact jX15_sends x a0 i1 i2 i3 h)
-- FallTrialsModel.outcome(I)I
abbrev qX15_outcome : MT := (cX15_outcome, RX15, "outcome", (some .int), 2, 47, 3)
def X15_outcome_B53 : Nat → Nat → Int32 → Int32 → AH → Option (Int32 × AH)
  | 0, _, _, _, _ => none
  | n + 1, a0, i1, i2, h =>
    G (xc h a0 = 15) <|
    G (xc h (xR h a0 4) = 12) <|
    if (xI h (xR h a0 4) 23) ≤ i2 then (
      some (nI 2, h)
    ) else (
      G (xc h a0 = 15) <|
      G (xc h (xR h a0 4) = 12) <|
      G (xc h (xR h (xR h a0 4) 26) = 16) <|
      G (gx i2 (xz h (xR h (xR h a0 4) 26))) <|
      G (xc h (xR h (xR h a0 4) 27) = 16) <|
      G (gx i2 (xz h (xR h (xR h a0 4) 27))) <|
      BN (X15_isThere_f a0 i1 (xI h (xR h (xR h a0 4) 26) i2.toNatClampNeg) (xI h (xR h (xR h a0 4) 27) i2.toNatClampNeg) (xI h a0 14) h) fun v10 h9 =>
      if v10 = 0 then (
        LT (i2 + nI 1) fun v11 =>
        X15_outcome_B53 n a0 i1 v11 h9
      ) else (
        some (nI 0, h9)
      )
    )
theorem jX15_outcome_B53 (x : CT) : ∀ (n : Nat) (a0 : Nat) (i1 : Int32) (i2 : Int32) (h : AH), J x qX15_outcome ZI 53 [(0, rv (zx x) a0), (1, .int i1), (2, .int i2)] [] h (X15_outcome_B53 n a0 i1 i2 h) := by
  intro n
  induction n with
  | zero => intro a0 i1 i2 h; exact J_none
  | succ n ih =>
    intro a0 i1 i2 h
    unfold X15_outcome_B53
    refine J_iload_n 2 dX15_outcome_53 rfl ?_
    refine J_aload_n 0 dX15_outcome_54 rv_is rfl ?_
    refine J_G (fun g1 => ?_)
    refine J_getR kc_15 4 (by decide) rfl rfl kw_6_214 dX15_outcome_55 g1 ?_
    refine J_G (fun g2 => ?_)
    refine J_getIN kc_12 23 (by decide) rfl rfl kn_47 dX15_outcome_58 g2 ?_
    refine J_icmp_ge (tgt := 102) dX15_outcome_61 rfl ?_ ?_
    · refine J_iconst (v := nI 2) dX15_outcome_102 rfl ?_
      exact J_iret dX15_outcome_103
    · refine J_aload_n 0 dX15_outcome_64 rv_is rfl ?_
      refine J_iload_n 1 dX15_outcome_65 rfl ?_
      refine J_aload_n 0 dX15_outcome_66 rv_is rfl ?_
      refine J_G (fun g3 => ?_)
      refine J_getR kc_15 4 (by decide) rfl rfl kw_6_214 dX15_outcome_67 g3 ?_
      refine J_G (fun g4 => ?_)
      refine J_getRN kc_12 26 (by decide) rfl rfl kn_50 dX15_outcome_70 g4 ?_
      refine J_iload_n 2 dX15_outcome_73 rfl ?_
      refine J_G (fun g5 => ?_)
      refine J_G (fun g6 => ?_)
      refine J_iald dX15_outcome_74 g5 g6 ?_
      refine J_aload_n 0 dX15_outcome_75 rv_is rfl ?_
      refine J_getR kc_15 4 (by decide) rfl rfl kw_6_214 dX15_outcome_76 g3 ?_
      refine J_getRN kc_12 27 (by decide) rfl rfl kn_51 dX15_outcome_79 g4 ?_
      refine J_iload_n 2 dX15_outcome_82 rfl ?_
      refine J_G (fun g7 => ?_)
      refine J_G (fun g8 => ?_)
      refine J_iald dX15_outcome_83 g7 g8 ?_
      refine J_aload_n 0 dX15_outcome_84 rv_is rfl ?_
      refine J_getI kc_15 14 (by decide) rfl rfl kw_6_224 dX15_outcome_85 g3 ?_
      refine J.callV (n := 4) (As := [.int i1, .int (xI h (xR h (xR h a0 4) 26) i2.toNatClampNeg), .int (xI h (xR h (xR h a0 4) 27) i2.toNatClampNeg), .int (xI h a0 14)]) kc_15 (ctX15_isThere (lx x) (wx x) a0 i1 (xI h (xR h (xR h a0 4) 26) i2.toNatClampNeg) (xI h (xR h (xR h a0 4) 27) i2.toNatClampNeg) (xI h a0 14) h) kw_8_213 kw_8_210 kw_8_212 kp_42 kw_1_13 (by decide +kernel) rfl (by decide) (Nat.zero_le _) rfl dX15_outcome_88 g3 (fun v10 h9 => ?_)
      show J x _ _ 91 _ [.int v10] h9 _
      refine J_if_eq (tgt := 96) dX15_outcome_91 rfl ?_ ?_
      · refine J_iincL (u := i2 + nI 1) 2 dX15_outcome_96 rfl rfl (by decide) (SD.a (lvr := [(0, rv (zx x) a0), (1, .int i1)]) [0, 1] rfl rfl) (fun v11 => ?_)
        refine J_goto (tgt := 53) dX15_outcome_99 rfl ?_
        exact J_sub [1, 2, 0] rfl (ih a0 i1 v11 h9)
      · refine J_iconst (v := nI 0) dX15_outcome_94 rfl ?_
        exact J_iret dX15_outcome_95
def X15_outcome_B51 (a0 : Nat) (i1 : Int32) (h : AH) : Option (Int32 × AH) :=
  X15_outcome_B53 FU a0 i1 (nI 0) h
theorem jX15_outcome_B51 (x : CT) (a0 : Nat) (i1 : Int32) (h : AH) : J x qX15_outcome ZI 51 [(0, rv (zx x) a0), (1, .int i1)] [] h (X15_outcome_B51 a0 i1 h) := by
  unfold X15_outcome_B51
  refine J_iconst (v := nI 0) dX15_outcome_51 rfl ?_
  refine J_istore_n dX15_outcome_52 (by decide) (SD.a (lvr := [(0, rv (zx x) a0), (1, .int i1)]) [0, 1] rfl rfl) ?_
  exact J_sub [1, 2, 0] rfl (jX15_outcome_B53 x FU a0 i1 (nI 0) h)
def X15_outcome_B2 : Nat → Nat → Int32 → Int32 → AH → Option (Int32 × AH)
  | 0, _, _, _, _ => none
  | n + 1, a0, i1, i2, h =>
    G (xc h a0 = 15) <|
    G (xc h (xR h a0 4) = 12) <|
    if (xI h (xR h a0 4) 22) ≤ i2 then (
      X15_outcome_B51 a0 i1 h
    ) else (
      G (xc h a0 = 15) <|
      G (xc h (xR h a0 4) = 12) <|
      G (xc h (xR h (xR h a0 4) 24) = 16) <|
      G (gx i2 (xz h (xR h (xR h a0 4) 24))) <|
      G (xc h (xR h (xR h a0 4) 25) = 16) <|
      G (gx i2 (xz h (xR h (xR h a0 4) 25))) <|
      BN (X15_isThere_f a0 i1 (xI h (xR h (xR h a0 4) 24) i2.toNatClampNeg) (xI h (xR h (xR h a0 4) 25) i2.toNatClampNeg) (xI h a0 14) h) fun v10 h9 =>
      if v10 = 0 then (
        some (nI 1, h9)
      ) else (
        LT (i2 + nI 1) fun v11 =>
        X15_outcome_B2 n a0 i1 v11 h9
      )
    )
theorem jX15_outcome_B2 (x : CT) : ∀ (n : Nat) (a0 : Nat) (i1 : Int32) (i2 : Int32) (h : AH), J x qX15_outcome ZI 2 [(0, rv (zx x) a0), (1, .int i1), (2, .int i2)] [] h (X15_outcome_B2 n a0 i1 i2 h) := by
  intro n
  induction n with
  | zero => intro a0 i1 i2 h; exact J_none
  | succ n ih =>
    intro a0 i1 i2 h
    unfold X15_outcome_B2
    refine J_iload_n 2 dX15_outcome_2 rfl ?_
    refine J_aload_n 0 dX15_outcome_3 rv_is rfl ?_
    refine J_G (fun g1 => ?_)
    refine J_getR kc_15 4 (by decide) rfl rfl kw_6_214 dX15_outcome_4 g1 ?_
    refine J_G (fun g2 => ?_)
    refine J_getIN kc_12 22 (by decide) rfl rfl kn_46 dX15_outcome_7 g2 ?_
    refine J_icmp_ge (tgt := 51) dX15_outcome_10 rfl ?_ ?_
    · exact J_sub [0, 1] rfl (jX15_outcome_B51 x a0 i1 h)
    · refine J_aload_n 0 dX15_outcome_13 rv_is rfl ?_
      refine J_iload_n 1 dX15_outcome_14 rfl ?_
      refine J_aload_n 0 dX15_outcome_15 rv_is rfl ?_
      refine J_G (fun g3 => ?_)
      refine J_getR kc_15 4 (by decide) rfl rfl kw_6_214 dX15_outcome_16 g3 ?_
      refine J_G (fun g4 => ?_)
      refine J_getRN kc_12 24 (by decide) rfl rfl kn_48 dX15_outcome_19 g4 ?_
      refine J_iload_n 2 dX15_outcome_22 rfl ?_
      refine J_G (fun g5 => ?_)
      refine J_G (fun g6 => ?_)
      refine J_iald dX15_outcome_23 g5 g6 ?_
      refine J_aload_n 0 dX15_outcome_24 rv_is rfl ?_
      refine J_getR kc_15 4 (by decide) rfl rfl kw_6_214 dX15_outcome_25 g3 ?_
      refine J_getRN kc_12 25 (by decide) rfl rfl kn_49 dX15_outcome_28 g4 ?_
      refine J_iload_n 2 dX15_outcome_31 rfl ?_
      refine J_G (fun g7 => ?_)
      refine J_G (fun g8 => ?_)
      refine J_iald dX15_outcome_32 g7 g8 ?_
      refine J_aload_n 0 dX15_outcome_33 rv_is rfl ?_
      refine J_getI kc_15 14 (by decide) rfl rfl kw_6_224 dX15_outcome_34 g3 ?_
      refine J.callV (n := 4) (As := [.int i1, .int (xI h (xR h (xR h a0 4) 24) i2.toNatClampNeg), .int (xI h (xR h (xR h a0 4) 25) i2.toNatClampNeg), .int (xI h a0 14)]) kc_15 (ctX15_isThere (lx x) (wx x) a0 i1 (xI h (xR h (xR h a0 4) 24) i2.toNatClampNeg) (xI h (xR h (xR h a0 4) 25) i2.toNatClampNeg) (xI h a0 14) h) kw_8_213 kw_8_210 kw_8_212 kp_42 kw_1_13 (by decide +kernel) rfl (by decide) (Nat.zero_le _) rfl dX15_outcome_37 g3 (fun v10 h9 => ?_)
      show J x _ _ 40 _ [.int v10] h9 _
      refine J_if_ne (tgt := 45) dX15_outcome_40 rfl ?_ ?_
      · refine J_iincL (u := i2 + nI 1) 2 dX15_outcome_45 rfl rfl (by decide) (SD.a (lvr := [(0, rv (zx x) a0), (1, .int i1)]) [0, 1] rfl rfl) (fun v11 => ?_)
        refine J_goto (tgt := 2) dX15_outcome_48 rfl ?_
        exact J_sub [1, 2, 0] rfl (ih a0 i1 v11 h9)
      · refine J_iconst (v := nI 1) dX15_outcome_43 rfl ?_
        exact J_iret dX15_outcome_44
def X15_outcome_f (a0 : Nat) (i1 : Int32) (h : AH) : Option (Int32 × AH) :=
  X15_outcome_B2 FU a0 i1 (nI 0) h
theorem jX15_outcome (x : CT) (a0 : Nat) (i1 : Int32) (h : AH) : J x qX15_outcome ZI 0 [(0, rv (zx x) a0), (1, .int i1)] [] h (X15_outcome_f a0 i1 h) := by
  unfold X15_outcome_f
  refine J_iconst (v := nI 0) dX15_outcome_0 rfl ?_
  refine J_istore_n dX15_outcome_1 (by decide) (SD.a (lvr := [(0, rv (zx x) a0), (1, .int i1)]) [0, 1] rfl rfl) ?_
  exact J_sub [1, 2, 0] rfl (jX15_outcome_B2 x FU a0 i1 (nI 0) h)
theorem ctX15_outcome (l : Launch) (w : WT) (a0 : Nat) (i1 : Int32) (h : AH) : CM l w yX15_outcome cX15_outcome 3 (some .int) 2 47 KI [rv (w.1) a0, .int i1] h (X15_outcome_f a0 i1 h) :=
  CM.of (by decide +kernel) (by simp [lg_sl, rv_cat, cat_I, cat_L, cat_S]) (lv := [(0, rv (w.1) a0), (1, .int i1)]) (by simp [lv_args, rv_cat, cat_I, cat_L, cat_S]) (fun x hx => by subst hx; exact jX15_outcome x a0 i1 h)
