-- FallTrialsModel.readName(ZZ)V
abbrev qX15_readName : MT := (cX15_readName, RX15, "readName", none, 7, 149, 4)
def X15_readName_B167 (a0 : Nat) (i1 : Int32) (i3 : Int32) (h : AH) : Option ((Unit ⊕ Nat) × AH) :=
  G (xc h a0 = 15) <|
  BN (X15_next_f a0 h) fun _ h2 =>
  if i1 = 0 then (
    some (.inl (), h2)
  ) else (
    G (xc h2 a0 = 15) <|
    BN (X15_isWord_f a0 5 h2) fun v5 h4 =>
    if v5 = 0 then (
      some (.inl (), h4)
    ) else (
      G (xc h4 a0 = 15) <|
      G (xc h4 (xR h4 a0 5) = 12) <|
      LT (pI h4 (xR h4 a0 5) 7 ((xI h4 (xR h4 a0 5) 7) ||| ((nI 1) <<< (i3 &&& 31)))) fun h8 =>
      G (xc h8 a0 = 15) <|
      BN (X15_next_f a0 h8) fun _ h10 =>
      some (.inl (), h10)
    )
  )
theorem jX15_readName_B167 (x : CT) (a0 : Nat) (i1 : Int32) (i3 : Int32) (h : AH) : J x qX15_readName YV 167 [(0, rv (zx x) a0), (1, .int i1), (3, .int i3)] [] h (X15_readName_B167 a0 i1 i3 h) := by
  unfold X15_readName_B167
  refine J_aload_n 0 dX15_readName_167 rv_is rfl ?_
  refine J_G (fun g1 => ?_)
  refine J.callV (n := 0) (As := []) kc_15 (ctX15_next (lx x) (wx x) a0 h) kw_8_13 kw_8_10 kw_8_12 kp_9 kw_1_13 (by decide +kernel) rfl (by decide) (Nat.zero_le _) rfl dX15_readName_168 g1 (fun _ h2 => ?_)
  show J x _ _ 171 _ [] h2 _
  refine J_iload_n 1 dX15_readName_171 rfl ?_
  refine J_if_eq (tgt := 184) dX15_readName_172 rfl ?_ ?_
  · exact J_vretY dX15_readName_184
  · refine J_aload_n 0 dX15_readName_175 rv_is rfl ?_
    refine J_ldcS (i := 5) (tx := "kept") (index := 238) (by decide +kernel) dX15_readName_176 ?_
    refine J_G (fun g3 => ?_)
    refine J.callV (n := 1) (As := [sv (wx x) 5]) kc_15 (ctX15_isWord (lx x) (wx x) a0 5 h2) kw_8_30 kw_8_27 kw_8_29 kp_12 kw_1_13 (by decide +kernel) rfl (by decide) (Nat.zero_le _) rfl dX15_readName_178 g3 (fun v5 h4 => ?_)
    show J x _ _ 181 _ [.int v5] h4 _
    refine J_if_ne (tgt := 185) dX15_readName_181 rfl ?_ ?_
    · refine J_aload_n 0 dX15_readName_185 rv_is rfl ?_
      refine J_G (fun g6 => ?_)
      refine J_getR kc_15 5 (by decide) rfl rfl kw_6_215 dX15_readName_186 g6 ?_
      refine J_dup dX15_readName_189 rv_cat ?_
      refine J_G (fun g7 => ?_)
      refine J_getIN kc_12 7 (by decide) rfl rfl kn_31 dX15_readName_190 g7 ?_
      refine J_iconst (v := nI 1) dX15_readName_193 rfl ?_
      refine J_iload_n 2 dX15_readName_194 rfl ?_
      refine J_ishl dX15_readName_195 ?_
      refine J_ior dX15_readName_196 ?_
      refine J_putIN kc_12 7 (by decide) rfl rfl rfl rfl rfl kn_31 dX15_readName_197 g7 ?_
      refine J_LTh (fun h8 => ?_)
      refine J_aload_n 0 dX15_readName_200 rv_is rfl ?_
      refine J_G (fun g9 => ?_)
      refine J.callV (n := 0) (As := []) kc_15 (ctX15_next (lx x) (wx x) a0 h8) kw_8_13 kw_8_10 kw_8_12 kp_9 kw_1_13 (by decide +kernel) rfl (by decide) (Nat.zero_le _) rfl dX15_readName_201 g9 (fun _ h10 => ?_)
      show J x _ _ 204 _ [] h10 _
      exact J_vretY dX15_readName_204
    · exact J_vretY dX15_readName_184
def X15_readName_B69 (a0 : Nat) (i1 : Int32) (is0 : Int32) (h : AH) : Option ((Unit ⊕ Nat) × AH) :=
  G (xc h a0 = 15) <|
  G (xc h (xR h a0 5) = 12) <|
  G (xc h (xR h (xR h a0 5) 8) = 17) <|
  G (gx (xI h (xR h a0 5) 0) (xz h (xR h (xR h a0 5) 8))) <|
  LT (pL h (xR h (xR h a0 5) 8) (xI h (xR h a0 5) 0).toNatClampNeg (xL h a0 13)) fun h5 =>
  G (xc h5 a0 = 15) <|
  G (xc h5 (xR h5 a0 5) = 12) <|
  G (xc h5 (xR h5 (xR h5 a0 5) 9) = 19) <|
  G (gx (xI h5 (xR h5 a0 5) 0) (xz h5 (xR h5 (xR h5 a0 5) 9))) <|
  LT (pI h5 (xR h5 (xR h5 a0 5) 9) (xI h5 (xR h5 a0 5) 0).toNatClampNeg (vp_nar .boolean i1)) fun h10 =>
  G (xc h10 a0 = 15) <|
  G (xc h10 (xR h10 a0 5) = 12) <|
  G (xc h10 (xR h10 (xR h10 a0 5) 10) = 16) <|
  G (gx (xI h10 (xR h10 a0 5) 0) (xz h10 (xR h10 (xR h10 a0 5) 10))) <|
  LT (pI h10 (xR h10 (xR h10 a0 5) 10) (xI h10 (xR h10 a0 5) 0).toNatClampNeg is0) fun h15 =>
  G (xc h15 a0 = 15) <|
  G (xc h15 (xR h15 a0 5) = 12) <|
  LT (pI h15 (xR h15 a0 5) 0 ((xI h15 (xR h15 a0 5) 0) + (nI 1))) fun h18 =>
  if i1 = 0 then (
    G (xc h18 a0 = 15) <|
    G (xc h18 (xR h18 a0 5) = 12) <|
    LT (pI h18 (xR h18 a0 5) 1 ((xI h18 (xR h18 a0 5) 1) + (nI 1))) fun h21 =>
    X15_readName_B167 a0 i1 is0 h21
  ) else (
    G (xc h18 a0 = 15) <|
    G (xc h18 (xR h18 a0 5) = 12) <|
    LT (pI h18 (xR h18 a0 5) 2 ((xI h18 (xR h18 a0 5) 2) + (nI 1))) fun h24 =>
    X15_readName_B167 a0 i1 is0 h24
  )
theorem jX15_readName_B69 (x : CT) (a0 : Nat) (i1 : Int32) (is0 : Int32) (h : AH) : J x qX15_readName YV 69 [(0, rv (zx x) a0), (1, .int i1)] [.int is0] h (X15_readName_B69 a0 i1 is0 h) := by
  unfold X15_readName_B69
  refine J_istore_n dX15_readName_69 (by decide) (SD.a (lvr := [(0, rv (zx x) a0), (1, .int i1)]) [0, 1] rfl rfl) ?_
  refine J_aload_n 1 dX15_readName_70 rv_is rfl ?_
  refine J_G (fun g1 => ?_)
  refine J_getR kc_15 5 (by decide) rfl rfl kw_6_215 dX15_readName_71 g1 ?_
  refine J_G (fun g2 => ?_)
  refine J_getRN kc_12 8 (by decide) rfl rfl kn_32 dX15_readName_74 g2 ?_
  refine J_aload_n 1 dX15_readName_77 rv_is rfl ?_
  refine J_getR kc_15 5 (by decide) rfl rfl kw_6_215 dX15_readName_78 g1 ?_
  refine J_getIN kc_12 0 (by decide) rfl rfl kn_24 dX15_readName_81 g2 ?_
  refine J_aload_n 1 dX15_readName_84 rv_is rfl ?_
  refine J_getL kc_15 13 (by decide) rfl rfl kw_6_223 dX15_readName_85 g1 ?_
  refine J_G (fun g3 => ?_)
  refine J_G (fun g4 => ?_)
  refine J_last dX15_readName_88 g3 g4 ?_
  refine J_LTh (fun h5 => ?_)
  refine J_aload_n 1 dX15_readName_89 rv_is rfl ?_
  refine J_G (fun g6 => ?_)
  refine J_getR kc_15 5 (by decide) rfl rfl kw_6_215 dX15_readName_90 g6 ?_
  refine J_G (fun g7 => ?_)
  refine J_getRN kc_12 9 (by decide) rfl rfl kn_33 dX15_readName_93 g7 ?_
  refine J_aload_n 1 dX15_readName_96 rv_is rfl ?_
  refine J_getR kc_15 5 (by decide) rfl rfl kw_6_215 dX15_readName_97 g6 ?_
  refine J_getIN kc_12 0 (by decide) rfl rfl kn_24 dX15_readName_100 g7 ?_
  refine J_iload_n 2 dX15_readName_103 rfl ?_
  refine J_G (fun g8 => ?_)
  refine J_G (fun g9 => ?_)
  refine J_zast dX15_readName_104 g8 g9 ?_
  refine J_LTh (fun h10 => ?_)
  refine J_aload_n 1 dX15_readName_105 rv_is rfl ?_
  refine J_G (fun g11 => ?_)
  refine J_getR kc_15 5 (by decide) rfl rfl kw_6_215 dX15_readName_106 g11 ?_
  refine J_G (fun g12 => ?_)
  refine J_getRN kc_12 10 (by decide) rfl rfl kn_34 dX15_readName_109 g12 ?_
  refine J_aload_n 1 dX15_readName_112 rv_is rfl ?_
  refine J_getR kc_15 5 (by decide) rfl rfl kw_6_215 dX15_readName_113 g11 ?_
  refine J_getIN kc_12 0 (by decide) rfl rfl kn_24 dX15_readName_116 g12 ?_
  refine J_iload_n 0 dX15_readName_119 rfl ?_
  refine J_G (fun g13 => ?_)
  refine J_G (fun g14 => ?_)
  refine J_iast dX15_readName_120 g13 g14 ?_
  refine J_LTh (fun h15 => ?_)
  refine J_aload_n 1 dX15_readName_121 rv_is rfl ?_
  refine J_G (fun g16 => ?_)
  refine J_getR kc_15 5 (by decide) rfl rfl kw_6_215 dX15_readName_122 g16 ?_
  refine J_dup dX15_readName_125 rv_cat ?_
  refine J_G (fun g17 => ?_)
  refine J_getIN kc_12 0 (by decide) rfl rfl kn_24 dX15_readName_126 g17 ?_
  refine J_iconst (v := nI 1) dX15_readName_129 rfl ?_
  refine J_iadd dX15_readName_130 ?_
  refine J_putIN kc_12 0 (by decide) rfl rfl rfl rfl rfl kn_24 dX15_readName_131 g17 ?_
  refine J_LTh (fun h18 => ?_)
  refine J_iload_n 2 dX15_readName_134 rfl ?_
  refine J_if_eq (tgt := 154) dX15_readName_135 rfl ?_ ?_
  · refine J_aload_n 1 dX15_readName_154 rv_is rfl ?_
    refine J_G (fun g19 => ?_)
    refine J_getR kc_15 5 (by decide) rfl rfl kw_6_215 dX15_readName_155 g19 ?_
    refine J_dup dX15_readName_158 rv_cat ?_
    refine J_G (fun g20 => ?_)
    refine J_getIN kc_12 1 (by decide) rfl rfl kn_25 dX15_readName_159 g20 ?_
    refine J_iconst (v := nI 1) dX15_readName_162 rfl ?_
    refine J_iadd dX15_readName_163 ?_
    refine J_putIN kc_12 1 (by decide) rfl rfl rfl rfl rfl kn_25 dX15_readName_164 g20 ?_
    refine J_LTh (fun h21 => ?_)
    exact J_sub [1, 2, 0] rfl (jX15_readName_B167 x a0 i1 is0 h21)
  · refine J_aload_n 1 dX15_readName_138 rv_is rfl ?_
    refine J_G (fun g22 => ?_)
    refine J_getR kc_15 5 (by decide) rfl rfl kw_6_215 dX15_readName_139 g22 ?_
    refine J_dup dX15_readName_142 rv_cat ?_
    refine J_G (fun g23 => ?_)
    refine J_getIN kc_12 2 (by decide) rfl rfl kn_26 dX15_readName_143 g23 ?_
    refine J_iconst (v := nI 1) dX15_readName_146 rfl ?_
    refine J_iadd dX15_readName_147 ?_
    refine J_putIN kc_12 2 (by decide) rfl rfl rfl rfl rfl kn_26 dX15_readName_148 g23 ?_
    refine J_LTh (fun h24 => ?_)
    refine J_goto (tgt := 167) dX15_readName_151 rfl ?_
    exact J_sub [1, 2, 0] rfl (jX15_readName_B167 x a0 i1 is0 h24)
def X15_readName_f (a0 : Nat) (i1 : Int32) (i2 : Int32) (h : AH) : Option ((Unit ⊕ Nat) × AH) :=
  if i2 = 0 then (
    G (xc h a0 = 15) <|
    BN (X15_next_f a0 h) fun _ h2 =>
    G (xc h2 a0 = 15) <|
    BN (X15_isName_f a0 h2) fun v5 h4 =>
    if v5 = 0 then (
      G (xc h4 a0 = 15) <|
      BN (X15_stop_f a0 (nI 1) h4) fun r20 h19 =>
      G (xc h19 r20 = 14) <|
      some (.inr r20, h19)
    ) else (
      G (xc h4 a0 = 15) <|
      G (xc h4 (xR h4 a0 5) = 12) <|
      BN (X12_find_f (xR h4 a0 5) (xL h4 a0 13) h4) fun v9 h8 =>
      if v9 = (-1) then (
        if i1 = 0 then (
          G (xc h8 a0 = 15) <|
          G (xc h8 (xR h8 a0 5) = 12) <|
          X15_readName_B69 a0 i1 (xI h8 (xR h8 a0 5) 1) h8
        ) else (
          G (xc h8 a0 = 15) <|
          G (xc h8 (xR h8 a0 5) = 12) <|
          X15_readName_B69 a0 i1 (xI h8 (xR h8 a0 5) 2) h8
        )
      ) else (
        G (xc h8 a0 = 15) <|
        BN (X15_stop_f a0 (nI 3) h8) fun r16 h15 =>
        G (xc h15 r16 = 14) <|
        some (.inr r16, h15)
      )
    )
  ) else (
    G (xc h a0 = 15) <|
    BN (X15_stop_f a0 (nI 5) h) fun r24 h23 =>
    G (xc h23 r24 = 14) <|
    some (.inr r24, h23)
  )
theorem jX15_readName (x : CT) (a0 : Nat) (i1 : Int32) (i2 : Int32) (h : AH) : J x qX15_readName YV 0 [(0, rv (zx x) a0), (1, .int i1), (2, .int i2)] [] h (X15_readName_f a0 i1 i2 h) := by
  unfold X15_readName_f
  refine J_iload_n 2 dX15_readName_0 rfl ?_
  refine J_if_eq (tgt := 10) dX15_readName_1 rfl ?_ ?_
  · refine J_aload_n 0 dX15_readName_10 rv_is rfl ?_
    refine J_G (fun g1 => ?_)
    refine J.callV (n := 0) (As := []) kc_15 (ctX15_next (lx x) (wx x) a0 h) kw_8_13 kw_8_10 kw_8_12 kp_9 kw_1_13 (by decide +kernel) rfl (by decide) (Nat.zero_le _) rfl dX15_readName_11 g1 (fun _ h2 => ?_)
    show J x _ _ 14 _ [] h2 _
    refine J_aload_n 0 dX15_readName_14 rv_is rfl ?_
    refine J_G (fun g3 => ?_)
    refine J.callV (n := 0) (As := []) kc_15 (ctX15_isName (lx x) (wx x) a0 h2) kw_8_48 kw_8_45 kw_8_47 kp_15 kw_1_13 (by decide +kernel) rfl (by decide) (Nat.zero_le _) rfl dX15_readName_15 g3 (fun v5 h4 => ?_)
    show J x _ _ 18 _ [.int v5] h4 _
    refine J_if_ne (tgt := 27) dX15_readName_18 rfl ?_ ?_
    · refine J_aload_n 0 dX15_readName_27 rv_is rfl ?_
      refine J_G (fun g6 => ?_)
      refine J_getR kc_15 5 (by decide) rfl rfl kw_6_215 dX15_readName_28 g6 ?_
      refine J_aload_n 0 dX15_readName_31 rv_is rfl ?_
      refine J_getL kc_15 13 (by decide) rfl rfl kw_6_223 dX15_readName_32 g6 ?_
      refine J_G (fun g7 => ?_)
      refine J.callV (n := 1) (As := [.long (xL h4 a0 13)]) kc_12 (ctX12_find (lx x) (wx x) (xR h4 a0 5) (xL h4 a0 13) h4) kw_8_61 kw_8_58 kw_8_59 kw_8_60 kw_1_24 (by decide +kernel) rfl (by decide) (Nat.zero_le _) rfl dX15_readName_35 g7 (fun v9 h8 => ?_)
      show J x _ _ 38 _ [.int v9] h8 _
      refine J_iconst (v := (-1)) dX15_readName_38 rfl ?_
      refine J_icmp_eq (tgt := 48) dX15_readName_39 rfl ?_ ?_
      · refine J_iload_n 1 dX15_readName_48 rfl ?_
        refine J_if_eq (tgt := 62) dX15_readName_49 rfl ?_ ?_
        · refine J_aload_n 0 dX15_readName_62 rv_is rfl ?_
          refine J_G (fun g10 => ?_)
          refine J_getR kc_15 5 (by decide) rfl rfl kw_6_215 dX15_readName_63 g10 ?_
          refine J_G (fun g11 => ?_)
          refine J_getIN kc_12 1 (by decide) rfl rfl kn_25 dX15_readName_66 g11 ?_
          exact J_sub [0, 1] rfl (jX15_readName_B69 x a0 i1 (xI h8 (xR h8 a0 5) 1) h8)
        · refine J_aload_n 0 dX15_readName_52 rv_is rfl ?_
          refine J_G (fun g12 => ?_)
          refine J_getR kc_15 5 (by decide) rfl rfl kw_6_215 dX15_readName_53 g12 ?_
          refine J_G (fun g13 => ?_)
          refine J_getIN kc_12 2 (by decide) rfl rfl kn_26 dX15_readName_56 g13 ?_
          refine J_goto (tgt := 69) dX15_readName_59 rfl ?_
          exact J_sub [0, 1] rfl (jX15_readName_B69 x a0 i1 (xI h8 (xR h8 a0 5) 2) h8)
      · refine J_aload_n 0 dX15_readName_42 rv_is rfl ?_
        refine J_iconst (v := nI 3) dX15_readName_43 rfl ?_
        refine J_G (fun g14 => ?_)
        refine J.callV (n := 1) (As := [.int (nI 3)]) kc_15 (ctX15_stop (lx x) (wx x) a0 (nI 3) h8) kw_8_44 kw_8_41 kw_8_43 kp_14 kw_1_13 (by decide +kernel) rfl (by decide) (Nat.zero_le _) rfl dX15_readName_44 g14 (fun r16 h15 => ?_)
        show J x _ _ 47 _ [rv (zx x) r16] h15 _
        refine J_G (fun g17 => ?_)
        exact J_athrow (by decide +kernel) dX15_readName_47 g17
    · refine J_aload_n 0 dX15_readName_21 rv_is rfl ?_
      refine J_iconst (v := nI 1) dX15_readName_22 rfl ?_
      refine J_G (fun g18 => ?_)
      refine J.callV (n := 1) (As := [.int (nI 1)]) kc_15 (ctX15_stop (lx x) (wx x) a0 (nI 1) h4) kw_8_44 kw_8_41 kw_8_43 kp_14 kw_1_13 (by decide +kernel) rfl (by decide) (Nat.zero_le _) rfl dX15_readName_23 g18 (fun r20 h19 => ?_)
      show J x _ _ 26 _ [rv (zx x) r20] h19 _
      refine J_G (fun g21 => ?_)
      exact J_athrow (by decide +kernel) dX15_readName_26 g21
  · refine J_aload_n 0 dX15_readName_4 rv_is rfl ?_
    refine J_iconst (v := nI 5) dX15_readName_5 rfl ?_
    refine J_G (fun g22 => ?_)
    refine J.callV (n := 1) (As := [.int (nI 5)]) kc_15 (ctX15_stop (lx x) (wx x) a0 (nI 5) h) kw_8_44 kw_8_41 kw_8_43 kp_14 kw_1_13 (by decide +kernel) rfl (by decide) (Nat.zero_le _) rfl dX15_readName_6 g22 (fun r24 h23 => ?_)
    show J x _ _ 9 _ [rv (zx x) r24] h23 _
    refine J_G (fun g25 => ?_)
    exact J_athrow (by decide +kernel) dX15_readName_9 g25
theorem ctX15_readName (l : Launch) (w : WT) (a0 : Nat) (i1 : Int32) (i2 : Int32) (h : AH) : CX l w yX15_readName cX15_readName 4 none 7 149 KV [rv (w.1) a0, .int i1, .int i2] h (X15_readName_f a0 i1 i2 h) :=
  CX.of (by decide +kernel) (by simp [lg_sl, rv_cat, cat_I, cat_L, cat_S]) (lv := [(0, rv (w.1) a0), (1, .int i1), (2, .int i2)]) (by simp [lv_args, rv_cat, cat_I, cat_L, cat_S]) (fun x hx => by subst hx; exact jX15_readName x a0 i1 i2 h)
-- FallTrialsModel.readFact()V
abbrev qX15_readFact : MT := (cX15_readFact, RX15, "readFact", none, 8, 171, 2)
def X15_readFact_B117 (a0 : Nat) (h : AH) : Option ((Unit ⊕ Nat) × AH) :=
  G (xc h a0 = 15) <|
  G (xc h (xR h a0 5) = 12) <|
  LT (pI h (xR h a0 5) 3 ((xI h (xR h a0 5) 3) + (nI 1))) fun h3 =>
  some (.inl (), h3)
theorem jX15_readFact_B117 (x : CT) (a0 : Nat) (h : AH) : J x qX15_readFact YV 117 [(0, rv (zx x) a0)] [] h (X15_readFact_B117 a0 h) := by
  unfold X15_readFact_B117
  refine J_aload_n 0 dX15_readFact_117 rv_is rfl ?_
  refine J_G (fun g1 => ?_)
  refine J_getR kc_15 5 (by decide) rfl rfl kw_6_215 dX15_readFact_118 g1 ?_
  refine J_dup dX15_readFact_121 rv_cat ?_
  refine J_G (fun g2 => ?_)
  refine J_getIN kc_12 3 (by decide) rfl rfl kn_27 dX15_readFact_122 g2 ?_
  refine J_iconst (v := nI 1) dX15_readFact_125 rfl ?_
  refine J_iadd dX15_readFact_126 ?_
  refine J_putIN kc_12 3 (by decide) rfl rfl rfl rfl rfl kn_27 dX15_readFact_127 g2 ?_
  refine J_LTh (fun h3 => ?_)
  exact J_vretY dX15_readFact_130
def X15_readFact_f (a0 : Nat) (h : AH) : Option ((Unit ⊕ Nat) × AH) :=
  G (xc h a0 = 15) <|
  G (xc h (xR h a0 5) = 12) <|
  if (xI h (xR h a0 5) 3) = (nI 10) then (
    G (xc h a0 = 15) <|
    BN (X15_stop_f a0 (nI 5) h) fun r42 h41 =>
    G (xc h41 r42 = 14) <|
    some (.inr r42, h41)
  ) else (
    G (xc h a0 = 15) <|
    BN (X15_next_f a0 h) fun _ h4 =>
    G (xc h4 a0 = 15) <|
    G (xc h4 (xR h4 a0 5) = 12) <|
    LT (xI h4 (xR h4 a0 5) 3) fun v7 =>
    BX (X15_readTold_f a0 (nI 1) h4) fun v9 h8 =>
    G (xc h8 (xR h4 (xR h4 a0 5) 11) = 16) <|
    G (gx v7 (xz h8 (xR h4 (xR h4 a0 5) 11))) <|
    LT (pI h8 (xR h4 (xR h4 a0 5) 11) v7.toNatClampNeg v9) fun h12 =>
    G (xc h12 a0 = 15) <|
    BX (X15_needWord_f a0 1 h12) fun _ h14 =>
    G (xc h14 a0 = 15) <|
    G (xc h14 (xR h14 a0 5) = 12) <|
    BX (X15_readTold_f a0 (nI 0) h14) fun v18 h17 =>
    G (xc h17 (xR h14 (xR h14 a0 5) 12) = 16) <|
    G (gx v7 (xz h17 (xR h14 (xR h14 a0 5) 12))) <|
    LT (pI h17 (xR h14 (xR h14 a0 5) 12) v7.toNatClampNeg v18) fun h21 =>
    G (xc h21 a0 = 15) <|
    G (xc h21 (xR h21 a0 5) = 12) <|
    G (xc h21 (xR h21 (xR h21 a0 5) 13) = 16) <|
    G (gx v7 (xz h21 (xR h21 (xR h21 a0 5) 13))) <|
    LT (pI h21 (xR h21 (xR h21 a0 5) 13) v7.toNatClampNeg (-1)) fun h26 =>
    G (xc h26 a0 = 15) <|
    BN (X15_isWord_f a0 7 h26) fun v29 h28 =>
    if v29 = 0 then (
      X15_readFact_B117 a0 h28
    ) else (
      G (xc h28 a0 = 15) <|
      G (xc h28 (xR h28 a0 5) = 12) <|
      G (xc h28 (xR h28 (xR h28 a0 5) 13) = 16) <|
      G (gx v7 (xz h28 (xR h28 (xR h28 a0 5) 13))) <|
      LT (pI h28 (xR h28 (xR h28 a0 5) 13) v7.toNatClampNeg (xI h28 (xR h28 a0 5) 4)) fun h34 =>
      G (xc h34 a0 = 15) <|
      G (xc h34 (xR h34 a0 5) = 12) <|
      LT (pI h34 (xR h34 a0 5) 4 ((xI h34 (xR h34 a0 5) 4) + (nI 1))) fun h37 =>
      G (xc h37 a0 = 15) <|
      BN (X15_next_f a0 h37) fun _ h39 =>
      X15_readFact_B117 a0 h39
    )
  )
theorem jX15_readFact (x : CT) (a0 : Nat) (h : AH) : J x qX15_readFact YV 0 [(0, rv (zx x) a0)] [] h (X15_readFact_f a0 h) := by
  unfold X15_readFact_f
  refine J_aload_n 0 dX15_readFact_0 rv_is rfl ?_
  refine J_G (fun g1 => ?_)
  refine J_getR kc_15 5 (by decide) rfl rfl kw_6_215 dX15_readFact_1 g1 ?_
  refine J_G (fun g2 => ?_)
  refine J_getIN kc_12 3 (by decide) rfl rfl kn_27 dX15_readFact_4 g2 ?_
  refine J_bipush (v := nI 10) dX15_readFact_7 rfl ?_
  refine J_icmp_ne (tgt := 18) dX15_readFact_9 rfl ?_ ?_
  · refine J_aload_n 0 dX15_readFact_18 rv_is rfl ?_
    refine J_G (fun g3 => ?_)
    refine J.callV (n := 0) (As := []) kc_15 (ctX15_next (lx x) (wx x) a0 h) kw_8_13 kw_8_10 kw_8_12 kp_9 kw_1_13 (by decide +kernel) rfl (by decide) (Nat.zero_le _) rfl dX15_readFact_19 g3 (fun _ h4 => ?_)
    show J x _ _ 22 _ [] h4 _
    refine J_aload_n 0 dX15_readFact_22 rv_is rfl ?_
    refine J_G (fun g5 => ?_)
    refine J_getR kc_15 5 (by decide) rfl rfl kw_6_215 dX15_readFact_23 g5 ?_
    refine J_G (fun g6 => ?_)
    refine J_getIN kc_12 3 (by decide) rfl rfl kn_27 dX15_readFact_26 g6 ?_
    refine J_LTi (fun v7 => ?_)
    refine J_istore_n dX15_readFact_29 (by decide) (SD.c (lvr := [(0, rv (zx x) a0)]) [0] rfl rfl 0 rfl rfl rv_cat) ?_
    refine J_aload_n 1 dX15_readFact_30 rv_is rfl ?_
    refine J_getR kc_15 5 (by decide) rfl rfl kw_6_215 dX15_readFact_31 g5 ?_
    refine J_getRN kc_12 11 (by decide) rfl rfl kn_35 dX15_readFact_34 g6 ?_
    refine J_iload_n 0 dX15_readFact_37 rfl ?_
    refine J_aload_n 1 dX15_readFact_38 rv_is rfl ?_
    refine J_iconst (v := nI 1) dX15_readFact_39 rfl ?_
    refine J.callVY (by decide +kernel) (n := 1) (As := [.int (nI 1)]) kc_15 (ctX15_readTold (lx x) (wx x) a0 (nI 1) h4) kw_8_70 kw_8_67 kw_8_69 kp_17 kw_1_13 (by decide +kernel) rfl (by decide) (by simp [rv_cat, cat_I, cat_L, cat_S]) rfl dX15_readFact_40 g5 (fun v9 h8 => ?_)
    show J x _ _ 43 _ [.int v9, .int v7, rv (zx x) (xR h4 (xR h4 a0 5) 11)] h8 _
    refine J_G (fun g10 => ?_)
    refine J_G (fun g11 => ?_)
    refine J_iast dX15_readFact_43 g10 g11 ?_
    refine J_LTh (fun h12 => ?_)
    refine J_aload_n 1 dX15_readFact_44 rv_is rfl ?_
    refine J_ldcS (i := 1) (tx := "at") (index := 180) (by decide +kernel) dX15_readFact_45 ?_
    refine J_G (fun g13 => ?_)
    refine J.callVY (by decide +kernel) (n := 1) (As := [sv (wx x) 1]) kc_15 (ctX15_needWord (lx x) (wx x) a0 1 h12) kw_8_74 kw_8_71 kw_8_73 kp_18 kw_1_13 (by decide +kernel) rfl (by decide) (Nat.zero_le _) rfl dX15_readFact_47 g13 (fun _ h14 => ?_)
    show J x _ _ 50 _ [] h14 _
    refine J_aload_n 1 dX15_readFact_50 rv_is rfl ?_
    refine J_G (fun g15 => ?_)
    refine J_getR kc_15 5 (by decide) rfl rfl kw_6_215 dX15_readFact_51 g15 ?_
    refine J_G (fun g16 => ?_)
    refine J_getRN kc_12 12 (by decide) rfl rfl kn_36 dX15_readFact_54 g16 ?_
    refine J_iload_n 0 dX15_readFact_57 rfl ?_
    refine J_aload_n 1 dX15_readFact_58 rv_is rfl ?_
    refine J_iconst (v := nI 0) dX15_readFact_59 rfl ?_
    refine J.callVY (by decide +kernel) (n := 1) (As := [.int (nI 0)]) kc_15 (ctX15_readTold (lx x) (wx x) a0 (nI 0) h14) kw_8_70 kw_8_67 kw_8_69 kp_17 kw_1_13 (by decide +kernel) rfl (by decide) (by simp [rv_cat, cat_I, cat_L, cat_S]) rfl dX15_readFact_60 g15 (fun v18 h17 => ?_)
    show J x _ _ 63 _ [.int v18, .int v7, rv (zx x) (xR h14 (xR h14 a0 5) 12)] h17 _
    refine J_G (fun g19 => ?_)
    refine J_G (fun g20 => ?_)
    refine J_iast dX15_readFact_63 g19 g20 ?_
    refine J_LTh (fun h21 => ?_)
    refine J_aload_n 1 dX15_readFact_64 rv_is rfl ?_
    refine J_G (fun g22 => ?_)
    refine J_getR kc_15 5 (by decide) rfl rfl kw_6_215 dX15_readFact_65 g22 ?_
    refine J_G (fun g23 => ?_)
    refine J_getRN kc_12 13 (by decide) rfl rfl kn_37 dX15_readFact_68 g23 ?_
    refine J_iload_n 0 dX15_readFact_71 rfl ?_
    refine J_iconst (v := (-1)) dX15_readFact_72 rfl ?_
    refine J_G (fun g24 => ?_)
    refine J_G (fun g25 => ?_)
    refine J_iast dX15_readFact_73 g24 g25 ?_
    refine J_LTh (fun h26 => ?_)
    refine J_aload_n 1 dX15_readFact_74 rv_is rfl ?_
    refine J_ldcSw (i := 7) (tx := "maybe") (index := 263) (by decide +kernel) dX15_readFact_75 ?_
    refine J_G (fun g27 => ?_)
    refine J.callV (n := 1) (As := [sv (wx x) 7]) kc_15 (ctX15_isWord (lx x) (wx x) a0 7 h26) kw_8_30 kw_8_27 kw_8_29 kp_12 kw_1_13 (by decide +kernel) rfl (by decide) (Nat.zero_le _) rfl dX15_readFact_78 g27 (fun v29 h28 => ?_)
    show J x _ _ 81 _ [.int v29] h28 _
    refine J_if_eq (tgt := 117) dX15_readFact_81 rfl ?_ ?_
    · exact J_sub [1] rfl (jX15_readFact_B117 x a0 h28)
    · refine J_aload_n 1 dX15_readFact_84 rv_is rfl ?_
      refine J_G (fun g30 => ?_)
      refine J_getR kc_15 5 (by decide) rfl rfl kw_6_215 dX15_readFact_85 g30 ?_
      refine J_G (fun g31 => ?_)
      refine J_getRN kc_12 13 (by decide) rfl rfl kn_37 dX15_readFact_88 g31 ?_
      refine J_iload_n 0 dX15_readFact_91 rfl ?_
      refine J_aload_n 1 dX15_readFact_92 rv_is rfl ?_
      refine J_getR kc_15 5 (by decide) rfl rfl kw_6_215 dX15_readFact_93 g30 ?_
      refine J_getIN kc_12 4 (by decide) rfl rfl kn_28 dX15_readFact_96 g31 ?_
      refine J_G (fun g32 => ?_)
      refine J_G (fun g33 => ?_)
      refine J_iast dX15_readFact_99 g32 g33 ?_
      refine J_LTh (fun h34 => ?_)
      refine J_aload_n 1 dX15_readFact_100 rv_is rfl ?_
      refine J_G (fun g35 => ?_)
      refine J_getR kc_15 5 (by decide) rfl rfl kw_6_215 dX15_readFact_101 g35 ?_
      refine J_dup dX15_readFact_104 rv_cat ?_
      refine J_G (fun g36 => ?_)
      refine J_getIN kc_12 4 (by decide) rfl rfl kn_28 dX15_readFact_105 g36 ?_
      refine J_iconst (v := nI 1) dX15_readFact_108 rfl ?_
      refine J_iadd dX15_readFact_109 ?_
      refine J_putIN kc_12 4 (by decide) rfl rfl rfl rfl rfl kn_28 dX15_readFact_110 g36 ?_
      refine J_LTh (fun h37 => ?_)
      refine J_aload_n 1 dX15_readFact_113 rv_is rfl ?_
      refine J_G (fun g38 => ?_)
      refine J.callV (n := 0) (As := []) kc_15 (ctX15_next (lx x) (wx x) a0 h37) kw_8_13 kw_8_10 kw_8_12 kp_9 kw_1_13 (by decide +kernel) rfl (by decide) (Nat.zero_le _) rfl dX15_readFact_114 g38 (fun _ h39 => ?_)
      show J x _ _ 117 _ [] h39 _
      exact J_sub [1] rfl (jX15_readFact_B117 x a0 h39)
  · refine J_aload_n 0 dX15_readFact_12 rv_is rfl ?_
    refine J_iconst (v := nI 5) dX15_readFact_13 rfl ?_
    refine J_G (fun g40 => ?_)
    refine J.callV (n := 1) (As := [.int (nI 5)]) kc_15 (ctX15_stop (lx x) (wx x) a0 (nI 5) h) kw_8_44 kw_8_41 kw_8_43 kp_14 kw_1_13 (by decide +kernel) rfl (by decide) (Nat.zero_le _) rfl dX15_readFact_14 g40 (fun r42 h41 => ?_)
    show J x _ _ 17 _ [rv (zx x) r42] h41 _
    refine J_G (fun g43 => ?_)
    exact J_athrow (by decide +kernel) dX15_readFact_17 g43
theorem ctX15_readFact (l : Launch) (w : WT) (a0 : Nat) (h : AH) : CX l w yX15_readFact cX15_readFact 2 none 8 171 KV [rv (w.1) a0] h (X15_readFact_f a0 h) :=
  CX.of (by decide +kernel) (by simp [lg_sl, rv_cat, cat_I, cat_L, cat_S]) (lv := [(0, rv (w.1) a0)]) (by simp [lv_args, rv_cat, cat_I, cat_L, cat_S]) (fun x hx => by subst hx; exact jX15_readFact x a0 h)
-- FallTrialsModel.readRule()V
abbrev qX15_readRule : MT := (cX15_readRule, RX15, "readRule", none, 8, 175, 2)
def X15_readRule_B157 (a0 : Nat) (h : AH) : Option ((Unit ⊕ Nat) × AH) :=
  G (xc h a0 = 15) <|
  G (xc h (xR h a0 5) = 12) <|
  LT (pI h (xR h a0 5) 5 ((xI h (xR h a0 5) 5) + (nI 1))) fun h3 =>
  some (.inl (), h3)
theorem jX15_readRule_B157 (x : CT) (a0 : Nat) (h : AH) : J x qX15_readRule YV 157 [(0, rv (zx x) a0)] [] h (X15_readRule_B157 a0 h) := by
  unfold X15_readRule_B157
  refine J_aload_n 0 dX15_readRule_157 rv_is rfl ?_
  refine J_G (fun g1 => ?_)
  refine J_getR kc_15 5 (by decide) rfl rfl kw_6_215 dX15_readRule_158 g1 ?_
  refine J_dup dX15_readRule_161 rv_cat ?_
  refine J_G (fun g2 => ?_)
  refine J_getIN kc_12 5 (by decide) rfl rfl kn_29 dX15_readRule_162 g2 ?_
  refine J_iconst (v := nI 1) dX15_readRule_165 rfl ?_
  refine J_iadd dX15_readRule_166 ?_
  refine J_putIN kc_12 5 (by decide) rfl rfl rfl rfl rfl kn_29 dX15_readRule_167 g2 ?_
  refine J_LTh (fun h3 => ?_)
  exact J_vretY dX15_readRule_170
def X15_readRule_B117 (a0 : Nat) (i1 : Int32) (is0 : Int32) (is1 : Int32) (as2 : Nat) (h : AH) : Option ((Unit ⊕ Nat) × AH) :=
  G (xc h as2 = 15) <|
  BX (X15_readCases_f as2 is1 is0 h) fun _ h2 =>
  G (xc h2 a0 = 15) <|
  G (xc h2 (xR h2 a0 5) = 12) <|
  G (xc h2 (xR h2 (xR h2 a0 5) 15) = 16) <|
  G (gx i1 (xz h2 (xR h2 (xR h2 a0 5) 15))) <|
  LT (pI h2 (xR h2 (xR h2 a0 5) 15) i1.toNatClampNeg (-1)) fun h7 =>
  G (xc h7 a0 = 15) <|
  BN (X15_isWord_f a0 1 h7) fun v10 h9 =>
  if v10 = 0 then (
    X15_readRule_B157 a0 h9
  ) else (
    G (xc h9 a0 = 15) <|
    BN (X15_next_f a0 h9) fun _ h12 =>
    G (xc h12 a0 = 15) <|
    G (xc h12 (xR h12 a0 5) = 12) <|
    BX (X15_readTold_f a0 (nI 0) h12) fun v16 h15 =>
    G (xc h15 (xR h12 (xR h12 a0 5) 15) = 16) <|
    G (gx i1 (xz h15 (xR h12 (xR h12 a0 5) 15))) <|
    LT (pI h15 (xR h12 (xR h12 a0 5) 15) i1.toNatClampNeg v16) fun h19 =>
    X15_readRule_B157 a0 h19
  )
theorem jX15_readRule_B117 (x : CT) (a0 : Nat) (i1 : Int32) (is0 : Int32) (is1 : Int32) (as2 : Nat) (h : AH) : J x qX15_readRule YV 117 [(0, rv (zx x) a0), (1, .int i1)] [.int is0, .int is1, rv (zx x) as2] h (X15_readRule_B117 a0 i1 is0 is1 as2 h) := by
  unfold X15_readRule_B117
  refine J_G (fun g1 => ?_)
  refine J.callVY (by decide +kernel) (n := 2) (As := [.int is1, .int is0]) kc_15 (ctX15_readCases (lx x) (wx x) as2 is1 is0 h) kw_8_85 kw_8_82 kw_8_84 kp_20 kw_1_13 (by decide +kernel) rfl (by decide) (Nat.zero_le _) rfl dX15_readRule_117 g1 (fun _ h2 => ?_)
  show J x _ _ 120 _ [] h2 _
  refine J_aload_n 0 dX15_readRule_120 rv_is rfl ?_
  refine J_G (fun g3 => ?_)
  refine J_getR kc_15 5 (by decide) rfl rfl kw_6_215 dX15_readRule_121 g3 ?_
  refine J_G (fun g4 => ?_)
  refine J_getRN kc_12 15 (by decide) rfl rfl kn_39 dX15_readRule_124 g4 ?_
  refine J_iload_n 1 dX15_readRule_127 rfl ?_
  refine J_iconst (v := (-1)) dX15_readRule_128 rfl ?_
  refine J_G (fun g5 => ?_)
  refine J_G (fun g6 => ?_)
  refine J_iast dX15_readRule_129 g5 g6 ?_
  refine J_LTh (fun h7 => ?_)
  refine J_aload_n 0 dX15_readRule_130 rv_is rfl ?_
  refine J_ldcS (i := 1) (tx := "at") (index := 180) (by decide +kernel) dX15_readRule_131 ?_
  refine J_G (fun g8 => ?_)
  refine J.callV (n := 1) (As := [sv (wx x) 1]) kc_15 (ctX15_isWord (lx x) (wx x) a0 1 h7) kw_8_30 kw_8_27 kw_8_29 kp_12 kw_1_13 (by decide +kernel) rfl (by decide) (Nat.zero_le _) rfl dX15_readRule_133 g8 (fun v10 h9 => ?_)
  show J x _ _ 136 _ [.int v10] h9 _
  refine J_if_eq (tgt := 157) dX15_readRule_136 rfl ?_ ?_
  · exact J_sub [0] rfl (jX15_readRule_B157 x a0 h9)
  · refine J_aload_n 0 dX15_readRule_139 rv_is rfl ?_
    refine J_G (fun g11 => ?_)
    refine J.callV (n := 0) (As := []) kc_15 (ctX15_next (lx x) (wx x) a0 h9) kw_8_13 kw_8_10 kw_8_12 kp_9 kw_1_13 (by decide +kernel) rfl (by decide) (Nat.zero_le _) rfl dX15_readRule_140 g11 (fun _ h12 => ?_)
    show J x _ _ 143 _ [] h12 _
    refine J_aload_n 0 dX15_readRule_143 rv_is rfl ?_
    refine J_G (fun g13 => ?_)
    refine J_getR kc_15 5 (by decide) rfl rfl kw_6_215 dX15_readRule_144 g13 ?_
    refine J_G (fun g14 => ?_)
    refine J_getRN kc_12 15 (by decide) rfl rfl kn_39 dX15_readRule_147 g14 ?_
    refine J_iload_n 1 dX15_readRule_150 rfl ?_
    refine J_aload_n 0 dX15_readRule_151 rv_is rfl ?_
    refine J_iconst (v := nI 0) dX15_readRule_152 rfl ?_
    refine J.callVY (by decide +kernel) (n := 1) (As := [.int (nI 0)]) kc_15 (ctX15_readTold (lx x) (wx x) a0 (nI 0) h12) kw_8_70 kw_8_67 kw_8_69 kp_17 kw_1_13 (by decide +kernel) rfl (by decide) (by simp [rv_cat, cat_I, cat_L, cat_S]) rfl dX15_readRule_153 g13 (fun v16 h15 => ?_)
    show J x _ _ 156 _ [.int v16, .int i1, rv (zx x) (xR h12 (xR h12 a0 5) 15)] h15 _
    refine J_G (fun g17 => ?_)
    refine J_G (fun g18 => ?_)
    refine J_iast dX15_readRule_156 g17 g18 ?_
    refine J_LTh (fun h19 => ?_)
    exact J_sub [0] rfl (jX15_readRule_B157 x a0 h19)
def X15_readRule_B88 (a0 : Nat) (i1 : Int32) (h : AH) : Option ((Unit ⊕ Nat) × AH) :=
  G (xc h a0 = 15) <|
  BN (X15_next_f a0 h) fun _ h2 =>
  G (xc h2 a0 = 15) <|
  BX (X15_needWord_f a0 4 h2) fun _ h4 =>
  G (xc h4 a0 = 15) <|
  G (xc h4 (xR h4 a0 5) = 12) <|
  G (xc h4 (xR h4 (xR h4 a0 5) 16) = 19) <|
  G (gx i1 (xz h4 (xR h4 (xR h4 a0 5) 16))) <|
  if (xI h4 (xR h4 (xR h4 a0 5) 16) i1.toNatClampNeg) = 0 then (
    X15_readRule_B117 a0 i1 (nI 1) i1 a0 h4
  ) else (
    X15_readRule_B117 a0 i1 (nI 0) i1 a0 h4
  )
theorem jX15_readRule_B88 (x : CT) (a0 : Nat) (i1 : Int32) (h : AH) : J x qX15_readRule YV 88 [(0, rv (zx x) a0), (1, .int i1)] [] h (X15_readRule_B88 a0 i1 h) := by
  unfold X15_readRule_B88
  refine J_aload_n 0 dX15_readRule_88 rv_is rfl ?_
  refine J_G (fun g1 => ?_)
  refine J.callV (n := 0) (As := []) kc_15 (ctX15_next (lx x) (wx x) a0 h) kw_8_13 kw_8_10 kw_8_12 kp_9 kw_1_13 (by decide +kernel) rfl (by decide) (Nat.zero_le _) rfl dX15_readRule_89 g1 (fun _ h2 => ?_)
  show J x _ _ 92 _ [] h2 _
  refine J_aload_n 0 dX15_readRule_92 rv_is rfl ?_
  refine J_ldcS (i := 4) (tx := "if") (index := 181) (by decide +kernel) dX15_readRule_93 ?_
  refine J_G (fun g3 => ?_)
  refine J.callVY (by decide +kernel) (n := 1) (As := [sv (wx x) 4]) kc_15 (ctX15_needWord (lx x) (wx x) a0 4 h2) kw_8_74 kw_8_71 kw_8_73 kp_18 kw_1_13 (by decide +kernel) rfl (by decide) (Nat.zero_le _) rfl dX15_readRule_95 g3 (fun _ h4 => ?_)
  show J x _ _ 98 _ [] h4 _
  refine J_aload_n 0 dX15_readRule_98 rv_is rfl ?_
  refine J_iload_n 1 dX15_readRule_99 rfl ?_
  refine J_aload_n 0 dX15_readRule_100 rv_is rfl ?_
  refine J_G (fun g5 => ?_)
  refine J_getR kc_15 5 (by decide) rfl rfl kw_6_215 dX15_readRule_101 g5 ?_
  refine J_G (fun g6 => ?_)
  refine J_getRN kc_12 16 (by decide) rfl rfl kn_40 dX15_readRule_104 g6 ?_
  refine J_iload_n 1 dX15_readRule_107 rfl ?_
  refine J_G (fun g7 => ?_)
  refine J_G (fun g8 => ?_)
  refine J_zald dX15_readRule_108 g7 g8 ?_
  refine J_if_ne (tgt := 116) dX15_readRule_109 rfl ?_ ?_
  · refine J_iconst (v := nI 0) dX15_readRule_116 rfl ?_
    exact (jX15_readRule_B117 x a0 i1 (nI 0) i1 a0 h4)
  · refine J_iconst (v := nI 1) dX15_readRule_112 rfl ?_
    refine J_goto (tgt := 117) dX15_readRule_113 rfl ?_
    exact (jX15_readRule_B117 x a0 i1 (nI 1) i1 a0 h4)
def X15_readRule_f (a0 : Nat) (h : AH) : Option ((Unit ⊕ Nat) × AH) :=
  G (xc h a0 = 15) <|
  G (xc h (xR h a0 5) = 12) <|
  if (xI h (xR h a0 5) 5) = (nI 10) then (
    G (xc h a0 = 15) <|
    BN (X15_stop_f a0 (nI 5) h) fun r33 h32 =>
    G (xc h32 r33 = 14) <|
    some (.inr r33, h32)
  ) else (
    G (xc h a0 = 15) <|
    BN (X15_next_f a0 h) fun _ h4 =>
    G (xc h4 a0 = 15) <|
    G (xc h4 (xR h4 a0 5) = 12) <|
    LT (xI h4 (xR h4 a0 5) 5) fun v7 =>
    BX (X15_readTold_f a0 (nI 1) h4) fun v9 h8 =>
    G (xc h8 (xR h4 (xR h4 a0 5) 14) = 16) <|
    G (gx v7 (xz h8 (xR h4 (xR h4 a0 5) 14))) <|
    LT (pI h8 (xR h4 (xR h4 a0 5) 14) v7.toNatClampNeg v9) fun h12 =>
    G (xc h12 a0 = 15) <|
    G (xc h12 (xR h12 a0 5) = 12) <|
    BN (X15_isWord_f a0 10 h12) fun v16 h15 =>
    G (xc h15 (xR h12 (xR h12 a0 5) 16) = 19) <|
    G (gx v7 (xz h15 (xR h12 (xR h12 a0 5) 16))) <|
    LT (pI h15 (xR h12 (xR h12 a0 5) 16) v7.toNatClampNeg (vp_nar .boolean v16)) fun h19 =>
    G (xc h19 a0 = 15) <|
    G (xc h19 (xR h19 a0 5) = 12) <|
    G (xc h19 (xR h19 (xR h19 a0 5) 16) = 19) <|
    G (gx v7 (xz h19 (xR h19 (xR h19 a0 5) 16))) <|
    if (xI h19 (xR h19 (xR h19 a0 5) 16) v7.toNatClampNeg) = 0 then (
      G (xc h19 a0 = 15) <|
      BN (X15_isWord_f a0 8 h19) fun v26 h25 =>
      if v26 = 0 then (
        G (xc h25 a0 = 15) <|
        BN (X15_stop_f a0 (nI 1) h25) fun r29 h28 =>
        G (xc h28 r29 = 14) <|
        some (.inr r29, h28)
      ) else (
        X15_readRule_B88 a0 v7 h25
      )
    ) else (
      X15_readRule_B88 a0 v7 h19
    )
  )
theorem jX15_readRule (x : CT) (a0 : Nat) (h : AH) : J x qX15_readRule YV 0 [(0, rv (zx x) a0)] [] h (X15_readRule_f a0 h) := by
  unfold X15_readRule_f
  refine J_aload_n 0 dX15_readRule_0 rv_is rfl ?_
  refine J_G (fun g1 => ?_)
  refine J_getR kc_15 5 (by decide) rfl rfl kw_6_215 dX15_readRule_1 g1 ?_
  refine J_G (fun g2 => ?_)
  refine J_getIN kc_12 5 (by decide) rfl rfl kn_29 dX15_readRule_4 g2 ?_
  refine J_bipush (v := nI 10) dX15_readRule_7 rfl ?_
  refine J_icmp_ne (tgt := 18) dX15_readRule_9 rfl ?_ ?_
  · refine J_aload_n 0 dX15_readRule_18 rv_is rfl ?_
    refine J_G (fun g3 => ?_)
    refine J.callV (n := 0) (As := []) kc_15 (ctX15_next (lx x) (wx x) a0 h) kw_8_13 kw_8_10 kw_8_12 kp_9 kw_1_13 (by decide +kernel) rfl (by decide) (Nat.zero_le _) rfl dX15_readRule_19 g3 (fun _ h4 => ?_)
    show J x _ _ 22 _ [] h4 _
    refine J_aload_n 0 dX15_readRule_22 rv_is rfl ?_
    refine J_G (fun g5 => ?_)
    refine J_getR kc_15 5 (by decide) rfl rfl kw_6_215 dX15_readRule_23 g5 ?_
    refine J_G (fun g6 => ?_)
    refine J_getIN kc_12 5 (by decide) rfl rfl kn_29 dX15_readRule_26 g6 ?_
    refine J_LTi (fun v7 => ?_)
    refine J_istore_n dX15_readRule_29 (by decide) (SD.c (lvr := [(0, rv (zx x) a0)]) [0] rfl rfl 0 rfl rfl rv_cat) ?_
    refine J_aload_n 1 dX15_readRule_30 rv_is rfl ?_
    refine J_getR kc_15 5 (by decide) rfl rfl kw_6_215 dX15_readRule_31 g5 ?_
    refine J_getRN kc_12 14 (by decide) rfl rfl kn_38 dX15_readRule_34 g6 ?_
    refine J_iload_n 0 dX15_readRule_37 rfl ?_
    refine J_aload_n 1 dX15_readRule_38 rv_is rfl ?_
    refine J_iconst (v := nI 1) dX15_readRule_39 rfl ?_
    refine J.callVY (by decide +kernel) (n := 1) (As := [.int (nI 1)]) kc_15 (ctX15_readTold (lx x) (wx x) a0 (nI 1) h4) kw_8_70 kw_8_67 kw_8_69 kp_17 kw_1_13 (by decide +kernel) rfl (by decide) (by simp [rv_cat, cat_I, cat_L, cat_S]) rfl dX15_readRule_40 g5 (fun v9 h8 => ?_)
    show J x _ _ 43 _ [.int v9, .int v7, rv (zx x) (xR h4 (xR h4 a0 5) 14)] h8 _
    refine J_G (fun g10 => ?_)
    refine J_G (fun g11 => ?_)
    refine J_iast dX15_readRule_43 g10 g11 ?_
    refine J_LTh (fun h12 => ?_)
    refine J_aload_n 1 dX15_readRule_44 rv_is rfl ?_
    refine J_G (fun g13 => ?_)
    refine J_getR kc_15 5 (by decide) rfl rfl kw_6_215 dX15_readRule_45 g13 ?_
    refine J_G (fun g14 => ?_)
    refine J_getRN kc_12 16 (by decide) rfl rfl kn_40 dX15_readRule_48 g14 ?_
    refine J_iload_n 0 dX15_readRule_51 rfl ?_
    refine J_aload_n 1 dX15_readRule_52 rv_is rfl ?_
    refine J_ldcSw (i := 10) (tx := "now") (index := 282) (by decide +kernel) dX15_readRule_53 ?_
    refine J.callV (n := 1) (As := [sv (wx x) 10]) kc_15 (ctX15_isWord (lx x) (wx x) a0 10 h12) kw_8_30 kw_8_27 kw_8_29 kp_12 kw_1_13 (by decide +kernel) rfl (by decide) (by simp [rv_cat, cat_I, cat_L, cat_S]) rfl dX15_readRule_56 g13 (fun v16 h15 => ?_)
    show J x _ _ 59 _ [.int v16, .int v7, rv (zx x) (xR h12 (xR h12 a0 5) 16)] h15 _
    refine J_G (fun g17 => ?_)
    refine J_G (fun g18 => ?_)
    refine J_zast dX15_readRule_59 g17 g18 ?_
    refine J_LTh (fun h19 => ?_)
    refine J_aload_n 1 dX15_readRule_60 rv_is rfl ?_
    refine J_G (fun g20 => ?_)
    refine J_getR kc_15 5 (by decide) rfl rfl kw_6_215 dX15_readRule_61 g20 ?_
    refine J_G (fun g21 => ?_)
    refine J_getRN kc_12 16 (by decide) rfl rfl kn_40 dX15_readRule_64 g21 ?_
    refine J_iload_n 0 dX15_readRule_67 rfl ?_
    refine J_G (fun g22 => ?_)
    refine J_G (fun g23 => ?_)
    refine J_zald dX15_readRule_68 g22 g23 ?_
    refine J_if_ne (tgt := 88) dX15_readRule_69 rfl ?_ ?_
    · exact J_sub [1, 0] rfl (jX15_readRule_B88 x a0 v7 h19)
    · refine J_aload_n 1 dX15_readRule_72 rv_is rfl ?_
      refine J_ldcSw (i := 8) (tx := "next") (index := 284) (by decide +kernel) dX15_readRule_73 ?_
      refine J_G (fun g24 => ?_)
      refine J.callV (n := 1) (As := [sv (wx x) 8]) kc_15 (ctX15_isWord (lx x) (wx x) a0 8 h19) kw_8_30 kw_8_27 kw_8_29 kp_12 kw_1_13 (by decide +kernel) rfl (by decide) (Nat.zero_le _) rfl dX15_readRule_76 g24 (fun v26 h25 => ?_)
      show J x _ _ 79 _ [.int v26] h25 _
      refine J_if_ne (tgt := 88) dX15_readRule_79 rfl ?_ ?_
      · exact J_sub [1, 0] rfl (jX15_readRule_B88 x a0 v7 h25)
      · refine J_aload_n 1 dX15_readRule_82 rv_is rfl ?_
        refine J_iconst (v := nI 1) dX15_readRule_83 rfl ?_
        refine J_G (fun g27 => ?_)
        refine J.callV (n := 1) (As := [.int (nI 1)]) kc_15 (ctX15_stop (lx x) (wx x) a0 (nI 1) h25) kw_8_44 kw_8_41 kw_8_43 kp_14 kw_1_13 (by decide +kernel) rfl (by decide) (Nat.zero_le _) rfl dX15_readRule_84 g27 (fun r29 h28 => ?_)
        show J x _ _ 87 _ [rv (zx x) r29] h28 _
        refine J_G (fun g30 => ?_)
        exact J_athrow (by decide +kernel) dX15_readRule_87 g30
  · refine J_aload_n 0 dX15_readRule_12 rv_is rfl ?_
    refine J_iconst (v := nI 5) dX15_readRule_13 rfl ?_
    refine J_G (fun g31 => ?_)
    refine J.callV (n := 1) (As := [.int (nI 5)]) kc_15 (ctX15_stop (lx x) (wx x) a0 (nI 5) h) kw_8_44 kw_8_41 kw_8_43 kp_14 kw_1_13 (by decide +kernel) rfl (by decide) (Nat.zero_le _) rfl dX15_readRule_14 g31 (fun r33 h32 => ?_)
    show J x _ _ 17 _ [rv (zx x) r33] h32 _
    refine J_G (fun g34 => ?_)
    exact J_athrow (by decide +kernel) dX15_readRule_17 g34
theorem ctX15_readRule (l : Launch) (w : WT) (a0 : Nat) (h : AH) : CX l w yX15_readRule cX15_readRule 2 none 8 175 KV [rv (w.1) a0] h (X15_readRule_f a0 h) :=
  CX.of (by decide +kernel) (by simp [lg_sl, rv_cat, cat_I, cat_L, cat_S]) (lv := [(0, rv (w.1) a0)]) (by simp [lv_args, rv_cat, cat_I, cat_L, cat_S]) (fun x hx => by subst hx; exact jX15_readRule x a0 h)
-- FallTrialsModel.readPromise()V
abbrev qX15_readPromise : MT := (cX15_readPromise, RX15, "readPromise", none, 9, 197, 1)
def X15_readPromise_f (a0 : Nat) (h : AH) : Option ((Unit ⊕ Nat) × AH) :=
  G (xc h a0 = 15) <|
  BN (X15_next_f a0 h) fun _ h2 =>
  G (xc h2 a0 = 15) <|
  G (xc h2 (xR h2 a0 5) = 12) <|
  BX (X15_readPlaces_f a0 0 (xR h2 (xR h2 a0 5) 24) (xR h2 (xR h2 a0 5) 25) h2) fun v6 h5 =>
  G (xc h5 (xR h2 a0 5) = 12) <|
  LT (pI h5 (xR h2 a0 5) 22 v6) fun h8 =>
  G (xc h8 a0 = 15) <|
  BX (X15_needWord_f a0 3 h8) fun _ h10 =>
  G (xc h10 a0 = 15) <|
  G (xc h10 (xR h10 a0 5) = 12) <|
  BX (X15_readPlaces_f a0 11 (xR h10 (xR h10 a0 5) 26) (xR h10 (xR h10 a0 5) 27) h10) fun v14 h13 =>
  G (xc h13 (xR h10 a0 5) = 12) <|
  LT (pI h13 (xR h10 a0 5) 23 v14) fun h16 =>
  some (.inl (), h16)
theorem jX15_readPromise (x : CT) (a0 : Nat) (h : AH) : J x qX15_readPromise YV 0 [(0, rv (zx x) a0)] [] h (X15_readPromise_f a0 h) := by
  unfold X15_readPromise_f
  refine J_aload_n 0 dX15_readPromise_0 rv_is rfl ?_
  refine J_G (fun g1 => ?_)
  refine J.callV (n := 0) (As := []) kc_15 (ctX15_next (lx x) (wx x) a0 h) kw_8_13 kw_8_10 kw_8_12 kp_9 kw_1_13 (by decide +kernel) rfl (by decide) (Nat.zero_le _) rfl dX15_readPromise_1 g1 (fun _ h2 => ?_)
  show J x _ _ 4 _ [] h2 _
  refine J_aload_n 0 dX15_readPromise_4 rv_is rfl ?_
  refine J_G (fun g3 => ?_)
  refine J_getR kc_15 5 (by decide) rfl rfl kw_6_215 dX15_readPromise_5 g3 ?_
  refine J_aload_n 0 dX15_readPromise_8 rv_is rfl ?_
  refine J_ldcS (i := 0) (tx := "and") (index := 176) (by decide +kernel) dX15_readPromise_9 ?_
  refine J_aload_n 0 dX15_readPromise_11 rv_is rfl ?_
  refine J_getR kc_15 5 (by decide) rfl rfl kw_6_215 dX15_readPromise_12 g3 ?_
  refine J_G (fun g4 => ?_)
  refine J_getRN kc_12 24 (by decide) rfl rfl kn_48 dX15_readPromise_15 g4 ?_
  refine J_aload_n 0 dX15_readPromise_18 rv_is rfl ?_
  refine J_getR kc_15 5 (by decide) rfl rfl kw_6_215 dX15_readPromise_19 g3 ?_
  refine J_getRN kc_12 25 (by decide) rfl rfl kn_49 dX15_readPromise_22 g4 ?_
  refine J.callVY (by decide +kernel) (n := 3) (As := [sv (wx x) 0, rv (zx x) (xR h2 (xR h2 a0 5) 24), rv (zx x) (xR h2 (xR h2 a0 5) 25)]) kc_15 (ctX15_readPlaces (lx x) (wx x) a0 0 (xR h2 (xR h2 a0 5) 24) (xR h2 (xR h2 a0 5) 25) h2) kw_8_98 kw_8_95 kw_8_97 kp_23 kw_1_13 (by decide +kernel) rfl (by decide) (by simp [rv_cat, cat_I, cat_L, cat_S]) rfl dX15_readPromise_25 g3 (fun v6 h5 => ?_)
  show J x _ _ 28 _ [.int v6, rv (zx x) (xR h2 a0 5)] h5 _
  refine J_G (fun g7 => ?_)
  refine J_putIN kc_12 22 (by decide) rfl rfl rfl rfl rfl kn_46 dX15_readPromise_28 g7 ?_
  refine J_LTh (fun h8 => ?_)
  refine J_aload_n 0 dX15_readPromise_31 rv_is rfl ?_
  refine J_ldcSw (i := 3) (tx := "gives") (index := 319) (by decide +kernel) dX15_readPromise_32 ?_
  refine J_G (fun g9 => ?_)
  refine J.callVY (by decide +kernel) (n := 1) (As := [sv (wx x) 3]) kc_15 (ctX15_needWord (lx x) (wx x) a0 3 h8) kw_8_74 kw_8_71 kw_8_73 kp_18 kw_1_13 (by decide +kernel) rfl (by decide) (Nat.zero_le _) rfl dX15_readPromise_35 g9 (fun _ h10 => ?_)
  show J x _ _ 38 _ [] h10 _
  refine J_aload_n 0 dX15_readPromise_38 rv_is rfl ?_
  refine J_G (fun g11 => ?_)
  refine J_getR kc_15 5 (by decide) rfl rfl kw_6_215 dX15_readPromise_39 g11 ?_
  refine J_aload_n 0 dX15_readPromise_42 rv_is rfl ?_
  refine J_ldcS (i := 11) (tx := "or") (index := 178) (by decide +kernel) dX15_readPromise_43 ?_
  refine J_aload_n 0 dX15_readPromise_45 rv_is rfl ?_
  refine J_getR kc_15 5 (by decide) rfl rfl kw_6_215 dX15_readPromise_46 g11 ?_
  refine J_G (fun g12 => ?_)
  refine J_getRN kc_12 26 (by decide) rfl rfl kn_50 dX15_readPromise_49 g12 ?_
  refine J_aload_n 0 dX15_readPromise_52 rv_is rfl ?_
  refine J_getR kc_15 5 (by decide) rfl rfl kw_6_215 dX15_readPromise_53 g11 ?_
  refine J_getRN kc_12 27 (by decide) rfl rfl kn_51 dX15_readPromise_56 g12 ?_
  refine J.callVY (by decide +kernel) (n := 3) (As := [sv (wx x) 11, rv (zx x) (xR h10 (xR h10 a0 5) 26), rv (zx x) (xR h10 (xR h10 a0 5) 27)]) kc_15 (ctX15_readPlaces (lx x) (wx x) a0 11 (xR h10 (xR h10 a0 5) 26) (xR h10 (xR h10 a0 5) 27) h10) kw_8_98 kw_8_95 kw_8_97 kp_23 kw_1_13 (by decide +kernel) rfl (by decide) (by simp [rv_cat, cat_I, cat_L, cat_S]) rfl dX15_readPromise_59 g11 (fun v14 h13 => ?_)
  show J x _ _ 62 _ [.int v14, rv (zx x) (xR h10 a0 5)] h13 _
  refine J_G (fun g15 => ?_)
  refine J_putIN kc_12 23 (by decide) rfl rfl rfl rfl rfl kn_47 dX15_readPromise_62 g15 ?_
  refine J_LTh (fun h16 => ?_)
  exact J_vretY dX15_readPromise_65
theorem ctX15_readPromise (l : Launch) (w : WT) (a0 : Nat) (h : AH) : CX l w yX15_readPromise cX15_readPromise 1 none 9 197 KV [rv (w.1) a0] h (X15_readPromise_f a0 h) :=
  CX.of (by decide +kernel) (by simp [lg_sl, rv_cat, cat_I, cat_L, cat_S]) (lv := [(0, rv (w.1) a0)]) (by simp [lv_args, rv_cat, cat_I, cat_L, cat_S]) (fun x hx => by subst hx; exact jX15_readPromise x a0 h)
