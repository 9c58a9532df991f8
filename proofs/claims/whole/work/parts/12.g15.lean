-- FallTrialsModel.readCases(IZ)V
abbrev qX15_readCases : MT := (cX15_readCases, RX15, "readCases", none, 7, 149, 7)
def X15_readCases_B192 (k5 : (Nat → Int32 → Int32 → Int32 → Int32 → AH → Option ((Unit ⊕ Nat) × AH))) (a0 : Nat) (i1 : Int32) (i2 : Int32) (i3 : Int32) (i4 : Int32) (h : AH) : Option ((Unit ⊕ Nat) × AH) :=
  k5 a0 i1 i2 i3 i4 h
theorem jX15_readCases_B192 (x : CT) (k5 : (Nat → Int32 → Int32 → Int32 → Int32 → AH → Option ((Unit ⊕ Nat) × AH))) (hk5 : ∀ (a0 : Nat) (i1 : Int32) (i2 : Int32) (i3 : Int32) (i4 : Int32) (h : AH), J x qX15_readCases YV 5 [(0, rv (zx x) a0), (1, .int i1), (2, .int i2), (3, .int i3), (4, .int i4)] [] h (k5 a0 i1 i2 i3 i4 h)) (a0 : Nat) (i1 : Int32) (i2 : Int32) (i3 : Int32) (i4 : Int32) (h : AH) : J x qX15_readCases YV 192 [(0, rv (zx x) a0), (1, .int i1), (2, .int i2), (3, .int i3), (4, .int i4)] [] h (X15_readCases_B192 k5 a0 i1 i2 i3 i4 h) := by
  unfold X15_readCases_B192
  refine J_goto (tgt := 5) dX15_readCases_192 rfl ?_
  exact (hk5 a0 i1 i2 i3 i4 h)
def X15_readCases_B168 (k5 : (Nat → Int32 → Int32 → Int32 → Int32 → AH → Option ((Unit ⊕ Nat) × AH))) (a0 : Nat) (i1 : Int32) (i2 : Int32) (i3 : Int32) (h : AH) : Option ((Unit ⊕ Nat) × AH) :=
  LT (i3 + nI 1) fun v1 =>
  G (xc h a0 = 15) <|
  BN (X15_next_f a0 h) fun _ h3 =>
  G (xc h3 a0 = 15) <|
  BN (X15_isWord_f a0 0 h3) fun v6 h5 =>
  if v6 = 0 then (
    X15_readCases_B192 k5 a0 i1 i2 v1 v6 h5
  ) else (
    G (xc h5 a0 = 15) <|
    BN (X15_next_f a0 h5) fun _ h8 =>
    X15_readCases_B192 k5 a0 i1 i2 v1 v6 h8
  )
theorem jX15_readCases_B168 (x : CT) (k5 : (Nat → Int32 → Int32 → Int32 → Int32 → AH → Option ((Unit ⊕ Nat) × AH))) (hk5 : ∀ (a0 : Nat) (i1 : Int32) (i2 : Int32) (i3 : Int32) (i4 : Int32) (h : AH), J x qX15_readCases YV 5 [(0, rv (zx x) a0), (1, .int i1), (2, .int i2), (3, .int i3), (4, .int i4)] [] h (k5 a0 i1 i2 i3 i4 h)) (a0 : Nat) (i1 : Int32) (i2 : Int32) (i3 : Int32) (h : AH) : J x qX15_readCases YV 168 [(0, rv (zx x) a0), (1, .int i1), (2, .int i2), (3, .int i3)] [] h (X15_readCases_B168 k5 a0 i1 i2 i3 h) := by
  unfold X15_readCases_B168
  refine J_iincL (u := i3 + nI 1) 3 dX15_readCases_168 rfl rfl (by decide) (SD.a (lvr := [(0, rv (zx x) a0), (1, .int i1), (2, .int i2)]) [0, 1, 2] rfl rfl) (fun v1 => ?_)
  refine J_aload_n 1 dX15_readCases_171 rv_is rfl ?_
  refine J_G (fun g2 => ?_)
  refine J.callV (n := 0) (As := []) kc_15 (ctX15_next (lx x) (wx x) a0 h) kw_8_13 kw_8_10 kw_8_12 kp_9 kw_1_13 (by decide +kernel) rfl (by decide) (Nat.zero_le _) rfl dX15_readCases_172 g2 (fun _ h3 => ?_)
  show J x _ _ 175 _ [] h3 _
  refine J_aload_n 1 dX15_readCases_175 rv_is rfl ?_
  refine J_ldcS (i := 0) (tx := "and") (index := 176) (by decide +kernel) dX15_readCases_176 ?_
  refine J_G (fun g4 => ?_)
  refine J.callV (n := 1) (As := [sv (wx x) 0]) kc_15 (ctX15_isWord (lx x) (wx x) a0 0 h3) kw_8_30 kw_8_27 kw_8_29 kp_12 kw_1_13 (by decide +kernel) rfl (by decide) (Nat.zero_le _) rfl dX15_readCases_178 g4 (fun v6 h5 => ?_)
  show J x _ _ 181 _ [.int v6] h5 _
  refine J_istore dX15_readCases_181 (by decide) (SD.a (lvr := [(3, .int v1), (0, rv (zx x) a0), (1, .int i1), (2, .int i2)]) [0, 1, 2, 3] rfl rfl) ?_
  refine J_iload 0 dX15_readCases_183 rfl ?_
  refine J_if_eq (tgt := 192) dX15_readCases_185 rfl ?_ ?_
  · exact J_sub [2, 3, 4, 1, 0] rfl (jX15_readCases_B192 x k5 hk5 a0 i1 i2 v1 v6 h5)
  · refine J_aload_n 2 dX15_readCases_188 rv_is rfl ?_
    refine J_G (fun g7 => ?_)
    refine J.callV (n := 0) (As := []) kc_15 (ctX15_next (lx x) (wx x) a0 h5) kw_8_13 kw_8_10 kw_8_12 kp_9 kw_1_13 (by decide +kernel) rfl (by decide) (Nat.zero_le _) rfl dX15_readCases_189 g7 (fun _ h8 => ?_)
    show J x _ _ 192 _ [] h8 _
    exact J_sub [2, 3, 4, 1, 0] rfl (jX15_readCases_B192 x k5 hk5 a0 i1 i2 v1 v6 h8)
def X15_readCases_B106 (a0 : Nat) (h : AH) : Option ((Unit ⊕ Nat) × AH) :=
  G (xc h a0 = 15) <|
  BN (X15_stop_f a0 (nI 5) h) fun r3 h2 =>
  G (xc h2 r3 = 14) <|
  some (.inr r3, h2)
theorem jX15_readCases_B106 (x : CT) (a0 : Nat) (h : AH) : J x qX15_readCases YV 106 [(0, rv (zx x) a0)] [] h (X15_readCases_B106 a0 h) := by
  unfold X15_readCases_B106
  refine J_aload_n 0 dX15_readCases_106 rv_is rfl ?_
  refine J_iconst (v := nI 5) dX15_readCases_107 rfl ?_
  refine J_G (fun g1 => ?_)
  refine J.callV (n := 1) (As := [.int (nI 5)]) kc_15 (ctX15_stop (lx x) (wx x) a0 (nI 5) h) kw_8_44 kw_8_41 kw_8_43 kp_14 kw_1_13 (by decide +kernel) rfl (by decide) (Nat.zero_le _) rfl dX15_readCases_108 g1 (fun r3 h2 => ?_)
  show J x _ _ 111 _ [rv (zx x) r3] h2 _
  refine J_G (fun g4 => ?_)
  exact J_athrow (by decide +kernel) dX15_readCases_111 g4
def X15_readCases_B95 (a0 : Nat) (h : AH) : Option ((Unit ⊕ Nat) × AH) :=
  G (xc h a0 = 15) <|
  BN (X15_stop_f a0 (nI 2) h) fun r3 h2 =>
  G (xc h2 r3 = 14) <|
  some (.inr r3, h2)
theorem jX15_readCases_B95 (x : CT) (a0 : Nat) (h : AH) : J x qX15_readCases YV 95 [(0, rv (zx x) a0)] [] h (X15_readCases_B95 a0 h) := by
  unfold X15_readCases_B95
  refine J_aload_n 0 dX15_readCases_95 rv_is rfl ?_
  refine J_iconst (v := nI 2) dX15_readCases_96 rfl ?_
  refine J_G (fun g1 => ?_)
  refine J.callV (n := 1) (As := [.int (nI 2)]) kc_15 (ctX15_stop (lx x) (wx x) a0 (nI 2) h) kw_8_44 kw_8_41 kw_8_43 kp_14 kw_1_13 (by decide +kernel) rfl (by decide) (Nat.zero_le _) rfl dX15_readCases_97 g1 (fun r3 h2 => ?_)
  show J x _ _ 100 _ [rv (zx x) r3] h2 _
  refine J_G (fun g4 => ?_)
  exact J_athrow (by decide +kernel) dX15_readCases_100 g4
def X15_readCases_B57 (a0 : Nat) (h : AH) : Option ((Unit ⊕ Nat) × AH) :=
  G (xc h a0 = 15) <|
  BN (X15_stop_f a0 (nI 1) h) fun r3 h2 =>
  G (xc h2 r3 = 14) <|
  some (.inr r3, h2)
theorem jX15_readCases_B57 (x : CT) (a0 : Nat) (h : AH) : J x qX15_readCases YV 57 [(0, rv (zx x) a0)] [] h (X15_readCases_B57 a0 h) := by
  unfold X15_readCases_B57
  refine J_aload_n 0 dX15_readCases_57 rv_is rfl ?_
  refine J_iconst (v := nI 1) dX15_readCases_58 rfl ?_
  refine J_G (fun g1 => ?_)
  refine J.callV (n := 1) (As := [.int (nI 1)]) kc_15 (ctX15_stop (lx x) (wx x) a0 (nI 1) h) kw_8_44 kw_8_41 kw_8_43 kp_14 kw_1_13 (by decide +kernel) rfl (by decide) (Nat.zero_le _) rfl dX15_readCases_59 g1 (fun r3 h2 => ?_)
  show J x _ _ 62 _ [rv (zx x) r3] h2 _
  refine J_G (fun g4 => ?_)
  exact J_athrow (by decide +kernel) dX15_readCases_62 g4
def X15_readCases_B50 (k5 : (Nat → Int32 → Int32 → Int32 → Int32 → AH → Option ((Unit ⊕ Nat) × AH))) (a0 : Nat) (i1 : Int32) (i2 : Int32) (i3 : Int32) (i5 : Int32) (h : AH) : Option ((Unit ⊕ Nat) × AH) :=
  G (xc h a0 = 15) <|
  BN (X15_isName_f a0 h) fun v3 h2 =>
  if v3 = 0 then (
    X15_readCases_B57 a0 h2
  ) else (
    G (xc h2 a0 = 15) <|
    G (xc h2 (xR h2 a0 5) = 12) <|
    BN (X12_find_f (xR h2 a0 5) (xL h2 a0 13) h2) fun v7 h6 =>
    if v7 = (-1) then (
      X15_readCases_B95 a0 h6
    ) else (
      G (xc h6 a0 = 15) <|
      G (xc h6 (xR h6 a0 5) = 12) <|
      G (xc h6 (xR h6 (xR h6 a0 5) 9) = 19) <|
      G (gx v7 (xz h6 (xR h6 (xR h6 a0 5) 9))) <|
      if (xI h6 (xR h6 (xR h6 a0 5) 9) v7.toNatClampNeg) = 0 then (
        X15_readCases_B95 a0 h6
      ) else (
        if i3 = (nI 3) then (
          X15_readCases_B106 a0 h6
        ) else (
          if i5 = 0 then (
            G (xc h6 a0 = 15) <|
            G (xc h6 (xR h6 a0 5) = 12) <|
            G (xc h6 (xR h6 (xR h6 a0 5) 20) = 16) <|
            G (gx i1 (xz h6 (xR h6 (xR h6 a0 5) 20))) <|
            G (xc h6 (xR h6 (xR h6 a0 5) 10) = 16) <|
            G (gx v7 (xz h6 (xR h6 (xR h6 a0 5) 10))) <|
            G (gx i1 (xz h6 (xR h6 (xR h6 a0 5) 20))) <|
            LT (pI h6 (xR h6 (xR h6 a0 5) 20) i1.toNatClampNeg ((xI h6 (xR h6 (xR h6 a0 5) 20) i1.toNatClampNeg) ||| ((nI 1) <<< ((xI h6 (xR h6 (xR h6 a0 5) 10) v7.toNatClampNeg) &&& 31)))) fun h19 =>
            X15_readCases_B168 k5 a0 i1 i2 i3 h19
          ) else (
            G (xc h6 a0 = 15) <|
            G (xc h6 (xR h6 a0 5) = 12) <|
            G (xc h6 (xR h6 (xR h6 a0 5) 21) = 16) <|
            G (gx i1 (xz h6 (xR h6 (xR h6 a0 5) 21))) <|
            G (xc h6 (xR h6 (xR h6 a0 5) 10) = 16) <|
            G (gx v7 (xz h6 (xR h6 (xR h6 a0 5) 10))) <|
            G (gx i1 (xz h6 (xR h6 (xR h6 a0 5) 21))) <|
            LT (pI h6 (xR h6 (xR h6 a0 5) 21) i1.toNatClampNeg ((xI h6 (xR h6 (xR h6 a0 5) 21) i1.toNatClampNeg) ||| ((nI 1) <<< ((xI h6 (xR h6 (xR h6 a0 5) 10) v7.toNatClampNeg) &&& 31)))) fun h27 =>
            X15_readCases_B168 k5 a0 i1 i2 i3 h27
          )
        )
      )
    )
  )
theorem jX15_readCases_B50 (x : CT) (k5 : (Nat → Int32 → Int32 → Int32 → Int32 → AH → Option ((Unit ⊕ Nat) × AH))) (hk5 : ∀ (a0 : Nat) (i1 : Int32) (i2 : Int32) (i3 : Int32) (i4 : Int32) (h : AH), J x qX15_readCases YV 5 [(0, rv (zx x) a0), (1, .int i1), (2, .int i2), (3, .int i3), (4, .int i4)] [] h (k5 a0 i1 i2 i3 i4 h)) (a0 : Nat) (i1 : Int32) (i2 : Int32) (i3 : Int32) (i5 : Int32) (h : AH) : J x qX15_readCases YV 50 [(0, rv (zx x) a0), (1, .int i1), (2, .int i2), (3, .int i3), (5, .int i5)] [] h (X15_readCases_B50 k5 a0 i1 i2 i3 i5 h) := by
  unfold X15_readCases_B50
  refine J_aload_n 0 dX15_readCases_50 rv_is rfl ?_
  refine J_G (fun g1 => ?_)
  refine J.callV (n := 0) (As := []) kc_15 (ctX15_isName (lx x) (wx x) a0 h) kw_8_48 kw_8_45 kw_8_47 kp_15 kw_1_13 (by decide +kernel) rfl (by decide) (Nat.zero_le _) rfl dX15_readCases_51 g1 (fun v3 h2 => ?_)
  show J x _ _ 54 _ [.int v3] h2 _
  refine J_if_ne (tgt := 63) dX15_readCases_54 rfl ?_ ?_
  · refine J_aload_n 0 dX15_readCases_63 rv_is rfl ?_
    refine J_G (fun g4 => ?_)
    refine J_getR kc_15 5 (by decide) rfl rfl kw_6_215 dX15_readCases_64 g4 ?_
    refine J_aload_n 0 dX15_readCases_67 rv_is rfl ?_
    refine J_getL kc_15 13 (by decide) rfl rfl kw_6_223 dX15_readCases_68 g4 ?_
    refine J_G (fun g5 => ?_)
    refine J.callV (n := 1) (As := [.long (xL h2 a0 13)]) kc_12 (ctX12_find (lx x) (wx x) (xR h2 a0 5) (xL h2 a0 13) h2) kw_8_61 kw_8_58 kw_8_59 kw_8_60 kw_1_24 (by decide +kernel) rfl (by decide) (Nat.zero_le _) rfl dX15_readCases_71 g5 (fun v7 h6 => ?_)
    show J x _ _ 74 _ [.int v7] h6 _
    refine J_istore dX15_readCases_74 (by decide) (SD.a (lvr := [(0, rv (zx x) a0), (1, .int i1), (2, .int i2), (3, .int i3), (5, .int i5)]) [0, 1, 2, 3, 4] rfl rfl) ?_
    refine J_iload 0 dX15_readCases_76 rfl ?_
    refine J_iconst (v := (-1)) dX15_readCases_78 rfl ?_
    refine J_icmp_eq (tgt := 95) dX15_readCases_79 rfl ?_ ?_
    · exact J_sub [1] rfl (jX15_readCases_B95 x a0 h6)
    · refine J_aload_n 1 dX15_readCases_82 rv_is rfl ?_
      refine J_G (fun g8 => ?_)
      refine J_getR kc_15 5 (by decide) rfl rfl kw_6_215 dX15_readCases_83 g8 ?_
      refine J_G (fun g9 => ?_)
      refine J_getRN kc_12 9 (by decide) rfl rfl kn_33 dX15_readCases_86 g9 ?_
      refine J_iload 0 dX15_readCases_89 rfl ?_
      refine J_G (fun g10 => ?_)
      refine J_G (fun g11 => ?_)
      refine J_zald dX15_readCases_91 g10 g11 ?_
      refine J_if_ne (tgt := 101) dX15_readCases_92 rfl ?_ ?_
      · refine J_iload_n 4 dX15_readCases_101 rfl ?_
        refine J_iconst (v := nI 3) dX15_readCases_102 rfl ?_
        refine J_icmp_ne (tgt := 112) dX15_readCases_103 rfl ?_ ?_
        · refine J_iload 5 dX15_readCases_112 rfl ?_
          refine J_if_eq (tgt := 144) dX15_readCases_114 rfl ?_ ?_
          · refine J_aload_n 1 dX15_readCases_144 rv_is rfl ?_
            refine J_G (fun g12 => ?_)
            refine J_getR kc_15 5 (by decide) rfl rfl kw_6_215 dX15_readCases_145 g12 ?_
            refine J_G (fun g13 => ?_)
            refine J_getRN kc_12 20 (by decide) rfl rfl kn_44 dX15_readCases_148 g13 ?_
            refine J_iload_n 2 dX15_readCases_151 rfl ?_
            refine J_dup2 dX15_readCases_152 rfl rv_cat ?_
            refine J_G (fun g14 => ?_)
            refine J_G (fun g15 => ?_)
            refine J_iald dX15_readCases_153 g14 g15 ?_
            refine J_iconst (v := nI 1) dX15_readCases_154 rfl ?_
            refine J_aload_n 1 dX15_readCases_155 rv_is rfl ?_
            refine J_getR kc_15 5 (by decide) rfl rfl kw_6_215 dX15_readCases_156 g12 ?_
            refine J_getRN kc_12 10 (by decide) rfl rfl kn_34 dX15_readCases_159 g13 ?_
            refine J_iload 0 dX15_readCases_162 rfl ?_
            refine J_G (fun g16 => ?_)
            refine J_G (fun g17 => ?_)
            refine J_iald dX15_readCases_164 g16 g17 ?_
            refine J_ishl dX15_readCases_165 ?_
            refine J_ior dX15_readCases_166 ?_
            refine J_G (fun g18 => ?_)
            refine J_iast dX15_readCases_167 g14 g18 ?_
            refine J_LTh (fun h19 => ?_)
            exact J_sub [1, 2, 3, 4] rfl (jX15_readCases_B168 x k5 hk5 a0 i1 i2 i3 h19)
          · refine J_aload_n 1 dX15_readCases_117 rv_is rfl ?_
            refine J_G (fun g20 => ?_)
            refine J_getR kc_15 5 (by decide) rfl rfl kw_6_215 dX15_readCases_118 g20 ?_
            refine J_G (fun g21 => ?_)
            refine J_getRN kc_12 21 (by decide) rfl rfl kn_45 dX15_readCases_121 g21 ?_
            refine J_iload_n 2 dX15_readCases_124 rfl ?_
            refine J_dup2 dX15_readCases_125 rfl rv_cat ?_
            refine J_G (fun g22 => ?_)
            refine J_G (fun g23 => ?_)
            refine J_iald dX15_readCases_126 g22 g23 ?_
            refine J_iconst (v := nI 1) dX15_readCases_127 rfl ?_
            refine J_aload_n 1 dX15_readCases_128 rv_is rfl ?_
            refine J_getR kc_15 5 (by decide) rfl rfl kw_6_215 dX15_readCases_129 g20 ?_
            refine J_getRN kc_12 10 (by decide) rfl rfl kn_34 dX15_readCases_132 g21 ?_
            refine J_iload 0 dX15_readCases_135 rfl ?_
            refine J_G (fun g24 => ?_)
            refine J_G (fun g25 => ?_)
            refine J_iald dX15_readCases_137 g24 g25 ?_
            refine J_ishl dX15_readCases_138 ?_
            refine J_ior dX15_readCases_139 ?_
            refine J_G (fun g26 => ?_)
            refine J_iast dX15_readCases_140 g22 g26 ?_
            refine J_LTh (fun h27 => ?_)
            refine J_goto (tgt := 168) dX15_readCases_141 rfl ?_
            exact J_sub [1, 2, 3, 4] rfl (jX15_readCases_B168 x k5 hk5 a0 i1 i2 i3 h27)
        · exact J_sub [1] rfl (jX15_readCases_B106 x a0 h6)
      · exact J_sub [1] rfl (jX15_readCases_B95 x a0 h6)
  · exact J_sub [0] rfl (jX15_readCases_B57 x a0 h2)
def X15_readCases_B40 (a0 : Nat) (h : AH) : Option ((Unit ⊕ Nat) × AH) :=
  G (xc h a0 = 15) <|
  BN (X15_stop_f a0 (nI 5) h) fun r3 h2 =>
  G (xc h2 r3 = 14) <|
  some (.inr r3, h2)
theorem jX15_readCases_B40 (x : CT) (a0 : Nat) (h : AH) : J x qX15_readCases YV 40 [(0, rv (zx x) a0)] [] h (X15_readCases_B40 a0 h) := by
  unfold X15_readCases_B40
  refine J_aload_n 0 dX15_readCases_40 rv_is rfl ?_
  refine J_iconst (v := nI 5) dX15_readCases_41 rfl ?_
  refine J_G (fun g1 => ?_)
  refine J.callV (n := 1) (As := [.int (nI 5)]) kc_15 (ctX15_stop (lx x) (wx x) a0 (nI 5) h) kw_8_44 kw_8_41 kw_8_43 kp_14 kw_1_13 (by decide +kernel) rfl (by decide) (Nat.zero_le _) rfl dX15_readCases_42 g1 (fun r3 h2 => ?_)
  show J x _ _ 45 _ [rv (zx x) r3] h2 _
  refine J_G (fun g4 => ?_)
  exact J_athrow (by decide +kernel) dX15_readCases_45 g4
def X15_readCases_B28 (k5 : (Nat → Int32 → Int32 → Int32 → Int32 → AH → Option ((Unit ⊕ Nat) × AH))) (a0 : Nat) (i1 : Int32) (i2 : Int32) (i3 : Int32) (is0 : Int32) (h : AH) : Option ((Unit ⊕ Nat) × AH) :=
  if is0 = 0 then (
    X15_readCases_B50 k5 a0 i1 i2 i3 is0 h
  ) else (
    if i3 = (nI 3) then (
      X15_readCases_B40 a0 h
    ) else (
      G (xc h a0 = 15) <|
      BN (X15_next_f a0 h) fun _ h2 =>
      X15_readCases_B50 k5 a0 i1 i2 i3 is0 h2
    )
  )
theorem jX15_readCases_B28 (x : CT) (k5 : (Nat → Int32 → Int32 → Int32 → Int32 → AH → Option ((Unit ⊕ Nat) × AH))) (hk5 : ∀ (a0 : Nat) (i1 : Int32) (i2 : Int32) (i3 : Int32) (i4 : Int32) (h : AH), J x qX15_readCases YV 5 [(0, rv (zx x) a0), (1, .int i1), (2, .int i2), (3, .int i3), (4, .int i4)] [] h (k5 a0 i1 i2 i3 i4 h)) (a0 : Nat) (i1 : Int32) (i2 : Int32) (i3 : Int32) (is0 : Int32) (h : AH) : J x qX15_readCases YV 28 [(0, rv (zx x) a0), (1, .int i1), (2, .int i2), (3, .int i3)] [.int is0] h (X15_readCases_B28 k5 a0 i1 i2 i3 is0 h) := by
  unfold X15_readCases_B28
  refine J_istore dX15_readCases_28 (by decide) (SD.a (lvr := [(0, rv (zx x) a0), (1, .int i1), (2, .int i2), (3, .int i3)]) [0, 1, 2, 3] rfl rfl) ?_
  refine J_iload 0 dX15_readCases_30 rfl ?_
  refine J_if_eq (tgt := 50) dX15_readCases_32 rfl ?_ ?_
  · exact J_sub [1, 2, 3, 4, 0] rfl (jX15_readCases_B50 x k5 hk5 a0 i1 i2 i3 is0 h)
  · refine J_iload_n 4 dX15_readCases_35 rfl ?_
    refine J_iconst (v := nI 3) dX15_readCases_36 rfl ?_
    refine J_icmp_ne (tgt := 46) dX15_readCases_37 rfl ?_ ?_
    · refine J_aload_n 1 dX15_readCases_46 rv_is rfl ?_
      refine J_G (fun g1 => ?_)
      refine J.callV (n := 0) (As := []) kc_15 (ctX15_next (lx x) (wx x) a0 h) kw_8_13 kw_8_10 kw_8_12 kp_9 kw_1_13 (by decide +kernel) rfl (by decide) (Nat.zero_le _) rfl dX15_readCases_47 g1 (fun _ h2 => ?_)
      show J x _ _ 50 _ [] h2 _
      exact J_sub [1, 2, 3, 4, 0] rfl (jX15_readCases_B50 x k5 hk5 a0 i1 i2 i3 is0 h2)
    · exact J_sub [1] rfl (jX15_readCases_B40 x a0 h)
def X15_readCases_B27 (k5 : (Nat → Int32 → Int32 → Int32 → Int32 → AH → Option ((Unit ⊕ Nat) × AH))) (a0 : Nat) (i1 : Int32) (i2 : Int32) (i3 : Int32) (h : AH) : Option ((Unit ⊕ Nat) × AH) :=
  X15_readCases_B28 k5 a0 i1 i2 i3 (nI 0) h
theorem jX15_readCases_B27 (x : CT) (k5 : (Nat → Int32 → Int32 → Int32 → Int32 → AH → Option ((Unit ⊕ Nat) × AH))) (hk5 : ∀ (a0 : Nat) (i1 : Int32) (i2 : Int32) (i3 : Int32) (i4 : Int32) (h : AH), J x qX15_readCases YV 5 [(0, rv (zx x) a0), (1, .int i1), (2, .int i2), (3, .int i3), (4, .int i4)] [] h (k5 a0 i1 i2 i3 i4 h)) (a0 : Nat) (i1 : Int32) (i2 : Int32) (i3 : Int32) (h : AH) : J x qX15_readCases YV 27 [(0, rv (zx x) a0), (1, .int i1), (2, .int i2), (3, .int i3)] [] h (X15_readCases_B27 k5 a0 i1 i2 i3 h) := by
  unfold X15_readCases_B27
  refine J_iconst (v := nI 0) dX15_readCases_27 rfl ?_
  exact (jX15_readCases_B28 x k5 hk5 a0 i1 i2 i3 (nI 0) h)
def X15_readCases_B5 : Nat → Nat → Int32 → Int32 → Int32 → Int32 → AH → Option ((Unit ⊕ Nat) × AH)
  | 0, _, _, _, _, _, _ => none
  | n + 1, a0, i1, i2, i3, i4, h =>
    if i4 = 0 then (
      some (.inl (), h)
    ) else (
      if i2 = 0 then (
        X15_readCases_B27 (X15_readCases_B5 n) a0 i1 i2 i3 h
      ) else (
        G (xc h a0 = 15) <|
        BN (X15_isWord_f a0 9 h) fun v3 h2 =>
        if v3 = 0 then (
          X15_readCases_B27 (X15_readCases_B5 n) a0 i1 i2 i3 h2
        ) else (
          X15_readCases_B28 (X15_readCases_B5 n) a0 i1 i2 i3 (nI 1) h2
        )
      )
    )
theorem jX15_readCases_B5 (x : CT) : ∀ (n : Nat) (a0 : Nat) (i1 : Int32) (i2 : Int32) (i3 : Int32) (i4 : Int32) (h : AH), J x qX15_readCases YV 5 [(0, rv (zx x) a0), (1, .int i1), (2, .int i2), (3, .int i3), (4, .int i4)] [] h (X15_readCases_B5 n a0 i1 i2 i3 i4 h) := by
  intro n
  induction n with
  | zero => intro a0 i1 i2 i3 i4 h; exact J_none
  | succ n ih =>
    intro a0 i1 i2 i3 i4 h
    unfold X15_readCases_B5
    refine J_iload 4 dX15_readCases_5 rfl ?_
    refine J_if_eq (tgt := 195) dX15_readCases_7 rfl ?_ ?_
    · exact J_vretY dX15_readCases_195
    · refine J_iload_n 2 dX15_readCases_10 rfl ?_
      refine J_if_eq (tgt := 27) dX15_readCases_11 rfl ?_ ?_
      · exact J_sub [0, 1, 2, 3] rfl (jX15_readCases_B27 x (X15_readCases_B5 n) ih a0 i1 i2 i3 h)
      · refine J_aload_n 0 dX15_readCases_14 rv_is rfl ?_
        refine J_ldcS (i := 9) (tx := "not") (index := 174) (by decide +kernel) dX15_readCases_15 ?_
        refine J_G (fun g1 => ?_)
        refine J.callV (n := 1) (As := [sv (wx x) 9]) kc_15 (ctX15_isWord (lx x) (wx x) a0 9 h) kw_8_30 kw_8_27 kw_8_29 kp_12 kw_1_13 (by decide +kernel) rfl (by decide) (Nat.zero_le _) rfl dX15_readCases_17 g1 (fun v3 h2 => ?_)
        show J x _ _ 20 _ [.int v3] h2 _
        refine J_if_eq (tgt := 27) dX15_readCases_20 rfl ?_ ?_
        · exact J_sub [0, 1, 2, 3] rfl (jX15_readCases_B27 x (X15_readCases_B5 n) ih a0 i1 i2 i3 h2)
        · refine J_iconst (v := nI 1) dX15_readCases_23 rfl ?_
          refine J_goto (tgt := 28) dX15_readCases_24 rfl ?_
          exact J_sub [0, 1, 2, 3] rfl (jX15_readCases_B28 x (X15_readCases_B5 n) ih a0 i1 i2 i3 (nI 1) h2)
def X15_readCases_f (a0 : Nat) (i1 : Int32) (i2 : Int32) (h : AH) : Option ((Unit ⊕ Nat) × AH) :=
  X15_readCases_B5 FU a0 i1 i2 (nI 0) (nI 1) h
theorem jX15_readCases (x : CT) (a0 : Nat) (i1 : Int32) (i2 : Int32) (h : AH) : J x qX15_readCases YV 0 [(0, rv (zx x) a0), (1, .int i1), (2, .int i2)] [] h (X15_readCases_f a0 i1 i2 h) := by
  unfold X15_readCases_f
  refine J_iconst (v := nI 0) dX15_readCases_0 rfl ?_
  refine J_istore_n dX15_readCases_1 (by decide) (SD.a (lvr := [(0, rv (zx x) a0), (1, .int i1), (2, .int i2)]) [0, 1, 2] rfl rfl) ?_
  refine J_iconst (v := nI 1) dX15_readCases_2 rfl ?_
  refine J_istore dX15_readCases_3 (by decide) (SD.a (lvr := [(3, .int (nI 0)), (0, rv (zx x) a0), (1, .int i1), (2, .int i2)]) [0, 1, 2, 3] rfl rfl) ?_
  exact J_sub [2, 3, 4, 1, 0] rfl (jX15_readCases_B5 x FU a0 i1 i2 (nI 0) (nI 1) h)
theorem ctX15_readCases (l : Launch) (w : WT) (a0 : Nat) (i1 : Int32) (i2 : Int32) (h : AH) : CX l w yX15_readCases cX15_readCases 7 none 7 149 KV [rv (w.1) a0, .int i1, .int i2] h (X15_readCases_f a0 i1 i2 h) :=
  CX.of (by decide +kernel) (by simp [lg_sl, rv_cat, cat_I, cat_L, cat_S]) (lv := [(0, rv (w.1) a0), (1, .int i1), (2, .int i2)]) (by simp [lv_args, rv_cat, cat_I, cat_L, cat_S]) (fun x hx => by subst hx; exact jX15_readCases x a0 i1 i2 h)
-- FallTrialsModel.readSend()V
abbrev qX15_readSend : MT := (cX15_readSend, RX15, "readSend", none, 8, 175, 3)
def X15_readSend_f (a0 : Nat) (h : AH) : Option ((Unit ⊕ Nat) × AH) :=
  G (xc h a0 = 15) <|
  G (xc h (xR h a0 5) = 12) <|
  if (xI h (xR h a0 5) 6) = (nI 6) then (
    G (xc h a0 = 15) <|
    BN (X15_stop_f a0 (nI 5) h) fun r53 h52 =>
    G (xc h52 r53 = 14) <|
    some (.inr r53, h52)
  ) else (
    G (xc h a0 = 15) <|
    BN (X15_next_f a0 h) fun _ h4 =>
    G (xc h4 a0 = 15) <|
    G (xc h4 (xR h4 a0 5) = 12) <|
    LT (xI h4 (xR h4 a0 5) 6) fun v7 =>
    BX (X15_readTold_f a0 (nI 1) h4) fun v9 h8 =>
    G (xc h8 (xR h4 (xR h4 a0 5) 17) = 16) <|
    G (gx v7 (xz h8 (xR h4 (xR h4 a0 5) 17))) <|
    LT (pI h8 (xR h4 (xR h4 a0 5) 17) v7.toNatClampNeg v9) fun h12 =>
    G (xc h12 a0 = 15) <|
    BX (X15_needWord_f a0 16 h12) fun _ h14 =>
    G (xc h14 a0 = 15) <|
    G (xc h14 (xR h14 a0 5) = 12) <|
    BX (X15_readTold_f a0 (nI 0) h14) fun v18 h17 =>
    G (xc h17 (xR h14 (xR h14 a0 5) 18) = 16) <|
    G (gx v7 (xz h17 (xR h14 (xR h14 a0 5) 18))) <|
    LT (pI h17 (xR h14 (xR h14 a0 5) 18) v7.toNatClampNeg v18) fun h21 =>
    G (xc h21 a0 = 15) <|
    BX (X15_needWord_f a0 4 h21) fun _ h23 =>
    G (xc h23 a0 = 15) <|
    BX (X15_readCases_f a0 ((nI 10) + v7) (nI 1) h23) fun _ h25 =>
    G (xc h25 a0 = 15) <|
    BX (X15_needWord_f a0 1 h25) fun _ h27 =>
    G (xc h27 a0 = 15) <|
    LT (xI h27 a0 12) fun v29 =>
    G (xc h27 (xR h27 a0 5) = 12) <|
    BX (X15_readTold_f a0 (nI 0) h27) fun v32 h31 =>
    G (xc h31 (xR h27 (xR h27 a0 5) 19) = 16) <|
    G (gx v7 (xz h31 (xR h27 (xR h27 a0 5) 19))) <|
    LT (pI h31 (xR h27 (xR h27 a0 5) 19) v7.toNatClampNeg v32) fun h35 =>
    G (xc h35 a0 = 15) <|
    G (xc h35 (xR h35 a0 5) = 12) <|
    G (xc h35 (xR h35 (xR h35 a0 5) 19) = 16) <|
    G (gx v7 (xz h35 (xR h35 (xR h35 a0 5) 19))) <|
    G (xc h35 (xR h35 (xR h35 a0 5) 18) = 16) <|
    G (gx v7 (xz h35 (xR h35 (xR h35 a0 5) 18))) <|
    if (xI h35 (xR h35 (xR h35 a0 5) 19) v7.toNatClampNeg) = (xI h35 (xR h35 (xR h35 a0 5) 18) v7.toNatClampNeg) then (
      G (xc h35 a0 = 15) <|
      LT (pI h35 a0 12 v29) fun h46 =>
      G (xc h46 a0 = 15) <|
      BN (X15_stop_f a0 (nI 3) h46) fun r49 h48 =>
      G (xc h48 r49 = 14) <|
      some (.inr r49, h48)
    ) else (
      G (xc h35 a0 = 15) <|
      G (xc h35 (xR h35 a0 5) = 12) <|
      LT (pI h35 (xR h35 a0 5) 6 ((xI h35 (xR h35 a0 5) 6) + (nI 1))) fun h44 =>
      some (.inl (), h44)
    )
  )
theorem jX15_readSend (x : CT) (a0 : Nat) (h : AH) : J x qX15_readSend YV 0 [(0, rv (zx x) a0)] [] h (X15_readSend_f a0 h) := by
  unfold X15_readSend_f
  refine J_aload_n 0 dX15_readSend_0 rv_is rfl ?_
  refine J_G (fun g1 => ?_)
  refine J_getR kc_15 5 (by decide) rfl rfl kw_6_215 dX15_readSend_1 g1 ?_
  refine J_G (fun g2 => ?_)
  refine J_getIN kc_12 6 (by decide) rfl rfl kn_30 dX15_readSend_4 g2 ?_
  refine J_bipush (v := nI 6) dX15_readSend_7 rfl ?_
  refine J_icmp_ne (tgt := 18) dX15_readSend_9 rfl ?_ ?_
  · refine J_aload_n 0 dX15_readSend_18 rv_is rfl ?_
    refine J_G (fun g3 => ?_)
    refine J.callV (n := 0) (As := []) kc_15 (ctX15_next (lx x) (wx x) a0 h) kw_8_13 kw_8_10 kw_8_12 kp_9 kw_1_13 (by decide +kernel) rfl (by decide) (Nat.zero_le _) rfl dX15_readSend_19 g3 (fun _ h4 => ?_)
    show J x _ _ 22 _ [] h4 _
    refine J_aload_n 0 dX15_readSend_22 rv_is rfl ?_
    refine J_G (fun g5 => ?_)
    refine J_getR kc_15 5 (by decide) rfl rfl kw_6_215 dX15_readSend_23 g5 ?_
    refine J_G (fun g6 => ?_)
    refine J_getIN kc_12 6 (by decide) rfl rfl kn_30 dX15_readSend_26 g6 ?_
    refine J_LTi (fun v7 => ?_)
    refine J_istore_n dX15_readSend_29 (by decide) (SD.c (lvr := [(0, rv (zx x) a0)]) [0] rfl rfl 0 rfl rfl rv_cat) ?_
    refine J_aload_n 1 dX15_readSend_30 rv_is rfl ?_
    refine J_getR kc_15 5 (by decide) rfl rfl kw_6_215 dX15_readSend_31 g5 ?_
    refine J_getRN kc_12 17 (by decide) rfl rfl kn_41 dX15_readSend_34 g6 ?_
    refine J_iload_n 0 dX15_readSend_37 rfl ?_
    refine J_aload_n 1 dX15_readSend_38 rv_is rfl ?_
    refine J_iconst (v := nI 1) dX15_readSend_39 rfl ?_
    refine J.callVY (by decide +kernel) (n := 1) (As := [.int (nI 1)]) kc_15 (ctX15_readTold (lx x) (wx x) a0 (nI 1) h4) kw_8_70 kw_8_67 kw_8_69 kp_17 kw_1_13 (by decide +kernel) rfl (by decide) (by simp [rv_cat, cat_I, cat_L, cat_S]) rfl dX15_readSend_40 g5 (fun v9 h8 => ?_)
    show J x _ _ 43 _ [.int v9, .int v7, rv (zx x) (xR h4 (xR h4 a0 5) 17)] h8 _
    refine J_G (fun g10 => ?_)
    refine J_G (fun g11 => ?_)
    refine J_iast dX15_readSend_43 g10 g11 ?_
    refine J_LTh (fun h12 => ?_)
    refine J_aload_n 1 dX15_readSend_44 rv_is rfl ?_
    refine J_ldcSw (i := 16) (tx := "to") (index := 298) (by decide +kernel) dX15_readSend_45 ?_
    refine J_G (fun g13 => ?_)
    refine J.callVY (by decide +kernel) (n := 1) (As := [sv (wx x) 16]) kc_15 (ctX15_needWord (lx x) (wx x) a0 16 h12) kw_8_74 kw_8_71 kw_8_73 kp_18 kw_1_13 (by decide +kernel) rfl (by decide) (Nat.zero_le _) rfl dX15_readSend_48 g13 (fun _ h14 => ?_)
    show J x _ _ 51 _ [] h14 _
    refine J_aload_n 1 dX15_readSend_51 rv_is rfl ?_
    refine J_G (fun g15 => ?_)
    refine J_getR kc_15 5 (by decide) rfl rfl kw_6_215 dX15_readSend_52 g15 ?_
    refine J_G (fun g16 => ?_)
    refine J_getRN kc_12 18 (by decide) rfl rfl kn_42 dX15_readSend_55 g16 ?_
    refine J_iload_n 0 dX15_readSend_58 rfl ?_
    refine J_aload_n 1 dX15_readSend_59 rv_is rfl ?_
    refine J_iconst (v := nI 0) dX15_readSend_60 rfl ?_
    refine J.callVY (by decide +kernel) (n := 1) (As := [.int (nI 0)]) kc_15 (ctX15_readTold (lx x) (wx x) a0 (nI 0) h14) kw_8_70 kw_8_67 kw_8_69 kp_17 kw_1_13 (by decide +kernel) rfl (by decide) (by simp [rv_cat, cat_I, cat_L, cat_S]) rfl dX15_readSend_61 g15 (fun v18 h17 => ?_)
    show J x _ _ 64 _ [.int v18, .int v7, rv (zx x) (xR h14 (xR h14 a0 5) 18)] h17 _
    refine J_G (fun g19 => ?_)
    refine J_G (fun g20 => ?_)
    refine J_iast dX15_readSend_64 g19 g20 ?_
    refine J_LTh (fun h21 => ?_)
    refine J_aload_n 1 dX15_readSend_65 rv_is rfl ?_
    refine J_ldcS (i := 4) (tx := "if") (index := 181) (by decide +kernel) dX15_readSend_66 ?_
    refine J_G (fun g22 => ?_)
    refine J.callVY (by decide +kernel) (n := 1) (As := [sv (wx x) 4]) kc_15 (ctX15_needWord (lx x) (wx x) a0 4 h21) kw_8_74 kw_8_71 kw_8_73 kp_18 kw_1_13 (by decide +kernel) rfl (by decide) (Nat.zero_le _) rfl dX15_readSend_68 g22 (fun _ h23 => ?_)
    show J x _ _ 71 _ [] h23 _
    refine J_aload_n 1 dX15_readSend_71 rv_is rfl ?_
    refine J_bipush (v := nI 10) dX15_readSend_72 rfl ?_
    refine J_iload_n 0 dX15_readSend_74 rfl ?_
    refine J_iadd dX15_readSend_75 ?_
    refine J_iconst (v := nI 1) dX15_readSend_76 rfl ?_
    refine J_G (fun g24 => ?_)
    refine J.callVY (by decide +kernel) (n := 2) (As := [.int ((nI 10) + v7), .int (nI 1)]) kc_15 (ctX15_readCases (lx x) (wx x) a0 ((nI 10) + v7) (nI 1) h23) kw_8_85 kw_8_82 kw_8_84 kp_20 kw_1_13 (by decide +kernel) rfl (by decide) (Nat.zero_le _) rfl dX15_readSend_77 g24 (fun _ h25 => ?_)
    show J x _ _ 80 _ [] h25 _
    refine J_aload_n 1 dX15_readSend_80 rv_is rfl ?_
    refine J_ldcS (i := 1) (tx := "at") (index := 180) (by decide +kernel) dX15_readSend_81 ?_
    refine J_G (fun g26 => ?_)
    refine J.callVY (by decide +kernel) (n := 1) (As := [sv (wx x) 1]) kc_15 (ctX15_needWord (lx x) (wx x) a0 1 h25) kw_8_74 kw_8_71 kw_8_73 kp_18 kw_1_13 (by decide +kernel) rfl (by decide) (Nat.zero_le _) rfl dX15_readSend_83 g26 (fun _ h27 => ?_)
    show J x _ _ 86 _ [] h27 _
    refine J_aload_n 1 dX15_readSend_86 rv_is rfl ?_
    refine J_G (fun g28 => ?_)
    refine J_getI kc_15 12 (by decide) rfl rfl kw_6_222 dX15_readSend_87 g28 ?_
    refine J_LTi (fun v29 => ?_)
    refine J_istore_n dX15_readSend_90 (by decide) (SD.a (lvr := [(1, .int v7), (0, rv (zx x) a0)]) [0, 1] rfl rfl) ?_
    refine J_aload_n 2 dX15_readSend_91 rv_is rfl ?_
    refine J_getR kc_15 5 (by decide) rfl rfl kw_6_215 dX15_readSend_92 g28 ?_
    refine J_G (fun g30 => ?_)
    refine J_getRN kc_12 19 (by decide) rfl rfl kn_43 dX15_readSend_95 g30 ?_
    refine J_iload_n 1 dX15_readSend_98 rfl ?_
    refine J_aload_n 2 dX15_readSend_99 rv_is rfl ?_
    refine J_iconst (v := nI 0) dX15_readSend_100 rfl ?_
    refine J.callVY (by decide +kernel) (n := 1) (As := [.int (nI 0)]) kc_15 (ctX15_readTold (lx x) (wx x) a0 (nI 0) h27) kw_8_70 kw_8_67 kw_8_69 kp_17 kw_1_13 (by decide +kernel) rfl (by decide) (by simp [rv_cat, cat_I, cat_L, cat_S]) rfl dX15_readSend_101 g28 (fun v32 h31 => ?_)
    show J x _ _ 104 _ [.int v32, .int v7, rv (zx x) (xR h27 (xR h27 a0 5) 19)] h31 _
    refine J_G (fun g33 => ?_)
    refine J_G (fun g34 => ?_)
    refine J_iast dX15_readSend_104 g33 g34 ?_
    refine J_LTh (fun h35 => ?_)
    refine J_aload_n 2 dX15_readSend_105 rv_is rfl ?_
    refine J_G (fun g36 => ?_)
    refine J_getR kc_15 5 (by decide) rfl rfl kw_6_215 dX15_readSend_106 g36 ?_
    refine J_G (fun g37 => ?_)
    refine J_getRN kc_12 19 (by decide) rfl rfl kn_43 dX15_readSend_109 g37 ?_
    refine J_iload_n 1 dX15_readSend_112 rfl ?_
    refine J_G (fun g38 => ?_)
    refine J_G (fun g39 => ?_)
    refine J_iald dX15_readSend_113 g38 g39 ?_
    refine J_aload_n 2 dX15_readSend_114 rv_is rfl ?_
    refine J_getR kc_15 5 (by decide) rfl rfl kw_6_215 dX15_readSend_115 g36 ?_
    refine J_getRN kc_12 18 (by decide) rfl rfl kn_42 dX15_readSend_118 g37 ?_
    refine J_iload_n 1 dX15_readSend_121 rfl ?_
    refine J_G (fun g40 => ?_)
    refine J_G (fun g41 => ?_)
    refine J_iald dX15_readSend_122 g40 g41 ?_
    refine J_icmp_ne (tgt := 137) dX15_readSend_123 rfl ?_ ?_
    · refine J_aload_n 2 dX15_readSend_137 rv_is rfl ?_
      refine J_G (fun g42 => ?_)
      refine J_getR kc_15 5 (by decide) rfl rfl kw_6_215 dX15_readSend_138 g42 ?_
      refine J_dup dX15_readSend_141 rv_cat ?_
      refine J_G (fun g43 => ?_)
      refine J_getIN kc_12 6 (by decide) rfl rfl kn_30 dX15_readSend_142 g43 ?_
      refine J_iconst (v := nI 1) dX15_readSend_145 rfl ?_
      refine J_iadd dX15_readSend_146 ?_
      refine J_putIN kc_12 6 (by decide) rfl rfl rfl rfl rfl kn_30 dX15_readSend_147 g43 ?_
      refine J_LTh (fun h44 => ?_)
      exact J_vretY dX15_readSend_150
    · refine J_aload_n 2 dX15_readSend_126 rv_is rfl ?_
      refine J_iload_n 0 dX15_readSend_127 rfl ?_
      refine J_G (fun g45 => ?_)
      refine J_putI kc_15 12 (by decide) rfl rfl rfl rfl (Or.inl rfl) kw_6_222 dX15_readSend_128 g45 ?_
      refine J_LTh (fun h46 => ?_)
      refine J_aload_n 2 dX15_readSend_131 rv_is rfl ?_
      refine J_iconst (v := nI 3) dX15_readSend_132 rfl ?_
      refine J_G (fun g47 => ?_)
      refine J.callV (n := 1) (As := [.int (nI 3)]) kc_15 (ctX15_stop (lx x) (wx x) a0 (nI 3) h46) kw_8_44 kw_8_41 kw_8_43 kp_14 kw_1_13 (by decide +kernel) rfl (by decide) (Nat.zero_le _) rfl dX15_readSend_133 g47 (fun r49 h48 => ?_)
      show J x _ _ 136 _ [rv (zx x) r49] h48 _
      refine J_G (fun g50 => ?_)
      exact J_athrow (by decide +kernel) dX15_readSend_136 g50
  · refine J_aload_n 0 dX15_readSend_12 rv_is rfl ?_
    refine J_iconst (v := nI 5) dX15_readSend_13 rfl ?_
    refine J_G (fun g51 => ?_)
    refine J.callV (n := 1) (As := [.int (nI 5)]) kc_15 (ctX15_stop (lx x) (wx x) a0 (nI 5) h) kw_8_44 kw_8_41 kw_8_43 kp_14 kw_1_13 (by decide +kernel) rfl (by decide) (Nat.zero_le _) rfl dX15_readSend_14 g51 (fun r53 h52 => ?_)
    show J x _ _ 17 _ [rv (zx x) r53] h52 _
    refine J_G (fun g54 => ?_)
    exact J_athrow (by decide +kernel) dX15_readSend_17 g54
theorem ctX15_readSend (l : Launch) (w : WT) (a0 : Nat) (h : AH) : CX l w yX15_readSend cX15_readSend 3 none 8 175 KV [rv (w.1) a0] h (X15_readSend_f a0 h) :=
  CX.of (by decide +kernel) (by simp [lg_sl, rv_cat, cat_I, cat_L, cat_S]) (lv := [(0, rv (w.1) a0)]) (by simp [lv_args, rv_cat, cat_I, cat_L, cat_S]) (fun x hx => by subst hx; exact jX15_readSend x a0 h)
-- FallTrialsModel.readPlaces(Ljava/lang/String;[I[I)I
abbrev qX15_readPlaces : MT := (cX15_readPlaces, RX15, "readPlaces", (some .int), 8, 171, 7)
def X15_readPlaces_B126 (k6 : (Nat → Nat → Nat → Nat → Int32 → Int32 → AH → Option ((Int32 ⊕ Nat) × AH))) (a0 : Nat) (s1 : Nat) (a2 : Nat) (a3 : Nat) (i4 : Int32) (i5 : Int32) (h : AH) : Option ((Int32 ⊕ Nat) × AH) :=
  k6 a0 s1 a2 a3 i4 i5 h
theorem jX15_readPlaces_B126 (x : CT) (k6 : (Nat → Nat → Nat → Nat → Int32 → Int32 → AH → Option ((Int32 ⊕ Nat) × AH))) (hk6 : ∀ (a0 : Nat) (s1 : Nat) (a2 : Nat) (a3 : Nat) (i4 : Int32) (i5 : Int32) (h : AH), J x qX15_readPlaces YI 6 [(0, rv (zx x) a0), (1, sv (wx x) s1), (2, rv (zx x) a2), (3, rv (zx x) a3), (4, .int i4), (5, .int i5)] [] h (k6 a0 s1 a2 a3 i4 i5 h)) (a0 : Nat) (s1 : Nat) (a2 : Nat) (a3 : Nat) (i4 : Int32) (i5 : Int32) (h : AH) : J x qX15_readPlaces YI 126 [(0, rv (zx x) a0), (1, sv (wx x) s1), (2, rv (zx x) a2), (3, rv (zx x) a3), (4, .int i4), (5, .int i5)] [] h (X15_readPlaces_B126 k6 a0 s1 a2 a3 i4 i5 h) := by
  unfold X15_readPlaces_B126
  refine J_goto (tgt := 6) dX15_readPlaces_126 rfl ?_
  exact (hk6 a0 s1 a2 a3 i4 i5 h)
def X15_readPlaces_B68 (a0 : Nat) (h : AH) : Option ((Int32 ⊕ Nat) × AH) :=
  G (xc h a0 = 15) <|
  BN (X15_stop_f a0 (nI 5) h) fun r3 h2 =>
  G (xc h2 r3 = 14) <|
  some (.inr r3, h2)
theorem jX15_readPlaces_B68 (x : CT) (a0 : Nat) (h : AH) : J x qX15_readPlaces YI 68 [(0, rv (zx x) a0)] [] h (X15_readPlaces_B68 a0 h) := by
  unfold X15_readPlaces_B68
  refine J_aload_n 0 dX15_readPlaces_68 rv_is rfl ?_
  refine J_iconst (v := nI 5) dX15_readPlaces_69 rfl ?_
  refine J_G (fun g1 => ?_)
  refine J.callV (n := 1) (As := [.int (nI 5)]) kc_15 (ctX15_stop (lx x) (wx x) a0 (nI 5) h) kw_8_44 kw_8_41 kw_8_43 kp_14 kw_1_13 (by decide +kernel) rfl (by decide) (Nat.zero_le _) rfl dX15_readPlaces_70 g1 (fun r3 h2 => ?_)
  show J x _ _ 73 _ [rv (zx x) r3] h2 _
  refine J_G (fun g4 => ?_)
  exact J_athrow (by decide +kernel) dX15_readPlaces_73 g4
def X15_readPlaces_B56 (a0 : Nat) (h : AH) : Option ((Int32 ⊕ Nat) × AH) :=
  G (xc h a0 = 15) <|
  BN (X15_stop_f a0 (nI 2) h) fun r3 h2 =>
  G (xc h2 r3 = 14) <|
  some (.inr r3, h2)
theorem jX15_readPlaces_B56 (x : CT) (a0 : Nat) (h : AH) : J x qX15_readPlaces YI 56 [(0, rv (zx x) a0)] [] h (X15_readPlaces_B56 a0 h) := by
  unfold X15_readPlaces_B56
  refine J_aload_n 0 dX15_readPlaces_56 rv_is rfl ?_
  refine J_iconst (v := nI 2) dX15_readPlaces_57 rfl ?_
  refine J_G (fun g1 => ?_)
  refine J.callV (n := 1) (As := [.int (nI 2)]) kc_15 (ctX15_stop (lx x) (wx x) a0 (nI 2) h) kw_8_44 kw_8_41 kw_8_43 kp_14 kw_1_13 (by decide +kernel) rfl (by decide) (Nat.zero_le _) rfl dX15_readPlaces_58 g1 (fun r3 h2 => ?_)
  show J x _ _ 61 _ [rv (zx x) r3] h2 _
  refine J_G (fun g4 => ?_)
  exact J_athrow (by decide +kernel) dX15_readPlaces_61 g4
def X15_readPlaces_B18 (a0 : Nat) (h : AH) : Option ((Int32 ⊕ Nat) × AH) :=
  G (xc h a0 = 15) <|
  BN (X15_stop_f a0 (nI 1) h) fun r3 h2 =>
  G (xc h2 r3 = 14) <|
  some (.inr r3, h2)
theorem jX15_readPlaces_B18 (x : CT) (a0 : Nat) (h : AH) : J x qX15_readPlaces YI 18 [(0, rv (zx x) a0)] [] h (X15_readPlaces_B18 a0 h) := by
  unfold X15_readPlaces_B18
  refine J_aload_n 0 dX15_readPlaces_18 rv_is rfl ?_
  refine J_iconst (v := nI 1) dX15_readPlaces_19 rfl ?_
  refine J_G (fun g1 => ?_)
  refine J.callV (n := 1) (As := [.int (nI 1)]) kc_15 (ctX15_stop (lx x) (wx x) a0 (nI 1) h) kw_8_44 kw_8_41 kw_8_43 kp_14 kw_1_13 (by decide +kernel) rfl (by decide) (Nat.zero_le _) rfl dX15_readPlaces_20 g1 (fun r3 h2 => ?_)
  show J x _ _ 23 _ [rv (zx x) r3] h2 _
  refine J_G (fun g4 => ?_)
  exact J_athrow (by decide +kernel) dX15_readPlaces_23 g4
def X15_readPlaces_B6 : Nat → Nat → Nat → Nat → Nat → Int32 → Int32 → AH → Option ((Int32 ⊕ Nat) × AH)
  | 0, _, _, _, _, _, _, _ => none
  | n + 1, a0, s1, a2, a3, i4, i5, h =>
    if i5 = 0 then (
      some (.inl (i4), h)
    ) else (
      G (xc h a0 = 15) <|
      BN (X15_isName_f a0 h) fun v3 h2 =>
      if v3 = 0 then (
        X15_readPlaces_B18 a0 h2
      ) else (
        G (xc h2 a0 = 15) <|
        G (xc h2 (xR h2 a0 5) = 12) <|
        BN (X12_find_f (xR h2 a0 5) (xL h2 a0 13) h2) fun v7 h6 =>
        if v7 = (-1) then (
          X15_readPlaces_B56 a0 h6
        ) else (
          G (xc h6 a0 = 15) <|
          G (xc h6 (xR h6 a0 5) = 12) <|
          G (xc h6 (xR h6 (xR h6 a0 5) 9) = 19) <|
          G (gx v7 (xz h6 (xR h6 (xR h6 a0 5) 9))) <|
          if (xI h6 (xR h6 (xR h6 a0 5) 9) v7.toNatClampNeg) = 0 then (
            X15_readPlaces_B56 a0 h6
          ) else (
            if i4 = (nI 3) then (
              X15_readPlaces_B68 a0 h6
            ) else (
              G (xc h6 a0 = 15) <|
              G (xc h6 (xR h6 a0 5) = 12) <|
              G (xc h6 (xR h6 (xR h6 a0 5) 10) = 16) <|
              G (gx v7 (xz h6 (xR h6 (xR h6 a0 5) 10))) <|
              G (xc h6 a2 = 16) <|
              G (gx i4 (xz h6 a2)) <|
              LT (pI h6 a2 i4.toNatClampNeg (xI h6 (xR h6 (xR h6 a0 5) 10) v7.toNatClampNeg)) fun h18 =>
              G (xc h18 a0 = 15) <|
              BN (X15_next_f a0 h18) fun _ h20 =>
              G (xc h20 a0 = 15) <|
              BX (X15_needWord_f a0 1 h20) fun _ h22 =>
              G (xc h22 a0 = 15) <|
              BX (X15_readTold_f a0 (nI 0) h22) fun v25 h24 =>
              G (xc h24 a3 = 16) <|
              G (gx i4 (xz h24 a3)) <|
              LT (pI h24 a3 i4.toNatClampNeg v25) fun h28 =>
              LT (i4 + nI 1) fun v29 =>
              G (xc h28 a0 = 15) <|
              BN (X15_isWord_f a0 s1 h28) fun v32 h31 =>
              if v32 = 0 then (
                X15_readPlaces_B126 (X15_readPlaces_B6 n) a0 s1 a2 a3 v29 v32 h31
              ) else (
                G (xc h31 a0 = 15) <|
                BN (X15_next_f a0 h31) fun _ h34 =>
                X15_readPlaces_B126 (X15_readPlaces_B6 n) a0 s1 a2 a3 v29 v32 h34
              )
            )
          )
        )
      )
    )
theorem jX15_readPlaces_B6 (x : CT) : ∀ (n : Nat) (a0 : Nat) (s1 : Nat) (a2 : Nat) (a3 : Nat) (i4 : Int32) (i5 : Int32) (h : AH), J x qX15_readPlaces YI 6 [(0, rv (zx x) a0), (1, sv (wx x) s1), (2, rv (zx x) a2), (3, rv (zx x) a3), (4, .int i4), (5, .int i5)] [] h (X15_readPlaces_B6 n a0 s1 a2 a3 i4 i5 h) := by
  intro n
  induction n with
  | zero => intro a0 s1 a2 a3 i4 i5 h; exact J_none
  | succ n ih =>
    intro a0 s1 a2 a3 i4 i5 h
    unfold X15_readPlaces_B6
    refine J_iload 5 dX15_readPlaces_6 rfl ?_
    refine J_if_eq (tgt := 129) dX15_readPlaces_8 rfl ?_ ?_
    · refine J_iload 4 dX15_readPlaces_129 rfl ?_
      exact J_iretY dX15_readPlaces_131
    · refine J_aload_n 0 dX15_readPlaces_11 rv_is rfl ?_
      refine J_G (fun g1 => ?_)
      refine J.callV (n := 0) (As := []) kc_15 (ctX15_isName (lx x) (wx x) a0 h) kw_8_48 kw_8_45 kw_8_47 kp_15 kw_1_13 (by decide +kernel) rfl (by decide) (Nat.zero_le _) rfl dX15_readPlaces_12 g1 (fun v3 h2 => ?_)
      show J x _ _ 15 _ [.int v3] h2 _
      refine J_if_ne (tgt := 24) dX15_readPlaces_15 rfl ?_ ?_
      · refine J_aload_n 0 dX15_readPlaces_24 rv_is rfl ?_
        refine J_G (fun g4 => ?_)
        refine J_getR kc_15 5 (by decide) rfl rfl kw_6_215 dX15_readPlaces_25 g4 ?_
        refine J_aload_n 0 dX15_readPlaces_28 rv_is rfl ?_
        refine J_getL kc_15 13 (by decide) rfl rfl kw_6_223 dX15_readPlaces_29 g4 ?_
        refine J_G (fun g5 => ?_)
        refine J.callV (n := 1) (As := [.long (xL h2 a0 13)]) kc_12 (ctX12_find (lx x) (wx x) (xR h2 a0 5) (xL h2 a0 13) h2) kw_8_61 kw_8_58 kw_8_59 kw_8_60 kw_1_24 (by decide +kernel) rfl (by decide) (Nat.zero_le _) rfl dX15_readPlaces_32 g5 (fun v7 h6 => ?_)
        show J x _ _ 35 _ [.int v7] h6 _
        refine J_istore dX15_readPlaces_35 (by decide) (SD.a (lvr := [(0, rv (zx x) a0), (1, sv (wx x) s1), (2, rv (zx x) a2), (3, rv (zx x) a3), (4, .int i4)]) [0, 1, 2, 3, 4] rfl rfl) ?_
        refine J_iload 0 dX15_readPlaces_37 rfl ?_
        refine J_iconst (v := (-1)) dX15_readPlaces_39 rfl ?_
        refine J_icmp_eq (tgt := 56) dX15_readPlaces_40 rfl ?_ ?_
        · exact J_sub [1] rfl (jX15_readPlaces_B56 x a0 h6)
        · refine J_aload_n 1 dX15_readPlaces_43 rv_is rfl ?_
          refine J_G (fun g8 => ?_)
          refine J_getR kc_15 5 (by decide) rfl rfl kw_6_215 dX15_readPlaces_44 g8 ?_
          refine J_G (fun g9 => ?_)
          refine J_getRN kc_12 9 (by decide) rfl rfl kn_33 dX15_readPlaces_47 g9 ?_
          refine J_iload 0 dX15_readPlaces_50 rfl ?_
          refine J_G (fun g10 => ?_)
          refine J_G (fun g11 => ?_)
          refine J_zald dX15_readPlaces_52 g10 g11 ?_
          refine J_if_ne (tgt := 62) dX15_readPlaces_53 rfl ?_ ?_
          · refine J_iload 5 dX15_readPlaces_62 rfl ?_
            refine J_iconst (v := nI 3) dX15_readPlaces_64 rfl ?_
            refine J_icmp_ne (tgt := 74) dX15_readPlaces_65 rfl ?_ ?_
            · refine J_aload_n 3 dX15_readPlaces_74 rv_is rfl ?_
              refine J_iload 5 dX15_readPlaces_75 rfl ?_
              refine J_aload_n 1 dX15_readPlaces_77 rv_is rfl ?_
              refine J_G (fun g12 => ?_)
              refine J_getR kc_15 5 (by decide) rfl rfl kw_6_215 dX15_readPlaces_78 g12 ?_
              refine J_G (fun g13 => ?_)
              refine J_getRN kc_12 10 (by decide) rfl rfl kn_34 dX15_readPlaces_81 g13 ?_
              refine J_iload 0 dX15_readPlaces_84 rfl ?_
              refine J_G (fun g14 => ?_)
              refine J_G (fun g15 => ?_)
              refine J_iald dX15_readPlaces_86 g14 g15 ?_
              refine J_G (fun g16 => ?_)
              refine J_G (fun g17 => ?_)
              refine J_iast dX15_readPlaces_87 g16 g17 ?_
              refine J_LTh (fun h18 => ?_)
              refine J_aload_n 1 dX15_readPlaces_88 rv_is rfl ?_
              refine J_G (fun g19 => ?_)
              refine J.callV (n := 0) (As := []) kc_15 (ctX15_next (lx x) (wx x) a0 h18) kw_8_13 kw_8_10 kw_8_12 kp_9 kw_1_13 (by decide +kernel) rfl (by decide) (Nat.zero_le _) rfl dX15_readPlaces_89 g19 (fun _ h20 => ?_)
              show J x _ _ 92 _ [] h20 _
              refine J_aload_n 1 dX15_readPlaces_92 rv_is rfl ?_
              refine J_ldcS (i := 1) (tx := "at") (index := 180) (by decide +kernel) dX15_readPlaces_93 ?_
              refine J_G (fun g21 => ?_)
              refine J.callVY (by decide +kernel) (n := 1) (As := [sv (wx x) 1]) kc_15 (ctX15_needWord (lx x) (wx x) a0 1 h20) kw_8_74 kw_8_71 kw_8_73 kp_18 kw_1_13 (by decide +kernel) rfl (by decide) (Nat.zero_le _) rfl dX15_readPlaces_95 g21 (fun _ h22 => ?_)
              show J x _ _ 98 _ [] h22 _
              refine J_aload_n 4 dX15_readPlaces_98 rv_is rfl ?_
              refine J_iload 5 dX15_readPlaces_99 rfl ?_
              refine J_aload_n 1 dX15_readPlaces_101 rv_is rfl ?_
              refine J_iconst (v := nI 0) dX15_readPlaces_102 rfl ?_
              refine J_G (fun g23 => ?_)
              refine J.callVY (by decide +kernel) (n := 1) (As := [.int (nI 0)]) kc_15 (ctX15_readTold (lx x) (wx x) a0 (nI 0) h22) kw_8_70 kw_8_67 kw_8_69 kp_17 kw_1_13 (by decide +kernel) rfl (by decide) (by simp [rv_cat, cat_I, cat_L, cat_S]) rfl dX15_readPlaces_103 g23 (fun v25 h24 => ?_)
              show J x _ _ 106 _ [.int v25, .int i4, rv (zx x) a3] h24 _
              refine J_G (fun g26 => ?_)
              refine J_G (fun g27 => ?_)
              refine J_iast dX15_readPlaces_106 g26 g27 ?_
              refine J_LTh (fun h28 => ?_)
              refine J_iincL (u := i4 + nI 1) 5 dX15_readPlaces_107 rfl rfl (by decide) (SD.c (lvr := [(0, rv (zx x) a0), (1, sv (wx x) s1), (2, rv (zx x) a2), (3, rv (zx x) a3)]) [1, 2, 3, 4] rfl rfl 3 rfl rfl rv_cat) (fun v29 => ?_)
              refine J_aload_n 1 dX15_readPlaces_110 rv_is rfl ?_
              refine J_aload_n 2 dX15_readPlaces_111 sv_is rfl ?_
              refine J_G (fun g30 => ?_)
              refine J.callV (n := 1) (As := [sv (wx x) s1]) kc_15 (ctX15_isWord (lx x) (wx x) a0 s1 h28) kw_8_30 kw_8_27 kw_8_29 kp_12 kw_1_13 (by decide +kernel) rfl (by decide) (Nat.zero_le _) rfl dX15_readPlaces_112 g30 (fun v32 h31 => ?_)
              show J x _ _ 115 _ [.int v32] h31 _
              refine J_istore dX15_readPlaces_115 (by decide) (SD.a (lvr := [(4, .int v29), (0, rv (zx x) a0), (1, sv (wx x) s1), (2, rv (zx x) a2), (3, rv (zx x) a3)]) [0, 1, 2, 3, 4] rfl rfl) ?_
              refine J_iload 0 dX15_readPlaces_117 rfl ?_
              refine J_if_eq (tgt := 126) dX15_readPlaces_119 rfl ?_ ?_
              · exact J_sub [2, 3, 4, 5, 1, 0] rfl (jX15_readPlaces_B126 x (X15_readPlaces_B6 n) ih a0 s1 a2 a3 v29 v32 h31)
              · refine J_aload_n 2 dX15_readPlaces_122 rv_is rfl ?_
                refine J_G (fun g33 => ?_)
                refine J.callV (n := 0) (As := []) kc_15 (ctX15_next (lx x) (wx x) a0 h31) kw_8_13 kw_8_10 kw_8_12 kp_9 kw_1_13 (by decide +kernel) rfl (by decide) (Nat.zero_le _) rfl dX15_readPlaces_123 g33 (fun _ h34 => ?_)
                show J x _ _ 126 _ [] h34 _
                exact J_sub [2, 3, 4, 5, 1, 0] rfl (jX15_readPlaces_B126 x (X15_readPlaces_B6 n) ih a0 s1 a2 a3 v29 v32 h34)
            · exact J_sub [1] rfl (jX15_readPlaces_B68 x a0 h6)
          · exact J_sub [1] rfl (jX15_readPlaces_B56 x a0 h6)
      · exact J_sub [0] rfl (jX15_readPlaces_B18 x a0 h2)
def X15_readPlaces_f (a0 : Nat) (s1 : Nat) (a2 : Nat) (a3 : Nat) (h : AH) : Option ((Int32 ⊕ Nat) × AH) :=
  X15_readPlaces_B6 FU a0 s1 a2 a3 (nI 0) (nI 1) h
theorem jX15_readPlaces (x : CT) (a0 : Nat) (s1 : Nat) (a2 : Nat) (a3 : Nat) (h : AH) : J x qX15_readPlaces YI 0 [(0, rv (zx x) a0), (1, sv (wx x) s1), (2, rv (zx x) a2), (3, rv (zx x) a3)] [] h (X15_readPlaces_f a0 s1 a2 a3 h) := by
  unfold X15_readPlaces_f
  refine J_iconst (v := nI 0) dX15_readPlaces_0 rfl ?_
  refine J_istore dX15_readPlaces_1 (by decide) (SD.c (lvr := [(0, rv (zx x) a0), (1, sv (wx x) s1), (2, rv (zx x) a2), (3, rv (zx x) a3)]) [0, 1, 2, 3] rfl rfl 3 rfl rfl rv_cat) ?_
  refine J_iconst (v := nI 1) dX15_readPlaces_3 rfl ?_
  refine J_istore dX15_readPlaces_4 (by decide) (SD.a (lvr := [(4, .int (nI 0)), (0, rv (zx x) a0), (1, sv (wx x) s1), (2, rv (zx x) a2), (3, rv (zx x) a3)]) [0, 1, 2, 3, 4] rfl rfl) ?_
  exact J_sub [2, 3, 4, 5, 1, 0] rfl (jX15_readPlaces_B6 x FU a0 s1 a2 a3 (nI 0) (nI 1) h)
theorem ctX15_readPlaces (l : Launch) (w : WT) (a0 : Nat) (s1 : Nat) (a2 : Nat) (a3 : Nat) (h : AH) : CX l w yX15_readPlaces cX15_readPlaces 7 (some .int) 8 171 KI [rv (w.1) a0, sv (w) s1, rv (w.1) a2, rv (w.1) a3] h (X15_readPlaces_f a0 s1 a2 a3 h) :=
  CX.of (by decide +kernel) (by simp [lg_sl, rv_cat, cat_I, cat_L, cat_S]) (lv := [(0, rv (w.1) a0), (1, sv (w) s1), (2, rv (w.1) a2), (3, rv (w.1) a3)]) (by simp [lv_args, rv_cat, cat_I, cat_L, cat_S]) (fun x hx => by subst hx; exact jX15_readPlaces x a0 s1 a2 a3 h)
-- FallTrialsModel.last(I)Z
abbrev qX15_last : MT := (cX15_last, RX15, "last", (some .boolean), 1, 22, 2)
def X15_last_f (a0 : Nat) (i1 : Int32) (h : AH) : Option (Int32 × AH) :=
  G (xc h a0 = 15) <|
  LT (pI h a0 0 (nI 0)) fun h2 =>
  G (xc h2 a0 = 15) <|
  if (xR h2 a0 4) = 0 then (
    G (xc h2 a0 = 15) <|
    BN (X15_denied_f a0 (nI 1) h2) fun v22 h21 =>
    G (bz v22) <|
    some (v22, h21)
  ) else (
    BN (X15_in_f i1 (nI 1) (nI 6) h2) fun v5 h4 =>
    if v5 = 0 then (
      G (xc h4 a0 = 15) <|
      BN (X15_denied_f a0 (nI 2) h4) fun v18 h17 =>
      G (bz v18) <|
      some (v18, h17)
    ) else (
      G (xc h4 a0 = 15) <|
      LT (pI h4 a0 14 i1) fun h7 =>
      G (xc h7 a0 = 15) <|
      LT (pI h7 a0 16 (nI 0)) fun h9 =>
      G (xc h9 a0 = 15) <|
      LT (pI h9 a0 18 (nI 0)) fun h11 =>
      G (xc h11 a0 = 15) <|
      BN (X15_granted_f a0 h11) fun v14 h13 =>
      G (bz v14) <|
      some (v14, h13)
    )
  )
theorem jX15_last (x : CT) (a0 : Nat) (i1 : Int32) (h : AH) : J x qX15_last ZI 0 [(0, rv (zx x) a0), (1, .int i1)] [] h (X15_last_f a0 i1 h) := by
  unfold X15_last_f
  refine J_aload_n 0 dX15_last_0 rv_is rfl ?_
  refine J_iconst (v := nI 0) dX15_last_1 rfl ?_
  refine J_G (fun g1 => ?_)
  refine J_putI kc_15 0 (by decide) rfl rfl rfl rfl (Or.inl rfl) kw_6_210 dX15_last_2 g1 ?_
  refine J_LTh (fun h2 => ?_)
  refine J_aload_n 0 dX15_last_5 rv_is rfl ?_
  refine J_G (fun g3 => ?_)
  refine J_getR kc_15 4 (by decide) rfl rfl kw_6_214 dX15_last_6 g3 ?_
  refine J_ifnonnull (tgt := 18) dX15_last_9 rfl ?_ ?_
  · refine J_iload_n 1 dX15_last_18 rfl ?_
    refine J_iconst (v := nI 1) dX15_last_19 rfl ?_
    refine J_bipush (v := nI 6) dX15_last_20 rfl ?_
    refine J.callS (n := 3) (As := [.int i1, .int (nI 1), .int (nI 6)]) (ctX15_in (lx x) (wx x) i1 (nI 1) (nI 6) h2) kw_8_122 kw_8_120 kw_8_121 kw_1_13 (by decide +kernel) rfl (by decide) (Nat.zero_le _) rfl dX15_last_22 (fun v5 h4 => ?_)
    show J x _ _ 25 _ [.int v5] h4 _
    refine J_if_ne (tgt := 34) dX15_last_25 rfl ?_ ?_
    · refine J_aload_n 0 dX15_last_34 rv_is rfl ?_
      refine J_iload_n 1 dX15_last_35 rfl ?_
      refine J_G (fun g6 => ?_)
      refine J_putI kc_15 14 (by decide) rfl rfl rfl rfl (Or.inl rfl) kw_6_224 dX15_last_36 g6 ?_
      refine J_LTh (fun h7 => ?_)
      refine J_aload_n 0 dX15_last_39 rv_is rfl ?_
      refine J_iconst (v := nI 0) dX15_last_40 rfl ?_
      refine J_G (fun g8 => ?_)
      refine J_putI kc_15 16 (by decide) rfl rfl rfl rfl (Or.inl rfl) kw_6_226 dX15_last_41 g8 ?_
      refine J_LTh (fun h9 => ?_)
      refine J_aload_n 0 dX15_last_44 rv_is rfl ?_
      refine J_iconst (v := nI 0) dX15_last_45 rfl ?_
      refine J_G (fun g10 => ?_)
      refine J_putI kc_15 18 (by decide) rfl rfl rfl rfl (Or.inl rfl) kw_6_228 dX15_last_46 g10 ?_
      refine J_LTh (fun h11 => ?_)
      refine J_aload_n 0 dX15_last_49 rv_is rfl ?_
      refine J_G (fun g12 => ?_)
      refine J.callV (n := 0) (As := []) kc_15 (ctX15_granted (lx x) (wx x) a0 h11) kw_8_126 kw_8_123 kw_8_125 kp_26 kw_1_13 (by decide +kernel) rfl (by decide) (Nat.zero_le _) rfl dX15_last_50 g12 (fun v14 h13 => ?_)
      show J x _ _ 53 _ [.int v14] h13 _
      refine J_G (fun g15 => ?_)
      exact J_zret dX15_last_53 g15
    · refine J_aload_n 0 dX15_last_28 rv_is rfl ?_
      refine J_iconst (v := nI 2) dX15_last_29 rfl ?_
      refine J_G (fun g16 => ?_)
      refine J.callV (n := 1) (As := [.int (nI 2)]) kc_15 (ctX15_denied (lx x) (wx x) a0 (nI 2) h4) kw_8_119 kw_8_116 kw_8_118 kp_25 kw_1_13 (by decide +kernel) rfl (by decide) (Nat.zero_le _) rfl dX15_last_30 g16 (fun v18 h17 => ?_)
      show J x _ _ 33 _ [.int v18] h17 _
      refine J_G (fun g19 => ?_)
      exact J_zret dX15_last_33 g19
  · refine J_aload_n 0 dX15_last_12 rv_is rfl ?_
    refine J_iconst (v := nI 1) dX15_last_13 rfl ?_
    refine J_G (fun g20 => ?_)
    refine J.callV (n := 1) (As := [.int (nI 1)]) kc_15 (ctX15_denied (lx x) (wx x) a0 (nI 1) h2) kw_8_119 kw_8_116 kw_8_118 kp_25 kw_1_13 (by decide +kernel) rfl (by decide) (Nat.zero_le _) rfl dX15_last_14 g20 (fun v22 h21 => ?_)
    show J x _ _ 17 _ [.int v22] h21 _
    refine J_G (fun g23 => ?_)
    exact J_zret dX15_last_17 g23
theorem ctX15_last (l : Launch) (w : WT) (a0 : Nat) (i1 : Int32) (h : AH) : CM l w yX15_last cX15_last 2 (some .boolean) 1 22 KI [rv (w.1) a0, .int i1] h (X15_last_f a0 i1 h) :=
  CM.of (by decide +kernel) (by simp [lg_sl, rv_cat, cat_I, cat_L, cat_S]) (lv := [(0, rv (w.1) a0), (1, .int i1)]) (by simp [lv_args, rv_cat, cat_I, cat_L, cat_S]) (fun x hx => by subst hx; exact jX15_last x a0 i1 h)
-- FallTrialsModel.purse(II)Z
abbrev qX15_purse : MT := (cX15_purse, RX15, "purse", (some .boolean), 1, 22, 3)
def X15_purse_B21 (a0 : Nat) (h : AH) : Option (Int32 × AH) :=
  G (xc h a0 = 15) <|
  BN (X15_denied_f a0 (nI 1) h) fun v3 h2 =>
  G (bz v3) <|
  some (v3, h2)
theorem jX15_purse_B21 (x : CT) (a0 : Nat) (h : AH) : J x qX15_purse ZI 21 [(0, rv (zx x) a0)] [] h (X15_purse_B21 a0 h) := by
  unfold X15_purse_B21
  refine J_aload_n 0 dX15_purse_21 rv_is rfl ?_
  refine J_iconst (v := nI 1) dX15_purse_22 rfl ?_
  refine J_G (fun g1 => ?_)
  refine J.callV (n := 1) (As := [.int (nI 1)]) kc_15 (ctX15_denied (lx x) (wx x) a0 (nI 1) h) kw_8_119 kw_8_116 kw_8_118 kp_25 kw_1_13 (by decide +kernel) rfl (by decide) (Nat.zero_le _) rfl dX15_purse_23 g1 (fun v3 h2 => ?_)
  show J x _ _ 26 _ [.int v3] h2 _
  refine J_G (fun g4 => ?_)
  exact J_zret dX15_purse_26 g4
def X15_purse_B53 (a0 : Nat) (h : AH) : Option (Int32 × AH) :=
  G (xc h a0 = 15) <|
  BN (X15_denied_f a0 (nI 2) h) fun v3 h2 =>
  G (bz v3) <|
  some (v3, h2)
theorem jX15_purse_B53 (x : CT) (a0 : Nat) (h : AH) : J x qX15_purse ZI 53 [(0, rv (zx x) a0)] [] h (X15_purse_B53 a0 h) := by
  unfold X15_purse_B53
  refine J_aload_n 0 dX15_purse_53 rv_is rfl ?_
  refine J_iconst (v := nI 2) dX15_purse_54 rfl ?_
  refine J_G (fun g1 => ?_)
  refine J.callV (n := 1) (As := [.int (nI 2)]) kc_15 (ctX15_denied (lx x) (wx x) a0 (nI 2) h) kw_8_119 kw_8_116 kw_8_118 kp_25 kw_1_13 (by decide +kernel) rfl (by decide) (Nat.zero_le _) rfl dX15_purse_55 g1 (fun v3 h2 => ?_)
  show J x _ _ 58 _ [.int v3] h2 _
  refine J_G (fun g4 => ?_)
  exact J_zret dX15_purse_58 g4
def X15_purse_f (a0 : Nat) (i1 : Int32) (i2 : Int32) (h : AH) : Option (Int32 × AH) :=
  G (xc h a0 = 15) <|
  LT (pI h a0 0 (nI 0)) fun h2 =>
  G (xc h2 a0 = 15) <|
  if (xR h2 a0 4) = 0 then (
    X15_purse_B21 a0 h2
  ) else (
    BN (X15_in_f i1 (nI 0) (nI 3) h2) fun v5 h4 =>
    if v5 = 0 then (
      X15_purse_B21 a0 h4
    ) else (
      BN (X15_in_f i2 (nI 0) (nI 3) h4) fun v7 h6 =>
      if v7 = 0 then (
        X15_purse_B53 a0 h6
      ) else (
        G (xc h6 a0 = 15) <|
        BN (X15_inPurse_f a0 h6) fun v10 h9 =>
        G (xc h9 a0 = 15) <|
        G (xc h9 (xR h9 a0 19) = 16) <|
        G (gx i1 (xz h9 (xR h9 a0 19))) <|
        if ((v10 - (xI h9 (xR h9 a0 19) i1.toNatClampNeg)) + i2) ≤ (nI 3) then (
          G (xc h9 a0 = 15) <|
          G (xc h9 (xR h9 a0 19) = 16) <|
          G (gx i1 (xz h9 (xR h9 a0 19))) <|
          LT (pI h9 (xR h9 a0 19) i1.toNatClampNeg i2) fun h17 =>
          G (xc h17 a0 = 15) <|
          BN (X15_granted_f a0 h17) fun v20 h19 =>
          G (bz v20) <|
          some (v20, h19)
        ) else (
          X15_purse_B53 a0 h9
        )
      )
    )
  )
theorem jX15_purse (x : CT) (a0 : Nat) (i1 : Int32) (i2 : Int32) (h : AH) : J x qX15_purse ZI 0 [(0, rv (zx x) a0), (1, .int i1), (2, .int i2)] [] h (X15_purse_f a0 i1 i2 h) := by
  unfold X15_purse_f
  refine J_aload_n 0 dX15_purse_0 rv_is rfl ?_
  refine J_iconst (v := nI 0) dX15_purse_1 rfl ?_
  refine J_G (fun g1 => ?_)
  refine J_putI kc_15 0 (by decide) rfl rfl rfl rfl (Or.inl rfl) kw_6_210 dX15_purse_2 g1 ?_
  refine J_LTh (fun h2 => ?_)
  refine J_aload_n 0 dX15_purse_5 rv_is rfl ?_
  refine J_G (fun g3 => ?_)
  refine J_getR kc_15 4 (by decide) rfl rfl kw_6_214 dX15_purse_6 g3 ?_
  refine J_ifnull (tgt := 21) dX15_purse_9 rfl ?_ ?_
  · exact J_sub [0] rfl (jX15_purse_B21 x a0 h2)
  · refine J_iload_n 1 dX15_purse_12 rfl ?_
    refine J_iconst (v := nI 0) dX15_purse_13 rfl ?_
    refine J_iconst (v := nI 3) dX15_purse_14 rfl ?_
    refine J.callS (n := 3) (As := [.int i1, .int (nI 0), .int (nI 3)]) (ctX15_in (lx x) (wx x) i1 (nI 0) (nI 3) h2) kw_8_122 kw_8_120 kw_8_121 kw_1_13 (by decide +kernel) rfl (by decide) (Nat.zero_le _) rfl dX15_purse_15 (fun v5 h4 => ?_)
    show J x _ _ 18 _ [.int v5] h4 _
    refine J_if_ne (tgt := 27) dX15_purse_18 rfl ?_ ?_
    · refine J_iload_n 2 dX15_purse_27 rfl ?_
      refine J_iconst (v := nI 0) dX15_purse_28 rfl ?_
      refine J_iconst (v := nI 3) dX15_purse_29 rfl ?_
      refine J.callS (n := 3) (As := [.int i2, .int (nI 0), .int (nI 3)]) (ctX15_in (lx x) (wx x) i2 (nI 0) (nI 3) h4) kw_8_122 kw_8_120 kw_8_121 kw_1_13 (by decide +kernel) rfl (by decide) (Nat.zero_le _) rfl dX15_purse_30 (fun v7 h6 => ?_)
      show J x _ _ 33 _ [.int v7] h6 _
      refine J_if_eq (tgt := 53) dX15_purse_33 rfl ?_ ?_
      · exact J_sub [0] rfl (jX15_purse_B53 x a0 h6)
      · refine J_aload_n 0 dX15_purse_36 rv_is rfl ?_
        refine J_G (fun g8 => ?_)
        refine J.callV (n := 0) (As := []) kc_15 (ctX15_inPurse (lx x) (wx x) a0 h6) kw_8_134 kw_8_131 kw_8_133 kp_27 kw_1_13 (by decide +kernel) rfl (by decide) (Nat.zero_le _) rfl dX15_purse_37 g8 (fun v10 h9 => ?_)
        show J x _ _ 40 _ [.int v10] h9 _
        refine J_aload_n 0 dX15_purse_40 rv_is rfl ?_
        refine J_G (fun g11 => ?_)
        refine J_getR kc_15 19 (by decide) rfl rfl kw_6_229 dX15_purse_41 g11 ?_
        refine J_iload_n 1 dX15_purse_44 rfl ?_
        refine J_G (fun g12 => ?_)
        refine J_G (fun g13 => ?_)
        refine J_iald dX15_purse_45 g12 g13 ?_
        refine J_isub dX15_purse_46 ?_
        refine J_iload_n 2 dX15_purse_47 rfl ?_
        refine J_iadd dX15_purse_48 ?_
        refine J_iconst (v := nI 3) dX15_purse_49 rfl ?_
        refine J_icmp_le (tgt := 59) dX15_purse_50 rfl ?_ ?_
        · refine J_aload_n 0 dX15_purse_59 rv_is rfl ?_
          refine J_G (fun g14 => ?_)
          refine J_getR kc_15 19 (by decide) rfl rfl kw_6_229 dX15_purse_60 g14 ?_
          refine J_iload_n 1 dX15_purse_63 rfl ?_
          refine J_iload_n 2 dX15_purse_64 rfl ?_
          refine J_G (fun g15 => ?_)
          refine J_G (fun g16 => ?_)
          refine J_iast dX15_purse_65 g15 g16 ?_
          refine J_LTh (fun h17 => ?_)
          refine J_aload_n 0 dX15_purse_66 rv_is rfl ?_
          refine J_G (fun g18 => ?_)
          refine J.callV (n := 0) (As := []) kc_15 (ctX15_granted (lx x) (wx x) a0 h17) kw_8_126 kw_8_123 kw_8_125 kp_26 kw_1_13 (by decide +kernel) rfl (by decide) (Nat.zero_le _) rfl dX15_purse_67 g18 (fun v20 h19 => ?_)
          show J x _ _ 70 _ [.int v20] h19 _
          refine J_G (fun g21 => ?_)
          exact J_zret dX15_purse_70 g21
        · exact J_sub [0] rfl (jX15_purse_B53 x a0 h9)
    · exact J_sub [0] rfl (jX15_purse_B21 x a0 h4)
theorem ctX15_purse (l : Launch) (w : WT) (a0 : Nat) (i1 : Int32) (i2 : Int32) (h : AH) : CM l w yX15_purse cX15_purse 3 (some .boolean) 1 22 KI [rv (w.1) a0, .int i1, .int i2] h (X15_purse_f a0 i1 i2 h) :=
  CM.of (by decide +kernel) (by simp [lg_sl, rv_cat, cat_I, cat_L, cat_S]) (lv := [(0, rv (w.1) a0), (1, .int i1), (2, .int i2)]) (by simp [lv_args, rv_cat, cat_I, cat_L, cat_S]) (fun x hx => by subst hx; exact jX15_purse x a0 i1 i2 h)
