-- FallTrials$Reader.readRule()Z
abbrev qX6_readRule : MT := (cX6_readRule, RX6, "readRule", (some .boolean), 8, 173, 2)
def X6_readRule_B154 (a0 : Nat) (h : AH) : Option (Int32 × AH) :=
  G (xc h a0 = 6) <|
  G (xc h (xR h a0 10) = 0) <|
  LT (pI h (xR h a0 10) 3 ((xI h (xR h a0 10) 3) + (nI 1))) fun h3 =>
  G (xc h3 a0 = 6) <|
  BN (X6_endsLine_f a0 h3) fun v6 h5 =>
  G (bz v6) <|
  some (v6, h5)
theorem jX6_readRule_B154 (x : CT) (a0 : Nat) (h : AH) : J x qX6_readRule ZI 154 [(0, rv (zx x) a0)] [] h (X6_readRule_B154 a0 h) := by
  unfold X6_readRule_B154
  refine J_aload_n 0 dX6_readRule_154 rv_is rfl ?_
  refine J_G (fun g1 => ?_)
  refine J_getR kc_6 10 (by decide) rfl rfl kw_1_218 dX6_readRule_155 g1 ?_
  refine J_dup dX6_readRule_158 rv_cat ?_
  refine J_G (fun g2 => ?_)
  refine J_getI kc_0 3 (by decide) rfl rfl kw_1_123 dX6_readRule_159 g2 ?_
  refine J_iconst (v := nI 1) dX6_readRule_162 rfl ?_
  refine J_iadd dX6_readRule_163 ?_
  refine J_putI kc_0 3 (by decide) rfl rfl rfl rfl (Or.inl rfl) kw_1_123 dX6_readRule_164 g2 ?_
  refine J_LTh (fun h3 => ?_)
  refine J_aload_n 0 dX6_readRule_167 rv_is rfl ?_
  refine J_G (fun g4 => ?_)
  refine J.callV (n := 0) (As := []) kc_6 (ctX6_endsLine (lx x) (wx x) a0 h3) kw_4_3 kw_4_0 kw_4_1 kw_4_2 kw_1_4 (by decide +kernel) rfl (by decide) (Nat.zero_le _) rfl dX6_readRule_168 g4 (fun v6 h5 => ?_)
  show J x _ _ 171 _ [.int v6] h5 _
  refine J_G (fun g7 => ?_)
  exact J_zret dX6_readRule_171 g7
def X6_readRule_B115 (a0 : Nat) (a1 : Nat) (is0 : Int32) (as1 : Nat) (as2 : Nat) (h : AH) : Option (Int32 × AH) :=
  G (xc h as2 = 6) <|
  BN (X6_readCases_f as2 as1 is0 h) fun v3 h2 =>
  if v3 = 0 then (
    some (nI 0, h2)
  ) else (
    G (xc h2 a0 = 6) <|
    BN (X6_spells_f a0 1 h2) fun v6 h5 =>
    if v6 = 0 then (
      X6_readRule_B154 a0 h5
    ) else (
      G (xc h5 a0 = 6) <|
      BN (X6_stepToMachine_f a0 h5) fun v9 h8 =>
      G (xc h8 a1 = 1) <|
      LT (pI h8 a1 6 v9) fun h11 =>
      G (xc h11 a1 = 1) <|
      if (xI h11 a1 6) = (-1) then (
        some (nI 0, h11)
      ) else (
        G (xc h11 a0 = 6) <|
        BN (X6_step_f a0 h11) fun _ h14 =>
        X6_readRule_B154 a0 h14
      )
    )
  )
theorem jX6_readRule_B115 (x : CT) (a0 : Nat) (a1 : Nat) (is0 : Int32) (as1 : Nat) (as2 : Nat) (h : AH) : J x qX6_readRule ZI 115 [(0, rv (zx x) a0), (1, rv (zx x) a1)] [.int is0, rv (zx x) as1, rv (zx x) as2] h (X6_readRule_B115 a0 a1 is0 as1 as2 h) := by
  unfold X6_readRule_B115
  refine J_G (fun g1 => ?_)
  refine J.callV (n := 2) (As := [rv (zx x) as1, .int is0]) kc_6 (ctX6_readCases (lx x) (wx x) as2 as1 is0 h) kw_4_35 kw_4_32 kw_4_33 kw_4_34 kw_1_4 (by decide +kernel) rfl (by decide) (Nat.zero_le _) rfl dX6_readRule_115 g1 (fun v3 h2 => ?_)
  show J x _ _ 118 _ [.int v3] h2 _
  refine J_if_ne (tgt := 123) dX6_readRule_118 rfl ?_ ?_
  · refine J_aload_n 0 dX6_readRule_123 rv_is rfl ?_
    refine J_ldcS (i := 1) (tx := "at") (index := 121) (by decide +kernel) dX6_readRule_124 ?_
    refine J_G (fun g4 => ?_)
    refine J.callV (n := 1) (As := [sv (wx x) 1]) kc_6 (ctX6_spells (lx x) (wx x) a0 1 h2) kw_3_135 kw_3_132 kw_3_133 kw_3_134 kw_1_4 (by decide +kernel) rfl (by decide) (Nat.zero_le _) rfl dX6_readRule_126 g4 (fun v6 h5 => ?_)
    show J x _ _ 129 _ [.int v6] h5 _
    refine J_if_eq (tgt := 154) dX6_readRule_129 rfl ?_ ?_
    · exact J_sub [0] rfl (jX6_readRule_B154 x a0 h5)
    · refine J_aload_n 1 dX6_readRule_132 rv_is rfl ?_
      refine J_aload_n 0 dX6_readRule_133 rv_is rfl ?_
      refine J_G (fun g7 => ?_)
      refine J.callV (n := 0) (As := []) kc_6 (ctX6_stepToMachine (lx x) (wx x) a0 h5) kw_3_230 kw_3_227 kw_3_228 kw_3_229 kw_1_4 (by decide +kernel) rfl (by decide) (by simp [rv_cat, cat_I, cat_L, cat_S]) rfl dX6_readRule_134 g7 (fun v9 h8 => ?_)
      show J x _ _ 137 _ [.int v9, rv (zx x) a1] h8 _
      refine J_G (fun g10 => ?_)
      refine J_putI kc_1 6 (by decide) rfl rfl rfl rfl (Or.inl rfl) kw_1_71 dX6_readRule_137 g10 ?_
      refine J_LTh (fun h11 => ?_)
      refine J_aload_n 1 dX6_readRule_140 rv_is rfl ?_
      refine J_G (fun g12 => ?_)
      refine J_getI kc_1 6 (by decide) rfl rfl kw_1_71 dX6_readRule_141 g12 ?_
      refine J_iconst (v := (-1)) dX6_readRule_144 rfl ?_
      refine J_icmp_ne (tgt := 150) dX6_readRule_145 rfl ?_ ?_
      · refine J_aload_n 0 dX6_readRule_150 rv_is rfl ?_
        refine J_G (fun g13 => ?_)
        refine J.callV (n := 0) (As := []) kc_6 (ctX6_step (lx x) (wx x) a0 h11) kw_3_130 kw_3_127 kw_3_128 kw_3_129 kw_1_4 (by decide +kernel) rfl (by decide) (Nat.zero_le _) rfl dX6_readRule_151 g13 (fun _ h14 => ?_)
        show J x _ _ 154 _ [] h14 _
        exact J_sub [0] rfl (jX6_readRule_B154 x a0 h14)
      · refine J_iconst (v := nI 0) dX6_readRule_148 rfl ?_
        exact J_zret dX6_readRule_149 (by decide)
  · refine J_iconst (v := nI 0) dX6_readRule_121 rfl ?_
    exact J_zret dX6_readRule_122 (by decide)
def X6_readRule_B92 (a0 : Nat) (a1 : Nat) (h : AH) : Option (Int32 × AH) :=
  G (xc h a0 = 6) <|
  BN (X6_stepTo_f a0 4 h) fun v3 h2 =>
  if v3 = 0 then (
    some (nI 0, h2)
  ) else (
    G (xc h2 a1 = 1) <|
    if (xI h2 a1 8) = 0 then (
      X6_readRule_B115 a0 a1 (nI 1) a1 a0 h2
    ) else (
      X6_readRule_B115 a0 a1 (nI 0) a1 a0 h2
    )
  )
theorem jX6_readRule_B92 (x : CT) (a0 : Nat) (a1 : Nat) (h : AH) : J x qX6_readRule ZI 92 [(0, rv (zx x) a0), (1, rv (zx x) a1)] [] h (X6_readRule_B92 a0 a1 h) := by
  unfold X6_readRule_B92
  refine J_aload_n 0 dX6_readRule_92 rv_is rfl ?_
  refine J_ldcS (i := 4) (tx := "if") (index := 122) (by decide +kernel) dX6_readRule_93 ?_
  refine J_G (fun g1 => ?_)
  refine J.callV (n := 1) (As := [sv (wx x) 4]) kc_6 (ctX6_stepTo (lx x) (wx x) a0 4 h) kw_3_226 kw_3_223 kw_3_224 kw_3_225 kw_1_4 (by decide +kernel) rfl (by decide) (Nat.zero_le _) rfl dX6_readRule_95 g1 (fun v3 h2 => ?_)
  show J x _ _ 98 _ [.int v3] h2 _
  refine J_if_eq (tgt := 121) dX6_readRule_98 rfl ?_ ?_
  · refine J_iconst (v := nI 0) dX6_readRule_121 rfl ?_
    exact J_zret dX6_readRule_122 (by decide)
  · refine J_aload_n 0 dX6_readRule_101 rv_is rfl ?_
    refine J_aload_n 1 dX6_readRule_102 rv_is rfl ?_
    refine J_aload_n 1 dX6_readRule_103 rv_is rfl ?_
    refine J_G (fun g4 => ?_)
    refine J_getI kc_1 8 (by decide) rfl rfl kw_1_81 dX6_readRule_104 g4 ?_
    refine J_if_ne (tgt := 114) dX6_readRule_107 rfl ?_ ?_
    · refine J_iconst (v := nI 0) dX6_readRule_114 rfl ?_
      exact (jX6_readRule_B115 x a0 a1 (nI 0) a1 a0 h2)
    · refine J_iconst (v := nI 1) dX6_readRule_110 rfl ?_
      refine J_goto (tgt := 115) dX6_readRule_111 rfl ?_
      exact (jX6_readRule_B115 x a0 a1 (nI 1) a1 a0 h2)
def X6_readRule_f (a0 : Nat) (h : AH) : Option (Int32 × AH) :=
  G (xc h a0 = 6) <|
  G (xc h (xR h a0 10) = 0) <|
  if (xI h (xR h a0 10) 3) = (nI 10) then (
    G (xc h a0 = 6) <|
    BN (X6_flawed_f a0 (nI 5) h) fun v34 h33 =>
    G (bz v34) <|
    some (v34, h33)
  ) else (
    G (xc h a0 = 6) <|
    G (xc h (xR h a0 10) = 0) <|
    G (xc h (xR h (xR h a0 10) 10) = 20) <|
    G (gx (xI h (xR h a0 10) 3) (xz h (xR h (xR h a0 10) 10))) <|
    LT (xR h (xR h (xR h a0 10) 10) (xI h (xR h a0 10) 3).toNatClampNeg) fun r7 =>
    G (xc h r7 = 1) <|
    BN (X1_wipe_f r7 h) fun _ h9 =>
    G (xc h9 a0 = 6) <|
    BN (X6_stepToRow_f a0 h9) fun v12 h11 =>
    G (xc h11 r7 = 1) <|
    LT (pI h11 r7 3 v12) fun h14 =>
    G (xc h14 r7 = 1) <|
    if (xI h14 r7 3) = (-1) then (
      some (nI 0, h14)
    ) else (
      G (xc h14 a0 = 6) <|
      BN (X6_step_f a0 h14) fun _ h17 =>
      G (xc h17 a0 = 6) <|
      BN (X6_spells_f a0 10 h17) fun v20 h19 =>
      G (xc h19 r7 = 1) <|
      G (bz v20) <|
      LT (pI h19 r7 8 v20) fun h22 =>
      G (xc h22 r7 = 1) <|
      if (xI h22 r7 8) = 0 then (
        G (xc h22 a0 = 6) <|
        BN (X6_spells_f a0 8 h22) fun v27 h26 =>
        if v27 = 0 then (
          G (xc h26 a0 = 6) <|
          BN (X6_flawed_f a0 (nI 1) h26) fun v30 h29 =>
          G (bz v30) <|
          some (v30, h29)
        ) else (
          X6_readRule_B92 a0 r7 h26
        )
      ) else (
        X6_readRule_B92 a0 r7 h22
      )
    )
  )
theorem jX6_readRule (x : CT) (a0 : Nat) (h : AH) : J x qX6_readRule ZI 0 [(0, rv (zx x) a0)] [] h (X6_readRule_f a0 h) := by
  unfold X6_readRule_f
  refine J_aload_n 0 dX6_readRule_0 rv_is rfl ?_
  refine J_G (fun g1 => ?_)
  refine J_getR kc_6 10 (by decide) rfl rfl kw_1_218 dX6_readRule_1 g1 ?_
  refine J_G (fun g2 => ?_)
  refine J_getI kc_0 3 (by decide) rfl rfl kw_1_123 dX6_readRule_4 g2 ?_
  refine J_bipush (v := nI 10) dX6_readRule_7 rfl ?_
  refine J_icmp_ne (tgt := 18) dX6_readRule_9 rfl ?_ ?_
  · refine J_aload_n 0 dX6_readRule_18 rv_is rfl ?_
    refine J_G (fun g3 => ?_)
    refine J_getR kc_6 10 (by decide) rfl rfl kw_1_218 dX6_readRule_19 g3 ?_
    refine J_G (fun g4 => ?_)
    refine J_getR kc_0 10 (by decide) rfl rfl kw_1_144 dX6_readRule_22 g4 ?_
    refine J_aload_n 0 dX6_readRule_25 rv_is rfl ?_
    refine J_getR kc_6 10 (by decide) rfl rfl kw_1_218 dX6_readRule_26 g3 ?_
    refine J_getI kc_0 3 (by decide) rfl rfl kw_1_123 dX6_readRule_29 g4 ?_
    refine J_G (fun g5 => ?_)
    refine J_G (fun g6 => ?_)
    refine J_aald (t := 20) (t0 := 4) (Cn := RX1) (by decide) (by decide) (fun _ => rfl) dX6_readRule_32 g5 g6 ?_
    refine J_LTr (fun r7 => ?_)
    refine J_astore_n rv_is dX6_readRule_33 (by decide) (SD.c (lvr := [(0, rv (zx x) a0)]) [0] rfl rfl 0 rfl rfl rv_cat) ?_
    refine J_aload_n 0 dX6_readRule_34 rv_is rfl ?_
    refine J_G (fun g8 => ?_)
    refine J.callV (n := 0) (As := []) kc_1 (ctX1_wipe (lx x) (wx x) r7 h) kw_4_29 kw_4_26 kw_4_27 kw_4_28 kw_1_3 (by decide +kernel) rfl (by decide) (Nat.zero_le _) rfl dX6_readRule_35 g8 (fun _ h9 => ?_)
    show J x _ _ 38 _ [] h9 _
    refine J_aload_n 0 dX6_readRule_38 rv_is rfl ?_
    refine J_aload_n 1 dX6_readRule_39 rv_is rfl ?_
    refine J_G (fun g10 => ?_)
    refine J.callV (n := 0) (As := []) kc_6 (ctX6_stepToRow (lx x) (wx x) a0 h9) kw_4_16 kw_4_13 kw_4_14 kw_4_15 kw_1_4 (by decide +kernel) rfl (by decide) (by simp [rv_cat, cat_I, cat_L, cat_S]) rfl dX6_readRule_40 g10 (fun v12 h11 => ?_)
    show J x _ _ 43 _ [.int v12, rv (zx x) r7] h11 _
    refine J_G (fun g13 => ?_)
    refine J_putI kc_1 3 (by decide) rfl rfl rfl rfl (Or.inl rfl) kw_1_63 dX6_readRule_43 g13 ?_
    refine J_LTh (fun h14 => ?_)
    refine J_aload_n 0 dX6_readRule_46 rv_is rfl ?_
    refine J_G (fun g15 => ?_)
    refine J_getI kc_1 3 (by decide) rfl rfl kw_1_63 dX6_readRule_47 g15 ?_
    refine J_iconst (v := (-1)) dX6_readRule_50 rfl ?_
    refine J_icmp_ne (tgt := 56) dX6_readRule_51 rfl ?_ ?_
    · refine J_aload_n 1 dX6_readRule_56 rv_is rfl ?_
      refine J_G (fun g16 => ?_)
      refine J.callV (n := 0) (As := []) kc_6 (ctX6_step (lx x) (wx x) a0 h14) kw_3_130 kw_3_127 kw_3_128 kw_3_129 kw_1_4 (by decide +kernel) rfl (by decide) (Nat.zero_le _) rfl dX6_readRule_57 g16 (fun _ h17 => ?_)
      show J x _ _ 60 _ [] h17 _
      refine J_aload_n 0 dX6_readRule_60 rv_is rfl ?_
      refine J_aload_n 1 dX6_readRule_61 rv_is rfl ?_
      refine J_ldcS (i := 10) (tx := "now") (index := 184) (by decide +kernel) dX6_readRule_62 ?_
      refine J_G (fun g18 => ?_)
      refine J.callV (n := 1) (As := [sv (wx x) 10]) kc_6 (ctX6_spells (lx x) (wx x) a0 10 h17) kw_3_135 kw_3_132 kw_3_133 kw_3_134 kw_1_4 (by decide +kernel) rfl (by decide) (by simp [rv_cat, cat_I, cat_L, cat_S]) rfl dX6_readRule_64 g18 (fun v20 h19 => ?_)
      show J x _ _ 67 _ [.int v20, rv (zx x) r7] h19 _
      refine J_G (fun g21 => ?_)
      refine J_G (fun g23 => ?_)
      refine J_putI kc_1 8 (by decide) rfl rfl (bz_nar g23) (bz_fit g23) (Or.inl rfl) kw_1_81 dX6_readRule_67 g21 ?_
      refine J_LTh (fun h22 => ?_)
      refine J_aload_n 0 dX6_readRule_70 rv_is rfl ?_
      refine J_G (fun g24 => ?_)
      refine J_getI kc_1 8 (by decide) rfl rfl kw_1_81 dX6_readRule_71 g24 ?_
      refine J_if_ne (tgt := 92) dX6_readRule_74 rfl ?_ ?_
      · exact J_sub [1, 0] rfl (jX6_readRule_B92 x a0 r7 h22)
      · refine J_aload_n 1 dX6_readRule_77 rv_is rfl ?_
        refine J_ldcS (i := 8) (tx := "next") (index := 189) (by decide +kernel) dX6_readRule_78 ?_
        refine J_G (fun g25 => ?_)
        refine J.callV (n := 1) (As := [sv (wx x) 8]) kc_6 (ctX6_spells (lx x) (wx x) a0 8 h22) kw_3_135 kw_3_132 kw_3_133 kw_3_134 kw_1_4 (by decide +kernel) rfl (by decide) (Nat.zero_le _) rfl dX6_readRule_80 g25 (fun v27 h26 => ?_)
        show J x _ _ 83 _ [.int v27] h26 _
        refine J_if_ne (tgt := 92) dX6_readRule_83 rfl ?_ ?_
        · exact J_sub [1, 0] rfl (jX6_readRule_B92 x a0 r7 h26)
        · refine J_aload_n 1 dX6_readRule_86 rv_is rfl ?_
          refine J_iconst (v := nI 1) dX6_readRule_87 rfl ?_
          refine J_G (fun g28 => ?_)
          refine J.callV (n := 1) (As := [.int (nI 1)]) kc_6 (ctX6_flawed (lx x) (wx x) a0 (nI 1) h26) kw_3_213 kw_3_210 kw_3_211 kw_3_212 kw_1_4 (by decide +kernel) rfl (by decide) (Nat.zero_le _) rfl dX6_readRule_88 g28 (fun v30 h29 => ?_)
          show J x _ _ 91 _ [.int v30] h29 _
          refine J_G (fun g31 => ?_)
          exact J_zret dX6_readRule_91 g31
    · refine J_iconst (v := nI 0) dX6_readRule_54 rfl ?_
      exact J_zret dX6_readRule_55 (by decide)
  · refine J_aload_n 0 dX6_readRule_12 rv_is rfl ?_
    refine J_iconst (v := nI 5) dX6_readRule_13 rfl ?_
    refine J_G (fun g32 => ?_)
    refine J.callV (n := 1) (As := [.int (nI 5)]) kc_6 (ctX6_flawed (lx x) (wx x) a0 (nI 5) h) kw_3_213 kw_3_210 kw_3_211 kw_3_212 kw_1_4 (by decide +kernel) rfl (by decide) (Nat.zero_le _) rfl dX6_readRule_14 g32 (fun v34 h33 => ?_)
    show J x _ _ 17 _ [.int v34] h33 _
    refine J_G (fun g35 => ?_)
    exact J_zret dX6_readRule_17 g35
theorem ctX6_readRule (l : Launch) (w : WT) (a0 : Nat) (h : AH) : CM l w yX6_readRule cX6_readRule 2 (some .boolean) 8 173 KI [rv (w.1) a0] h (X6_readRule_f a0 h) :=
  CM.of (by decide +kernel) (by simp [lg_sl, rv_cat, cat_I, cat_L, cat_S]) (lv := [(0, rv (w.1) a0)]) (by simp [lv_args, rv_cat, cat_I, cat_L, cat_S]) (fun x hx => by subst hx; exact jX6_readRule x a0 h)
-- FallTrials$Support.settle(II)V
abbrev qX7_settle : MT := (cX7_settle, RX7, "settle", none, 3, 81, 6)
def X7_settle_B115 (a0 : Nat) (i1 : Int32) (i2 : Int32) (h : AH) : Option (Unit × AH) :=
  G (xc h a0 = 7) <|
  BN (X7_addNow_f a0 i1 i2 h) fun _ h2 =>
  some ((), h2)
theorem jX7_settle_B115 (x : CT) (a0 : Nat) (i1 : Int32) (i2 : Int32) (h : AH) : J x qX7_settle ZV 115 [(0, rv (zx x) a0), (1, .int i1), (2, .int i2)] [] h (X7_settle_B115 a0 i1 i2 h) := by
  unfold X7_settle_B115
  refine J_aload_n 0 dX7_settle_115 rv_is rfl ?_
  refine J_iload_n 1 dX7_settle_116 rfl ?_
  refine J_iload_n 2 dX7_settle_117 rfl ?_
  refine J_G (fun g1 => ?_)
  refine J.callV (n := 2) (As := [.int i1, .int i2]) kc_7 (ctX7_addNow (lx x) (wx x) a0 i1 i2 h) kw_5_88 kw_5_85 kw_5_86 kw_5_87 kw_1_12 (by decide +kernel) rfl (by decide) (Nat.zero_le _) rfl dX7_settle_118 g1 (fun _ h2 => ?_)
  show J x _ _ 121 _ [] h2 _
  exact J_vret dX7_settle_121
def X7_settle_B40 (a0 : Nat) (i1 : Int32) (i2 : Int32) (h : AH) : Option (Unit × AH) :=
  G (xc h a0 = 7) <|
  G (xc h (xR h a0 3) = 8) <|
  BN (X11_cell_f i2 i1 h) fun v4 h3 =>
  G (xc h3 (xR h (xR h a0 3) 0) = 16) <|
  G (gx v4 (xz h3 (xR h (xR h a0 3) 0))) <|
  if (xI h3 (xR h (xR h a0 3) 0) v4.toNatClampNeg) = 0 then (
    some ((), h3)
  ) else (
    G (xc h3 a0 = 7) <|
    G (xc h3 (xR h3 a0 4) = 3) <|
    G (xc h3 (xR h3 (xR h3 a0 4) 2) = 17) <|
    G (gx ((i1 * (nI 7)) + i2) (xz h3 (xR h3 (xR h3 a0 4) 2))) <|
    LT ((xL h3 (xR h3 (xR h3 a0 4) 2) ((i1 * (nI 7)) + i2).toNatClampNeg) ^^^ (-1)) fun w11 =>
    if i2 = 0 then (
      G (xc h3 a0 = 7) <|
      BN (X7_addFacts_f a0 i1 w11 h3) fun _ h19 =>
      X7_settle_B115 a0 i1 i2 h19
    ) else (
      G (xc h3 a0 = 7) <|
      BN (X7_addWords_f a0 i1 i2 w11 h3) fun _ h13 =>
      G (xc h13 a0 = 7) <|
      BN (X7_addKept_f a0 i1 i2 w11 h13) fun _ h15 =>
      G (xc h15 a0 = 7) <|
      BN (X7_addNext_f a0 i1 i2 w11 h15) fun _ h17 =>
      X7_settle_B115 a0 i1 i2 h17
    )
  )
theorem jX7_settle_B40 (x : CT) (a0 : Nat) (i1 : Int32) (i2 : Int32) (h : AH) : J x qX7_settle ZV 40 [(0, rv (zx x) a0), (1, .int i1), (2, .int i2)] [] h (X7_settle_B40 a0 i1 i2 h) := by
  unfold X7_settle_B40
  refine J_aload_n 0 dX7_settle_40 rv_is rfl ?_
  refine J_G (fun g1 => ?_)
  refine J_getR kc_7 3 (by decide) rfl rfl kw_2_220 dX7_settle_41 g1 ?_
  refine J_G (fun g2 => ?_)
  refine J_getR kc_8 0 (by decide) rfl rfl kw_2_140 dX7_settle_44 g2 ?_
  refine J_iload_n 2 dX7_settle_47 rfl ?_
  refine J_iload_n 1 dX7_settle_48 rfl ?_
  refine J.callSN (n := 2) (As := [.int i2, .int i1]) (ctX11_cell (lx x) (wx x) i2 i1 h) kw_4_149 kn_7 kw_4_148 kw_1_1 (by decide +kernel) rfl (by decide) (by simp [rv_cat, cat_I, cat_L, cat_S]) rfl dX7_settle_49 (fun v4 h3 => ?_)
  show J x _ _ 52 _ [.int v4, rv (zx x) (xR h (xR h a0 3) 0)] h3 _
  refine J_G (fun g5 => ?_)
  refine J_G (fun g6 => ?_)
  refine J_iald dX7_settle_52 g5 g6 ?_
  refine J_if_ne (tgt := 57) dX7_settle_53 rfl ?_ ?_
  · refine J_aload_n 0 dX7_settle_57 rv_is rfl ?_
    refine J_G (fun g7 => ?_)
    refine J_getR kc_7 4 (by decide) rfl rfl kw_2_221 dX7_settle_58 g7 ?_
    refine J_G (fun g8 => ?_)
    refine J_getR kc_3 2 (by decide) rfl rfl kw_2_122 dX7_settle_61 g8 ?_
    refine J_iload_n 1 dX7_settle_64 rfl ?_
    refine J_bipush (v := nI 7) dX7_settle_65 rfl ?_
    refine J_imul dX7_settle_67 ?_
    refine J_iload_n 2 dX7_settle_68 rfl ?_
    refine J_iadd dX7_settle_69 ?_
    refine J_G (fun g9 => ?_)
    refine J_G (fun g10 => ?_)
    refine J_lald dX7_settle_70 g9 g10 ?_
    refine J_ldc2 (v := (-1)) dX7_settle_71 kw_5_52 ?_
    refine J_lxor dX7_settle_74 ?_
    refine J_LTl (fun w11 => ?_)
    refine J_lstore dX7_settle_75 (by decide) (SD.a (lvr := [(0, rv (zx x) a0), (1, .int i1), (2, .int i2)]) [0, 1, 2] rfl rfl) rfl ?_
    refine J_iload_n 3 dX7_settle_77 rfl ?_
    refine J_if_ne (tgt := 91) dX7_settle_78 rfl ?_ ?_
    · refine J_aload_n 1 dX7_settle_91 rv_is rfl ?_
      refine J_iload_n 2 dX7_settle_92 rfl ?_
      refine J_iload_n 3 dX7_settle_93 rfl ?_
      refine J_lload 0 dX7_settle_94 rfl ?_
      refine J_G (fun g12 => ?_)
      refine J.callV (n := 3) (As := [.int i1, .int i2, .long w11]) kc_7 (ctX7_addWords (lx x) (wx x) a0 i1 i2 w11 h3) kw_5_61 kw_5_58 kw_5_59 kw_5_60 kw_1_12 (by decide +kernel) rfl (by decide) (Nat.zero_le _) rfl dX7_settle_96 g12 (fun _ h13 => ?_)
      show J x _ _ 99 _ [] h13 _
      refine J_aload_n 1 dX7_settle_99 rv_is rfl ?_
      refine J_iload_n 2 dX7_settle_100 rfl ?_
      refine J_iload_n 3 dX7_settle_101 rfl ?_
      refine J_lload 0 dX7_settle_102 rfl ?_
      refine J_G (fun g14 => ?_)
      refine J.callV (n := 3) (As := [.int i1, .int i2, .long w11]) kc_7 (ctX7_addKept (lx x) (wx x) a0 i1 i2 w11 h13) kw_5_78 kw_5_75 kw_5_76 kw_5_77 kw_1_12 (by decide +kernel) rfl (by decide) (Nat.zero_le _) rfl dX7_settle_104 g14 (fun _ h15 => ?_)
      show J x _ _ 107 _ [] h15 _
      refine J_aload_n 1 dX7_settle_107 rv_is rfl ?_
      refine J_iload_n 2 dX7_settle_108 rfl ?_
      refine J_iload_n 3 dX7_settle_109 rfl ?_
      refine J_lload 0 dX7_settle_110 rfl ?_
      refine J_G (fun g16 => ?_)
      refine J.callV (n := 3) (As := [.int i1, .int i2, .long w11]) kc_7 (ctX7_addNext (lx x) (wx x) a0 i1 i2 w11 h15) kw_5_83 kw_5_80 kw_5_81 kw_5_82 kw_1_12 (by decide +kernel) rfl (by decide) (Nat.zero_le _) rfl dX7_settle_112 g16 (fun _ h17 => ?_)
      show J x _ _ 115 _ [] h17 _
      exact J_sub [1, 2, 3] rfl (jX7_settle_B115 x a0 i1 i2 h17)
    · refine J_aload_n 1 dX7_settle_81 rv_is rfl ?_
      refine J_iload_n 2 dX7_settle_82 rfl ?_
      refine J_lload 0 dX7_settle_83 rfl ?_
      refine J_G (fun g18 => ?_)
      refine J.callV (n := 2) (As := [.int i1, .long w11]) kc_7 (ctX7_addFacts (lx x) (wx x) a0 i1 w11 h3) kw_5_56 kw_5_53 kw_5_54 kw_5_55 kw_1_12 (by decide +kernel) rfl (by decide) (Nat.zero_le _) rfl dX7_settle_85 g18 (fun _ h19 => ?_)
      show J x _ _ 88 _ [] h19 _
      refine J_goto (tgt := 115) dX7_settle_88 rfl ?_
      exact J_sub [1, 2, 3] rfl (jX7_settle_B115 x a0 i1 i2 h19)
  · exact J_vret dX7_settle_56
def X7_settle_B12 : Nat → Nat → Int32 → Int32 → Int32 → Int32 → AH → Option (Unit × AH)
  | 0, _, _, _, _, _, _ => none
  | n + 1, a0, i1, i2, i3, i4, h =>
    G (xc h a0 = 7) <|
    G (xc h (xR h a0 2) = 0) <|
    if (xI h (xR h a0 2) 1) ≤ i4 then (
      X7_settle_B40 a0 i1 i2 h
    ) else (
      G (xc h a0 = 7) <|
      G (xc h (xR h a0 0) = 17) <|
      G (gx (i3 + i4) (xz h (xR h a0 0))) <|
      LT (pL h (xR h a0 0) (i3 + i4).toNatClampNeg (lN 0)) fun h6 =>
      LT (i4 + nI 1) fun v7 =>
      X7_settle_B12 n a0 i1 i2 i3 v7 h6
    )
theorem jX7_settle_B12 (x : CT) : ∀ (n : Nat) (a0 : Nat) (i1 : Int32) (i2 : Int32) (i3 : Int32) (i4 : Int32) (h : AH), J x qX7_settle ZV 12 [(0, rv (zx x) a0), (1, .int i1), (2, .int i2), (3, .int i3), (4, .int i4)] [] h (X7_settle_B12 n a0 i1 i2 i3 i4 h) := by
  intro n
  induction n with
  | zero => intro a0 i1 i2 i3 i4 h; exact J_none
  | succ n ih =>
    intro a0 i1 i2 i3 i4 h
    unfold X7_settle_B12
    refine J_iload 4 dX7_settle_12 rfl ?_
    refine J_aload_n 0 dX7_settle_14 rv_is rfl ?_
    refine J_G (fun g1 => ?_)
    refine J_getR kc_7 2 (by decide) rfl rfl kw_2_219 dX7_settle_15 g1 ?_
    refine J_G (fun g2 => ?_)
    refine J_getI kc_0 1 (by decide) rfl rfl kw_1_111 dX7_settle_18 g2 ?_
    refine J_icmp_ge (tgt := 40) dX7_settle_21 rfl ?_ ?_
    · exact J_sub [0, 1, 2] rfl (jX7_settle_B40 x a0 i1 i2 h)
    · refine J_aload_n 0 dX7_settle_24 rv_is rfl ?_
      refine J_G (fun g3 => ?_)
      refine J_getR kc_7 0 (by decide) rfl rfl kw_2_216 dX7_settle_25 g3 ?_
      refine J_iload_n 3 dX7_settle_28 rfl ?_
      refine J_iload 4 dX7_settle_29 rfl ?_
      refine J_iadd dX7_settle_31 ?_
      refine J_lconst (v := lN 0) dX7_settle_32 rfl ?_
      refine J_G (fun g4 => ?_)
      refine J_G (fun g5 => ?_)
      refine J_last dX7_settle_33 g4 g5 ?_
      refine J_LTh (fun h6 => ?_)
      refine J_iincL (u := i4 + nI 1) 4 dX7_settle_34 rfl rfl (by decide) (SD.a (lvr := [(0, rv (zx x) a0), (1, .int i1), (2, .int i2), (3, .int i3)]) [0, 1, 2, 3] rfl rfl) (fun v7 => ?_)
      refine J_goto (tgt := 12) dX7_settle_37 rfl ?_
      exact J_sub [1, 2, 3, 4, 0] rfl (ih a0 i1 i2 i3 v7 h6)
def X7_settle_f (a0 : Nat) (i1 : Int32) (i2 : Int32) (h : AH) : Option (Unit × AH) :=
  BN (X11_cell_f i2 i1 h) fun v2 h1 =>
  LT (v2 * (nI 10)) fun v3 =>
  X7_settle_B12 FU a0 i1 i2 v3 (nI 0) h1
theorem jX7_settle (x : CT) (a0 : Nat) (i1 : Int32) (i2 : Int32) (h : AH) : J x qX7_settle ZV 0 [(0, rv (zx x) a0), (1, .int i1), (2, .int i2)] [] h (X7_settle_f a0 i1 i2 h) := by
  unfold X7_settle_f
  refine J_iload_n 2 dX7_settle_0 rfl ?_
  refine J_iload_n 1 dX7_settle_1 rfl ?_
  refine J.callSN (n := 2) (As := [.int i2, .int i1]) (ctX11_cell (lx x) (wx x) i2 i1 h) kw_4_149 kn_7 kw_4_148 kw_1_1 (by decide +kernel) rfl (by decide) (Nat.zero_le _) rfl dX7_settle_2 (fun v2 h1 => ?_)
  show J x _ _ 5 _ [.int v2] h1 _
  refine J_bipush (v := nI 10) dX7_settle_5 rfl ?_
  refine J_imul dX7_settle_7 ?_
  refine J_LTi (fun v3 => ?_)
  refine J_istore_n dX7_settle_8 (by decide) (SD.a (lvr := [(0, rv (zx x) a0), (1, .int i1), (2, .int i2)]) [0, 1, 2] rfl rfl) ?_
  refine J_iconst (v := nI 0) dX7_settle_9 rfl ?_
  refine J_istore dX7_settle_10 (by decide) (SD.a (lvr := [(3, .int v3), (0, rv (zx x) a0), (1, .int i1), (2, .int i2)]) [0, 1, 2, 3] rfl rfl) ?_
  exact J_sub [2, 3, 4, 1, 0] rfl (jX7_settle_B12 x FU a0 i1 i2 v3 (nI 0) h1)
theorem ctX7_settle (l : Launch) (w : WT) (a0 : Nat) (i1 : Int32) (i2 : Int32) (h : AH) : CM l w yX7_settle cX7_settle 6 none 3 81 KV [rv (w.1) a0, .int i1, .int i2] h (X7_settle_f a0 i1 i2 h) :=
  CM.of (by decide +kernel) (by simp [lg_sl, rv_cat, cat_I, cat_L, cat_S]) (lv := [(0, rv (w.1) a0), (1, .int i1), (2, .int i2)]) (by simp [lv_args, rv_cat, cat_I, cat_L, cat_S]) (fun x hx => by subst hx; exact jX7_settle x a0 i1 i2 h)
-- FallTrials$Trace.followChain(LFallTrials$Works;[I)I
abbrev qX8_followChain : MT := (cX8_followChain, RX8, "followChain", (some .int), 4, 105, 7)
def X8_followChain_B51 (k12 : (Nat → Nat → Nat → Int32 → Int32 → Int32 → AH → Option (Int32 × AH))) (a0 : Nat) (a1 : Nat) (a2 : Nat) (i3 : Int32) (i4 : Int32) (i5 : Int32) (h : AH) : Option (Int32 × AH) :=
  G (xc h a2 = 16) <|
  G (gx i3 (xz h a2)) <|
  LT (pI h a2 i3.toNatClampNeg i4) fun h3 =>
  LT (i3 + nI 1) fun v4 =>
  G (xc h3 a0 = 8) <|
  BN (X8_linkBehind_f a0 a1 i4 h3) fun v7 h6 =>
  LT (i5 + nI 1) fun v8 =>
  k12 a0 a1 a2 v4 v7 v8 h6
theorem jX8_followChain_B51 (x : CT) (k12 : (Nat → Nat → Nat → Int32 → Int32 → Int32 → AH → Option (Int32 × AH))) (hk12 : ∀ (a0 : Nat) (a1 : Nat) (a2 : Nat) (i3 : Int32) (i4 : Int32) (i5 : Int32) (h : AH), J x qX8_followChain ZI 12 [(0, rv (zx x) a0), (1, rv (zx x) a1), (2, rv (zx x) a2), (3, .int i3), (4, .int i4), (5, .int i5)] [] h (k12 a0 a1 a2 i3 i4 i5 h)) (a0 : Nat) (a1 : Nat) (a2 : Nat) (i3 : Int32) (i4 : Int32) (i5 : Int32) (h : AH) : J x qX8_followChain ZI 51 [(0, rv (zx x) a0), (1, rv (zx x) a1), (2, rv (zx x) a2), (3, .int i3), (4, .int i4), (5, .int i5)] [] h (X8_followChain_B51 k12 a0 a1 a2 i3 i4 i5 h) := by
  unfold X8_followChain_B51
  refine J_aload_n 2 dX8_followChain_51 rv_is rfl ?_
  refine J_iload_n 3 dX8_followChain_52 rfl ?_
  refine J_iload 4 dX8_followChain_53 rfl ?_
  refine J_G (fun g1 => ?_)
  refine J_G (fun g2 => ?_)
  refine J_iast dX8_followChain_55 g1 g2 ?_
  refine J_LTh (fun h3 => ?_)
  refine J_iincL (u := i3 + nI 1) 3 dX8_followChain_56 rfl rfl (by decide) (SD.c (lvr := [(0, rv (zx x) a0), (1, rv (zx x) a1), (2, rv (zx x) a2), (4, .int i4), (5, .int i5)]) [0, 1, 2, 4, 5] rfl rfl 2 rfl rfl rv_cat) (fun v4 => ?_)
  refine J_aload_n 1 dX8_followChain_59 rv_is rfl ?_
  refine J_aload_n 2 dX8_followChain_60 rv_is rfl ?_
  refine J_iload 4 dX8_followChain_61 rfl ?_
  refine J_G (fun g5 => ?_)
  refine J.callV (n := 2) (As := [rv (zx x) a1, .int i4]) kc_8 (ctX8_linkBehind (lx x) (wx x) a0 a1 i4 h3) kw_6_149 kw_6_146 kw_6_147 kw_6_148 kw_1_10 (by decide +kernel) rfl (by decide) (Nat.zero_le _) rfl dX8_followChain_63 g5 (fun v7 h6 => ?_)
  show J x _ _ 66 _ [.int v7] h6 _
  refine J_istore dX8_followChain_66 (by decide) (SD.a (lvr := [(3, .int v4), (0, rv (zx x) a0), (1, rv (zx x) a1), (2, rv (zx x) a2), (5, .int i5)]) [0, 1, 2, 3, 5] rfl rfl) ?_
  refine J_iincL (u := i5 + nI 1) 5 dX8_followChain_68 rfl rfl (by decide) (SD.a (lvr := [(4, .int v7), (3, .int v4), (0, rv (zx x) a0), (1, rv (zx x) a1), (2, rv (zx x) a2)]) [0, 1, 2, 3, 4] rfl rfl) (fun v8 => ?_)
  refine J_goto (tgt := 12) dX8_followChain_71 rfl ?_
  exact J_sub [3, 4, 5, 2, 1, 0] rfl (hk12 a0 a1 a2 v4 v7 v8 h6)
def X8_followChain_B28 (k12 : (Nat → Nat → Nat → Int32 → Int32 → Int32 → AH → Option (Int32 × AH))) : Nat → Nat → Nat → Nat → Int32 → Int32 → Int32 → Int32 → AH → Option (Int32 × AH)
  | 0, _, _, _, _, _, _, _, _ => none
  | n + 1, a0, a1, a2, i3, i4, i5, i6, h =>
    if i3 ≤ i6 then (
      X8_followChain_B51 k12 a0 a1 a2 i3 i4 i5 h
    ) else (
      G (xc h a2 = 16) <|
      G (gx i6 (xz h a2)) <|
      if (xI h a2 i6.toNatClampNeg) = i4 then (
        some (i3, h)
      ) else (
        LT (i6 + nI 1) fun v3 =>
        X8_followChain_B28 k12 n a0 a1 a2 i3 i4 i5 v3 h
      )
    )
theorem jX8_followChain_B28 (x : CT) (k12 : (Nat → Nat → Nat → Int32 → Int32 → Int32 → AH → Option (Int32 × AH))) (hk12 : ∀ (a0 : Nat) (a1 : Nat) (a2 : Nat) (i3 : Int32) (i4 : Int32) (i5 : Int32) (h : AH), J x qX8_followChain ZI 12 [(0, rv (zx x) a0), (1, rv (zx x) a1), (2, rv (zx x) a2), (3, .int i3), (4, .int i4), (5, .int i5)] [] h (k12 a0 a1 a2 i3 i4 i5 h)) : ∀ (n : Nat) (a0 : Nat) (a1 : Nat) (a2 : Nat) (i3 : Int32) (i4 : Int32) (i5 : Int32) (i6 : Int32) (h : AH), J x qX8_followChain ZI 28 [(0, rv (zx x) a0), (1, rv (zx x) a1), (2, rv (zx x) a2), (3, .int i3), (4, .int i4), (5, .int i5), (6, .int i6)] [] h (X8_followChain_B28 k12 n a0 a1 a2 i3 i4 i5 i6 h) := by
  intro n
  induction n with
  | zero => intro a0 a1 a2 i3 i4 i5 i6 h; exact J_none
  | succ n ih =>
    intro a0 a1 a2 i3 i4 i5 i6 h
    unfold X8_followChain_B28
    refine J_iload 6 dX8_followChain_28 rfl ?_
    refine J_iload_n 3 dX8_followChain_30 rfl ?_
    refine J_icmp_ge (tgt := 51) dX8_followChain_31 rfl ?_ ?_
    · exact J_sub [0, 1, 2, 3, 4, 5] rfl (jX8_followChain_B51 x k12 hk12 a0 a1 a2 i3 i4 i5 h)
    · refine J_aload_n 2 dX8_followChain_34 rv_is rfl ?_
      refine J_iload 6 dX8_followChain_35 rfl ?_
      refine J_G (fun g1 => ?_)
      refine J_G (fun g2 => ?_)
      refine J_iald dX8_followChain_37 g1 g2 ?_
      refine J_iload 4 dX8_followChain_38 rfl ?_
      refine J_icmp_ne (tgt := 45) dX8_followChain_40 rfl ?_ ?_
      · refine J_iincL (u := i6 + nI 1) 6 dX8_followChain_45 rfl rfl (by decide) (SD.a (lvr := [(0, rv (zx x) a0), (1, rv (zx x) a1), (2, rv (zx x) a2), (3, .int i3), (4, .int i4), (5, .int i5)]) [0, 1, 2, 3, 4, 5] rfl rfl) (fun v3 => ?_)
        refine J_goto (tgt := 28) dX8_followChain_48 rfl ?_
        exact J_sub [1, 2, 3, 4, 5, 6, 0] rfl (ih a0 a1 a2 i3 i4 i5 v3 h)
      · refine J_iload_n 3 dX8_followChain_43 rfl ?_
        exact J_iret dX8_followChain_44
def X8_followChain_B12 : Nat → Nat → Nat → Nat → Int32 → Int32 → Int32 → AH → Option (Int32 × AH)
  | 0, _, _, _, _, _, _, _ => none
  | n + 1, a0, a1, a2, i3, i4, i5, h =>
    G (xc h a2 = 16) <|
    if (nI (xz h a2)) ≤ i5 then (
      some (i3, h)
    ) else (
      if i4 = (-1) then (
        some (i3, h)
      ) else (
        X8_followChain_B28 (X8_followChain_B12 n) FU a0 a1 a2 i3 i4 i5 (nI 0) h
      )
    )
theorem jX8_followChain_B12 (x : CT) : ∀ (n : Nat) (a0 : Nat) (a1 : Nat) (a2 : Nat) (i3 : Int32) (i4 : Int32) (i5 : Int32) (h : AH), J x qX8_followChain ZI 12 [(0, rv (zx x) a0), (1, rv (zx x) a1), (2, rv (zx x) a2), (3, .int i3), (4, .int i4), (5, .int i5)] [] h (X8_followChain_B12 n a0 a1 a2 i3 i4 i5 h) := by
  intro n
  induction n with
  | zero => intro a0 a1 a2 i3 i4 i5 h; exact J_none
  | succ n ih =>
    intro a0 a1 a2 i3 i4 i5 h
    unfold X8_followChain_B12
    refine J_iload 5 dX8_followChain_12 rfl ?_
    refine J_aload_n 2 dX8_followChain_14 rv_is rfl ?_
    refine J_G (fun g1 => ?_)
    refine J_alen16 dX8_followChain_15 g1 ?_
    refine J_icmp_ge (tgt := 74) dX8_followChain_16 rfl ?_ ?_
    · refine J_iload_n 3 dX8_followChain_74 rfl ?_
      exact J_iret dX8_followChain_75
    · refine J_iload 4 dX8_followChain_19 rfl ?_
      refine J_iconst (v := (-1)) dX8_followChain_21 rfl ?_
      refine J_icmp_eq (tgt := 74) dX8_followChain_22 rfl ?_ ?_
      · refine J_iload_n 3 dX8_followChain_74 rfl ?_
        exact J_iret dX8_followChain_75
      · refine J_iconst (v := nI 0) dX8_followChain_25 rfl ?_
        refine J_istore dX8_followChain_26 (by decide) (SD.a (lvr := [(0, rv (zx x) a0), (1, rv (zx x) a1), (2, rv (zx x) a2), (3, .int i3), (4, .int i4), (5, .int i5)]) [0, 1, 2, 3, 4, 5] rfl rfl) ?_
        exact J_sub [1, 2, 3, 4, 5, 6, 0] rfl (jX8_followChain_B28 x (X8_followChain_B12 n) ih FU a0 a1 a2 i3 i4 i5 (nI 0) h)
def X8_followChain_f (a0 : Nat) (a1 : Nat) (a2 : Nat) (h : AH) : Option (Int32 × AH) :=
  G (xc h a0 = 8) <|
  BN (X8_firstLink_f a0 a1 h) fun v3 h2 =>
  X8_followChain_B12 FU a0 a1 a2 (nI 0) v3 (nI 0) h2
theorem jX8_followChain (x : CT) (a0 : Nat) (a1 : Nat) (a2 : Nat) (h : AH) : J x qX8_followChain ZI 0 [(0, rv (zx x) a0), (1, rv (zx x) a1), (2, rv (zx x) a2)] [] h (X8_followChain_f a0 a1 a2 h) := by
  unfold X8_followChain_f
  refine J_iconst (v := nI 0) dX8_followChain_0 rfl ?_
  refine J_istore_n dX8_followChain_1 (by decide) (SD.c (lvr := [(0, rv (zx x) a0), (1, rv (zx x) a1), (2, rv (zx x) a2)]) [0, 1, 2] rfl rfl 2 rfl rfl rv_cat) ?_
  refine J_aload_n 1 dX8_followChain_2 rv_is rfl ?_
  refine J_aload_n 2 dX8_followChain_3 rv_is rfl ?_
  refine J_G (fun g1 => ?_)
  refine J.callV (n := 1) (As := [rv (zx x) a1]) kc_8 (ctX8_firstLink (lx x) (wx x) a0 a1 h) kw_6_142 kw_6_139 kw_6_140 kw_6_141 kw_1_10 (by decide +kernel) rfl (by decide) (Nat.zero_le _) rfl dX8_followChain_4 g1 (fun v3 h2 => ?_)
  show J x _ _ 7 _ [.int v3] h2 _
  refine J_istore dX8_followChain_7 (by decide) (SD.a (lvr := [(3, .int (nI 0)), (0, rv (zx x) a0), (1, rv (zx x) a1), (2, rv (zx x) a2)]) [0, 1, 2, 3] rfl rfl) ?_
  refine J_iconst (v := nI 0) dX8_followChain_9 rfl ?_
  refine J_istore dX8_followChain_10 (by decide) (SD.a (lvr := [(4, .int v3), (3, .int (nI 0)), (0, rv (zx x) a0), (1, rv (zx x) a1), (2, rv (zx x) a2)]) [0, 1, 2, 3, 4] rfl rfl) ?_
  exact J_sub [3, 4, 5, 2, 1, 0] rfl (jX8_followChain_B12 x FU a0 a1 a2 (nI 0) v3 (nI 0) h2)
theorem ctX8_followChain (l : Launch) (w : WT) (a0 : Nat) (a1 : Nat) (a2 : Nat) (h : AH) : CM l w yX8_followChain cX8_followChain 7 (some .int) 4 105 KI [rv (w.1) a0, rv (w.1) a1, rv (w.1) a2] h (X8_followChain_f a0 a1 a2 h) :=
  CM.of (by decide +kernel) (by simp [lg_sl, rv_cat, cat_I, cat_L, cat_S]) (lv := [(0, rv (w.1) a0), (1, rv (w.1) a1), (2, rv (w.1) a2)]) (by simp [lv_args, rv_cat, cat_I, cat_L, cat_S]) (fun x hx => by subst hx; exact jX8_followChain x a0 a1 a2 h)
-- FallTrials$Trials.play(LFallTrials$Works;LFallTrials$Numbers;LFallTrials$Trace;)V
abbrev qX9_play : MT := (cX9_play, RX9, "play", none, 4, 112, 4)
def X9_play_f (a0 : Nat) (a1 : Nat) (a2 : Nat) (a3 : Nat) (h : AH) : Option (Unit × AH) :=
  G (xc h a0 = 9) <|
  G (xc h (xR h a0 1) = 3) <|
  BN (X3_putAll_f (xR h a0 1) a2 h) fun _ h3 =>
  G (xc h3 a0 = 9) <|
  G (xc h3 (xR h3 a0 8) = 2) <|
  BN (X2_go_f (xR h3 a0 8) a1 (xR h3 a0 1) h3) fun _ h6 =>
  G (xc h6 a0 = 9) <|
  G (xc h6 a3 = 8) <|
  BN (X8_take_f a3 a1 (xR h6 a0 1) (xR h6 a0 8) h6) fun _ h9 =>
  some ((), h9)
theorem jX9_play (x : CT) (a0 : Nat) (a1 : Nat) (a2 : Nat) (a3 : Nat) (h : AH) : J x qX9_play ZV 0 [(0, rv (zx x) a0), (1, rv (zx x) a1), (2, rv (zx x) a2), (3, rv (zx x) a3)] [] h (X9_play_f a0 a1 a2 a3 h) := by
  unfold X9_play_f
  refine J_aload_n 0 dX9_play_0 rv_is rfl ?_
  refine J_G (fun g1 => ?_)
  refine J_getR kc_9 1 (by decide) rfl rfl kw_2_235 dX9_play_1 g1 ?_
  refine J_aload_n 2 dX9_play_4 rv_is rfl ?_
  refine J_G (fun g2 => ?_)
  refine J.callV (n := 1) (As := [rv (zx x) a2]) kc_3 (ctX3_putAll (lx x) (wx x) (xR h a0 1) a2 h) kw_4_120 kw_4_117 kw_4_118 kw_4_119 kw_1_9 (by decide +kernel) rfl (by decide) (Nat.zero_le _) rfl dX9_play_5 g2 (fun _ h3 => ?_)
  show J x _ _ 8 _ [] h3 _
  refine J_aload_n 0 dX9_play_8 rv_is rfl ?_
  refine J_G (fun g4 => ?_)
  refine J_getR kc_9 8 (by decide) rfl rfl kw_3_4 dX9_play_9 g4 ?_
  refine J_aload_n 1 dX9_play_12 rv_is rfl ?_
  refine J_aload_n 0 dX9_play_13 rv_is rfl ?_
  refine J_getR kc_9 1 (by decide) rfl rfl kw_2_235 dX9_play_14 g4 ?_
  refine J_G (fun g5 => ?_)
  refine J.callV (n := 2) (As := [rv (zx x) a1, rv (zx x) (xR h3 a0 1)]) kc_2 (ctX2_go (lx x) (wx x) (xR h3 a0 8) a1 (xR h3 a0 1) h3) kw_4_140 kw_4_137 kw_4_138 kw_4_139 kw_1_11 (by decide +kernel) rfl (by decide) (Nat.zero_le _) rfl dX9_play_17 g5 (fun _ h6 => ?_)
  show J x _ _ 20 _ [] h6 _
  refine J_aload_n 3 dX9_play_20 rv_is rfl ?_
  refine J_aload_n 1 dX9_play_21 rv_is rfl ?_
  refine J_aload_n 0 dX9_play_22 rv_is rfl ?_
  refine J_G (fun g7 => ?_)
  refine J_getR kc_9 1 (by decide) rfl rfl kw_2_235 dX9_play_23 g7 ?_
  refine J_aload_n 0 dX9_play_26 rv_is rfl ?_
  refine J_getR kc_9 8 (by decide) rfl rfl kw_3_4 dX9_play_27 g7 ?_
  refine J_G (fun g8 => ?_)
  refine J.callV (n := 3) (As := [rv (zx x) a1, rv (zx x) (xR h6 a0 1), rv (zx x) (xR h6 a0 8)]) kc_8 (ctX8_take (lx x) (wx x) a3 a1 (xR h6 a0 1) (xR h6 a0 8) h6) kw_4_193 kw_4_190 kw_4_191 kw_4_192 kw_1_10 (by decide +kernel) rfl (by decide) (Nat.zero_le _) rfl dX9_play_30 g8 (fun _ h9 => ?_)
  show J x _ _ 33 _ [] h9 _
  exact J_vret dX9_play_33
theorem ctX9_play (l : Launch) (w : WT) (a0 : Nat) (a1 : Nat) (a2 : Nat) (a3 : Nat) (h : AH) : CM l w yX9_play cX9_play 4 none 4 112 KV [rv (w.1) a0, rv (w.1) a1, rv (w.1) a2, rv (w.1) a3] h (X9_play_f a0 a1 a2 a3 h) :=
  CM.of (by decide +kernel) (by simp [lg_sl, rv_cat, cat_I, cat_L, cat_S]) (lv := [(0, rv (w.1) a0), (1, rv (w.1) a1), (2, rv (w.1) a2), (3, rv (w.1) a3)]) (by simp [lv_args, rv_cat, cat_I, cat_L, cat_S]) (fun x hx => by subst hx; exact jX9_play x a0 a1 a2 a3 h)
-- FallTrials$Trials.runAll(LFallTrials$Works;)I
abbrev qX9_runAll : MT := (cX9_runAll, RX9, "runAll", (some .int), 4, 112, 6)
def X9_runAll_B125 (k19 : (Nat → Nat → Int32 → Int32 → AH → Option (Int32 × AH))) (a0 : Nat) (a1 : Nat) (i2 : Int32) (i3 : Int32) (h : AH) : Option (Int32 × AH) :=
  LT (i3 + nI 1) fun v1 =>
  k19 a0 a1 i2 v1 h
theorem jX9_runAll_B125 (x : CT) (k19 : (Nat → Nat → Int32 → Int32 → AH → Option (Int32 × AH))) (hk19 : ∀ (a0 : Nat) (a1 : Nat) (i2 : Int32) (i3 : Int32) (h : AH), J x qX9_runAll ZI 19 [(0, rv (zx x) a0), (1, rv (zx x) a1), (2, .int i2), (3, .int i3)] [] h (k19 a0 a1 i2 i3 h)) (a0 : Nat) (a1 : Nat) (i2 : Int32) (i3 : Int32) (h : AH) : J x qX9_runAll ZI 125 [(0, rv (zx x) a0), (1, rv (zx x) a1), (2, .int i2), (3, .int i3)] [] h (X9_runAll_B125 k19 a0 a1 i2 i3 h) := by
  unfold X9_runAll_B125
  refine J_iincL (u := i3 + nI 1) 3 dX9_runAll_125 rfl rfl (by decide) (SD.a (lvr := [(0, rv (zx x) a0), (1, rv (zx x) a1), (2, .int i2)]) [0, 1, 2] rfl rfl) (fun v1 => ?_)
  refine J_goto (tgt := 19) dX9_runAll_128 rfl ?_
  exact J_sub [1, 2, 3, 0] rfl (hk19 a0 a1 i2 v1 h)
def X9_runAll_B117 (k19 : (Nat → Nat → Int32 → Int32 → AH → Option (Int32 × AH))) (a0 : Nat) (a1 : Nat) (i2 : Int32) (i3 : Int32) (l4 : Int64) (h : AH) : Option (Int32 × AH) :=
  BN (J13_bitCount_95d88_f l4 h) fun v2 h1 =>
  LT (i2 + v2) fun v3 =>
  X9_runAll_B125 k19 a0 a1 v3 i3 h1
theorem jX9_runAll_B117 (x : CT) (k19 : (Nat → Nat → Int32 → Int32 → AH → Option (Int32 × AH))) (hk19 : ∀ (a0 : Nat) (a1 : Nat) (i2 : Int32) (i3 : Int32) (h : AH), J x qX9_runAll ZI 19 [(0, rv (zx x) a0), (1, rv (zx x) a1), (2, .int i2), (3, .int i3)] [] h (k19 a0 a1 i2 i3 h)) (a0 : Nat) (a1 : Nat) (i2 : Int32) (i3 : Int32) (l4 : Int64) (h : AH) : J x qX9_runAll ZI 117 [(0, rv (zx x) a0), (1, rv (zx x) a1), (2, .int i2), (3, .int i3), (4, .long l4)] [] h (X9_runAll_B117 k19 a0 a1 i2 i3 l4 h) := by
  unfold X9_runAll_B117
  refine J_iload_n 2 dX9_runAll_117 rfl ?_
  refine J_lload 4 dX9_runAll_118 rfl ?_
  refine J.callS (n := 1) (As := [.long l4]) (ctJ13_bitCount_95d88 (lx x) (wx x) l4 h) kw_5_192 kw_5_190 kw_5_191 kw_1_28 (by decide +kernel) rfl (by decide) (by simp [rv_cat, cat_I, cat_L, cat_S]) rfl dX9_runAll_120 (fun v2 h1 => ?_)
  show J x _ _ 123 _ [.int v2, .int i2] h1 _
  refine J_iadd dX9_runAll_123 ?_
  refine J_LTi (fun v3 => ?_)
  refine J_istore_n dX9_runAll_124 (by decide) (SD.c (lvr := [(0, rv (zx x) a0), (1, rv (zx x) a1), (3, .int i3)]) [0, 1, 3] rfl rfl 1 rfl rfl rv_cat) ?_
  exact J_sub [1, 2, 0, 3] rfl (jX9_runAll_B125 x k19 hk19 a0 a1 v3 i3 h1)
def X9_runAll_B19 : Nat → Nat → Nat → Int32 → Int32 → AH → Option (Int32 × AH)
  | 0, _, _, _, _, _ => none
  | n + 1, a0, a1, i2, i3, h =>
    if (nI 1000000) ≤ i3 then (
      some (i2, h)
    ) else (
      G (xc h a0 = 9) <|
      G (xc h (xR h a0 0) = 5) <|
      BN (X5_advance_f (xR h a0 0) h) fun v4 h3 =>
      if v4 = 0 then (
        some (i2, h3)
      ) else (
        G (xc h3 a0 = 9) <|
        G (xc h3 (xR h3 a0 0) = 5) <|
        BN (X5_spread_f (xR h3 a0 0) (xR h3 a0 2) h3) fun _ h7 =>
        G (xc h7 a0 = 9) <|
        G (xc h7 (xR h7 a0 0) = 5) <|
        if (lg_cmp (xL h7 (xR h7 a0 0) 7) (lN 0)) = 0 then (
          X9_runAll_B125 (X9_runAll_B19 n) a0 a1 i2 i3 h7
        ) else (
          G (xc h7 a0 = 9) <|
          G (xc h7 (xR h7 a0 8) = 2) <|
          BN (X2_go_f (xR h7 a0 8) a1 (xR h7 a0 2) h7) fun _ h12 =>
          G (xc h12 a0 = 9) <|
          G (xc h12 (xR h12 a0 8) = 2) <|
          G (xc h12 (xR h12 a0 0) = 5) <|
          LT ((xL h12 (xR h12 a0 8) 5) &&& (xL h12 (xR h12 a0 0) 7)) fun w16 =>
          if (lg_cmp w16 (lN 0)) = 0 then (
            X9_runAll_B117 (X9_runAll_B19 n) a0 a1 i2 i3 w16 h12
          ) else (
            if i2 = 0 then (
              G (xc h12 a0 = 9) <|
              BN (J13_numberOfTrailingZeros_95d88_f w16 h12) fun v19 h18 =>
              G (xc h18 a0 = 9) <|
              G (xc h18 (xR h12 a0 0) = 5) <|
              BN (X5_writeSet_f (xR h12 a0 0) v19 (xR h18 a0 6) h18) fun _ h22 =>
              X9_runAll_B117 (X9_runAll_B19 n) a0 a1 i2 i3 w16 h22
            ) else (
              X9_runAll_B117 (X9_runAll_B19 n) a0 a1 i2 i3 w16 h12
            )
          )
        )
      )
    )
theorem jX9_runAll_B19 (x : CT) : ∀ (n : Nat) (a0 : Nat) (a1 : Nat) (i2 : Int32) (i3 : Int32) (h : AH), J x qX9_runAll ZI 19 [(0, rv (zx x) a0), (1, rv (zx x) a1), (2, .int i2), (3, .int i3)] [] h (X9_runAll_B19 n a0 a1 i2 i3 h) := by
  intro n
  induction n with
  | zero => intro a0 a1 i2 i3 h; exact J_none
  | succ n ih =>
    intro a0 a1 i2 i3 h
    unfold X9_runAll_B19
    refine J_iload_n 3 dX9_runAll_19 rfl ?_
    refine J_ldc (v := nI 1000000) dX9_runAll_20 (kw_5_126 : Cond.constant _ _ (nI 1000000) ∈ WG) ?_
    refine J_icmp_ge (tgt := 131) dX9_runAll_22 rfl ?_ ?_
    · refine J_iload_n 2 dX9_runAll_131 rfl ?_
      exact J_iret dX9_runAll_132
    · refine J_aload_n 0 dX9_runAll_25 rv_is rfl ?_
      refine J_G (fun g1 => ?_)
      refine J_getR kc_9 0 (by decide) rfl rfl kw_2_233 dX9_runAll_26 g1 ?_
      refine J_G (fun g2 => ?_)
      refine J.callV (n := 0) (As := []) kc_5 (ctX5_advance (lx x) (wx x) (xR h a0 0) h) kw_5_130 kw_5_127 kw_5_128 kw_5_129 kw_1_8 (by decide +kernel) rfl (by decide) (Nat.zero_le _) rfl dX9_runAll_29 g2 (fun v4 h3 => ?_)
      show J x _ _ 32 _ [.int v4] h3 _
      refine J_if_eq (tgt := 131) dX9_runAll_32 rfl ?_ ?_
      · refine J_iload_n 2 dX9_runAll_131 rfl ?_
        exact J_iret dX9_runAll_132
      · refine J_aload_n 0 dX9_runAll_35 rv_is rfl ?_
        refine J_G (fun g5 => ?_)
        refine J_getR kc_9 0 (by decide) rfl rfl kw_2_233 dX9_runAll_36 g5 ?_
        refine J_aload_n 0 dX9_runAll_39 rv_is rfl ?_
        refine J_getR kc_9 2 (by decide) rfl rfl kw_2_236 dX9_runAll_40 g5 ?_
        refine J_G (fun g6 => ?_)
        refine J.callV (n := 1) (As := [rv (zx x) (xR h3 a0 2)]) kc_5 (ctX5_spread (lx x) (wx x) (xR h3 a0 0) (xR h3 a0 2) h3) kw_5_143 kw_5_140 kw_5_141 kw_5_142 kw_1_8 (by decide +kernel) rfl (by decide) (Nat.zero_le _) rfl dX9_runAll_43 g6 (fun _ h7 => ?_)
        show J x _ _ 46 _ [] h7 _
        refine J_aload_n 0 dX9_runAll_46 rv_is rfl ?_
        refine J_G (fun g8 => ?_)
        refine J_getR kc_9 0 (by decide) rfl rfl kw_2_233 dX9_runAll_47 g8 ?_
        refine J_G (fun g9 => ?_)
        refine J_getL kc_5 7 (by decide) rfl rfl kw_2_86 dX9_runAll_50 g9 ?_
        refine J_lconst (v := lN 0) dX9_runAll_53 rfl ?_
        refine J_lcmp dX9_runAll_54 ?_
        refine J_if_ne (tgt := 61) dX9_runAll_55 rfl ?_ ?_
        · refine J_aload_n 0 dX9_runAll_61 rv_is rfl ?_
          refine J_G (fun g10 => ?_)
          refine J_getR kc_9 8 (by decide) rfl rfl kw_3_4 dX9_runAll_62 g10 ?_
          refine J_aload_n 1 dX9_runAll_65 rv_is rfl ?_
          refine J_aload_n 0 dX9_runAll_66 rv_is rfl ?_
          refine J_getR kc_9 2 (by decide) rfl rfl kw_2_236 dX9_runAll_67 g10 ?_
          refine J_G (fun g11 => ?_)
          refine J.callV (n := 2) (As := [rv (zx x) a1, rv (zx x) (xR h7 a0 2)]) kc_2 (ctX2_go (lx x) (wx x) (xR h7 a0 8) a1 (xR h7 a0 2) h7) kw_4_140 kw_4_137 kw_4_138 kw_4_139 kw_1_11 (by decide +kernel) rfl (by decide) (Nat.zero_le _) rfl dX9_runAll_70 g11 (fun _ h12 => ?_)
          show J x _ _ 73 _ [] h12 _
          refine J_aload_n 0 dX9_runAll_73 rv_is rfl ?_
          refine J_G (fun g13 => ?_)
          refine J_getR kc_9 8 (by decide) rfl rfl kw_3_4 dX9_runAll_74 g13 ?_
          refine J_G (fun g14 => ?_)
          refine J_getL kc_2 5 (by decide) rfl rfl kw_2_182 dX9_runAll_77 g14 ?_
          refine J_aload_n 0 dX9_runAll_80 rv_is rfl ?_
          refine J_getR kc_9 0 (by decide) rfl rfl kw_2_233 dX9_runAll_81 g13 ?_
          refine J_G (fun g15 => ?_)
          refine J_getL kc_5 7 (by decide) rfl rfl kw_2_86 dX9_runAll_84 g15 ?_
          refine J_land dX9_runAll_87 ?_
          refine J_LTl (fun w16 => ?_)
          refine J_lstore dX9_runAll_88 (by decide) (SD.a (lvr := [(0, rv (zx x) a0), (1, rv (zx x) a1), (2, .int i2), (3, .int i3)]) [0, 1, 2, 3] rfl rfl) rfl ?_
          refine J_lload 0 dX9_runAll_90 rfl ?_
          refine J_lconst (v := lN 0) dX9_runAll_92 rfl ?_
          refine J_lcmp dX9_runAll_93 ?_
          refine J_if_eq (tgt := 117) dX9_runAll_94 rfl ?_ ?_
          · exact J_sub [1, 2, 3, 4, 0] rfl (jX9_runAll_B117 x (X9_runAll_B19 n) ih a0 a1 i2 i3 w16 h12)
          · refine J_iload_n 3 dX9_runAll_97 rfl ?_
            refine J_if_ne (tgt := 117) dX9_runAll_98 rfl ?_ ?_
            · exact J_sub [1, 2, 3, 4, 0] rfl (jX9_runAll_B117 x (X9_runAll_B19 n) ih a0 a1 i2 i3 w16 h12)
            · refine J_aload_n 1 dX9_runAll_101 rv_is rfl ?_
              refine J_G (fun g17 => ?_)
              refine J_getR kc_9 0 (by decide) rfl rfl kw_2_233 dX9_runAll_102 g17 ?_
              refine J_lload 0 dX9_runAll_105 rfl ?_
              refine J.callS (n := 1) (As := [.long w16]) (ctJ13_numberOfTrailingZeros_95d88 (lx x) (wx x) w16 h12) kw_5_188 kw_5_186 kw_5_187 kw_1_28 (by decide +kernel) rfl (by decide) (by simp [rv_cat, cat_I, cat_L, cat_S]) rfl dX9_runAll_107 (fun v19 h18 => ?_)
              show J x _ _ 110 _ [.int v19, rv (zx x) (xR h12 a0 0)] h18 _
              refine J_aload_n 1 dX9_runAll_110 rv_is rfl ?_
              refine J_G (fun g20 => ?_)
              refine J_getR kc_9 6 (by decide) rfl rfl kw_3_1 dX9_runAll_111 g20 ?_
              refine J_G (fun g21 => ?_)
              refine J.callV (n := 2) (As := [.int v19, rv (zx x) (xR h18 a0 6)]) kc_5 (ctX5_writeSet (lx x) (wx x) (xR h12 a0 0) v19 (xR h18 a0 6) h18) kw_5_151 kw_5_148 kw_5_149 kw_5_150 kw_1_8 (by decide +kernel) rfl (by decide) (Nat.zero_le _) rfl dX9_runAll_114 g21 (fun _ h22 => ?_)
              show J x _ _ 117 _ [] h22 _
              exact J_sub [1, 2, 3, 4, 0] rfl (jX9_runAll_B117 x (X9_runAll_B19 n) ih a0 a1 i2 i3 w16 h22)
        · refine J_goto (tgt := 125) dX9_runAll_58 rfl ?_
          exact (jX9_runAll_B125 x (X9_runAll_B19 n) ih a0 a1 i2 i3 h7)
def X9_runAll_f (a0 : Nat) (a1 : Nat) (h : AH) : Option (Int32 × AH) :=
  G (xc h a0 = 9) <|
  G (xc h (xR h a0 6) = 4) <|
  BN (X4_wipe_f (xR h a0 6) h) fun _ h3 =>
  G (xc h3 a0 = 9) <|
  G (xc h3 (xR h3 a0 0) = 5) <|
  BN (X5_begin_f (xR h3 a0 0) a1 h3) fun _ h6 =>
  X9_runAll_B19 FU a0 a1 (nI 0) (nI 0) h6
theorem jX9_runAll (x : CT) (a0 : Nat) (a1 : Nat) (h : AH) : J x qX9_runAll ZI 0 [(0, rv (zx x) a0), (1, rv (zx x) a1)] [] h (X9_runAll_f a0 a1 h) := by
  unfold X9_runAll_f
  refine J_iconst (v := nI 0) dX9_runAll_0 rfl ?_
  refine J_istore_n dX9_runAll_1 (by decide) (SD.c (lvr := [(0, rv (zx x) a0), (1, rv (zx x) a1)]) [0, 1] rfl rfl 1 rfl rfl rv_cat) ?_
  refine J_aload_n 1 dX9_runAll_2 rv_is rfl ?_
  refine J_G (fun g1 => ?_)
  refine J_getR kc_9 6 (by decide) rfl rfl kw_3_1 dX9_runAll_3 g1 ?_
  refine J_G (fun g2 => ?_)
  refine J.callV (n := 0) (As := []) kc_4 (ctX4_wipe (lx x) (wx x) (xR h a0 6) h) kw_4_52 kw_4_61 kw_4_50 kw_4_51 kw_1_6 (by decide +kernel) rfl (by decide) (Nat.zero_le _) rfl dX9_runAll_6 g2 (fun _ h3 => ?_)
  show J x _ _ 9 _ [] h3 _
  refine J_aload_n 1 dX9_runAll_9 rv_is rfl ?_
  refine J_G (fun g4 => ?_)
  refine J_getR kc_9 0 (by decide) rfl rfl kw_2_233 dX9_runAll_10 g4 ?_
  refine J_aload_n 2 dX9_runAll_13 rv_is rfl ?_
  refine J_G (fun g5 => ?_)
  refine J.callV (n := 1) (As := [rv (zx x) a1]) kc_5 (ctX5_begin (lx x) (wx x) (xR h3 a0 0) a1 h3) kw_5_124 kw_5_121 kw_5_122 kw_5_123 kw_1_8 (by decide +kernel) rfl (by decide) (Nat.zero_le _) rfl dX9_runAll_14 g5 (fun _ h6 => ?_)
  show J x _ _ 17 _ [] h6 _
  refine J_iconst (v := nI 0) dX9_runAll_17 rfl ?_
  refine J_istore_n dX9_runAll_18 (by decide) (SD.a (lvr := [(2, .int (nI 0)), (0, rv (zx x) a0), (1, rv (zx x) a1)]) [0, 1, 2] rfl rfl) ?_
  exact J_sub [2, 3, 1, 0] rfl (jX9_runAll_B19 x FU a0 a1 (nI 0) (nI 0) h6)
theorem ctX9_runAll (l : Launch) (w : WT) (a0 : Nat) (a1 : Nat) (h : AH) : CM l w yX9_runAll cX9_runAll 6 (some .int) 4 112 KI [rv (w.1) a0, rv (w.1) a1] h (X9_runAll_f a0 a1 h) :=
  CM.of (by decide +kernel) (by simp [lg_sl, rv_cat, cat_I, cat_L, cat_S]) (lv := [(0, rv (w.1) a0), (1, rv (w.1) a1)]) (by simp [lv_args, rv_cat, cat_I, cat_L, cat_S]) (fun x hx => by subst hx; exact jX9_runAll x a0 a1 h)
-- FallTrials.run()I
abbrev qX11_run : MT := (cX11_run, RX11, "run", (some .int), 5, 135, 1)
def X11_run_f (a0 : Nat) (h : AH) : Option (Int32 × AH) :=
  G (xc h a0 = 11) <|
  if (xI h a0 13) = 0 then (
    G (xc h a0 = 11) <|
    BN (X11_refuse_f a0 (nI 1) h) fun v11 h10 =>
    some (v11, h10)
  ) else (
    G (xc h a0 = 11) <|
    G (xc h (xR h a0 8) = 9) <|
    BN (X9_play_f (xR h a0 8) (xR h a0 1) (xR h a0 3) (xR h a0 9) h) fun _ h4 =>
    G (xc h4 a0 = 11) <|
    G (xc h4 (xR h4 a0 9) = 8) <|
    BN (X11_grant_f a0 (xI h4 (xR h4 a0 9) 6) h4) fun v8 h7 =>
    some (v8, h7)
  )
theorem jX11_run (x : CT) (a0 : Nat) (h : AH) : J x qX11_run ZI 0 [(0, rv (zx x) a0)] [] h (X11_run_f a0 h) := by
  unfold X11_run_f
  refine J_aload_n 0 dX11_run_0 rv_is rfl ?_
  refine J_G (fun g1 => ?_)
  refine J_getI kc_11 13 (by decide) rfl rfl kw_3_55 dX11_run_1 g1 ?_
  refine J_if_ne (tgt := 13) dX11_run_4 rfl ?_ ?_
  · refine J_aload_n 0 dX11_run_13 rv_is rfl ?_
    refine J_G (fun g2 => ?_)
    refine J_getR kc_11 8 (by decide) rfl rfl kw_3_50 dX11_run_14 g2 ?_
    refine J_aload_n 0 dX11_run_17 rv_is rfl ?_
    refine J_getR kc_11 1 (by decide) rfl rfl kw_3_43 dX11_run_18 g2 ?_
    refine J_aload_n 0 dX11_run_21 rv_is rfl ?_
    refine J_getR kc_11 3 (by decide) rfl rfl kw_3_45 dX11_run_22 g2 ?_
    refine J_aload_n 0 dX11_run_25 rv_is rfl ?_
    refine J_getR kc_11 9 (by decide) rfl rfl kw_3_51 dX11_run_26 g2 ?_
    refine J_G (fun g3 => ?_)
    refine J.callV (n := 3) (As := [rv (zx x) (xR h a0 1), rv (zx x) (xR h a0 3), rv (zx x) (xR h a0 9)]) kc_9 (ctX9_play (lx x) (wx x) (xR h a0 8) (xR h a0 1) (xR h a0 3) (xR h a0 9) h) kw_4_116 kw_4_113 kw_4_114 kw_4_115 kw_1_7 (by decide +kernel) rfl (by decide) (Nat.zero_le _) rfl dX11_run_29 g3 (fun _ h4 => ?_)
    show J x _ _ 32 _ [] h4 _
    refine J_aload_n 0 dX11_run_32 rv_is rfl ?_
    refine J_aload_n 0 dX11_run_33 rv_is rfl ?_
    refine J_G (fun g5 => ?_)
    refine J_getR kc_11 9 (by decide) rfl rfl kw_3_51 dX11_run_34 g5 ?_
    refine J_G (fun g6 => ?_)
    refine J_getI kc_8 6 (by decide) rfl rfl kw_2_152 dX11_run_37 g6 ?_
    refine J.callV (n := 1) (As := [.int (xI h4 (xR h4 a0 9) 6)]) kc_11 (ctX11_grant (lx x) (wx x) a0 (xI h4 (xR h4 a0 9) 6) h4) kw_4_65 kw_4_62 kw_4_64 kp_1 kw_1_1 (by decide +kernel) rfl (by decide) (Nat.zero_le _) rfl dX11_run_40 g5 (fun v8 h7 => ?_)
    show J x _ _ 43 _ [.int v8] h7 _
    exact J_iret dX11_run_43
  · refine J_aload_n 0 dX11_run_7 rv_is rfl ?_
    refine J_iconst (v := nI 1) dX11_run_8 rfl ?_
    refine J_G (fun g9 => ?_)
    refine J.callV (n := 1) (As := [.int (nI 1)]) kc_11 (ctX11_refuse (lx x) (wx x) a0 (nI 1) h) kw_3_112 kw_3_109 kw_3_111 kp_0 kw_1_1 (by decide +kernel) rfl (by decide) (Nat.zero_le _) rfl dX11_run_9 g9 (fun v11 h10 => ?_)
    show J x _ _ 12 _ [.int v11] h10 _
    exact J_iret dX11_run_12
theorem ctX11_run (l : Launch) (w : WT) (a0 : Nat) (h : AH) : CM l w yX11_run cX11_run 1 (some .int) 5 135 KI [rv (w.1) a0] h (X11_run_f a0 h) :=
  CM.of (by decide +kernel) (by simp [lg_sl, rv_cat, cat_I, cat_L, cat_S]) (lv := [(0, rv (w.1) a0)]) (by simp [lv_args, rv_cat, cat_I, cat_L, cat_S]) (fun x hx => by subst hx; exact jX11_run x a0 h)
-- FallTrials.there(III)I
abbrev qX11_there : MT := (cX11_there, RX11, "there", (some .int), 5, 135, 5)
def X11_there_B59 (is0 : Int32) (as1 : Nat) (h : AH) : Option (Int32 × AH) :=
  G (xc h as1 = 11) <|
  BN (X11_grant_f as1 is0 h) fun v3 h2 =>
  some (v3, h2)
theorem jX11_there_B59 (x : CT) (is0 : Int32) (as1 : Nat) (h : AH) : J x qX11_there ZI 59 [] [.int is0, rv (zx x) as1] h (X11_there_B59 is0 as1 h) := by
  unfold X11_there_B59
  refine J_G (fun g1 => ?_)
  refine J.callV (n := 1) (As := [.int is0]) kc_11 (ctX11_grant (lx x) (wx x) as1 is0 h) kw_4_65 kw_4_62 kw_4_64 kp_1 kw_1_1 (by decide +kernel) rfl (by decide) (Nat.zero_le _) rfl dX11_there_59 g1 (fun v3 h2 => ?_)
  show J x _ _ 62 _ [.int v3] h2 _
  exact J_iret dX11_there_62
def X11_there_f (a0 : Nat) (i1 : Int32) (i2 : Int32) (i3 : Int32) (h : AH) : Option (Int32 × AH) :=
  G (xc h a0 = 11) <|
  BN (X11_wrongPlace_f a0 i1 i2 i3 h) fun v3 h2 =>
  if v3 = 0 then (
    G (xc h2 a0 = 11) <|
    G (xc h2 (xR h2 a0 8) = 9) <|
    BN (X9_play_f (xR h2 a0 8) (xR h2 a0 1) (xR h2 a0 3) (xR h2 a0 9) h2) fun _ h6 =>
    G (xc h6 a0 = 11) <|
    G (xc h6 (xR h6 a0 9) = 8) <|
    BN (X8_isThere_f (xR h6 a0 9) i1 i2 i3 h6) fun v10 h9 =>
    if v10 = 0 then (
      X11_there_B59 (nI 0) a0 h9
    ) else (
      X11_there_B59 (nI 1) a0 h9
    )
  ) else (
    G (xc h2 a0 = 11) <|
    BN (X11_refuse_f a0 v3 h2) fun v13 h12 =>
    some (v13, h12)
  )
theorem jX11_there (x : CT) (a0 : Nat) (i1 : Int32) (i2 : Int32) (i3 : Int32) (h : AH) : J x qX11_there ZI 0 [(0, rv (zx x) a0), (1, .int i1), (2, .int i2), (3, .int i3)] [] h (X11_there_f a0 i1 i2 i3 h) := by
  unfold X11_there_f
  refine J_aload_n 0 dX11_there_0 rv_is rfl ?_
  refine J_iload_n 1 dX11_there_1 rfl ?_
  refine J_iload_n 2 dX11_there_2 rfl ?_
  refine J_iload_n 3 dX11_there_3 rfl ?_
  refine J_G (fun g1 => ?_)
  refine J.callV (n := 3) (As := [.int i1, .int i2, .int i3]) kc_11 (ctX11_wrongPlace (lx x) (wx x) a0 i1 i2 i3 h) kw_4_219 kw_4_216 kw_4_218 kp_2 kw_1_1 (by decide +kernel) rfl (by decide) (Nat.zero_le _) rfl dX11_there_4 g1 (fun v3 h2 => ?_)
  show J x _ _ 7 _ [.int v3] h2 _
  refine J_istore dX11_there_7 (by decide) (SD.a (lvr := [(0, rv (zx x) a0), (1, .int i1), (2, .int i2), (3, .int i3)]) [0, 1, 2, 3] rfl rfl) ?_
  refine J_iload 0 dX11_there_9 rfl ?_
  refine J_if_eq (tgt := 21) dX11_there_11 rfl ?_ ?_
  · refine J_aload_n 1 dX11_there_21 rv_is rfl ?_
    refine J_G (fun g4 => ?_)
    refine J_getR kc_11 8 (by decide) rfl rfl kw_3_50 dX11_there_22 g4 ?_
    refine J_aload_n 1 dX11_there_25 rv_is rfl ?_
    refine J_getR kc_11 1 (by decide) rfl rfl kw_3_43 dX11_there_26 g4 ?_
    refine J_aload_n 1 dX11_there_29 rv_is rfl ?_
    refine J_getR kc_11 3 (by decide) rfl rfl kw_3_45 dX11_there_30 g4 ?_
    refine J_aload_n 1 dX11_there_33 rv_is rfl ?_
    refine J_getR kc_11 9 (by decide) rfl rfl kw_3_51 dX11_there_34 g4 ?_
    refine J_G (fun g5 => ?_)
    refine J.callV (n := 3) (As := [rv (zx x) (xR h2 a0 1), rv (zx x) (xR h2 a0 3), rv (zx x) (xR h2 a0 9)]) kc_9 (ctX9_play (lx x) (wx x) (xR h2 a0 8) (xR h2 a0 1) (xR h2 a0 3) (xR h2 a0 9) h2) kw_4_116 kw_4_113 kw_4_114 kw_4_115 kw_1_7 (by decide +kernel) rfl (by decide) (Nat.zero_le _) rfl dX11_there_37 g5 (fun _ h6 => ?_)
    show J x _ _ 40 _ [] h6 _
    refine J_aload_n 1 dX11_there_40 rv_is rfl ?_
    refine J_aload_n 1 dX11_there_41 rv_is rfl ?_
    refine J_G (fun g7 => ?_)
    refine J_getR kc_11 9 (by decide) rfl rfl kw_3_51 dX11_there_42 g7 ?_
    refine J_iload_n 2 dX11_there_45 rfl ?_
    refine J_iload_n 3 dX11_there_46 rfl ?_
    refine J_iload_n 4 dX11_there_47 rfl ?_
    refine J_G (fun g8 => ?_)
    refine J.callV (n := 3) (As := [.int i1, .int i2, .int i3]) kc_8 (ctX8_isThere (lx x) (wx x) (xR h6 a0 9) i1 i2 i3 h6) kw_4_223 kw_4_220 kw_4_221 kw_4_222 kw_1_10 (by decide +kernel) rfl (by decide) (by simp [rv_cat, cat_I, cat_L, cat_S]) rfl dX11_there_48 g8 (fun v10 h9 => ?_)
    show J x _ _ 51 _ [.int v10, rv (zx x) a0] h9 _
    refine J_if_eq (tgt := 58) dX11_there_51 rfl ?_ ?_
    · refine J_iconst (v := nI 0) dX11_there_58 rfl ?_
      exact J_sub [] rfl (jX11_there_B59 x (nI 0) a0 h9)
    · refine J_iconst (v := nI 1) dX11_there_54 rfl ?_
      refine J_goto (tgt := 59) dX11_there_55 rfl ?_
      exact J_sub [] rfl (jX11_there_B59 x (nI 1) a0 h9)
  · refine J_aload_n 1 dX11_there_14 rv_is rfl ?_
    refine J_iload 0 dX11_there_15 rfl ?_
    refine J_G (fun g11 => ?_)
    refine J.callV (n := 1) (As := [.int v3]) kc_11 (ctX11_refuse (lx x) (wx x) a0 v3 h2) kw_3_112 kw_3_109 kw_3_111 kp_0 kw_1_1 (by decide +kernel) rfl (by decide) (Nat.zero_le _) rfl dX11_there_17 g11 (fun v13 h12 => ?_)
    show J x _ _ 20 _ [.int v13] h12 _
    exact J_iret dX11_there_20
theorem ctX11_there (l : Launch) (w : WT) (a0 : Nat) (i1 : Int32) (i2 : Int32) (i3 : Int32) (h : AH) : CM l w yX11_there cX11_there 5 (some .int) 5 135 KI [rv (w.1) a0, .int i1, .int i2, .int i3] h (X11_there_f a0 i1 i2 i3 h) :=
  CM.of (by decide +kernel) (by simp [lg_sl, rv_cat, cat_I, cat_L, cat_S]) (lv := [(0, rv (w.1) a0), (1, .int i1), (2, .int i2), (3, .int i3)]) (by simp [lv_args, rv_cat, cat_I, cat_L, cat_S]) (fun x hx => by subst hx; exact jX11_there x a0 i1 i2 i3 h)
