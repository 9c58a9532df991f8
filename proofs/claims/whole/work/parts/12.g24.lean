-- FallTrialsModel.leadsTo(III)I
abbrev qX15_leadsTo : MT := (cX15_leadsTo, RX15, "leadsTo", (some .int), 4, 93, 7)
def X15_leadsTo_B175 (is0 : Int32) (is1 : Int32) (is2 : Int32) (h : AH) : Option (Int32 × AH) :=
  BN (X15_linked_f is2 is1 is0 h) fun v2 h1 =>
  some (v2, h1)
theorem jX15_leadsTo_B175 (x : CT) (is0 : Int32) (is1 : Int32) (is2 : Int32) (h : AH) : J x qX15_leadsTo ZI 175 [] [.int is0, .int is1, .int is2] h (X15_leadsTo_B175 is0 is1 is2 h) := by
  unfold X15_leadsTo_B175
  refine J.callS (n := 3) (As := [.int is2, .int is1, .int is0]) (ctX15_linked (lx x) (wx x) is2 is1 is0 h) kw_9_120 kw_9_118 kw_9_119 kw_1_13 (by decide +kernel) rfl (by decide) (Nat.zero_le _) rfl dX15_leadsTo_175 (fun v2 h1 => ?_)
  show J x _ _ 178 _ [.int v2] h1 _
  exact J_iret dX15_leadsTo_178
def X15_leadsTo_f (a0 : Nat) (i1 : Int32) (i2 : Int32) (i3 : Int32) (h : AH) : Option (Int32 × AH) :=
  G (xc h a0 = 15) <|
  BN (X15_reasonsOf_f a0 (nI 0) i1 i2 i3 h) fun _ h2 =>
  G (xc h2 a0 = 15) <|
  G (xc h2 (xR h2 a0 34) = 16) <|
  G (gx (nI 0) (xz h2 (xR h2 a0 34))) <|
  LT (xI h2 (xR h2 a0 34) (nI 0).toNatClampNeg) fun v6 =>
  if v6 = 0 then (
    some ((-1), h2)
  ) else (
    if v6 < (nI 4000) then (
      if v6 < (nI 3000) then (
        if v6 < (nI 2000) then (
          LT ((v6 - (nI 1000)) / (nI 10)) fun v7 =>
          LT (v6 - v6 / (nI 10) * (nI 10)) fun v8 =>
          G (xc h2 a0 = 15) <|
          G (xc h2 (xR h2 a0 4) = 12) <|
          G (xc h2 (xR h2 (xR h2 a0 4) 20) = 16) <|
          G (gx ((nI 10) + v7) (xz h2 (xR h2 (xR h2 a0 4) 20))) <|
          G (xc h2 (xR h2 (xR h2 a0 4) 19) = 16) <|
          G (gx v7 (xz h2 (xR h2 (xR h2 a0 4) 19))) <|
          G (xc h2 (xR h2 a0 32) = 19) <|
          G (gx (((nI 0) + ((nI 7) * v7)) + v8) (xz h2 (xR h2 a0 32))) <|
          if (xI h2 (xR h2 a0 32) (((nI 0) + ((nI 7) * v7)) + v8).toNatClampNeg) = 0 then (
            X15_leadsTo_B175 v8 (xI h2 (xR h2 (xR h2 a0 4) 19) v7.toNatClampNeg) (xI h2 (xR h2 (xR h2 a0 4) 20) ((nI 10) + v7).toNatClampNeg) h2
          ) else (
            X15_leadsTo_B175 (v8 - (nI 1)) (xI h2 (xR h2 (xR h2 a0 4) 19) v7.toNatClampNeg) (xI h2 (xR h2 (xR h2 a0 4) 20) ((nI 10) + v7).toNatClampNeg) h2
          )
        ) else (
          some ((((nI 1000) * (v6 - (nI 2000))) + ((nI 100) * i2)) + i1, h2)
        )
      ) else (
        G (xc h2 a0 = 15) <|
        G (xc h2 (xR h2 a0 4) = 12) <|
        G (xc h2 (xR h2 (xR h2 a0 4) 20) = 16) <|
        G (gx (v6 - (nI 3000)) (xz h2 (xR h2 (xR h2 a0 4) 20))) <|
        BN (X15_linked_f (xI h2 (xR h2 (xR h2 a0 4) 20) (v6 - (nI 3000)).toNatClampNeg) i2 (i3 - (nI 1)) h2) fun v22 h21 =>
        some (v22, h21)
      )
    ) else (
      G (xc h2 a0 = 15) <|
      G (xc h2 (xR h2 a0 4) = 12) <|
      G (xc h2 (xR h2 (xR h2 a0 4) 20) = 16) <|
      G (gx (v6 - (nI 4000)) (xz h2 (xR h2 (xR h2 a0 4) 20))) <|
      BN (X15_linked_f (xI h2 (xR h2 (xR h2 a0 4) 20) (v6 - (nI 4000)).toNatClampNeg) i2 i3 h2) fun v28 h27 =>
      some (v28, h27)
    )
  )
theorem jX15_leadsTo (x : CT) (a0 : Nat) (i1 : Int32) (i2 : Int32) (i3 : Int32) (h : AH) : J x qX15_leadsTo ZI 0 [(0, rv (zx x) a0), (1, .int i1), (2, .int i2), (3, .int i3)] [] h (X15_leadsTo_f a0 i1 i2 i3 h) := by
  unfold X15_leadsTo_f
  refine J_aload_n 0 dX15_leadsTo_0 rv_is rfl ?_
  refine J_iconst (v := nI 0) dX15_leadsTo_1 rfl ?_
  refine J_iload_n 1 dX15_leadsTo_2 rfl ?_
  refine J_iload_n 2 dX15_leadsTo_3 rfl ?_
  refine J_iload_n 3 dX15_leadsTo_4 rfl ?_
  refine J_G (fun g1 => ?_)
  refine J.callV (n := 4) (As := [.int (nI 0), .int i1, .int i2, .int i3]) kc_15 (ctX15_reasonsOf (lx x) (wx x) a0 (nI 0) i1 i2 i3 h) kw_8_233 kw_8_230 kw_8_232 kp_45 kw_1_13 (by decide +kernel) rfl (by decide) (Nat.zero_le _) rfl dX15_leadsTo_5 g1 (fun _ h2 => ?_)
  show J x _ _ 8 _ [] h2 _
  refine J_aload_n 0 dX15_leadsTo_8 rv_is rfl ?_
  refine J_G (fun g3 => ?_)
  refine J_getR kc_15 34 (by decide) rfl rfl kw_7_4 dX15_leadsTo_9 g3 ?_
  refine J_iconst (v := nI 0) dX15_leadsTo_12 rfl ?_
  refine J_G (fun g4 => ?_)
  refine J_G (fun g5 => ?_)
  refine J_iald dX15_leadsTo_13 g4 g5 ?_
  refine J_LTi (fun v6 => ?_)
  refine J_istore dX15_leadsTo_14 (by decide) (SD.a (lvr := [(0, rv (zx x) a0), (1, .int i1), (2, .int i2), (3, .int i3)]) [0, 1, 2, 3] rfl rfl) ?_
  refine J_iload 0 dX15_leadsTo_16 rfl ?_
  refine J_if_ne (tgt := 23) dX15_leadsTo_18 rfl ?_ ?_
  · refine J_iload 0 dX15_leadsTo_23 rfl ?_
    refine J_sipush (v := nI 4000) dX15_leadsTo_25 rfl ?_
    refine J_icmp_lt (tgt := 51) dX15_leadsTo_28 rfl ?_ ?_
    · refine J_iload 0 dX15_leadsTo_51 rfl ?_
      refine J_sipush (v := nI 3000) dX15_leadsTo_53 rfl ?_
      refine J_icmp_lt (tgt := 81) dX15_leadsTo_56 rfl ?_ ?_
      · refine J_iload 0 dX15_leadsTo_81 rfl ?_
        refine J_sipush (v := nI 2000) dX15_leadsTo_83 rfl ?_
        refine J_icmp_lt (tgt := 107) dX15_leadsTo_86 rfl ?_ ?_
        · refine J_iload 0 dX15_leadsTo_107 rfl ?_
          refine J_sipush (v := nI 1000) dX15_leadsTo_109 rfl ?_
          refine J_isub dX15_leadsTo_112 ?_
          refine J_bipush (v := nI 10) dX15_leadsTo_113 rfl ?_
          refine J_idiv dX15_leadsTo_115 (by decide) ?_
          refine J_LTi (fun v7 => ?_)
          refine J_istore dX15_leadsTo_116 (by decide) (SD.a (lvr := [(4, .int v6), (0, rv (zx x) a0)]) [0, 1] rfl rfl) ?_
          refine J_iload 1 dX15_leadsTo_118 rfl ?_
          refine J_bipush (v := nI 10) dX15_leadsTo_120 rfl ?_
          refine J_irem dX15_leadsTo_122 (by decide) ?_
          refine J_LTi (fun v8 => ?_)
          refine J_istore dX15_leadsTo_123 (by decide) (SD.a (lvr := [(5, .int v7), (0, rv (zx x) a0)]) [0, 2] rfl rfl) ?_
          refine J_aload_n 2 dX15_leadsTo_125 rv_is rfl ?_
          refine J_G (fun g9 => ?_)
          refine J_getR kc_15 4 (by decide) rfl rfl kw_6_214 dX15_leadsTo_126 g9 ?_
          refine J_G (fun g10 => ?_)
          refine J_getRN kc_12 20 (by decide) rfl rfl kn_44 dX15_leadsTo_129 g10 ?_
          refine J_bipush (v := nI 10) dX15_leadsTo_132 rfl ?_
          refine J_iload 1 dX15_leadsTo_134 rfl ?_
          refine J_iadd dX15_leadsTo_136 ?_
          refine J_G (fun g11 => ?_)
          refine J_G (fun g12 => ?_)
          refine J_iald dX15_leadsTo_137 g11 g12 ?_
          refine J_aload_n 2 dX15_leadsTo_138 rv_is rfl ?_
          refine J_getR kc_15 4 (by decide) rfl rfl kw_6_214 dX15_leadsTo_139 g9 ?_
          refine J_getRN kc_12 19 (by decide) rfl rfl kn_43 dX15_leadsTo_142 g10 ?_
          refine J_iload 1 dX15_leadsTo_145 rfl ?_
          refine J_G (fun g13 => ?_)
          refine J_G (fun g14 => ?_)
          refine J_iald dX15_leadsTo_147 g13 g14 ?_
          refine J_aload_n 2 dX15_leadsTo_148 rv_is rfl ?_
          refine J_getR kc_15 32 (by decide) rfl rfl kw_7_2 dX15_leadsTo_149 g9 ?_
          refine J_iconst (v := nI 0) dX15_leadsTo_152 rfl ?_
          refine J_bipush (v := nI 7) dX15_leadsTo_153 rfl ?_
          refine J_iload 1 dX15_leadsTo_155 rfl ?_
          refine J_imul dX15_leadsTo_157 ?_
          refine J_iadd dX15_leadsTo_158 ?_
          refine J_iload 0 dX15_leadsTo_159 rfl ?_
          refine J_iadd dX15_leadsTo_161 ?_
          refine J_G (fun g15 => ?_)
          refine J_G (fun g16 => ?_)
          refine J_zald dX15_leadsTo_162 g15 g16 ?_
          refine J_if_eq (tgt := 173) dX15_leadsTo_163 rfl ?_ ?_
          · refine J_iload 0 dX15_leadsTo_173 rfl ?_
            exact J_sub [] rfl (jX15_leadsTo_B175 x v8 (xI h2 (xR h2 (xR h2 a0 4) 19) v7.toNatClampNeg) (xI h2 (xR h2 (xR h2 a0 4) 20) ((nI 10) + v7).toNatClampNeg) h2)
          · refine J_iload 0 dX15_leadsTo_166 rfl ?_
            refine J_iconst (v := nI 1) dX15_leadsTo_168 rfl ?_
            refine J_isub dX15_leadsTo_169 ?_
            refine J_goto (tgt := 175) dX15_leadsTo_170 rfl ?_
            exact J_sub [] rfl (jX15_leadsTo_B175 x (v8 - (nI 1)) (xI h2 (xR h2 (xR h2 a0 4) 19) v7.toNatClampNeg) (xI h2 (xR h2 (xR h2 a0 4) 20) ((nI 10) + v7).toNatClampNeg) h2)
        · refine J_sipush (v := nI 1000) dX15_leadsTo_89 rfl ?_
          refine J_iload 0 dX15_leadsTo_92 rfl ?_
          refine J_sipush (v := nI 2000) dX15_leadsTo_94 rfl ?_
          refine J_isub dX15_leadsTo_97 ?_
          refine J_imul dX15_leadsTo_98 ?_
          refine J_bipush (v := nI 100) dX15_leadsTo_99 rfl ?_
          refine J_iload_n 3 dX15_leadsTo_101 rfl ?_
          refine J_imul dX15_leadsTo_102 ?_
          refine J_iadd dX15_leadsTo_103 ?_
          refine J_iload_n 2 dX15_leadsTo_104 rfl ?_
          refine J_iadd dX15_leadsTo_105 ?_
          exact J_iret dX15_leadsTo_106
      · refine J_aload_n 1 dX15_leadsTo_59 rv_is rfl ?_
        refine J_G (fun g17 => ?_)
        refine J_getR kc_15 4 (by decide) rfl rfl kw_6_214 dX15_leadsTo_60 g17 ?_
        refine J_G (fun g18 => ?_)
        refine J_getRN kc_12 20 (by decide) rfl rfl kn_44 dX15_leadsTo_63 g18 ?_
        refine J_iload 0 dX15_leadsTo_66 rfl ?_
        refine J_sipush (v := nI 3000) dX15_leadsTo_68 rfl ?_
        refine J_isub dX15_leadsTo_71 ?_
        refine J_G (fun g19 => ?_)
        refine J_G (fun g20 => ?_)
        refine J_iald dX15_leadsTo_72 g19 g20 ?_
        refine J_iload_n 3 dX15_leadsTo_73 rfl ?_
        refine J_iload_n 4 dX15_leadsTo_74 rfl ?_
        refine J_iconst (v := nI 1) dX15_leadsTo_75 rfl ?_
        refine J_isub dX15_leadsTo_76 ?_
        refine J.callS (n := 3) (As := [.int (xI h2 (xR h2 (xR h2 a0 4) 20) (v6 - (nI 3000)).toNatClampNeg), .int i2, .int (i3 - (nI 1))]) (ctX15_linked (lx x) (wx x) (xI h2 (xR h2 (xR h2 a0 4) 20) (v6 - (nI 3000)).toNatClampNeg) i2 (i3 - (nI 1)) h2) kw_9_120 kw_9_118 kw_9_119 kw_1_13 (by decide +kernel) rfl (by decide) (Nat.zero_le _) rfl dX15_leadsTo_77 (fun v22 h21 => ?_)
        show J x _ _ 80 _ [.int v22] h21 _
        exact J_iret dX15_leadsTo_80
    · refine J_aload_n 1 dX15_leadsTo_31 rv_is rfl ?_
      refine J_G (fun g23 => ?_)
      refine J_getR kc_15 4 (by decide) rfl rfl kw_6_214 dX15_leadsTo_32 g23 ?_
      refine J_G (fun g24 => ?_)
      refine J_getRN kc_12 20 (by decide) rfl rfl kn_44 dX15_leadsTo_35 g24 ?_
      refine J_iload 0 dX15_leadsTo_38 rfl ?_
      refine J_sipush (v := nI 4000) dX15_leadsTo_40 rfl ?_
      refine J_isub dX15_leadsTo_43 ?_
      refine J_G (fun g25 => ?_)
      refine J_G (fun g26 => ?_)
      refine J_iald dX15_leadsTo_44 g25 g26 ?_
      refine J_iload_n 3 dX15_leadsTo_45 rfl ?_
      refine J_iload_n 4 dX15_leadsTo_46 rfl ?_
      refine J.callS (n := 3) (As := [.int (xI h2 (xR h2 (xR h2 a0 4) 20) (v6 - (nI 4000)).toNatClampNeg), .int i2, .int i3]) (ctX15_linked (lx x) (wx x) (xI h2 (xR h2 (xR h2 a0 4) 20) (v6 - (nI 4000)).toNatClampNeg) i2 i3 h2) kw_9_120 kw_9_118 kw_9_119 kw_1_13 (by decide +kernel) rfl (by decide) (Nat.zero_le _) rfl dX15_leadsTo_47 (fun v28 h27 => ?_)
      show J x _ _ 50 _ [.int v28] h27 _
      exact J_iret dX15_leadsTo_50
  · refine J_iconst (v := (-1)) dX15_leadsTo_21 rfl ?_
    exact J_iret dX15_leadsTo_22
theorem ctX15_leadsTo (l : Launch) (w : WT) (a0 : Nat) (i1 : Int32) (i2 : Int32) (i3 : Int32) (h : AH) : CM l w yX15_leadsTo cX15_leadsTo 7 (some .int) 4 93 KI [rv (w.1) a0, .int i1, .int i2, .int i3] h (X15_leadsTo_f a0 i1 i2 i3 h) :=
  CM.of (by decide +kernel) (by simp [lg_sl, rv_cat, cat_I, cat_L, cat_S]) (lv := [(0, rv (w.1) a0), (1, .int i1), (2, .int i2), (3, .int i3)]) (by simp [lv_args, rv_cat, cat_I, cat_L, cat_S]) (fun x hx => by subst hx; exact jX15_leadsTo x a0 i1 i2 i3 h)
-- FallTrialsModel.count(I)I
abbrev qX15_count : MT := (cX15_count, RX15, "count", (some .int), 4, 93, 2)
def X15_count_f (a0 : Nat) (i1 : Int32) (h : AH) : Option (Int32 × AH) :=
  G (xc h a0 = 15) <|
  LT (pI h a0 0 (nI 0)) fun h2 =>
  if i1 = (nI 13) then (
    G (xc h2 a0 = 15) <|
    some (xI h2 a0 8, h2)
  ) else (
    BN (X15_in_f i1 (nI 0) (nI 12) h2) fun v4 h3 =>
    if v4 = 0 then (
      some ((-1), h3)
    ) else (
      G (xc h3 a0 = 15) <|
      if (xR h3 a0 4) = 0 then (
        some (nI 0, h3)
      ) else (
        if i1 = nI 0 then (
          G (xc h3 a0 = 15) <|
          G (xc h3 (xR h3 a0 4) = 12) <|
          some (xI h3 (xR h3 a0 4) 1, h3)
        ) else (
        if i1 = nI 1 then (
          G (xc h3 a0 = 15) <|
          G (xc h3 (xR h3 a0 4) = 12) <|
          some (xI h3 (xR h3 a0 4) 2, h3)
        ) else (
        if i1 = nI 2 then (
          G (xc h3 a0 = 15) <|
          G (xc h3 (xR h3 a0 4) = 12) <|
          some (xI h3 (xR h3 a0 4) 3, h3)
        ) else (
        if i1 = nI 3 then (
          G (xc h3 a0 = 15) <|
          G (xc h3 (xR h3 a0 4) = 12) <|
          some (xI h3 (xR h3 a0 4) 5, h3)
        ) else (
        if i1 = nI 4 then (
          G (xc h3 a0 = 15) <|
          G (xc h3 (xR h3 a0 4) = 12) <|
          some (xI h3 (xR h3 a0 4) 6, h3)
        ) else (
        if i1 = nI 5 then (
          G (xc h3 a0 = 15) <|
          some (xI h3 a0 14, h3)
        ) else (
        if i1 = nI 6 then (
          G (xc h3 a0 = 15) <|
          some (xI h3 a0 16, h3)
        ) else (
        if i1 = nI 7 then (
          G (xc h3 a0 = 15) <|
          some (xI h3 a0 17, h3)
        ) else (
        if i1 = nI 8 then (
          G (xc h3 a0 = 15) <|
          some (xI h3 a0 18, h3)
        ) else (
        if i1 = nI 9 then (
          G (xc h3 a0 = 15) <|
          BN (X15_allFalls_f a0 h3) fun _ h30 =>
          G (xc h30 a0 = 15) <|
          some (xI h30 a0 36, h30)
        ) else (
        if i1 = nI 10 then (
          G (xc h3 a0 = 15) <|
          BN (X15_sets_f a0 h3) fun v35 h34 =>
          some (v35, h34)
        ) else (
        if i1 = nI 11 then (
          G (xc h3 a0 = 15) <|
          G (xc h3 (xR h3 a0 4) = 12) <|
          some (xI h3 (xR h3 a0 4) 4, h3)
        ) else (
        G (xc h3 a0 = 15) <|
        some (xI h3 a0 15, h3)
        ))))))))))))
      )
    )
  )
theorem jX15_count (x : CT) (a0 : Nat) (i1 : Int32) (h : AH) : J x qX15_count ZI 0 [(0, rv (zx x) a0), (1, .int i1)] [] h (X15_count_f a0 i1 h) := by
  unfold X15_count_f
  refine J_aload_n 0 dX15_count_0 rv_is rfl ?_
  refine J_iconst (v := nI 0) dX15_count_1 rfl ?_
  refine J_G (fun g1 => ?_)
  refine J_putI kc_15 0 (by decide) rfl rfl rfl rfl (Or.inl rfl) kw_6_210 dX15_count_2 g1 ?_
  refine J_LTh (fun h2 => ?_)
  refine J_iload_n 1 dX15_count_5 rfl ?_
  refine J_bipush (v := nI 13) dX15_count_6 rfl ?_
  refine J_icmp_ne (tgt := 16) dX15_count_8 rfl ?_ ?_
  · refine J_iload_n 1 dX15_count_16 rfl ?_
    refine J_iconst (v := nI 0) dX15_count_17 rfl ?_
    refine J_bipush (v := nI 12) dX15_count_18 rfl ?_
    refine J.callS (n := 3) (As := [.int i1, .int (nI 0), .int (nI 12)]) (ctX15_in (lx x) (wx x) i1 (nI 0) (nI 12) h2) kw_8_122 kw_8_120 kw_8_121 kw_1_13 (by decide +kernel) rfl (by decide) (Nat.zero_le _) rfl dX15_count_20 (fun v4 h3 => ?_)
    show J x _ _ 23 _ [.int v4] h3 _
    refine J_if_ne (tgt := 28) dX15_count_23 rfl ?_ ?_
    · refine J_aload_n 0 dX15_count_28 rv_is rfl ?_
      refine J_G (fun g5 => ?_)
      refine J_getR kc_15 4 (by decide) rfl rfl kw_6_214 dX15_count_29 g5 ?_
      refine J_ifnonnull (tgt := 37) dX15_count_32 rfl ?_ ?_
      · refine J_iload_n 1 dX15_count_37 rfl ?_
        refine J_tcase (c0 := nI 0) (tgt := 100) dX15_count_38 (by decide) (by decide) rfl rfl ?_ (fun n8 => ?_)
        · refine J_aload_n 0 dX15_count_100 rv_is rfl ?_
          refine J_G (fun g6 => ?_)
          refine J_getR kc_15 4 (by decide) rfl rfl kw_6_214 dX15_count_101 g6 ?_
          refine J_G (fun g7 => ?_)
          refine J_getIN kc_12 1 (by decide) rfl rfl kn_25 dX15_count_104 g7 ?_
          exact J_iret dX15_count_107
        refine J_tcase (c0 := nI 1) (tgt := 108) dX15_count_38 (by decide) (by decide) rfl rfl ?_ (fun n11 => ?_)
        · refine J_aload_n 0 dX15_count_108 rv_is rfl ?_
          refine J_G (fun g9 => ?_)
          refine J_getR kc_15 4 (by decide) rfl rfl kw_6_214 dX15_count_109 g9 ?_
          refine J_G (fun g10 => ?_)
          refine J_getIN kc_12 2 (by decide) rfl rfl kn_26 dX15_count_112 g10 ?_
          exact J_iret dX15_count_115
        refine J_tcase (c0 := nI 2) (tgt := 116) dX15_count_38 (by decide) (by decide) rfl rfl ?_ (fun n14 => ?_)
        · refine J_aload_n 0 dX15_count_116 rv_is rfl ?_
          refine J_G (fun g12 => ?_)
          refine J_getR kc_15 4 (by decide) rfl rfl kw_6_214 dX15_count_117 g12 ?_
          refine J_G (fun g13 => ?_)
          refine J_getIN kc_12 3 (by decide) rfl rfl kn_27 dX15_count_120 g13 ?_
          exact J_iret dX15_count_123
        refine J_tcase (c0 := nI 3) (tgt := 124) dX15_count_38 (by decide) (by decide) rfl rfl ?_ (fun n17 => ?_)
        · refine J_aload_n 0 dX15_count_124 rv_is rfl ?_
          refine J_G (fun g15 => ?_)
          refine J_getR kc_15 4 (by decide) rfl rfl kw_6_214 dX15_count_125 g15 ?_
          refine J_G (fun g16 => ?_)
          refine J_getIN kc_12 5 (by decide) rfl rfl kn_29 dX15_count_128 g16 ?_
          exact J_iret dX15_count_131
        refine J_tcase (c0 := nI 4) (tgt := 132) dX15_count_38 (by decide) (by decide) rfl rfl ?_ (fun n20 => ?_)
        · refine J_aload_n 0 dX15_count_132 rv_is rfl ?_
          refine J_G (fun g18 => ?_)
          refine J_getR kc_15 4 (by decide) rfl rfl kw_6_214 dX15_count_133 g18 ?_
          refine J_G (fun g19 => ?_)
          refine J_getIN kc_12 6 (by decide) rfl rfl kn_30 dX15_count_136 g19 ?_
          exact J_iret dX15_count_139
        refine J_tcase (c0 := nI 5) (tgt := 140) dX15_count_38 (by decide) (by decide) rfl rfl ?_ (fun n22 => ?_)
        · refine J_aload_n 0 dX15_count_140 rv_is rfl ?_
          refine J_G (fun g21 => ?_)
          refine J_getI kc_15 14 (by decide) rfl rfl kw_6_224 dX15_count_141 g21 ?_
          exact J_iret dX15_count_144
        refine J_tcase (c0 := nI 6) (tgt := 145) dX15_count_38 (by decide) (by decide) rfl rfl ?_ (fun n24 => ?_)
        · refine J_aload_n 0 dX15_count_145 rv_is rfl ?_
          refine J_G (fun g23 => ?_)
          refine J_getI kc_15 16 (by decide) rfl rfl kw_6_226 dX15_count_146 g23 ?_
          exact J_iret dX15_count_149
        refine J_tcase (c0 := nI 7) (tgt := 150) dX15_count_38 (by decide) (by decide) rfl rfl ?_ (fun n26 => ?_)
        · refine J_aload_n 0 dX15_count_150 rv_is rfl ?_
          refine J_G (fun g25 => ?_)
          refine J_getI kc_15 17 (by decide) rfl rfl kw_6_227 dX15_count_151 g25 ?_
          exact J_iret dX15_count_154
        refine J_tcase (c0 := nI 8) (tgt := 155) dX15_count_38 (by decide) (by decide) rfl rfl ?_ (fun n28 => ?_)
        · refine J_aload_n 0 dX15_count_155 rv_is rfl ?_
          refine J_G (fun g27 => ?_)
          refine J_getI kc_15 18 (by decide) rfl rfl kw_6_228 dX15_count_156 g27 ?_
          exact J_iret dX15_count_159
        refine J_tcase (c0 := nI 9) (tgt := 160) dX15_count_38 (by decide) (by decide) rfl rfl ?_ (fun n32 => ?_)
        · refine J_aload_n 0 dX15_count_160 rv_is rfl ?_
          refine J_G (fun g29 => ?_)
          refine J.callV (n := 0) (As := []) kc_15 (ctX15_allFalls (lx x) (wx x) a0 h3) kw_9_53 kw_9_50 kw_9_52 kp_53 kw_1_13 (by decide +kernel) rfl (by decide) (Nat.zero_le _) rfl dX15_count_161 g29 (fun _ h30 => ?_)
          show J x _ _ 164 _ [] h30 _
          refine J_aload_n 0 dX15_count_164 rv_is rfl ?_
          refine J_G (fun g31 => ?_)
          refine J_getI kc_15 36 (by decide) rfl rfl kw_7_6 dX15_count_165 g31 ?_
          exact J_iret dX15_count_168
        refine J_tcase (c0 := nI 10) (tgt := 169) dX15_count_38 (by decide) (by decide) rfl rfl ?_ (fun n36 => ?_)
        · refine J_aload_n 0 dX15_count_169 rv_is rfl ?_
          refine J_G (fun g33 => ?_)
          refine J.callV (n := 0) (As := []) kc_15 (ctX15_sets (lx x) (wx x) a0 h3) kw_9_162 kw_9_159 kw_9_161 kp_61 kw_1_13 (by decide +kernel) rfl (by decide) (Nat.zero_le _) rfl dX15_count_170 g33 (fun v35 h34 => ?_)
          show J x _ _ 173 _ [.int v35] h34 _
          exact J_iret dX15_count_173
        refine J_tcase (c0 := nI 11) (tgt := 174) dX15_count_38 (by decide) (by decide) rfl rfl ?_ (fun n39 => ?_)
        · refine J_aload_n 0 dX15_count_174 rv_is rfl ?_
          refine J_G (fun g37 => ?_)
          refine J_getR kc_15 4 (by decide) rfl rfl kw_6_214 dX15_count_175 g37 ?_
          refine J_G (fun g38 => ?_)
          refine J_getIN kc_12 4 (by decide) rfl rfl kn_28 dX15_count_178 g38 ?_
          exact J_iret dX15_count_181
        refine J_tdef (tgt := 182) dX15_count_38 (by have := sw_ne (by decide : (nI 0 : Int32).toInt = 0) n8; have := sw_ne (by decide : (nI 1 : Int32).toInt = 1) n11; have := sw_ne (by decide : (nI 2 : Int32).toInt = 2) n14; have := sw_ne (by decide : (nI 3 : Int32).toInt = 3) n17; have := sw_ne (by decide : (nI 4 : Int32).toInt = 4) n20; have := sw_ne (by decide : (nI 5 : Int32).toInt = 5) n22; have := sw_ne (by decide : (nI 6 : Int32).toInt = 6) n24; have := sw_ne (by decide : (nI 7 : Int32).toInt = 7) n26; have := sw_ne (by decide : (nI 8 : Int32).toInt = 8) n28; have := sw_ne (by decide : (nI 9 : Int32).toInt = 9) n32; have := sw_ne (by decide : (nI 10 : Int32).toInt = 10) n36; have := sw_ne (by decide : (nI 11 : Int32).toInt = 11) n39; omega) rfl ?_
        refine J_aload_n 0 dX15_count_182 rv_is rfl ?_
        refine J_G (fun g40 => ?_)
        refine J_getI kc_15 15 (by decide) rfl rfl kw_6_225 dX15_count_183 g40 ?_
        exact J_iret dX15_count_186
      · refine J_iconst (v := nI 0) dX15_count_35 rfl ?_
        exact J_iret dX15_count_36
    · refine J_iconst (v := (-1)) dX15_count_26 rfl ?_
      exact J_iret dX15_count_27
  · refine J_aload_n 0 dX15_count_11 rv_is rfl ?_
    refine J_G (fun g41 => ?_)
    refine J_getI kc_15 8 (by decide) rfl rfl kw_6_218 dX15_count_12 g41 ?_
    exact J_iret dX15_count_15
theorem ctX15_count (l : Launch) (w : WT) (a0 : Nat) (i1 : Int32) (h : AH) : CM l w yX15_count cX15_count 2 (some .int) 4 93 KI [rv (w.1) a0, .int i1] h (X15_count_f a0 i1 h) :=
  CM.of (by decide +kernel) (by simp [lg_sl, rv_cat, cat_I, cat_L, cat_S]) (lv := [(0, rv (w.1) a0), (1, .int i1)]) (by simp [lv_args, rv_cat, cat_I, cat_L, cat_S]) (fun x hx => by subst hx; exact jX15_count x a0 i1 h)
-- FallTrials$Course.go(LFallTrials$Works;LFallTrials$FallLanes;)V
abbrev qX2_go : MT := (cX2_go, RX2, "go", none, 3, 88, 5)
def X2_go_B128 (a0 : Nat) (h : AH) : Option (Unit × AH) :=
  G (xc h a0 = 2) <|
  BN (X2_judge_f a0 h) fun _ h2 =>
  some ((), h2)
theorem jX2_go_B128 (x : CT) (a0 : Nat) (h : AH) : J x qX2_go ZV 128 [(0, rv (zx x) a0)] [] h (X2_go_B128 a0 h) := by
  unfold X2_go_B128
  refine J_aload_n 0 dX2_go_128 rv_is rfl ?_
  refine J_G (fun g1 => ?_)
  refine J.callV (n := 0) (As := []) kc_2 (ctX2_judge (lx x) (wx x) a0 h) kw_4_189 kw_4_186 kw_4_187 kw_4_188 kw_1_11 (by decide +kernel) rfl (by decide) (Nat.zero_le _) rfl dX2_go_129 g1 (fun _ h2 => ?_)
  show J x _ _ 132 _ [] h2 _
  exact J_vret dX2_go_132
def X2_go_B122 (k44 : (Nat → Int32 → AH → Option (Unit × AH))) (a0 : Nat) (i3 : Int32) (h : AH) : Option (Unit × AH) :=
  LT (i3 + nI 1) fun v1 =>
  k44 a0 v1 h
theorem jX2_go_B122 (x : CT) (k44 : (Nat → Int32 → AH → Option (Unit × AH))) (hk44 : ∀ (a0 : Nat) (i3 : Int32) (h : AH), J x qX2_go ZV 44 [(0, rv (zx x) a0), (3, .int i3)] [] h (k44 a0 i3 h)) (a0 : Nat) (i3 : Int32) (h : AH) : J x qX2_go ZV 122 [(0, rv (zx x) a0), (3, .int i3)] [] h (X2_go_B122 k44 a0 i3 h) := by
  unfold X2_go_B122
  refine J_iincL (u := i3 + nI 1) 1 dX2_go_122 rfl rfl (by decide) (SD.a (lvr := [(0, rv (zx x) a0)]) [0] rfl rfl) (fun v1 => ?_)
  refine J_goto (tgt := 44) dX2_go_125 rfl ?_
  exact J_sub [1, 0] rfl (hk44 a0 v1 h)
def X2_go_B86 (k44 : (Nat → Int32 → AH → Option (Unit × AH))) : Nat → Nat → Int32 → Int32 → AH → Option (Unit × AH)
  | 0, _, _, _, _ => none
  | n + 1, a0, i3, i4, h =>
    G (xc h a0 = 2) <|
    G (xc h (xR h a0 8) = 0) <|
    if (xI h (xR h a0 8) 4) ≤ i4 then (
      X2_go_B122 k44 a0 i3 h
    ) else (
      G (xc h a0 = 2) <|
      G (xc h (xR h a0 7) = 10) <|
      if (xI h (xR h a0 7) 1) ≤ i3 then (
        X2_go_B122 k44 a0 i3 h
      ) else (
        G (xc h a0 = 2) <|
        BN (X2_sendWords_f a0 i4 i3 h) fun _ h6 =>
        LT (i4 + nI 1) fun v7 =>
        X2_go_B86 k44 n a0 i3 v7 h6
      )
    )
theorem jX2_go_B86 (x : CT) (k44 : (Nat → Int32 → AH → Option (Unit × AH))) (hk44 : ∀ (a0 : Nat) (i3 : Int32) (h : AH), J x qX2_go ZV 44 [(0, rv (zx x) a0), (3, .int i3)] [] h (k44 a0 i3 h)) : ∀ (n : Nat) (a0 : Nat) (i3 : Int32) (i4 : Int32) (h : AH), J x qX2_go ZV 86 [(0, rv (zx x) a0), (3, .int i3), (4, .int i4)] [] h (X2_go_B86 k44 n a0 i3 i4 h) := by
  intro n
  induction n with
  | zero => intro a0 i3 i4 h; exact J_none
  | succ n ih =>
    intro a0 i3 i4 h
    unfold X2_go_B86
    refine J_iload 2 dX2_go_86 rfl ?_
    refine J_aload_n 0 dX2_go_88 rv_is rfl ?_
    refine J_G (fun g1 => ?_)
    refine J_getR kc_2 8 (by decide) rfl rfl kw_2_187 dX2_go_89 g1 ?_
    refine J_G (fun g2 => ?_)
    refine J_getI kc_0 4 (by decide) rfl rfl kw_1_125 dX2_go_92 g2 ?_
    refine J_icmp_ge (tgt := 122) dX2_go_95 rfl ?_ ?_
    · exact J_sub [0, 1] rfl (jX2_go_B122 x k44 hk44 a0 i3 h)
    · refine J_iload_n 1 dX2_go_98 rfl ?_
      refine J_aload_n 0 dX2_go_99 rv_is rfl ?_
      refine J_G (fun g3 => ?_)
      refine J_getR kc_2 7 (by decide) rfl rfl kw_2_186 dX2_go_100 g3 ?_
      refine J_G (fun g4 => ?_)
      refine J_getI kc_10 1 (by decide) rfl rfl kw_2_20 dX2_go_103 g4 ?_
      refine J_icmp_ge (tgt := 122) dX2_go_106 rfl ?_ ?_
      · exact J_sub [0, 1] rfl (jX2_go_B122 x k44 hk44 a0 i3 h)
      · refine J_aload_n 0 dX2_go_109 rv_is rfl ?_
        refine J_iload 2 dX2_go_110 rfl ?_
        refine J_iload_n 1 dX2_go_112 rfl ?_
        refine J_G (fun g5 => ?_)
        refine J.callV (n := 2) (As := [.int i4, .int i3]) kc_2 (ctX2_sendWords (lx x) (wx x) a0 i4 i3 h) kw_4_173 kw_4_170 kw_4_171 kw_4_172 kw_1_11 (by decide +kernel) rfl (by decide) (Nat.zero_le _) rfl dX2_go_113 g5 (fun _ h6 => ?_)
        show J x _ _ 116 _ [] h6 _
        refine J_iincL (u := i4 + nI 1) 2 dX2_go_116 rfl rfl (by decide) (SD.a (lvr := [(0, rv (zx x) a0), (3, .int i3)]) [0, 1] rfl rfl) (fun v7 => ?_)
        refine J_goto (tgt := 86) dX2_go_119 rfl ?_
        exact J_sub [1, 2, 0] rfl (ih a0 i3 v7 h6)
def X2_go_B83 (k44 : (Nat → Int32 → AH → Option (Unit × AH))) (a0 : Nat) (i3 : Int32) (h : AH) : Option (Unit × AH) :=
  X2_go_B86 k44 FU a0 i3 (nI 0) h
theorem jX2_go_B83 (x : CT) (k44 : (Nat → Int32 → AH → Option (Unit × AH))) (hk44 : ∀ (a0 : Nat) (i3 : Int32) (h : AH), J x qX2_go ZV 44 [(0, rv (zx x) a0), (3, .int i3)] [] h (k44 a0 i3 h)) (a0 : Nat) (i3 : Int32) (h : AH) : J x qX2_go ZV 83 [(0, rv (zx x) a0), (3, .int i3)] [] h (X2_go_B83 k44 a0 i3 h) := by
  unfold X2_go_B83
  refine J_iconst (v := nI 0) dX2_go_83 rfl ?_
  refine J_istore dX2_go_84 (by decide) (SD.a (lvr := [(0, rv (zx x) a0), (3, .int i3)]) [0, 1] rfl rfl) ?_
  exact J_sub [1, 2, 0] rfl (jX2_go_B86 x k44 hk44 FU a0 i3 (nI 0) h)
def X2_go_B58 (k44 : (Nat → Int32 → AH → Option (Unit × AH))) : Nat → Nat → Int32 → Int32 → AH → Option (Unit × AH)
  | 0, _, _, _, _ => none
  | n + 1, a0, i3, i4, h =>
    G (xc h a0 = 2) <|
    G (xc h (xR h a0 8) = 0) <|
    if (xI h (xR h a0 8) 0) ≤ i4 then (
      X2_go_B83 k44 a0 i3 h
    ) else (
      G (xc h a0 = 2) <|
      BN (X2_fill_f a0 i4 i3 h) fun _ h4 =>
      LT (i4 + nI 1) fun v5 =>
      X2_go_B58 k44 n a0 i3 v5 h4
    )
theorem jX2_go_B58 (x : CT) (k44 : (Nat → Int32 → AH → Option (Unit × AH))) (hk44 : ∀ (a0 : Nat) (i3 : Int32) (h : AH), J x qX2_go ZV 44 [(0, rv (zx x) a0), (3, .int i3)] [] h (k44 a0 i3 h)) : ∀ (n : Nat) (a0 : Nat) (i3 : Int32) (i4 : Int32) (h : AH), J x qX2_go ZV 58 [(0, rv (zx x) a0), (3, .int i3), (4, .int i4)] [] h (X2_go_B58 k44 n a0 i3 i4 h) := by
  intro n
  induction n with
  | zero => intro a0 i3 i4 h; exact J_none
  | succ n ih =>
    intro a0 i3 i4 h
    unfold X2_go_B58
    refine J_iload 2 dX2_go_58 rfl ?_
    refine J_aload_n 0 dX2_go_60 rv_is rfl ?_
    refine J_G (fun g1 => ?_)
    refine J_getR kc_2 8 (by decide) rfl rfl kw_2_187 dX2_go_61 g1 ?_
    refine J_G (fun g2 => ?_)
    refine J_getI kc_0 0 (by decide) rfl rfl kw_1_106 dX2_go_64 g2 ?_
    refine J_icmp_ge (tgt := 83) dX2_go_67 rfl ?_ ?_
    · exact J_sub [0, 1] rfl (jX2_go_B83 x k44 hk44 a0 i3 h)
    · refine J_aload_n 0 dX2_go_70 rv_is rfl ?_
      refine J_iload 2 dX2_go_71 rfl ?_
      refine J_iload_n 1 dX2_go_73 rfl ?_
      refine J_G (fun g3 => ?_)
      refine J.callV (n := 2) (As := [.int i4, .int i3]) kc_2 (ctX2_fill (lx x) (wx x) a0 i4 i3 h) kw_4_145 kw_4_142 kw_4_143 kw_4_144 kw_1_11 (by decide +kernel) rfl (by decide) (Nat.zero_le _) rfl dX2_go_74 g3 (fun _ h4 => ?_)
      show J x _ _ 77 _ [] h4 _
      refine J_iincL (u := i4 + nI 1) 2 dX2_go_77 rfl rfl (by decide) (SD.a (lvr := [(0, rv (zx x) a0), (3, .int i3)]) [0, 1] rfl rfl) (fun v5 => ?_)
      refine J_goto (tgt := 58) dX2_go_80 rfl ?_
      exact J_sub [1, 2, 0] rfl (ih a0 i3 v5 h4)
def X2_go_B44 : Nat → Nat → Int32 → AH → Option (Unit × AH)
  | 0, _, _, _ => none
  | n + 1, a0, i3, h =>
    G (xc h a0 = 2) <|
    G (xc h (xR h a0 7) = 10) <|
    if (xI h (xR h a0 7) 1) < i3 then (
      X2_go_B128 a0 h
    ) else (
      X2_go_B58 (X2_go_B44 n) FU a0 i3 (nI 0) h
    )
theorem jX2_go_B44 (x : CT) : ∀ (n : Nat) (a0 : Nat) (i3 : Int32) (h : AH), J x qX2_go ZV 44 [(0, rv (zx x) a0), (3, .int i3)] [] h (X2_go_B44 n a0 i3 h) := by
  intro n
  induction n with
  | zero => intro a0 i3 h; exact J_none
  | succ n ih =>
    intro a0 i3 h
    unfold X2_go_B44
    refine J_iload_n 1 dX2_go_44 rfl ?_
    refine J_aload_n 0 dX2_go_45 rv_is rfl ?_
    refine J_G (fun g1 => ?_)
    refine J_getR kc_2 7 (by decide) rfl rfl kw_2_186 dX2_go_46 g1 ?_
    refine J_G (fun g2 => ?_)
    refine J_getI kc_10 1 (by decide) rfl rfl kw_2_20 dX2_go_49 g2 ?_
    refine J_icmp_gt (tgt := 128) dX2_go_52 rfl ?_ ?_
    · exact J_sub [0] rfl (jX2_go_B128 x a0 h)
    · refine J_iconst (v := nI 0) dX2_go_55 rfl ?_
      refine J_istore dX2_go_56 (by decide) (SD.a (lvr := [(0, rv (zx x) a0), (3, .int i3)]) [0, 1] rfl rfl) ?_
      exact J_sub [1, 2, 0] rfl (jX2_go_B58 x (X2_go_B44 n) ih FU a0 i3 (nI 0) h)
def X2_go_f (a0 : Nat) (a1 : Nat) (a2 : Nat) (h : AH) : Option (Unit × AH) :=
  G (xc h a0 = 2) <|
  LT (pR h a0 7 a1) fun h2 =>
  G (xc h2 a1 = 10) <|
  G (xc h2 a0 = 2) <|
  LT (pR h2 a0 8 (xR h2 a1 0)) fun h5 =>
  G (xc h5 a0 = 2) <|
  LT (pR h5 a0 9 a2) fun h7 =>
  G (xc h7 a0 = 2) <|
  BN (J7_fill_d0a16_f (xR h7 a0 1) (lN 0) h7) fun _ h9 =>
  G (xc h9 a0 = 2) <|
  BN (J7_fill_d0a16_f (xR h9 a0 2) (lN 0) h9) fun _ h11 =>
  G (xc h11 a0 = 2) <|
  BN (J7_fill_d0a16_f (xR h11 a0 3) (lN 0) h11) fun _ h13 =>
  X2_go_B44 FU a0 (nI 0) h13
theorem jX2_go (x : CT) (a0 : Nat) (a1 : Nat) (a2 : Nat) (h : AH) : J x qX2_go ZV 0 [(0, rv (zx x) a0), (1, rv (zx x) a1), (2, rv (zx x) a2)] [] h (X2_go_f a0 a1 a2 h) := by
  unfold X2_go_f
  refine J_aload_n 0 dX2_go_0 rv_is rfl ?_
  refine J_aload_n 1 dX2_go_1 rv_is rfl ?_
  refine J_G (fun g1 => ?_)
  refine J_putR kc_2 7 (by decide) rfl rfl (Or.inl ⟨_, rfl⟩) (Or.inl rfl) kw_2_186 dX2_go_2 g1 ?_
  refine J_LTh (fun h2 => ?_)
  refine J_aload_n 0 dX2_go_5 rv_is rfl ?_
  refine J_aload_n 1 dX2_go_6 rv_is rfl ?_
  refine J_G (fun g3 => ?_)
  refine J_getR kc_10 0 (by decide) rfl rfl kw_2_12 dX2_go_7 g3 ?_
  refine J_G (fun g4 => ?_)
  refine J_putR kc_2 8 (by decide) rfl rfl (Or.inl ⟨_, rfl⟩) (Or.inl rfl) kw_2_187 dX2_go_10 g4 ?_
  refine J_LTh (fun h5 => ?_)
  refine J_aload_n 0 dX2_go_13 rv_is rfl ?_
  refine J_aload_n 2 dX2_go_14 rv_is rfl ?_
  refine J_G (fun g6 => ?_)
  refine J_putR kc_2 9 (by decide) rfl rfl (Or.inl ⟨_, rfl⟩) (Or.inl rfl) kw_2_188 dX2_go_15 g6 ?_
  refine J_LTh (fun h7 => ?_)
  refine J_aload_n 0 dX2_go_18 rv_is rfl ?_
  refine J_G (fun g8 => ?_)
  refine J_getR kc_2 1 (by decide) rfl rfl kw_2_176 dX2_go_19 g8 ?_
  refine J_lconst (v := lN 0) dX2_go_22 rfl ?_
  refine J.callS (n := 2) (As := [rv (zx x) (xR h7 a0 1), .long (lN 0)]) (ctJ7_fill_d0a16 (lx x) (wx x) (xR h7 a0 1) (lN 0) h7) kw_4_127 kw_4_141 kw_4_126 kw_1_25 (by decide +kernel) rfl (by decide) (Nat.zero_le _) rfl dX2_go_23 (fun _ h9 => ?_)
  show J x _ _ 26 _ [] h9 _
  refine J_aload_n 0 dX2_go_26 rv_is rfl ?_
  refine J_G (fun g10 => ?_)
  refine J_getR kc_2 2 (by decide) rfl rfl kw_2_177 dX2_go_27 g10 ?_
  refine J_lconst (v := lN 0) dX2_go_30 rfl ?_
  refine J.callS (n := 2) (As := [rv (zx x) (xR h9 a0 2), .long (lN 0)]) (ctJ7_fill_d0a16 (lx x) (wx x) (xR h9 a0 2) (lN 0) h9) kw_4_127 kw_4_141 kw_4_126 kw_1_25 (by decide +kernel) rfl (by decide) (Nat.zero_le _) rfl dX2_go_31 (fun _ h11 => ?_)
  show J x _ _ 34 _ [] h11 _
  refine J_aload_n 0 dX2_go_34 rv_is rfl ?_
  refine J_G (fun g12 => ?_)
  refine J_getR kc_2 3 (by decide) rfl rfl kw_2_178 dX2_go_35 g12 ?_
  refine J_lconst (v := lN 0) dX2_go_38 rfl ?_
  refine J.callS (n := 2) (As := [rv (zx x) (xR h11 a0 3), .long (lN 0)]) (ctJ7_fill_d0a16 (lx x) (wx x) (xR h11 a0 3) (lN 0) h11) kw_4_127 kw_4_141 kw_4_126 kw_1_25 (by decide +kernel) rfl (by decide) (Nat.zero_le _) rfl dX2_go_39 (fun _ h13 => ?_)
  show J x _ _ 42 _ [] h13 _
  refine J_iconst (v := nI 0) dX2_go_42 rfl ?_
  refine J_istore_n dX2_go_43 (by decide) (SD.a (lvr := [(0, rv (zx x) a0)]) [0] rfl rfl) ?_
  exact J_sub [1, 0] rfl (jX2_go_B44 x FU a0 (nI 0) h13)
theorem ctX2_go (l : Launch) (w : WT) (a0 : Nat) (a1 : Nat) (a2 : Nat) (h : AH) : CM l w yX2_go cX2_go 5 none 3 88 KV [rv (w.1) a0, rv (w.1) a1, rv (w.1) a2] h (X2_go_f a0 a1 a2 h) :=
  CM.of (by decide +kernel) (by simp [lg_sl, rv_cat, cat_I, cat_L, cat_S]) (lv := [(0, rv (w.1) a0), (1, rv (w.1) a1), (2, rv (w.1) a2)]) (by simp [lv_args, rv_cat, cat_I, cat_L, cat_S]) (fun x hx => by subst hx; exact jX2_go x a0 a1 a2 h)
-- FallTrials$Reader.readPlaces([ILjava/lang/String;)I
abbrev qX6_readPlaces : MT := (cX6_readPlaces, RX6, "readPlaces", (some .int), 7, 148, 6)
def X6_readPlaces_B94 (i3 : Int32) (h : AH) : Option (Int32 × AH) :=
  some (i3 + (nI 1), h)
theorem jX6_readPlaces_B94 (x : CT) (i3 : Int32) (h : AH) : J x qX6_readPlaces ZI 94 [(3, .int i3)] [] h (X6_readPlaces_B94 i3 h) := by
  unfold X6_readPlaces_B94
  refine J_iload_n 0 dX6_readPlaces_94 rfl ?_
  refine J_iconst (v := nI 1) dX6_readPlaces_95 rfl ?_
  refine J_iadd dX6_readPlaces_96 ?_
  exact J_iret dX6_readPlaces_97
def X6_readPlaces_B61 (k2 : (Nat → Nat → Nat → Int32 → AH → Option (Int32 × AH))) (a0 : Nat) (a1 : Nat) (s2 : Nat) (i3 : Int32) (i4 : Int32) (is0 : Int32) (h : AH) : Option (Int32 × AH) :=
  if is0 = (-1) then (
    some ((-1), h)
  ) else (
    G (xc h a1 = 16) <|
    G (gx i3 (xz h a1)) <|
    LT (pI h a1 i3.toNatClampNeg ((is0 * (nI 10)) + i4)) fun h3 =>
    G (xc h3 a0 = 6) <|
    BN (X6_step_f a0 h3) fun _ h5 =>
    G (xc h5 a0 = 6) <|
    BN (X6_spells_f a0 s2 h5) fun v8 h7 =>
    if v8 = 0 then (
      X6_readPlaces_B94 i3 h7
    ) else (
      LT (i3 + nI 1) fun v9 =>
      k2 a0 a1 s2 v9 h7
    )
  )
theorem jX6_readPlaces_B61 (x : CT) (k2 : (Nat → Nat → Nat → Int32 → AH → Option (Int32 × AH))) (hk2 : ∀ (a0 : Nat) (a1 : Nat) (s2 : Nat) (i3 : Int32) (h : AH), J x qX6_readPlaces ZI 2 [(0, rv (zx x) a0), (1, rv (zx x) a1), (2, sv (wx x) s2), (3, .int i3)] [] h (k2 a0 a1 s2 i3 h)) (a0 : Nat) (a1 : Nat) (s2 : Nat) (i3 : Int32) (i4 : Int32) (is0 : Int32) (h : AH) : J x qX6_readPlaces ZI 61 [(0, rv (zx x) a0), (1, rv (zx x) a1), (2, sv (wx x) s2), (3, .int i3), (4, .int i4)] [.int is0] h (X6_readPlaces_B61 k2 a0 a1 s2 i3 i4 is0 h) := by
  unfold X6_readPlaces_B61
  refine J_istore dX6_readPlaces_61 (by decide) (SD.a (lvr := [(0, rv (zx x) a0), (1, rv (zx x) a1), (2, sv (wx x) s2), (3, .int i3), (4, .int i4)]) [0, 1, 2, 3, 4] rfl rfl) ?_
  refine J_iload 0 dX6_readPlaces_63 rfl ?_
  refine J_iconst (v := (-1)) dX6_readPlaces_65 rfl ?_
  refine J_icmp_ne (tgt := 71) dX6_readPlaces_66 rfl ?_ ?_
  · refine J_aload_n 2 dX6_readPlaces_71 rv_is rfl ?_
    refine J_iload_n 4 dX6_readPlaces_72 rfl ?_
    refine J_iload 0 dX6_readPlaces_73 rfl ?_
    refine J_bipush (v := nI 10) dX6_readPlaces_75 rfl ?_
    refine J_imul dX6_readPlaces_77 ?_
    refine J_iload 5 dX6_readPlaces_78 rfl ?_
    refine J_iadd dX6_readPlaces_80 ?_
    refine J_G (fun g1 => ?_)
    refine J_G (fun g2 => ?_)
    refine J_iast dX6_readPlaces_81 g1 g2 ?_
    refine J_LTh (fun h3 => ?_)
    refine J_aload_n 1 dX6_readPlaces_82 rv_is rfl ?_
    refine J_G (fun g4 => ?_)
    refine J.callV (n := 0) (As := []) kc_6 (ctX6_step (lx x) (wx x) a0 h3) kw_3_130 kw_3_127 kw_3_128 kw_3_129 kw_1_4 (by decide +kernel) rfl (by decide) (Nat.zero_le _) rfl dX6_readPlaces_83 g4 (fun _ h5 => ?_)
    show J x _ _ 86 _ [] h5 _
    refine J_aload_n 1 dX6_readPlaces_86 rv_is rfl ?_
    refine J_aload_n 3 dX6_readPlaces_87 sv_is rfl ?_
    refine J_G (fun g6 => ?_)
    refine J.callV (n := 1) (As := [sv (wx x) s2]) kc_6 (ctX6_spells (lx x) (wx x) a0 s2 h5) kw_3_135 kw_3_132 kw_3_133 kw_3_134 kw_1_4 (by decide +kernel) rfl (by decide) (Nat.zero_le _) rfl dX6_readPlaces_88 g6 (fun v8 h7 => ?_)
    show J x _ _ 91 _ [.int v8] h7 _
    refine J_if_ne (tgt := 98) dX6_readPlaces_91 rfl ?_ ?_
    · refine J_iincL (u := i3 + nI 1) 4 dX6_readPlaces_98 rfl rfl (by decide) (SD.a (lvr := [(0, rv (zx x) a0), (1, rv (zx x) a1), (2, sv (wx x) s2)]) [1, 2, 3] rfl rfl) (fun v9 => ?_)
      refine J_goto (tgt := 2) dX6_readPlaces_101 rfl ?_
      exact J_sub [1, 2, 3, 0] rfl (hk2 a0 a1 s2 v9 h7)
    · exact J_sub [4] rfl (jX6_readPlaces_B94 x i3 h7)
  · refine J_iconst (v := (-1)) dX6_readPlaces_69 rfl ?_
    exact J_iret dX6_readPlaces_70
def X6_readPlaces_B36 (a0 : Nat) (h : AH) : Option (Int32 × AH) :=
  G (xc h a0 = 6) <|
  BN (X6_flawed_f a0 (nI 5) h) fun v3 h2 =>
  some ((-1), h2)
theorem jX6_readPlaces_B36 (x : CT) (a0 : Nat) (h : AH) : J x qX6_readPlaces ZI 36 [(0, rv (zx x) a0)] [] h (X6_readPlaces_B36 a0 h) := by
  unfold X6_readPlaces_B36
  refine J_aload_n 0 dX6_readPlaces_36 rv_is rfl ?_
  refine J_iconst (v := nI 5) dX6_readPlaces_37 rfl ?_
  refine J_G (fun g1 => ?_)
  refine J.callV (n := 1) (As := [.int (nI 5)]) kc_6 (ctX6_flawed (lx x) (wx x) a0 (nI 5) h) kw_3_213 kw_3_210 kw_3_211 kw_3_212 kw_1_4 (by decide +kernel) rfl (by decide) (Nat.zero_le _) rfl dX6_readPlaces_38 g1 (fun v3 h2 => ?_)
  show J x _ _ 41 _ [.int v3] h2 _
  refine J_pop dX6_readPlaces_41 rfl ?_
  refine J_iconst (v := (-1)) dX6_readPlaces_42 rfl ?_
  exact J_iret dX6_readPlaces_43
def X6_readPlaces_B2 : Nat → Nat → Nat → Nat → Int32 → AH → Option (Int32 × AH)
  | 0, _, _, _, _, _ => none
  | n + 1, a0, a1, s2, i3, h =>
    if (nI 3) < i3 then (
      some ((-1), h)
    ) else (
      G (xc h a0 = 6) <|
      BN (X6_step_f a0 h) fun _ h2 =>
      G (xc h2 a0 = 6) <|
      BN (X6_rowHere_f a0 h2) fun v5 h4 =>
      if v5 = (-1) then (
        some ((-1), h4)
      ) else (
        if (nI 3) ≤ i3 then (
          X6_readPlaces_B36 a0 h4
        ) else (
          G (xc h4 a1 = 16) <|
          if i3 < (nI (xz h4 a1)) then (
            G (xc h4 a0 = 6) <|
            BN (X6_stepTo_f a0 1 h4) fun v9 h8 =>
            if v9 = 0 then (
              X6_readPlaces_B61 (X6_readPlaces_B2 n) a0 a1 s2 i3 v5 (-1) h8
            ) else (
              G (xc h8 a0 = 6) <|
              BN (X6_stepToMachine_f a0 h8) fun v12 h11 =>
              X6_readPlaces_B61 (X6_readPlaces_B2 n) a0 a1 s2 i3 v5 v12 h11
            )
          ) else (
            X6_readPlaces_B36 a0 h4
          )
        )
      )
    )
theorem jX6_readPlaces_B2 (x : CT) : ∀ (n : Nat) (a0 : Nat) (a1 : Nat) (s2 : Nat) (i3 : Int32) (h : AH), J x qX6_readPlaces ZI 2 [(0, rv (zx x) a0), (1, rv (zx x) a1), (2, sv (wx x) s2), (3, .int i3)] [] h (X6_readPlaces_B2 n a0 a1 s2 i3 h) := by
  intro n
  induction n with
  | zero => intro a0 a1 s2 i3 h; exact J_none
  | succ n ih =>
    intro a0 a1 s2 i3 h
    unfold X6_readPlaces_B2
    refine J_iload_n 3 dX6_readPlaces_2 rfl ?_
    refine J_iconst (v := nI 3) dX6_readPlaces_3 rfl ?_
    refine J_icmp_gt (tgt := 104) dX6_readPlaces_4 rfl ?_ ?_
    · refine J_iconst (v := (-1)) dX6_readPlaces_104 rfl ?_
      exact J_iret dX6_readPlaces_105
    · refine J_aload_n 0 dX6_readPlaces_7 rv_is rfl ?_
      refine J_G (fun g1 => ?_)
      refine J.callV (n := 0) (As := []) kc_6 (ctX6_step (lx x) (wx x) a0 h) kw_3_130 kw_3_127 kw_3_128 kw_3_129 kw_1_4 (by decide +kernel) rfl (by decide) (Nat.zero_le _) rfl dX6_readPlaces_8 g1 (fun _ h2 => ?_)
      show J x _ _ 11 _ [] h2 _
      refine J_aload_n 0 dX6_readPlaces_11 rv_is rfl ?_
      refine J_G (fun g3 => ?_)
      refine J.callV (n := 0) (As := []) kc_6 (ctX6_rowHere (lx x) (wx x) a0 h2) kw_3_196 kw_3_193 kw_3_194 kw_3_195 kw_1_4 (by decide +kernel) rfl (by decide) (Nat.zero_le _) rfl dX6_readPlaces_12 g3 (fun v5 h4 => ?_)
      show J x _ _ 15 _ [.int v5] h4 _
      refine J_istore dX6_readPlaces_15 (by decide) (SD.a (lvr := [(0, rv (zx x) a0), (1, rv (zx x) a1), (2, sv (wx x) s2), (3, .int i3)]) [0, 1, 2, 3] rfl rfl) ?_
      refine J_iload 0 dX6_readPlaces_17 rfl ?_
      refine J_iconst (v := (-1)) dX6_readPlaces_19 rfl ?_
      refine J_icmp_ne (tgt := 25) dX6_readPlaces_20 rfl ?_ ?_
      · refine J_iload_n 4 dX6_readPlaces_25 rfl ?_
        refine J_iconst (v := nI 3) dX6_readPlaces_26 rfl ?_
        refine J_icmp_ge (tgt := 36) dX6_readPlaces_27 rfl ?_ ?_
        · exact J_sub [1] rfl (jX6_readPlaces_B36 x a0 h4)
        · refine J_iload_n 4 dX6_readPlaces_30 rfl ?_
          refine J_aload_n 2 dX6_readPlaces_31 rv_is rfl ?_
          refine J_G (fun g6 => ?_)
          refine J_alen16 dX6_readPlaces_32 g6 ?_
          refine J_icmp_lt (tgt := 44) dX6_readPlaces_33 rfl ?_ ?_
          · refine J_aload_n 1 dX6_readPlaces_44 rv_is rfl ?_
            refine J_ldcS (i := 1) (tx := "at") (index := 121) (by decide +kernel) dX6_readPlaces_45 ?_
            refine J_G (fun g7 => ?_)
            refine J.callV (n := 1) (As := [sv (wx x) 1]) kc_6 (ctX6_stepTo (lx x) (wx x) a0 1 h4) kw_3_226 kw_3_223 kw_3_224 kw_3_225 kw_1_4 (by decide +kernel) rfl (by decide) (Nat.zero_le _) rfl dX6_readPlaces_47 g7 (fun v9 h8 => ?_)
            show J x _ _ 50 _ [.int v9] h8 _
            refine J_if_eq (tgt := 60) dX6_readPlaces_50 rfl ?_ ?_
            · refine J_iconst (v := (-1)) dX6_readPlaces_60 rfl ?_
              exact J_sub [1, 2, 3, 4, 0] rfl (jX6_readPlaces_B61 x (X6_readPlaces_B2 n) ih a0 a1 s2 i3 v5 (-1) h8)
            · refine J_aload_n 1 dX6_readPlaces_53 rv_is rfl ?_
              refine J_G (fun g10 => ?_)
              refine J.callV (n := 0) (As := []) kc_6 (ctX6_stepToMachine (lx x) (wx x) a0 h8) kw_3_230 kw_3_227 kw_3_228 kw_3_229 kw_1_4 (by decide +kernel) rfl (by decide) (Nat.zero_le _) rfl dX6_readPlaces_54 g10 (fun v12 h11 => ?_)
              show J x _ _ 57 _ [.int v12] h11 _
              refine J_goto (tgt := 61) dX6_readPlaces_57 rfl ?_
              exact J_sub [1, 2, 3, 4, 0] rfl (jX6_readPlaces_B61 x (X6_readPlaces_B2 n) ih a0 a1 s2 i3 v5 v12 h11)
          · exact J_sub [1] rfl (jX6_readPlaces_B36 x a0 h4)
      · refine J_iconst (v := (-1)) dX6_readPlaces_23 rfl ?_
        exact J_iret dX6_readPlaces_24
def X6_readPlaces_f (a0 : Nat) (a1 : Nat) (s2 : Nat) (h : AH) : Option (Int32 × AH) :=
  X6_readPlaces_B2 FU a0 a1 s2 (nI 0) h
theorem jX6_readPlaces (x : CT) (a0 : Nat) (a1 : Nat) (s2 : Nat) (h : AH) : J x qX6_readPlaces ZI 0 [(0, rv (zx x) a0), (1, rv (zx x) a1), (2, sv (wx x) s2)] [] h (X6_readPlaces_f a0 a1 s2 h) := by
  unfold X6_readPlaces_f
  refine J_iconst (v := nI 0) dX6_readPlaces_0 rfl ?_
  refine J_istore_n dX6_readPlaces_1 (by decide) (SD.a (lvr := [(0, rv (zx x) a0), (1, rv (zx x) a1), (2, sv (wx x) s2)]) [0, 1, 2] rfl rfl) ?_
  exact J_sub [1, 2, 3, 0] rfl (jX6_readPlaces_B2 x FU a0 a1 s2 (nI 0) h)
theorem ctX6_readPlaces (l : Launch) (w : WT) (a0 : Nat) (a1 : Nat) (s2 : Nat) (h : AH) : CM l w yX6_readPlaces cX6_readPlaces 6 (some .int) 7 148 KI [rv (w.1) a0, rv (w.1) a1, sv (w) s2] h (X6_readPlaces_f a0 a1 s2 h) :=
  CM.of (by decide +kernel) (by simp [lg_sl, rv_cat, cat_I, cat_L, cat_S]) (lv := [(0, rv (w.1) a0), (1, rv (w.1) a1), (2, sv (w) s2)]) (by simp [lv_args, rv_cat, cat_I, cat_L, cat_S]) (fun x hx => by subst hx; exact jX6_readPlaces x a0 a1 s2 h)
-- FallTrials$Reader.readFact()Z
abbrev qX6_readFact : MT := (cX6_readFact, RX6, "readFact", (some .boolean), 8, 168, 4)
def X6_readFact_B70 (a0 : Nat) (i1 : Int32) (i2 : Int32) (i3 : Int32) (h : AH) : Option (Int32 × AH) :=
  G (xc h a0 = 6) <|
  G (xc h (xR h a0 10) = 0) <|
  BN (X0_addFact_f (xR h a0 10) i1 i2 i3 h) fun _ h3 =>
  G (xc h3 a0 = 6) <|
  BN (X6_endsLine_f a0 h3) fun v6 h5 =>
  G (bz v6) <|
  some (v6, h5)
theorem jX6_readFact_B70 (x : CT) (a0 : Nat) (i1 : Int32) (i2 : Int32) (i3 : Int32) (h : AH) : J x qX6_readFact ZI 70 [(0, rv (zx x) a0), (1, .int i1), (2, .int i2), (3, .int i3)] [] h (X6_readFact_B70 a0 i1 i2 i3 h) := by
  unfold X6_readFact_B70
  refine J_aload_n 0 dX6_readFact_70 rv_is rfl ?_
  refine J_G (fun g1 => ?_)
  refine J_getR kc_6 10 (by decide) rfl rfl kw_1_218 dX6_readFact_71 g1 ?_
  refine J_iload_n 1 dX6_readFact_74 rfl ?_
  refine J_iload_n 2 dX6_readFact_75 rfl ?_
  refine J_iload_n 3 dX6_readFact_76 rfl ?_
  refine J_G (fun g2 => ?_)
  refine J.callV (n := 3) (As := [.int i1, .int i2, .int i3]) kc_0 (ctX0_addFact (lx x) (wx x) (xR h a0 10) i1 i2 i3 h) kw_4_21 kw_4_18 kw_4_19 kw_4_20 kw_1_2 (by decide +kernel) rfl (by decide) (Nat.zero_le _) rfl dX6_readFact_77 g2 (fun _ h3 => ?_)
  show J x _ _ 80 _ [] h3 _
  refine J_aload_n 0 dX6_readFact_80 rv_is rfl ?_
  refine J_G (fun g4 => ?_)
  refine J.callV (n := 0) (As := []) kc_6 (ctX6_endsLine (lx x) (wx x) a0 h3) kw_4_3 kw_4_0 kw_4_1 kw_4_2 kw_1_4 (by decide +kernel) rfl (by decide) (Nat.zero_le _) rfl dX6_readFact_81 g4 (fun v6 h5 => ?_)
  show J x _ _ 84 _ [.int v6] h5 _
  refine J_G (fun g7 => ?_)
  exact J_zret dX6_readFact_84 g7
def X6_readFact_f (a0 : Nat) (h : AH) : Option (Int32 × AH) :=
  G (xc h a0 = 6) <|
  G (xc h (xR h a0 10) = 0) <|
  if (xI h (xR h a0 10) 2) = (nI 10) then (
    G (xc h a0 = 6) <|
    BN (X6_flawed_f a0 (nI 5) h) fun v21 h20 =>
    G (bz v21) <|
    some (v21, h20)
  ) else (
    G (xc h a0 = 6) <|
    BN (X6_stepToRow_f a0 h) fun v5 h4 =>
    if v5 = (-1) then (
      some (nI 0, h4)
    ) else (
      G (xc h4 a0 = 6) <|
      BN (X6_stepTo_f a0 1 h4) fun v8 h7 =>
      if v8 = 0 then (
        some (nI 0, h7)
      ) else (
        G (xc h7 a0 = 6) <|
        BN (X6_stepToMachine_f a0 h7) fun v11 h10 =>
        if v11 = (-1) then (
          some (nI 0, h10)
        ) else (
          G (xc h10 a0 = 6) <|
          BN (X6_step_f a0 h10) fun _ h13 =>
          G (xc h13 a0 = 6) <|
          BN (X6_spells_f a0 7 h13) fun v16 h15 =>
          if v16 = 0 then (
            X6_readFact_B70 a0 v5 v11 v16 h15
          ) else (
            G (xc h15 a0 = 6) <|
            BN (X6_step_f a0 h15) fun _ h18 =>
            X6_readFact_B70 a0 v5 v11 v16 h18
          )
        )
      )
    )
  )
theorem jX6_readFact (x : CT) (a0 : Nat) (h : AH) : J x qX6_readFact ZI 0 [(0, rv (zx x) a0)] [] h (X6_readFact_f a0 h) := by
  unfold X6_readFact_f
  refine J_aload_n 0 dX6_readFact_0 rv_is rfl ?_
  refine J_G (fun g1 => ?_)
  refine J_getR kc_6 10 (by decide) rfl rfl kw_1_218 dX6_readFact_1 g1 ?_
  refine J_G (fun g2 => ?_)
  refine J_getI kc_0 2 (by decide) rfl rfl kw_1_116 dX6_readFact_4 g2 ?_
  refine J_bipush (v := nI 10) dX6_readFact_7 rfl ?_
  refine J_icmp_ne (tgt := 18) dX6_readFact_9 rfl ?_ ?_
  · refine J_aload_n 0 dX6_readFact_18 rv_is rfl ?_
    refine J_G (fun g3 => ?_)
    refine J.callV (n := 0) (As := []) kc_6 (ctX6_stepToRow (lx x) (wx x) a0 h) kw_4_16 kw_4_13 kw_4_14 kw_4_15 kw_1_4 (by decide +kernel) rfl (by decide) (Nat.zero_le _) rfl dX6_readFact_19 g3 (fun v5 h4 => ?_)
    show J x _ _ 22 _ [.int v5] h4 _
    refine J_istore_n dX6_readFact_22 (by decide) (SD.c (lvr := [(0, rv (zx x) a0)]) [0] rfl rfl 0 rfl rfl rv_cat) ?_
    refine J_iload_n 0 dX6_readFact_23 rfl ?_
    refine J_iconst (v := (-1)) dX6_readFact_24 rfl ?_
    refine J_icmp_eq (tgt := 37) dX6_readFact_25 rfl ?_ ?_
    · refine J_iconst (v := nI 0) dX6_readFact_37 rfl ?_
      exact J_zret dX6_readFact_38 (by decide)
    · refine J_aload_n 1 dX6_readFact_28 rv_is rfl ?_
      refine J_ldcS (i := 1) (tx := "at") (index := 121) (by decide +kernel) dX6_readFact_29 ?_
      refine J_G (fun g6 => ?_)
      refine J.callV (n := 1) (As := [sv (wx x) 1]) kc_6 (ctX6_stepTo (lx x) (wx x) a0 1 h4) kw_3_226 kw_3_223 kw_3_224 kw_3_225 kw_1_4 (by decide +kernel) rfl (by decide) (Nat.zero_le _) rfl dX6_readFact_31 g6 (fun v8 h7 => ?_)
      show J x _ _ 34 _ [.int v8] h7 _
      refine J_if_ne (tgt := 39) dX6_readFact_34 rfl ?_ ?_
      · refine J_aload_n 1 dX6_readFact_39 rv_is rfl ?_
        refine J_G (fun g9 => ?_)
        refine J.callV (n := 0) (As := []) kc_6 (ctX6_stepToMachine (lx x) (wx x) a0 h7) kw_3_230 kw_3_227 kw_3_228 kw_3_229 kw_1_4 (by decide +kernel) rfl (by decide) (Nat.zero_le _) rfl dX6_readFact_40 g9 (fun v11 h10 => ?_)
        show J x _ _ 43 _ [.int v11] h10 _
        refine J_istore_n dX6_readFact_43 (by decide) (SD.a (lvr := [(1, .int v5), (0, rv (zx x) a0)]) [0, 1] rfl rfl) ?_
        refine J_iload_n 0 dX6_readFact_44 rfl ?_
        refine J_iconst (v := (-1)) dX6_readFact_45 rfl ?_
        refine J_icmp_ne (tgt := 51) dX6_readFact_46 rfl ?_ ?_
        · refine J_aload_n 2 dX6_readFact_51 rv_is rfl ?_
          refine J_G (fun g12 => ?_)
          refine J.callV (n := 0) (As := []) kc_6 (ctX6_step (lx x) (wx x) a0 h10) kw_3_130 kw_3_127 kw_3_128 kw_3_129 kw_1_4 (by decide +kernel) rfl (by decide) (Nat.zero_le _) rfl dX6_readFact_52 g12 (fun _ h13 => ?_)
          show J x _ _ 55 _ [] h13 _
          refine J_aload_n 2 dX6_readFact_55 rv_is rfl ?_
          refine J_ldcS (i := 7) (tx := "maybe") (index := 167) (by decide +kernel) dX6_readFact_56 ?_
          refine J_G (fun g14 => ?_)
          refine J.callV (n := 1) (As := [sv (wx x) 7]) kc_6 (ctX6_spells (lx x) (wx x) a0 7 h13) kw_3_135 kw_3_132 kw_3_133 kw_3_134 kw_1_4 (by decide +kernel) rfl (by decide) (Nat.zero_le _) rfl dX6_readFact_58 g14 (fun v16 h15 => ?_)
          show J x _ _ 61 _ [.int v16] h15 _
          refine J_istore_n dX6_readFact_61 (by decide) (SD.a (lvr := [(2, .int v11), (1, .int v5), (0, rv (zx x) a0)]) [0, 1, 2] rfl rfl) ?_
          refine J_iload_n 0 dX6_readFact_62 rfl ?_
          refine J_if_eq (tgt := 70) dX6_readFact_63 rfl ?_ ?_
          · exact J_sub [3, 2, 1, 0] rfl (jX6_readFact_B70 x a0 v5 v11 v16 h15)
          · refine J_aload_n 3 dX6_readFact_66 rv_is rfl ?_
            refine J_G (fun g17 => ?_)
            refine J.callV (n := 0) (As := []) kc_6 (ctX6_step (lx x) (wx x) a0 h15) kw_3_130 kw_3_127 kw_3_128 kw_3_129 kw_1_4 (by decide +kernel) rfl (by decide) (Nat.zero_le _) rfl dX6_readFact_67 g17 (fun _ h18 => ?_)
            show J x _ _ 70 _ [] h18 _
            exact J_sub [3, 2, 1, 0] rfl (jX6_readFact_B70 x a0 v5 v11 v16 h18)
        · refine J_iconst (v := nI 0) dX6_readFact_49 rfl ?_
          exact J_zret dX6_readFact_50 (by decide)
      · refine J_iconst (v := nI 0) dX6_readFact_37 rfl ?_
        exact J_zret dX6_readFact_38 (by decide)
  · refine J_aload_n 0 dX6_readFact_12 rv_is rfl ?_
    refine J_iconst (v := nI 5) dX6_readFact_13 rfl ?_
    refine J_G (fun g19 => ?_)
    refine J.callV (n := 1) (As := [.int (nI 5)]) kc_6 (ctX6_flawed (lx x) (wx x) a0 (nI 5) h) kw_3_213 kw_3_210 kw_3_211 kw_3_212 kw_1_4 (by decide +kernel) rfl (by decide) (Nat.zero_le _) rfl dX6_readFact_14 g19 (fun v21 h20 => ?_)
    show J x _ _ 17 _ [.int v21] h20 _
    refine J_G (fun g22 => ?_)
    exact J_zret dX6_readFact_17 g22
theorem ctX6_readFact (l : Launch) (w : WT) (a0 : Nat) (h : AH) : CM l w yX6_readFact cX6_readFact 4 (some .boolean) 8 168 KI [rv (w.1) a0] h (X6_readFact_f a0 h) :=
  CM.of (by decide +kernel) (by simp [lg_sl, rv_cat, cat_I, cat_L, cat_S]) (lv := [(0, rv (w.1) a0)]) (by simp [lv_args, rv_cat, cat_I, cat_L, cat_S]) (fun x hx => by subst hx; exact jX6_readFact x a0 h)
