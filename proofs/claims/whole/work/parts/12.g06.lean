-- FallTrialsModel.<init>()V
abbrev qX15_init : MT := (cX15_init, RX15, "<init>", none, 5, 112, 1)
def X15_init_f (a0 : Nat) (h : AH) : Option (Unit × AH) :=
  G (xc h a0 ≠ 99) <|
  G (xc h a0 = 15) <|
  LT (pI h a0 2 (-1)) fun h3 =>
  LT (xn h3) fun r5 =>
  LT (pN h3 14 8) fun h4 =>
  G (xc h4 r5 ≠ 99) <|
  BN (X14_init_f r5 h4) fun _ h7 =>
  G (xc h7 a0 = 15) <|
  LT (pR h7 a0 6 r5) fun h9 =>
  LT (xn h9) fun r12 =>
  LT (pN h9 18 (nI 700).toNatClampNeg) fun h11 =>
  G (xc h11 a0 = 15) <|
  LT (pR h11 a0 7 r12) fun h14 =>
  G (xc h14 a0 = 15) <|
  LT (pI h14 a0 14 (nI 4)) fun h16 =>
  LT (xn h16) fun r19 =>
  LT (pN h16 16 (nI 4).toNatClampNeg) fun h18 =>
  G (xc h18 a0 = 15) <|
  LT (pR h18 a0 19 r19) fun h21 =>
  LT (xn h21) fun r24 =>
  LT (pN h21 16 (nI 6).toNatClampNeg) fun h23 =>
  G (xc h23 a0 = 15) <|
  LT (pR h23 a0 20 r24) fun h26 =>
  LT (xn h26) fun r29 =>
  LT (pN h26 16 (nI 8).toNatClampNeg) fun h28 =>
  G (xc h28 a0 = 15) <|
  LT (pR h28 a0 21 r29) fun h31 =>
  LT (xn h31) fun r34 =>
  LT (pN h31 16 (nI 48).toNatClampNeg) fun h33 =>
  G (xc h33 a0 = 15) <|
  LT (pR h33 a0 22 r34) fun h36 =>
  LT (xn h36) fun r38 =>
  LT (pN h36 13 3) fun h37 =>
  G (xc h37 r38 ≠ 99) <|
  BN (X13_init_f r38 h37) fun _ h40 =>
  G (xc h40 a0 = 15) <|
  LT (pR h40 a0 26 r38) fun h42 =>
  LT (xn h42) fun r44 =>
  LT (pN h42 13 3) fun h43 =>
  G (xc h43 r44 ≠ 99) <|
  BN (X13_init_f r44 h43) fun _ h46 =>
  G (xc h46 a0 = 15) <|
  LT (pR h46 a0 27 r44) fun h48 =>
  LT (xn h48) fun r51 =>
  LT (pN h48 16 (nI 2912).toNatClampNeg) fun h50 =>
  G (xc h50 a0 = 15) <|
  LT (pR h50 a0 28 r51) fun h53 =>
  LT (xn h53) fun r56 =>
  LT (pN h53 16 (nI 728).toNatClampNeg) fun h55 =>
  G (xc h55 a0 = 15) <|
  LT (pR h55 a0 29 r56) fun h58 =>
  LT (xn h58) fun r61 =>
  LT (pN h58 16 (nI 4368).toNatClampNeg) fun h60 =>
  G (xc h60 a0 = 15) <|
  LT (pR h60 a0 30 r61) fun h63 =>
  LT (xn h63) fun r66 =>
  LT (pN h63 16 (nI 4368).toNatClampNeg) fun h65 =>
  G (xc h65 a0 = 15) <|
  LT (pR h65 a0 31 r66) fun h68 =>
  LT (xn h68) fun r71 =>
  LT (pN h68 19 (nI 4368).toNatClampNeg) fun h70 =>
  G (xc h70 a0 = 15) <|
  LT (pR h70 a0 32 r71) fun h73 =>
  LT (xn h73) fun r76 =>
  LT (pN h73 16 (nI 54).toNatClampNeg) fun h75 =>
  G (xc h75 a0 = 15) <|
  LT (pR h75 a0 34 r76) fun h78 =>
  LT (xn h78) fun r81 =>
  LT (pN h78 16 (nI 28).toNatClampNeg) fun h80 =>
  G (xc h80 a0 = 15) <|
  LT (pR h80 a0 35 r81) fun h83 =>
  LT (xn h83) fun r86 =>
  LT (pN h83 16 (nI 120).toNatClampNeg) fun h85 =>
  G (xc h85 a0 = 15) <|
  LT (pR h85 a0 37 r86) fun h88 =>
  LT (xn h88) fun r91 =>
  LT (pN h88 16 (nI 3).toNatClampNeg) fun h90 =>
  G (xc h90 a0 = 15) <|
  LT (pR h90 a0 38 r91) fun h93 =>
  LT (xn h93) fun r96 =>
  LT (pN h93 16 (nI 3).toNatClampNeg) fun h95 =>
  G (xc h95 a0 = 15) <|
  LT (pR h95 a0 39 r96) fun h98 =>
  G (xc h98 a0 = 15) <|
  LT (pI h98 a0 40 (-1)) fun h100 =>
  G (xc h100 a0 = 15) <|
  LT (pI h100 a0 41 (-1)) fun h102 =>
  LT (xn h102) fun r105 =>
  LT (pN h102 16 (nI 3).toNatClampNeg) fun h104 =>
  G (xc h104 a0 = 15) <|
  LT (pR h104 a0 44 r105) fun h107 =>
  LT (xn h107) fun r110 =>
  LT (pN h107 16 (nI 3).toNatClampNeg) fun h109 =>
  G (xc h109 a0 = 15) <|
  LT (pR h109 a0 45 r110) fun h112 =>
  LT (xn h112) fun r115 =>
  LT (pN h112 16 (nI 6).toNatClampNeg) fun h114 =>
  G (xc h114 a0 = 15) <|
  LT (pR h114 a0 46 r115) fun h117 =>
  G (xc h117 a0 = 15) <|
  LT (pI h117 a0 47 (-1)) fun h119 =>
  LT (xn h119) fun r122 =>
  LT (pN h119 16 (nI 280).toNatClampNeg) fun h121 =>
  G (xc h121 a0 = 15) <|
  LT (pR h121 a0 48 r122) fun h124 =>
  LT (xn h124) fun r127 =>
  LT (pN h124 16 (nI 6).toNatClampNeg) fun h126 =>
  G (xc h126 a0 = 15) <|
  LT (pR h126 a0 49 r127) fun h129 =>
  LT (xn h129) fun r132 =>
  LT (pN h129 16 (nI 6).toNatClampNeg) fun h131 =>
  G (xc h131 a0 = 15) <|
  LT (pR h131 a0 50 r132) fun h134 =>
  some ((), h134)
theorem jX15_init (x : CT) (a0 : Nat) (h : AH) : J x qX15_init ZV 0 [(0, rv (zx x) a0)] [] h (X15_init_f a0 h) := by
  unfold X15_init_f
  refine J_aload_n 0 dX15_init_0 rv_is rfl ?_
  refine J_G (fun g1 => ?_)
  refine J_objInit kw_6_161 kw_1_35 kw_1_36 (by decide) dX15_init_1 g1 ?_
  refine J_aload_n 0 dX15_init_4 rv_is rfl ?_
  refine J_iconst (v := (-1)) dX15_init_5 rfl ?_
  refine J_G (fun g2 => ?_)
  refine J_putI kc_15 2 (by decide) rfl rfl rfl rfl (Or.inl rfl) kw_6_212 dX15_init_6 g2 ?_
  refine J_LTh (fun h3 => ?_)
  refine J_aload_n 0 dX15_init_9 rv_is rfl ?_
  refine J_new kc_14 kw_6_162 kw_6_163 kw_1_17 dX15_init_10 ?_
  refine J_LTr (fun r5 => ?_)
  refine J_LTh (fun h4 => ?_)
  refine J_dup dX15_init_13 rv_cat ?_
  refine J_G (fun g6 => ?_)
  refine J.callI (n := 0) (As := []) (ctX14_init (lx x) (wx x) r5 h4) kw_6_173 kw_6_171 kw_6_172 kw_1_17 (by decide +kernel) rfl (by decide) (by simp [rv_cat, cat_I, cat_L, cat_S]) rfl dX15_init_14 g6 (fun _ h7 => ?_)
  show J x _ _ 17 _ [rv (zx x) r5, rv (zx x) a0] h7 _
  refine J_G (fun g8 => ?_)
  refine J_putR kc_15 6 (by decide) rfl rfl (Or.inl ⟨_, rfl⟩) (Or.inr ⟨rfl, rfl, rfl⟩) kw_6_216 dX15_init_17 g8 ?_
  refine J_LTh (fun h9 => ?_)
  refine J_aload_n 0 dX15_init_20 rv_is rfl ?_
  refine J_sipush (v := nI 700) dX15_init_21 rfl ?_
  refine J_newarr18 kw_2_2 dX15_init_24 (by decide) ?_
  refine J_LTr (fun r12 => ?_)
  refine J_LTh (fun h11 => ?_)
  refine J_G (fun g13 => ?_)
  refine J_putR kc_15 7 (by decide) rfl rfl (Or.inr ⟨_, rfl⟩) (Or.inr ⟨rfl, rfl, rfl⟩) kw_6_217 dX15_init_26 g13 ?_
  refine J_LTh (fun h14 => ?_)
  refine J_aload_n 0 dX15_init_29 rv_is rfl ?_
  refine J_iconst (v := nI 4) dX15_init_30 rfl ?_
  refine J_G (fun g15 => ?_)
  refine J_putI kc_15 14 (by decide) rfl rfl rfl rfl (Or.inl rfl) kw_6_224 dX15_init_31 g15 ?_
  refine J_LTh (fun h16 => ?_)
  refine J_aload_n 0 dX15_init_34 rv_is rfl ?_
  refine J_iconst (v := nI 4) dX15_init_35 rfl ?_
  refine J_newarr16 kw_1_101 dX15_init_36 (by decide) ?_
  refine J_LTr (fun r19 => ?_)
  refine J_LTh (fun h18 => ?_)
  refine J_G (fun g20 => ?_)
  refine J_putR kc_15 19 (by decide) rfl rfl (Or.inr ⟨_, rfl⟩) (Or.inr ⟨rfl, rfl, rfl⟩) kw_6_229 dX15_init_38 g20 ?_
  refine J_LTh (fun h21 => ?_)
  refine J_aload_n 0 dX15_init_41 rv_is rfl ?_
  refine J_bipush (v := nI 6) dX15_init_42 rfl ?_
  refine J_newarr16 kw_1_101 dX15_init_44 (by decide) ?_
  refine J_LTr (fun r24 => ?_)
  refine J_LTh (fun h23 => ?_)
  refine J_G (fun g25 => ?_)
  refine J_putR kc_15 20 (by decide) rfl rfl (Or.inr ⟨_, rfl⟩) (Or.inr ⟨rfl, rfl, rfl⟩) kw_6_230 dX15_init_46 g25 ?_
  refine J_LTh (fun h26 => ?_)
  refine J_aload_n 0 dX15_init_49 rv_is rfl ?_
  refine J_bipush (v := nI 8) dX15_init_50 rfl ?_
  refine J_newarr16 kw_1_101 dX15_init_52 (by decide) ?_
  refine J_LTr (fun r29 => ?_)
  refine J_LTh (fun h28 => ?_)
  refine J_G (fun g30 => ?_)
  refine J_putR kc_15 21 (by decide) rfl rfl (Or.inr ⟨_, rfl⟩) (Or.inr ⟨rfl, rfl, rfl⟩) kw_6_231 dX15_init_54 g30 ?_
  refine J_LTh (fun h31 => ?_)
  refine J_aload_n 0 dX15_init_57 rv_is rfl ?_
  refine J_bipush (v := nI 48) dX15_init_58 rfl ?_
  refine J_newarr16 kw_1_101 dX15_init_60 (by decide) ?_
  refine J_LTr (fun r34 => ?_)
  refine J_LTh (fun h33 => ?_)
  refine J_G (fun g35 => ?_)
  refine J_putR kc_15 22 (by decide) rfl rfl (Or.inr ⟨_, rfl⟩) (Or.inr ⟨rfl, rfl, rfl⟩) kw_6_232 dX15_init_62 g35 ?_
  refine J_LTh (fun h36 => ?_)
  refine J_aload_n 0 dX15_init_65 rv_is rfl ?_
  refine J_new kc_13 kw_6_191 kw_6_192 kw_1_18 dX15_init_66 ?_
  refine J_LTr (fun r38 => ?_)
  refine J_LTh (fun h37 => ?_)
  refine J_dup dX15_init_69 rv_cat ?_
  refine J_G (fun g39 => ?_)
  refine J.callIN (n := 0) (As := []) (ctX13_init (lx x) (wx x) r38 h37) kw_6_195 kn_19 kw_6_194 kw_1_18 (by decide +kernel) rfl (by decide) (by simp [rv_cat, cat_I, cat_L, cat_S]) rfl dX15_init_70 g39 (fun _ h40 => ?_)
  show J x _ _ 73 _ [rv (zx x) r38, rv (zx x) a0] h40 _
  refine J_G (fun g41 => ?_)
  refine J_putR kc_15 26 (by decide) rfl rfl (Or.inl ⟨_, rfl⟩) (Or.inr ⟨rfl, rfl, rfl⟩) kw_6_236 dX15_init_73 g41 ?_
  refine J_LTh (fun h42 => ?_)
  refine J_aload_n 0 dX15_init_76 rv_is rfl ?_
  refine J_new kc_13 kw_6_191 kw_6_192 kw_1_18 dX15_init_77 ?_
  refine J_LTr (fun r44 => ?_)
  refine J_LTh (fun h43 => ?_)
  refine J_dup dX15_init_80 rv_cat ?_
  refine J_G (fun g45 => ?_)
  refine J.callIN (n := 0) (As := []) (ctX13_init (lx x) (wx x) r44 h43) kw_6_195 kn_19 kw_6_194 kw_1_18 (by decide +kernel) rfl (by decide) (by simp [rv_cat, cat_I, cat_L, cat_S]) rfl dX15_init_81 g45 (fun _ h46 => ?_)
  show J x _ _ 84 _ [rv (zx x) r44, rv (zx x) a0] h46 _
  refine J_G (fun g47 => ?_)
  refine J_putR kc_15 27 (by decide) rfl rfl (Or.inl ⟨_, rfl⟩) (Or.inr ⟨rfl, rfl, rfl⟩) kw_6_237 dX15_init_84 g47 ?_
  refine J_LTh (fun h48 => ?_)
  refine J_aload_n 0 dX15_init_87 rv_is rfl ?_
  refine J_sipush (v := nI 2912) dX15_init_88 rfl ?_
  refine J_newarr16 kw_1_101 dX15_init_91 (by decide) ?_
  refine J_LTr (fun r51 => ?_)
  refine J_LTh (fun h50 => ?_)
  refine J_G (fun g52 => ?_)
  refine J_putR kc_15 28 (by decide) rfl rfl (Or.inr ⟨_, rfl⟩) (Or.inr ⟨rfl, rfl, rfl⟩) kw_6_238 dX15_init_93 g52 ?_
  refine J_LTh (fun h53 => ?_)
  refine J_aload_n 0 dX15_init_96 rv_is rfl ?_
  refine J_sipush (v := nI 728) dX15_init_97 rfl ?_
  refine J_newarr16 kw_1_101 dX15_init_100 (by decide) ?_
  refine J_LTr (fun r56 => ?_)
  refine J_LTh (fun h55 => ?_)
  refine J_G (fun g57 => ?_)
  refine J_putR kc_15 29 (by decide) rfl rfl (Or.inr ⟨_, rfl⟩) (Or.inr ⟨rfl, rfl, rfl⟩) kw_6_239 dX15_init_102 g57 ?_
  refine J_LTh (fun h58 => ?_)
  refine J_aload_n 0 dX15_init_105 rv_is rfl ?_
  refine J_sipush (v := nI 4368) dX15_init_106 rfl ?_
  refine J_newarr16 kw_1_101 dX15_init_109 (by decide) ?_
  refine J_LTr (fun r61 => ?_)
  refine J_LTh (fun h60 => ?_)
  refine J_G (fun g62 => ?_)
  refine J_putR kc_15 30 (by decide) rfl rfl (Or.inr ⟨_, rfl⟩) (Or.inr ⟨rfl, rfl, rfl⟩) kw_7_0 dX15_init_111 g62 ?_
  refine J_LTh (fun h63 => ?_)
  refine J_aload_n 0 dX15_init_114 rv_is rfl ?_
  refine J_sipush (v := nI 4368) dX15_init_115 rfl ?_
  refine J_newarr16 kw_1_101 dX15_init_118 (by decide) ?_
  refine J_LTr (fun r66 => ?_)
  refine J_LTh (fun h65 => ?_)
  refine J_G (fun g67 => ?_)
  refine J_putR kc_15 31 (by decide) rfl rfl (Or.inr ⟨_, rfl⟩) (Or.inr ⟨rfl, rfl, rfl⟩) kw_7_1 dX15_init_120 g67 ?_
  refine J_LTh (fun h68 => ?_)
  refine J_aload_n 0 dX15_init_123 rv_is rfl ?_
  refine J_sipush (v := nI 4368) dX15_init_124 rfl ?_
  refine J_newarr19 kw_1_102 dX15_init_127 (by decide) ?_
  refine J_LTr (fun r71 => ?_)
  refine J_LTh (fun h70 => ?_)
  refine J_G (fun g72 => ?_)
  refine J_putR kc_15 32 (by decide) rfl rfl (Or.inr ⟨_, rfl⟩) (Or.inr ⟨rfl, rfl, rfl⟩) kw_7_2 dX15_init_129 g72 ?_
  refine J_LTh (fun h73 => ?_)
  refine J_aload_n 0 dX15_init_132 rv_is rfl ?_
  refine J_bipush (v := nI 54) dX15_init_133 rfl ?_
  refine J_newarr16 kw_1_101 dX15_init_135 (by decide) ?_
  refine J_LTr (fun r76 => ?_)
  refine J_LTh (fun h75 => ?_)
  refine J_G (fun g77 => ?_)
  refine J_putR kc_15 34 (by decide) rfl rfl (Or.inr ⟨_, rfl⟩) (Or.inr ⟨rfl, rfl, rfl⟩) kw_7_4 dX15_init_137 g77 ?_
  refine J_LTh (fun h78 => ?_)
  refine J_aload_n 0 dX15_init_140 rv_is rfl ?_
  refine J_bipush (v := nI 28) dX15_init_141 rfl ?_
  refine J_newarr16 kw_1_101 dX15_init_143 (by decide) ?_
  refine J_LTr (fun r81 => ?_)
  refine J_LTh (fun h80 => ?_)
  refine J_G (fun g82 => ?_)
  refine J_putR kc_15 35 (by decide) rfl rfl (Or.inr ⟨_, rfl⟩) (Or.inr ⟨rfl, rfl, rfl⟩) kw_7_5 dX15_init_145 g82 ?_
  refine J_LTh (fun h83 => ?_)
  refine J_aload_n 0 dX15_init_148 rv_is rfl ?_
  refine J_bipush (v := nI 120) dX15_init_149 rfl ?_
  refine J_newarr16 kw_1_101 dX15_init_151 (by decide) ?_
  refine J_LTr (fun r86 => ?_)
  refine J_LTh (fun h85 => ?_)
  refine J_G (fun g87 => ?_)
  refine J_putR kc_15 37 (by decide) rfl rfl (Or.inr ⟨_, rfl⟩) (Or.inr ⟨rfl, rfl, rfl⟩) kw_7_7 dX15_init_153 g87 ?_
  refine J_LTh (fun h88 => ?_)
  refine J_aload_n 0 dX15_init_156 rv_is rfl ?_
  refine J_iconst (v := nI 3) dX15_init_157 rfl ?_
  refine J_newarr16 kw_1_101 dX15_init_158 (by decide) ?_
  refine J_LTr (fun r91 => ?_)
  refine J_LTh (fun h90 => ?_)
  refine J_G (fun g92 => ?_)
  refine J_putR kc_15 38 (by decide) rfl rfl (Or.inr ⟨_, rfl⟩) (Or.inr ⟨rfl, rfl, rfl⟩) kw_7_8 dX15_init_160 g92 ?_
  refine J_LTh (fun h93 => ?_)
  refine J_aload_n 0 dX15_init_163 rv_is rfl ?_
  refine J_iconst (v := nI 3) dX15_init_164 rfl ?_
  refine J_newarr16 kw_1_101 dX15_init_165 (by decide) ?_
  refine J_LTr (fun r96 => ?_)
  refine J_LTh (fun h95 => ?_)
  refine J_G (fun g97 => ?_)
  refine J_putR kc_15 39 (by decide) rfl rfl (Or.inr ⟨_, rfl⟩) (Or.inr ⟨rfl, rfl, rfl⟩) kw_7_9 dX15_init_167 g97 ?_
  refine J_LTh (fun h98 => ?_)
  refine J_aload_n 0 dX15_init_170 rv_is rfl ?_
  refine J_iconst (v := (-1)) dX15_init_171 rfl ?_
  refine J_G (fun g99 => ?_)
  refine J_putI kc_15 40 (by decide) rfl rfl rfl rfl (Or.inl rfl) kw_7_10 dX15_init_172 g99 ?_
  refine J_LTh (fun h100 => ?_)
  refine J_aload_n 0 dX15_init_175 rv_is rfl ?_
  refine J_iconst (v := (-1)) dX15_init_176 rfl ?_
  refine J_G (fun g101 => ?_)
  refine J_putI kc_15 41 (by decide) rfl rfl rfl rfl (Or.inl rfl) kw_7_11 dX15_init_177 g101 ?_
  refine J_LTh (fun h102 => ?_)
  refine J_aload_n 0 dX15_init_180 rv_is rfl ?_
  refine J_iconst (v := nI 3) dX15_init_181 rfl ?_
  refine J_newarr16 kw_1_101 dX15_init_182 (by decide) ?_
  refine J_LTr (fun r105 => ?_)
  refine J_LTh (fun h104 => ?_)
  refine J_G (fun g106 => ?_)
  refine J_putR kc_15 44 (by decide) rfl rfl (Or.inr ⟨_, rfl⟩) (Or.inr ⟨rfl, rfl, rfl⟩) kw_7_14 dX15_init_184 g106 ?_
  refine J_LTh (fun h107 => ?_)
  refine J_aload_n 0 dX15_init_187 rv_is rfl ?_
  refine J_iconst (v := nI 3) dX15_init_188 rfl ?_
  refine J_newarr16 kw_1_101 dX15_init_189 (by decide) ?_
  refine J_LTr (fun r110 => ?_)
  refine J_LTh (fun h109 => ?_)
  refine J_G (fun g111 => ?_)
  refine J_putR kc_15 45 (by decide) rfl rfl (Or.inr ⟨_, rfl⟩) (Or.inr ⟨rfl, rfl, rfl⟩) kw_7_15 dX15_init_191 g111 ?_
  refine J_LTh (fun h112 => ?_)
  refine J_aload_n 0 dX15_init_194 rv_is rfl ?_
  refine J_bipush (v := nI 6) dX15_init_195 rfl ?_
  refine J_newarr16 kw_1_101 dX15_init_197 (by decide) ?_
  refine J_LTr (fun r115 => ?_)
  refine J_LTh (fun h114 => ?_)
  refine J_G (fun g116 => ?_)
  refine J_putR kc_15 46 (by decide) rfl rfl (Or.inr ⟨_, rfl⟩) (Or.inr ⟨rfl, rfl, rfl⟩) kw_7_16 dX15_init_199 g116 ?_
  refine J_LTh (fun h117 => ?_)
  refine J_aload_n 0 dX15_init_202 rv_is rfl ?_
  refine J_iconst (v := (-1)) dX15_init_203 rfl ?_
  refine J_G (fun g118 => ?_)
  refine J_putI kc_15 47 (by decide) rfl rfl rfl rfl (Or.inl rfl) kw_7_17 dX15_init_204 g118 ?_
  refine J_LTh (fun h119 => ?_)
  refine J_aload_n 0 dX15_init_207 rv_is rfl ?_
  refine J_sipush (v := nI 280) dX15_init_208 rfl ?_
  refine J_newarr16 kw_1_101 dX15_init_211 (by decide) ?_
  refine J_LTr (fun r122 => ?_)
  refine J_LTh (fun h121 => ?_)
  refine J_G (fun g123 => ?_)
  refine J_putR kc_15 48 (by decide) rfl rfl (Or.inr ⟨_, rfl⟩) (Or.inr ⟨rfl, rfl, rfl⟩) kw_7_18 dX15_init_213 g123 ?_
  refine J_LTh (fun h124 => ?_)
  refine J_aload_n 0 dX15_init_216 rv_is rfl ?_
  refine J_bipush (v := nI 6) dX15_init_217 rfl ?_
  refine J_newarr16 kw_1_101 dX15_init_219 (by decide) ?_
  refine J_LTr (fun r127 => ?_)
  refine J_LTh (fun h126 => ?_)
  refine J_G (fun g128 => ?_)
  refine J_putR kc_15 49 (by decide) rfl rfl (Or.inr ⟨_, rfl⟩) (Or.inr ⟨rfl, rfl, rfl⟩) kw_7_19 dX15_init_221 g128 ?_
  refine J_LTh (fun h129 => ?_)
  refine J_aload_n 0 dX15_init_224 rv_is rfl ?_
  refine J_bipush (v := nI 6) dX15_init_225 rfl ?_
  refine J_newarr16 kw_1_101 dX15_init_227 (by decide) ?_
  refine J_LTr (fun r132 => ?_)
  refine J_LTh (fun h131 => ?_)
  refine J_G (fun g133 => ?_)
  refine J_putR kc_15 50 (by decide) rfl rfl (Or.inr ⟨_, rfl⟩) (Or.inr ⟨rfl, rfl, rfl⟩) kw_7_20 dX15_init_229 g133 ?_
  refine J_LTh (fun h134 => ?_)
  exact J_vret dX15_init_232
theorem ctX15_init (l : Launch) (w : WT) (a0 : Nat) (h : AH) : CM l w yX15_init cX15_init 1 none 5 112 KV [rv (w.1) a0] h (X15_init_f a0 h) :=
  CM.of (by decide +kernel) (by simp [lg_sl, rv_cat, cat_I, cat_L, cat_S]) (lv := [(0, rv (w.1) a0)]) (by simp [lv_args, rv_cat, cat_I, cat_L, cat_S]) (fun x hx => by subst hx; exact jX15_init x a0 h)
-- FallTrialsModel.thrown()I
abbrev qX15_thrown : MT := (cX15_thrown, RX15, "thrown", (some .int), 0, 0, 1)
def X15_thrown_f (a0 : Nat) (h : AH) : Option (Int32 × AH) :=
  G (xc h a0 = 15) <|
  some (xI h a0 0, h)
theorem jX15_thrown (x : CT) (a0 : Nat) (h : AH) : J x qX15_thrown ZI 0 [(0, rv (zx x) a0)] [] h (X15_thrown_f a0 h) := by
  unfold X15_thrown_f
  refine J_aload_n 0 dX15_thrown_0 rv_is rfl ?_
  refine J_G (fun g1 => ?_)
  refine J_getI kc_15 0 (by decide) rfl rfl kw_6_210 dX15_thrown_1 g1 ?_
  exact J_iret dX15_thrown_4
theorem ctX15_thrown (l : Launch) (w : WT) (a0 : Nat) (h : AH) : CM l w yX15_thrown cX15_thrown 1 (some .int) 0 0 KI [rv (w.1) a0] h (X15_thrown_f a0 h) :=
  CM.of (by decide +kernel) (by simp [lg_sl, rv_cat, cat_I, cat_L, cat_S]) (lv := [(0, rv (w.1) a0)]) (by simp [lv_args, rv_cat, cat_I, cat_L, cat_S]) (fun x hx => by subst hx; exact jX15_thrown x a0 h)
-- FallTrialsModel.feed(IIIII)I
abbrev qX15_feed : MT := (cX15_feed, RX15, "feed", (some .int), 0, 0, 8)
def X15_feed_B117 (a0 : Nat) (h : AH) : Option (Int32 × AH) :=
  G (xc h a0 = 15) <|
  some (xI h a0 8, h)
theorem jX15_feed_B117 (x : CT) (a0 : Nat) (h : AH) : J x qX15_feed ZI 117 [(0, rv (zx x) a0)] [] h (X15_feed_B117 a0 h) := by
  unfold X15_feed_B117
  refine J_aload_n 0 dX15_feed_117 rv_is rfl ?_
  refine J_G (fun g1 => ?_)
  refine J_getI kc_15 8 (by decide) rfl rfl kw_6_218 dX15_feed_118 g1 ?_
  exact J_iret dX15_feed_121
def X15_feed_B76 (k23 : (Nat → Int32 → Int32 → Int32 → Int32 → Int32 → Int32 → AH → Option (Int32 × AH))) (a0 : Nat) (i1 : Int32) (i2 : Int32) (i3 : Int32) (i4 : Int32) (i5 : Int32) (i6 : Int32) (is0 : Int32) (h : AH) : Option (Int32 × AH) :=
  G (xc h a0 = 15) <|
  G (xc h (xR h a0 7) = 18) <|
  G (gx (xI h a0 8) (xz h (xR h a0 7))) <|
  LT (pI h (xR h a0 7) (xI h a0 8).toNatClampNeg (vp_nar .byte ((is0 >>> (((nI 24) - ((nI 8) * (i6 - i6 / (nI 4) * (nI 4)))) &&& 31)).toInt8.toInt32))) fun h4 =>
  G (xc h4 a0 = 15) <|
  LT (pI h4 a0 8 ((xI h4 a0 8) + (nI 1))) fun h6 =>
  LT (i6 + nI 1) fun v7 =>
  k23 a0 i1 i2 i3 i4 i5 v7 h6
theorem jX15_feed_B76 (x : CT) (k23 : (Nat → Int32 → Int32 → Int32 → Int32 → Int32 → Int32 → AH → Option (Int32 × AH))) (hk23 : ∀ (a0 : Nat) (i1 : Int32) (i2 : Int32) (i3 : Int32) (i4 : Int32) (i5 : Int32) (i6 : Int32) (h : AH), J x qX15_feed ZI 23 [(0, rv (zx x) a0), (1, .int i1), (2, .int i2), (3, .int i3), (4, .int i4), (5, .int i5), (6, .int i6)] [] h (k23 a0 i1 i2 i3 i4 i5 i6 h)) (a0 : Nat) (i1 : Int32) (i2 : Int32) (i3 : Int32) (i4 : Int32) (i5 : Int32) (i6 : Int32) (is0 : Int32) (h : AH) : J x qX15_feed ZI 76 [(0, rv (zx x) a0), (1, .int i1), (2, .int i2), (3, .int i3), (4, .int i4), (5, .int i5), (6, .int i6)] [.int is0] h (X15_feed_B76 k23 a0 i1 i2 i3 i4 i5 i6 is0 h) := by
  unfold X15_feed_B76
  refine J_istore dX15_feed_76 (by decide) (SD.a (lvr := [(0, rv (zx x) a0), (1, .int i1), (2, .int i2), (3, .int i3), (4, .int i4), (5, .int i5), (6, .int i6)]) [0, 1, 2, 3, 4, 5, 6] rfl rfl) ?_
  refine J_aload_n 1 dX15_feed_78 rv_is rfl ?_
  refine J_G (fun g1 => ?_)
  refine J_getR kc_15 7 (by decide) rfl rfl kw_6_217 dX15_feed_79 g1 ?_
  refine J_aload_n 1 dX15_feed_82 rv_is rfl ?_
  refine J_getI kc_15 8 (by decide) rfl rfl kw_6_218 dX15_feed_83 g1 ?_
  refine J_iload 0 dX15_feed_86 rfl ?_
  refine J_bipush (v := nI 24) dX15_feed_88 rfl ?_
  refine J_bipush (v := nI 8) dX15_feed_90 rfl ?_
  refine J_iload 7 dX15_feed_92 rfl ?_
  refine J_iconst (v := nI 4) dX15_feed_94 rfl ?_
  refine J_irem dX15_feed_95 (by decide) ?_
  refine J_imul dX15_feed_96 ?_
  refine J_isub dX15_feed_97 ?_
  refine J_ishr dX15_feed_98 ?_
  refine J_i2b dX15_feed_99 ?_
  refine J_G (fun g2 => ?_)
  refine J_G (fun g3 => ?_)
  refine J_bast dX15_feed_100 g2 g3 ?_
  refine J_LTh (fun h4 => ?_)
  refine J_aload_n 1 dX15_feed_101 rv_is rfl ?_
  refine J_dup dX15_feed_102 rv_cat ?_
  refine J_G (fun g5 => ?_)
  refine J_getI kc_15 8 (by decide) rfl rfl kw_6_218 dX15_feed_103 g5 ?_
  refine J_iconst (v := nI 1) dX15_feed_106 rfl ?_
  refine J_iadd dX15_feed_107 ?_
  refine J_putI kc_15 8 (by decide) rfl rfl rfl rfl (Or.inl rfl) kw_6_218 dX15_feed_108 g5 ?_
  refine J_LTh (fun h6 => ?_)
  refine J_iincL (u := i6 + nI 1) 7 dX15_feed_111 rfl rfl (by decide) (SD.a (lvr := [(0, rv (zx x) a0), (1, .int i1), (2, .int i2), (3, .int i3), (4, .int i4), (5, .int i5)]) [1, 2, 3, 4, 5, 6] rfl rfl) (fun v7 => ?_)
  refine J_goto (tgt := 23) dX15_feed_114 rfl ?_
  exact J_sub [1, 2, 3, 4, 5, 6, 0] rfl (hk23 a0 i1 i2 i3 i4 i5 v7 h6)
def X15_feed_B23 : Nat → Nat → Int32 → Int32 → Int32 → Int32 → Int32 → Int32 → AH → Option (Int32 × AH)
  | 0, _, _, _, _, _, _, _, _ => none
  | n + 1, a0, i1, i2, i3, i4, i5, i6, h =>
    if (nI 20) ≤ i6 then (
      X15_feed_B117 a0 h
    ) else (
      if (nI 4) ≤ i6 then (
        if (nI 8) ≤ i6 then (
          if (nI 12) ≤ i6 then (
            if (nI 16) ≤ i6 then (
              X15_feed_B76 (X15_feed_B23 n) a0 i1 i2 i3 i4 i5 i6 i5 h
            ) else (
              X15_feed_B76 (X15_feed_B23 n) a0 i1 i2 i3 i4 i5 i6 i4 h
            )
          ) else (
            X15_feed_B76 (X15_feed_B23 n) a0 i1 i2 i3 i4 i5 i6 i3 h
          )
        ) else (
          X15_feed_B76 (X15_feed_B23 n) a0 i1 i2 i3 i4 i5 i6 i2 h
        )
      ) else (
        X15_feed_B76 (X15_feed_B23 n) a0 i1 i2 i3 i4 i5 i6 i1 h
      )
    )
theorem jX15_feed_B23 (x : CT) : ∀ (n : Nat) (a0 : Nat) (i1 : Int32) (i2 : Int32) (i3 : Int32) (i4 : Int32) (i5 : Int32) (i6 : Int32) (h : AH), J x qX15_feed ZI 23 [(0, rv (zx x) a0), (1, .int i1), (2, .int i2), (3, .int i3), (4, .int i4), (5, .int i5), (6, .int i6)] [] h (X15_feed_B23 n a0 i1 i2 i3 i4 i5 i6 h) := by
  intro n
  induction n with
  | zero => intro a0 i1 i2 i3 i4 i5 i6 h; exact J_none
  | succ n ih =>
    intro a0 i1 i2 i3 i4 i5 i6 h
    unfold X15_feed_B23
    refine J_iload 6 dX15_feed_23 rfl ?_
    refine J_bipush (v := nI 20) dX15_feed_25 rfl ?_
    refine J_icmp_ge (tgt := 117) dX15_feed_27 rfl ?_ ?_
    · exact J_sub [0] rfl (jX15_feed_B117 x a0 h)
    · refine J_iload 6 dX15_feed_30 rfl ?_
      refine J_iconst (v := nI 4) dX15_feed_32 rfl ?_
      refine J_icmp_ge (tgt := 40) dX15_feed_33 rfl ?_ ?_
      · refine J_iload 6 dX15_feed_40 rfl ?_
        refine J_bipush (v := nI 8) dX15_feed_42 rfl ?_
        refine J_icmp_ge (tgt := 51) dX15_feed_44 rfl ?_ ?_
        · refine J_iload 6 dX15_feed_51 rfl ?_
          refine J_bipush (v := nI 12) dX15_feed_53 rfl ?_
          refine J_icmp_ge (tgt := 62) dX15_feed_55 rfl ?_ ?_
          · refine J_iload 6 dX15_feed_62 rfl ?_
            refine J_bipush (v := nI 16) dX15_feed_64 rfl ?_
            refine J_icmp_ge (tgt := 74) dX15_feed_66 rfl ?_ ?_
            · refine J_iload 5 dX15_feed_74 rfl ?_
              exact (jX15_feed_B76 x (X15_feed_B23 n) ih a0 i1 i2 i3 i4 i5 i6 i5 h)
            · refine J_iload 4 dX15_feed_69 rfl ?_
              refine J_goto (tgt := 76) dX15_feed_71 rfl ?_
              exact (jX15_feed_B76 x (X15_feed_B23 n) ih a0 i1 i2 i3 i4 i5 i6 i4 h)
          · refine J_iload_n 3 dX15_feed_58 rfl ?_
            refine J_goto (tgt := 76) dX15_feed_59 rfl ?_
            exact (jX15_feed_B76 x (X15_feed_B23 n) ih a0 i1 i2 i3 i4 i5 i6 i3 h)
        · refine J_iload_n 2 dX15_feed_47 rfl ?_
          refine J_goto (tgt := 76) dX15_feed_48 rfl ?_
          exact (jX15_feed_B76 x (X15_feed_B23 n) ih a0 i1 i2 i3 i4 i5 i6 i2 h)
      · refine J_iload_n 1 dX15_feed_36 rfl ?_
        refine J_goto (tgt := 76) dX15_feed_37 rfl ?_
        exact (jX15_feed_B76 x (X15_feed_B23 n) ih a0 i1 i2 i3 i4 i5 i6 i1 h)
def X15_feed_f (a0 : Nat) (i1 : Int32) (i2 : Int32) (i3 : Int32) (i4 : Int32) (i5 : Int32) (h : AH) : Option (Int32 × AH) :=
  G (xc h a0 = 15) <|
  LT (pI h a0 0 (nI 0)) fun h2 =>
  G (xc h2 a0 = 15) <|
  if ((xI h2 a0 8) + (nI 20)) ≤ (nI 700) then (
    X15_feed_B23 FU a0 i1 i2 i3 i4 i5 (nI 0) h2
  ) else (
    some ((-1), h2)
  )
theorem jX15_feed (x : CT) (a0 : Nat) (i1 : Int32) (i2 : Int32) (i3 : Int32) (i4 : Int32) (i5 : Int32) (h : AH) : J x qX15_feed ZI 0 [(0, rv (zx x) a0), (1, .int i1), (2, .int i2), (3, .int i3), (4, .int i4), (5, .int i5)] [] h (X15_feed_f a0 i1 i2 i3 i4 i5 h) := by
  unfold X15_feed_f
  refine J_aload_n 0 dX15_feed_0 rv_is rfl ?_
  refine J_iconst (v := nI 0) dX15_feed_1 rfl ?_
  refine J_G (fun g1 => ?_)
  refine J_putI kc_15 0 (by decide) rfl rfl rfl rfl (Or.inl rfl) kw_6_210 dX15_feed_2 g1 ?_
  refine J_LTh (fun h2 => ?_)
  refine J_aload_n 0 dX15_feed_5 rv_is rfl ?_
  refine J_G (fun g3 => ?_)
  refine J_getI kc_15 8 (by decide) rfl rfl kw_6_218 dX15_feed_6 g3 ?_
  refine J_bipush (v := nI 20) dX15_feed_9 rfl ?_
  refine J_iadd dX15_feed_11 ?_
  refine J_sipush (v := nI 700) dX15_feed_12 rfl ?_
  refine J_icmp_le (tgt := 20) dX15_feed_15 rfl ?_ ?_
  · refine J_iconst (v := nI 0) dX15_feed_20 rfl ?_
    refine J_istore dX15_feed_21 (by decide) (SD.a (lvr := [(0, rv (zx x) a0), (1, .int i1), (2, .int i2), (3, .int i3), (4, .int i4), (5, .int i5)]) [0, 1, 2, 3, 4, 5] rfl rfl) ?_
    exact J_sub [1, 2, 3, 4, 5, 6, 0] rfl (jX15_feed_B23 x FU a0 i1 i2 i3 i4 i5 (nI 0) h2)
  · refine J_iconst (v := (-1)) dX15_feed_18 rfl ?_
    exact J_iret dX15_feed_19
theorem ctX15_feed (l : Launch) (w : WT) (a0 : Nat) (i1 : Int32) (i2 : Int32) (i3 : Int32) (i4 : Int32) (i5 : Int32) (h : AH) : CM l w yX15_feed cX15_feed 8 (some .int) 0 0 KI [rv (w.1) a0, .int i1, .int i2, .int i3, .int i4, .int i5] h (X15_feed_f a0 i1 i2 i3 i4 i5 h) :=
  CM.of (by decide +kernel) (by simp [lg_sl, rv_cat, cat_I, cat_L, cat_S]) (lv := [(0, rv (w.1) a0), (1, .int i1), (2, .int i2), (3, .int i3), (4, .int i4), (5, .int i5)]) (by simp [lv_args, rv_cat, cat_I, cat_L, cat_S]) (fun x hx => by subst hx; exact jX15_feed x a0 i1 i2 i3 i4 i5 h)
-- FallTrialsModel.refused(I)I
abbrev qX15_refused : MT := (cX15_refused, RX15, "refused", (some .int), 0, 0, 2)
def X15_refused_f (a0 : Nat) (i1 : Int32) (h : AH) : Option (Int32 × AH) :=
  G (xc h a0 = 15) <|
  LT (pI h a0 1 i1) fun h2 =>
  G (xc h2 a0 = 15) <|
  LT (pI h2 a0 2 (-1)) fun h4 =>
  some ((-1), h4)
theorem jX15_refused (x : CT) (a0 : Nat) (i1 : Int32) (h : AH) : J x qX15_refused ZI 0 [(0, rv (zx x) a0), (1, .int i1)] [] h (X15_refused_f a0 i1 h) := by
  unfold X15_refused_f
  refine J_aload_n 0 dX15_refused_0 rv_is rfl ?_
  refine J_iload_n 1 dX15_refused_1 rfl ?_
  refine J_G (fun g1 => ?_)
  refine J_putI kc_15 1 (by decide) rfl rfl rfl rfl (Or.inl rfl) kw_6_211 dX15_refused_2 g1 ?_
  refine J_LTh (fun h2 => ?_)
  refine J_aload_n 0 dX15_refused_5 rv_is rfl ?_
  refine J_iconst (v := (-1)) dX15_refused_6 rfl ?_
  refine J_G (fun g3 => ?_)
  refine J_putI kc_15 2 (by decide) rfl rfl rfl rfl (Or.inl rfl) kw_6_212 dX15_refused_7 g3 ?_
  refine J_LTh (fun h4 => ?_)
  refine J_iconst (v := (-1)) dX15_refused_10 rfl ?_
  exact J_iret dX15_refused_11
theorem ctX15_refused (l : Launch) (w : WT) (a0 : Nat) (i1 : Int32) (h : AH) : CM l w yX15_refused cX15_refused 2 (some .int) 0 0 KI [rv (w.1) a0, .int i1] h (X15_refused_f a0 i1 h) :=
  CM.of (by decide +kernel) (by simp [lg_sl, rv_cat, cat_I, cat_L, cat_S]) (lv := [(0, rv (w.1) a0), (1, .int i1)]) (by simp [lv_args, rv_cat, cat_I, cat_L, cat_S]) (fun x hx => by subst hx; exact jX15_refused x a0 i1 h)
-- FallTrialsModel.byteAt(I)I
abbrev qX15_byteAt : MT := (cX15_byteAt, RX15, "byteAt", (some .int), 0, 0, 2)
def X15_byteAt_f (a0 : Nat) (i1 : Int32) (h : AH) : Option (Int32 × AH) :=
  G (xc h a0 = 15) <|
  if (xI h a0 9) ≤ i1 then (
    some ((-1), h)
  ) else (
    G (xc h a0 = 15) <|
    G (xc h (xR h a0 7) = 18) <|
    G (gx i1 (xz h (xR h a0 7))) <|
    some ((xI h (xR h a0 7) i1.toNatClampNeg) &&& (nI 255), h)
  )
theorem jX15_byteAt (x : CT) (a0 : Nat) (i1 : Int32) (h : AH) : J x qX15_byteAt ZI 0 [(0, rv (zx x) a0), (1, .int i1)] [] h (X15_byteAt_f a0 i1 h) := by
  unfold X15_byteAt_f
  refine J_iload_n 1 dX15_byteAt_0 rfl ?_
  refine J_aload_n 0 dX15_byteAt_1 rv_is rfl ?_
  refine J_G (fun g1 => ?_)
  refine J_getI kc_15 9 (by decide) rfl rfl kw_6_219 dX15_byteAt_2 g1 ?_
  refine J_icmp_ge (tgt := 21) dX15_byteAt_5 rfl ?_ ?_
  · refine J_iconst (v := (-1)) dX15_byteAt_21 rfl ?_
    exact J_iret dX15_byteAt_22
  · refine J_aload_n 0 dX15_byteAt_8 rv_is rfl ?_
    refine J_G (fun g2 => ?_)
    refine J_getR kc_15 7 (by decide) rfl rfl kw_6_217 dX15_byteAt_9 g2 ?_
    refine J_iload_n 1 dX15_byteAt_12 rfl ?_
    refine J_G (fun g3 => ?_)
    refine J_G (fun g4 => ?_)
    refine J_bald dX15_byteAt_13 g3 g4 ?_
    refine J_sipush (v := nI 255) dX15_byteAt_14 rfl ?_
    refine J_iand dX15_byteAt_17 ?_
    refine J_goto (tgt := 22) dX15_byteAt_18 rfl ?_
    exact J_iret dX15_byteAt_22
theorem ctX15_byteAt (l : Launch) (w : WT) (a0 : Nat) (i1 : Int32) (h : AH) : CM l w yX15_byteAt cX15_byteAt 2 (some .int) 0 0 KI [rv (w.1) a0, .int i1] h (X15_byteAt_f a0 i1 h) :=
  CM.of (by decide +kernel) (by simp [lg_sl, rv_cat, cat_I, cat_L, cat_S]) (lv := [(0, rv (w.1) a0), (1, .int i1)]) (by simp [lv_args, rv_cat, cat_I, cat_L, cat_S]) (fun x hx => by subst hx; exact jX15_byteAt x a0 i1 h)
-- FallTrialsModel.isLetter(I)Z
abbrev qX15_isLetter : MT := (cX15_isLetter, RX15, "isLetter", (some .boolean), 0, 0, 1)
def X15_isLetter_f (i0 : Int32) (h : AH) : Option (Int32 × AH) :=
  if i0 < (nI 97) then (
    some (nI 0, h)
  ) else (
    if (nI 122) < i0 then (
      some (nI 0, h)
    ) else (
      some (nI 1, h)
    )
  )
theorem jX15_isLetter (x : CT) (i0 : Int32) (h : AH) : J x qX15_isLetter ZI 0 [(0, .int i0)] [] h (X15_isLetter_f i0 h) := by
  unfold X15_isLetter_f
  refine J_iload_n 0 dX15_isLetter_0 rfl ?_
  refine J_bipush (v := nI 97) dX15_isLetter_1 rfl ?_
  refine J_icmp_lt (tgt := 16) dX15_isLetter_3 rfl ?_ ?_
  · refine J_iconst (v := nI 0) dX15_isLetter_16 rfl ?_
    exact J_zret dX15_isLetter_17 (by decide)
  · refine J_iload_n 0 dX15_isLetter_6 rfl ?_
    refine J_bipush (v := nI 122) dX15_isLetter_7 rfl ?_
    refine J_icmp_gt (tgt := 16) dX15_isLetter_9 rfl ?_ ?_
    · refine J_iconst (v := nI 0) dX15_isLetter_16 rfl ?_
      exact J_zret dX15_isLetter_17 (by decide)
    · refine J_iconst (v := nI 1) dX15_isLetter_12 rfl ?_
      refine J_goto (tgt := 17) dX15_isLetter_13 rfl ?_
      exact J_zret dX15_isLetter_17 (by decide)
theorem ctX15_isLetter (l : Launch) (w : WT) (i0 : Int32) (h : AH) : CM l w yX15_isLetter cX15_isLetter 1 (some .boolean) 0 0 KI [.int i0] h (X15_isLetter_f i0 h) :=
  CM.of (by decide +kernel) (by simp [lg_sl, rv_cat, cat_I, cat_L, cat_S]) (lv := [(0, .int i0)]) (by simp [lv_args, rv_cat, cat_I, cat_L, cat_S]) (fun x hx => by subst hx; exact jX15_isLetter x i0 h)
-- FallTrialsModel.wordOf(Ljava/lang/String;)J
abbrev qX15_wordOf : MT := (cX15_wordOf, RX15, "wordOf", (some .long), 4, 85, 4)
def X15_wordOf_B4 : Nat → Nat → Int64 → Int32 → AH → Option (Int64 × AH)
  | 0, _, _, _, _ => none
  | n + 1, s0, l1, i3, h =>
    G (s0 < strT.length) <|
    BN (some (nI (strL s0), h)) fun v3 h2 =>
    if v3 ≤ i3 then (
      some (l1, h2)
    ) else (
      G (s0 < strT.length) <|
      BN (G (gx i3 (strL s0)) (some (strC s0 i3, h2))) fun v6 h5 =>
      LT (((32) * l1) + (((v6 - (nI 97)) + (nI 1)).toInt64)) fun w7 =>
      LT (i3 + nI 1) fun v8 =>
      X15_wordOf_B4 n s0 w7 v8 h5
    )
theorem jX15_wordOf_B4 (x : CT) : ∀ (n : Nat) (s0 : Nat) (l1 : Int64) (i3 : Int32) (h : AH), J x qX15_wordOf ZL 4 [(0, sv (wx x) s0), (1, .long l1), (3, .int i3)] [] h (X15_wordOf_B4 n s0 l1 i3 h) := by
  intro n
  induction n with
  | zero => intro s0 l1 i3 h; exact J_none
  | succ n ih =>
    intro s0 l1 i3 h
    unfold X15_wordOf_B4
    refine J_iload_n 2 dX15_wordOf_4 rfl ?_
    refine J_aload_n 0 dX15_wordOf_5 sv_is rfl ?_
    refine J_G (fun g1 => ?_)
    refine J.callVS (n := 0) (As := []) g1 (ctJ0_length_8abf5 (lx x) (wx x) g1 h) kw_3_139 kw_8_34 kw_3_137 kw_3_138 kw_1_20 (by decide +kernel) rfl (by decide) (by simp [rv_cat, cat_I, cat_L, cat_S]) rfl dX15_wordOf_6 (fun v3 h2 => ?_)
    show J x _ _ 9 _ [.int v3, .int i3] h2 _
    refine J_icmp_ge (tgt := 36) dX15_wordOf_9 rfl ?_ ?_
    · refine J_lload_n 1 dX15_wordOf_36 rfl ?_
      exact J_lret dX15_wordOf_37
    · refine J_ldc2 (v := (32)) dX15_wordOf_12 kw_8_21 ?_
      refine J_lload_n 1 dX15_wordOf_15 rfl ?_
      refine J_lmul dX15_wordOf_16 ?_
      refine J_aload_n 0 dX15_wordOf_17 sv_is rfl ?_
      refine J_iload_n 2 dX15_wordOf_18 rfl ?_
      refine J_G (fun g4 => ?_)
      refine J.callVS (n := 1) (As := [.int i3]) g4 (ctJ0_charAt_5068e (lx x) (wx x) g4 i3 h2) kw_3_149 kw_8_35 kw_3_147 kw_3_148 kw_1_20 (by decide +kernel) rfl (by decide) (by simp [rv_cat, cat_I, cat_L, cat_S]) rfl dX15_wordOf_19 (fun v6 h5 => ?_)
      show J x _ _ 22 _ [.int v6, .long ((32) * l1)] h5 _
      refine J_bipush (v := nI 97) dX15_wordOf_22 rfl ?_
      refine J_isub dX15_wordOf_24 ?_
      refine J_iconst (v := nI 1) dX15_wordOf_25 rfl ?_
      refine J_iadd dX15_wordOf_26 ?_
      refine J_i2l dX15_wordOf_27 ?_
      refine J_ladd dX15_wordOf_28 ?_
      refine J_LTl (fun w7 => ?_)
      refine J_lstore_n dX15_wordOf_29 (by decide) (SD.a (lvr := [(0, sv (wx x) s0), (3, .int i3)]) [0, 2] rfl rfl) rfl ?_
      refine J_iincL (u := i3 + nI 1) 2 dX15_wordOf_30 rfl rfl (by decide) (SD.a (lvr := [(1, .long w7), (0, sv (wx x) s0)]) [0, 1] rfl rfl) (fun v8 => ?_)
      refine J_goto (tgt := 4) dX15_wordOf_33 rfl ?_
      exact J_sub [2, 1, 0] rfl (ih s0 w7 v8 h5)
def X15_wordOf_f (s0 : Nat) (h : AH) : Option (Int64 × AH) :=
  LT (lN 0) fun w1 =>
  X15_wordOf_B4 FU s0 w1 (nI 0) h
theorem jX15_wordOf (x : CT) (s0 : Nat) (h : AH) : J x qX15_wordOf ZL 0 [(0, sv (wx x) s0)] [] h (X15_wordOf_f s0 h) := by
  unfold X15_wordOf_f
  refine J_lconst (v := lN 0) dX15_wordOf_0 rfl ?_
  refine J_LTl (fun w1 => ?_)
  refine J_lstore_n dX15_wordOf_1 (by decide) (SD.a (lvr := [(0, sv (wx x) s0)]) [0] rfl rfl) rfl ?_
  refine J_iconst (v := nI 0) dX15_wordOf_2 rfl ?_
  refine J_istore_n dX15_wordOf_3 (by decide) (SD.a (lvr := [(1, .long w1), (0, sv (wx x) s0)]) [0, 1] rfl rfl) ?_
  exact J_sub [2, 1, 0] rfl (jX15_wordOf_B4 x FU s0 w1 (nI 0) h)
theorem ctX15_wordOf (l : Launch) (w : WT) (s0 : Nat) (h : AH) : CM l w yX15_wordOf cX15_wordOf 4 (some .long) 4 85 KL [sv (w) s0] h (X15_wordOf_f s0 h) :=
  CM.of (by decide +kernel) (by simp [lg_sl, rv_cat, cat_I, cat_L, cat_S]) (lv := [(0, sv (w) s0)]) (by simp [lv_args, rv_cat, cat_I, cat_L, cat_S]) (fun x hx => by subst hx; exact jX15_wordOf x s0 h)
-- FallTrialsModel.stop(I)LFallTrialsModel$Stop;
abbrev qX15_stop : MT := (cX15_stop, RX15, "stop", (some (.object "FallTrialsModel$Stop")), 0, 0, 2)
def X15_stop_f (a0 : Nat) (i1 : Int32) (h : AH) : Option (Nat × AH) :=
  G (xc h a0 = 15) <|
  G (xc h (xR h a0 6) = 14) <|
  LT (pI h (xR h a0 6) 6 i1) fun h3 =>
  G (xc h3 a0 = 15) <|
  G (xc h3 (xR h3 a0 6) = 14) <|
  LT (pI h3 (xR h3 a0 6) 7 (xI h3 a0 12)) fun h6 =>
  G (xc h6 a0 = 15) <|
  some (xR h6 a0 6, h6)
theorem jX15_stop (x : CT) (a0 : Nat) (i1 : Int32) (h : AH) : J x qX15_stop (ZR (zx x)) 0 [(0, rv (zx x) a0), (1, .int i1)] [] h (X15_stop_f a0 i1 h) := by
  unfold X15_stop_f
  refine J_aload_n 0 dX15_stop_0 rv_is rfl ?_
  refine J_G (fun g1 => ?_)
  refine J_getR kc_15 6 (by decide) rfl rfl kw_6_216 dX15_stop_1 g1 ?_
  refine J_iload_n 1 dX15_stop_4 rfl ?_
  refine J_G (fun g2 => ?_)
  refine J_putIN kc_14 6 (by decide) rfl rfl rfl rfl rfl kn_17 dX15_stop_5 g2 ?_
  refine J_LTh (fun h3 => ?_)
  refine J_aload_n 0 dX15_stop_8 rv_is rfl ?_
  refine J_G (fun g4 => ?_)
  refine J_getR kc_15 6 (by decide) rfl rfl kw_6_216 dX15_stop_9 g4 ?_
  refine J_aload_n 0 dX15_stop_12 rv_is rfl ?_
  refine J_getI kc_15 12 (by decide) rfl rfl kw_6_222 dX15_stop_13 g4 ?_
  refine J_G (fun g5 => ?_)
  refine J_putIN kc_14 7 (by decide) rfl rfl rfl rfl rfl kn_18 dX15_stop_16 g5 ?_
  refine J_LTh (fun h6 => ?_)
  refine J_aload_n 0 dX15_stop_19 rv_is rfl ?_
  refine J_G (fun g7 => ?_)
  refine J_getR kc_15 6 (by decide) rfl rfl kw_6_216 dX15_stop_20 g7 ?_
  exact J_aret (Or.inl ⟨_, rfl⟩) dX15_stop_23
theorem ctX15_stop (l : Launch) (w : WT) (a0 : Nat) (i1 : Int32) (h : AH) : CM l w yX15_stop cX15_stop 2 (some (.object "FallTrialsModel$Stop")) 0 0 (KR (w.1)) [rv (w.1) a0, .int i1] h (X15_stop_f a0 i1 h) :=
  CM.of (by decide +kernel) (by simp [lg_sl, rv_cat, cat_I, cat_L, cat_S]) (lv := [(0, rv (w.1) a0), (1, .int i1)]) (by simp [lv_args, rv_cat, cat_I, cat_L, cat_S]) (fun x hx => by subst hx; exact jX15_stop x a0 i1 h)
-- FallTrialsModel.done(I)I
abbrev qX15_done : MT := (cX15_done, RX15, "done", (some .int), 0, 0, 2)
def X15_done_f (a0 : Nat) (i1 : Int32) (h : AH) : Option (Int32 × AH) :=
  G (xc h a0 = 15) <|
  LT (pI h a0 1 (nI 0)) fun h2 =>
  G (xc h2 a0 = 15) <|
  LT (pI h2 a0 2 (-1)) fun h4 =>
  some (i1, h4)
theorem jX15_done (x : CT) (a0 : Nat) (i1 : Int32) (h : AH) : J x qX15_done ZI 0 [(0, rv (zx x) a0), (1, .int i1)] [] h (X15_done_f a0 i1 h) := by
  unfold X15_done_f
  refine J_aload_n 0 dX15_done_0 rv_is rfl ?_
  refine J_iconst (v := nI 0) dX15_done_1 rfl ?_
  refine J_G (fun g1 => ?_)
  refine J_putI kc_15 1 (by decide) rfl rfl rfl rfl (Or.inl rfl) kw_6_211 dX15_done_2 g1 ?_
  refine J_LTh (fun h2 => ?_)
  refine J_aload_n 0 dX15_done_5 rv_is rfl ?_
  refine J_iconst (v := (-1)) dX15_done_6 rfl ?_
  refine J_G (fun g3 => ?_)
  refine J_putI kc_15 2 (by decide) rfl rfl rfl rfl (Or.inl rfl) kw_6_212 dX15_done_7 g3 ?_
  refine J_LTh (fun h4 => ?_)
  refine J_iload_n 1 dX15_done_10 rfl ?_
  exact J_iret dX15_done_11
theorem ctX15_done (l : Launch) (w : WT) (a0 : Nat) (i1 : Int32) (h : AH) : CM l w yX15_done cX15_done 2 (some .int) 0 0 KI [rv (w.1) a0, .int i1] h (X15_done_f a0 i1 h) :=
  CM.of (by decide +kernel) (by simp [lg_sl, rv_cat, cat_I, cat_L, cat_S]) (lv := [(0, rv (w.1) a0), (1, .int i1)]) (by simp [lv_args, rv_cat, cat_I, cat_L, cat_S]) (fun x hx => by subst hx; exact jX15_done x a0 i1 h)
-- FallTrialsModel.fault()I
abbrev qX15_fault : MT := (cX15_fault, RX15, "fault", (some .int), 0, 0, 1)
def X15_fault_f (a0 : Nat) (h : AH) : Option (Int32 × AH) :=
  G (xc h a0 = 15) <|
  LT (pI h a0 0 (nI 0)) fun h2 =>
  G (xc h2 a0 = 15) <|
  some (xI h2 a0 3, h2)
theorem jX15_fault (x : CT) (a0 : Nat) (h : AH) : J x qX15_fault ZI 0 [(0, rv (zx x) a0)] [] h (X15_fault_f a0 h) := by
  unfold X15_fault_f
  refine J_aload_n 0 dX15_fault_0 rv_is rfl ?_
  refine J_iconst (v := nI 0) dX15_fault_1 rfl ?_
  refine J_G (fun g1 => ?_)
  refine J_putI kc_15 0 (by decide) rfl rfl rfl rfl (Or.inl rfl) kw_6_210 dX15_fault_2 g1 ?_
  refine J_LTh (fun h2 => ?_)
  refine J_aload_n 0 dX15_fault_5 rv_is rfl ?_
  refine J_G (fun g3 => ?_)
  refine J_getI kc_15 3 (by decide) rfl rfl kw_6_213 dX15_fault_6 g3 ?_
  exact J_iret dX15_fault_9
theorem ctX15_fault (l : Launch) (w : WT) (a0 : Nat) (h : AH) : CM l w yX15_fault cX15_fault 1 (some .int) 0 0 KI [rv (w.1) a0] h (X15_fault_f a0 h) :=
  CM.of (by decide +kernel) (by simp [lg_sl, rv_cat, cat_I, cat_L, cat_S]) (lv := [(0, rv (w.1) a0)]) (by simp [lv_args, rv_cat, cat_I, cat_L, cat_S]) (fun x hx => by subst hx; exact jX15_fault x a0 h)
-- FallTrialsModel.where()I
abbrev qX15_where : MT := (cX15_where, RX15, "where", (some .int), 0, 0, 1)
def X15_where_f (a0 : Nat) (h : AH) : Option (Int32 × AH) :=
  G (xc h a0 = 15) <|
  LT (pI h a0 0 (nI 0)) fun h2 =>
  G (xc h2 a0 = 15) <|
  some (xI h2 a0 2, h2)
theorem jX15_where (x : CT) (a0 : Nat) (h : AH) : J x qX15_where ZI 0 [(0, rv (zx x) a0)] [] h (X15_where_f a0 h) := by
  unfold X15_where_f
  refine J_aload_n 0 dX15_where_0 rv_is rfl ?_
  refine J_iconst (v := nI 0) dX15_where_1 rfl ?_
  refine J_G (fun g1 => ?_)
  refine J_putI kc_15 0 (by decide) rfl rfl rfl rfl (Or.inl rfl) kw_6_210 dX15_where_2 g1 ?_
  refine J_LTh (fun h2 => ?_)
  refine J_aload_n 0 dX15_where_5 rv_is rfl ?_
  refine J_G (fun g3 => ?_)
  refine J_getI kc_15 2 (by decide) rfl rfl kw_6_212 dX15_where_6 g3 ?_
  exact J_iret dX15_where_9
theorem ctX15_where (l : Launch) (w : WT) (a0 : Nat) (h : AH) : CM l w yX15_where cX15_where 1 (some .int) 0 0 KI [rv (w.1) a0] h (X15_where_f a0 h) :=
  CM.of (by decide +kernel) (by simp [lg_sl, rv_cat, cat_I, cat_L, cat_S]) (lv := [(0, rv (w.1) a0)]) (by simp [lv_args, rv_cat, cat_I, cat_L, cat_S]) (fun x hx => by subst hx; exact jX15_where x a0 h)
-- FallTrialsModel.denied(I)Z
abbrev qX15_denied : MT := (cX15_denied, RX15, "denied", (some .boolean), 0, 0, 2)
def X15_denied_f (a0 : Nat) (i1 : Int32) (h : AH) : Option (Int32 × AH) :=
  G (xc h a0 = 15) <|
  LT (pI h a0 1 i1) fun h2 =>
  G (xc h2 a0 = 15) <|
  LT (pI h2 a0 2 (-1)) fun h4 =>
  some (nI 0, h4)
theorem jX15_denied (x : CT) (a0 : Nat) (i1 : Int32) (h : AH) : J x qX15_denied ZI 0 [(0, rv (zx x) a0), (1, .int i1)] [] h (X15_denied_f a0 i1 h) := by
  unfold X15_denied_f
  refine J_aload_n 0 dX15_denied_0 rv_is rfl ?_
  refine J_iload_n 1 dX15_denied_1 rfl ?_
  refine J_G (fun g1 => ?_)
  refine J_putI kc_15 1 (by decide) rfl rfl rfl rfl (Or.inl rfl) kw_6_211 dX15_denied_2 g1 ?_
  refine J_LTh (fun h2 => ?_)
  refine J_aload_n 0 dX15_denied_5 rv_is rfl ?_
  refine J_iconst (v := (-1)) dX15_denied_6 rfl ?_
  refine J_G (fun g3 => ?_)
  refine J_putI kc_15 2 (by decide) rfl rfl rfl rfl (Or.inl rfl) kw_6_212 dX15_denied_7 g3 ?_
  refine J_LTh (fun h4 => ?_)
  refine J_iconst (v := nI 0) dX15_denied_10 rfl ?_
  exact J_zret dX15_denied_11 (by decide)
theorem ctX15_denied (l : Launch) (w : WT) (a0 : Nat) (i1 : Int32) (h : AH) : CM l w yX15_denied cX15_denied 2 (some .boolean) 0 0 KI [rv (w.1) a0, .int i1] h (X15_denied_f a0 i1 h) :=
  CM.of (by decide +kernel) (by simp [lg_sl, rv_cat, cat_I, cat_L, cat_S]) (lv := [(0, rv (w.1) a0), (1, .int i1)]) (by simp [lv_args, rv_cat, cat_I, cat_L, cat_S]) (fun x hx => by subst hx; exact jX15_denied x a0 i1 h)
-- FallTrialsModel.in(III)Z
abbrev qX15_in : MT := (cX15_in, RX15, "in", (some .boolean), 0, 0, 3)
def X15_in_f (i0 : Int32) (i1 : Int32) (i2 : Int32) (h : AH) : Option (Int32 × AH) :=
  if i0 < i1 then (
    some (nI 0, h)
  ) else (
    if i2 < i0 then (
      some (nI 0, h)
    ) else (
      some (nI 1, h)
    )
  )
theorem jX15_in (x : CT) (i0 : Int32) (i1 : Int32) (i2 : Int32) (h : AH) : J x qX15_in ZI 0 [(0, .int i0), (1, .int i1), (2, .int i2)] [] h (X15_in_f i0 i1 i2 h) := by
  unfold X15_in_f
  refine J_iload_n 0 dX15_in_0 rfl ?_
  refine J_iload_n 1 dX15_in_1 rfl ?_
  refine J_icmp_lt (tgt := 14) dX15_in_2 rfl ?_ ?_
  · refine J_iconst (v := nI 0) dX15_in_14 rfl ?_
    exact J_zret dX15_in_15 (by decide)
  · refine J_iload_n 0 dX15_in_5 rfl ?_
    refine J_iload_n 2 dX15_in_6 rfl ?_
    refine J_icmp_gt (tgt := 14) dX15_in_7 rfl ?_ ?_
    · refine J_iconst (v := nI 0) dX15_in_14 rfl ?_
      exact J_zret dX15_in_15 (by decide)
    · refine J_iconst (v := nI 1) dX15_in_10 rfl ?_
      refine J_goto (tgt := 15) dX15_in_11 rfl ?_
      exact J_zret dX15_in_15 (by decide)
theorem ctX15_in (l : Launch) (w : WT) (i0 : Int32) (i1 : Int32) (i2 : Int32) (h : AH) : CM l w yX15_in cX15_in 3 (some .boolean) 0 0 KI [.int i0, .int i1, .int i2] h (X15_in_f i0 i1 i2 h) :=
  CM.of (by decide +kernel) (by simp [lg_sl, rv_cat, cat_I, cat_L, cat_S]) (lv := [(0, .int i0), (1, .int i1), (2, .int i2)]) (by simp [lv_args, rv_cat, cat_I, cat_L, cat_S]) (fun x hx => by subst hx; exact jX15_in x i0 i1 i2 h)
-- FallTrialsModel.granted()Z
abbrev qX15_granted : MT := (cX15_granted, RX15, "granted", (some .boolean), 0, 0, 1)
def X15_granted_f (a0 : Nat) (h : AH) : Option (Int32 × AH) :=
  G (xc h a0 = 15) <|
  LT (pI h a0 1 (nI 0)) fun h2 =>
  G (xc h2 a0 = 15) <|
  LT (pI h2 a0 2 (-1)) fun h4 =>
  some (nI 1, h4)
theorem jX15_granted (x : CT) (a0 : Nat) (h : AH) : J x qX15_granted ZI 0 [(0, rv (zx x) a0)] [] h (X15_granted_f a0 h) := by
  unfold X15_granted_f
  refine J_aload_n 0 dX15_granted_0 rv_is rfl ?_
  refine J_iconst (v := nI 0) dX15_granted_1 rfl ?_
  refine J_G (fun g1 => ?_)
  refine J_putI kc_15 1 (by decide) rfl rfl rfl rfl (Or.inl rfl) kw_6_211 dX15_granted_2 g1 ?_
  refine J_LTh (fun h2 => ?_)
  refine J_aload_n 0 dX15_granted_5 rv_is rfl ?_
  refine J_iconst (v := (-1)) dX15_granted_6 rfl ?_
  refine J_G (fun g3 => ?_)
  refine J_putI kc_15 2 (by decide) rfl rfl rfl rfl (Or.inl rfl) kw_6_212 dX15_granted_7 g3 ?_
  refine J_LTh (fun h4 => ?_)
  refine J_iconst (v := nI 1) dX15_granted_10 rfl ?_
  exact J_zret dX15_granted_11 (by decide)
theorem ctX15_granted (l : Launch) (w : WT) (a0 : Nat) (h : AH) : CM l w yX15_granted cX15_granted 1 (some .boolean) 0 0 KI [rv (w.1) a0] h (X15_granted_f a0 h) :=
  CM.of (by decide +kernel) (by simp [lg_sl, rv_cat, cat_I, cat_L, cat_S]) (lv := [(0, rv (w.1) a0)]) (by simp [lv_args, rv_cat, cat_I, cat_L, cat_S]) (fun x hx => by subst hx; exact jX15_granted x a0 h)
-- FallTrialsModel.inPurse()I
abbrev qX15_inPurse : MT := (cX15_inPurse, RX15, "inPurse", (some .int), 0, 0, 1)
def X15_inPurse_f (a0 : Nat) (h : AH) : Option (Int32 × AH) :=
  G (xc h a0 = 15) <|
  G (xc h (xR h a0 19) = 16) <|
  G (gx (nI 0) (xz h (xR h a0 19))) <|
  G (gx (nI 1) (xz h (xR h a0 19))) <|
  G (gx (nI 2) (xz h (xR h a0 19))) <|
  G (gx (nI 3) (xz h (xR h a0 19))) <|
  some ((((xI h (xR h a0 19) (nI 0).toNatClampNeg) + (xI h (xR h a0 19) (nI 1).toNatClampNeg)) + (xI h (xR h a0 19) (nI 2).toNatClampNeg)) + (xI h (xR h a0 19) (nI 3).toNatClampNeg), h)
theorem jX15_inPurse (x : CT) (a0 : Nat) (h : AH) : J x qX15_inPurse ZI 0 [(0, rv (zx x) a0)] [] h (X15_inPurse_f a0 h) := by
  unfold X15_inPurse_f
  refine J_aload_n 0 dX15_inPurse_0 rv_is rfl ?_
  refine J_G (fun g1 => ?_)
  refine J_getR kc_15 19 (by decide) rfl rfl kw_6_229 dX15_inPurse_1 g1 ?_
  refine J_iconst (v := nI 0) dX15_inPurse_4 rfl ?_
  refine J_G (fun g2 => ?_)
  refine J_G (fun g3 => ?_)
  refine J_iald dX15_inPurse_5 g2 g3 ?_
  refine J_aload_n 0 dX15_inPurse_6 rv_is rfl ?_
  refine J_getR kc_15 19 (by decide) rfl rfl kw_6_229 dX15_inPurse_7 g1 ?_
  refine J_iconst (v := nI 1) dX15_inPurse_10 rfl ?_
  refine J_G (fun g4 => ?_)
  refine J_iald dX15_inPurse_11 g2 g4 ?_
  refine J_iadd dX15_inPurse_12 ?_
  refine J_aload_n 0 dX15_inPurse_13 rv_is rfl ?_
  refine J_getR kc_15 19 (by decide) rfl rfl kw_6_229 dX15_inPurse_14 g1 ?_
  refine J_iconst (v := nI 2) dX15_inPurse_17 rfl ?_
  refine J_G (fun g5 => ?_)
  refine J_iald dX15_inPurse_18 g2 g5 ?_
  refine J_iadd dX15_inPurse_19 ?_
  refine J_aload_n 0 dX15_inPurse_20 rv_is rfl ?_
  refine J_getR kc_15 19 (by decide) rfl rfl kw_6_229 dX15_inPurse_21 g1 ?_
  refine J_iconst (v := nI 3) dX15_inPurse_24 rfl ?_
  refine J_G (fun g6 => ?_)
  refine J_iald dX15_inPurse_25 g2 g6 ?_
  refine J_iadd dX15_inPurse_26 ?_
  exact J_iret dX15_inPurse_27
theorem ctX15_inPurse (l : Launch) (w : WT) (a0 : Nat) (h : AH) : CM l w yX15_inPurse cX15_inPurse 1 (some .int) 0 0 KI [rv (w.1) a0] h (X15_inPurse_f a0 h) :=
  CM.of (by decide +kernel) (by simp [lg_sl, rv_cat, cat_I, cat_L, cat_S]) (lv := [(0, rv (w.1) a0)]) (by simp [lv_args, rv_cat, cat_I, cat_L, cat_S]) (fun x hx => by subst hx; exact jX15_inPurse x a0 h)
-- FallTrialsModel.things(I)I
abbrev qX15_things : MT := (cX15_things, RX15, "things", (some .int), 0, 0, 2)
def X15_things_B9 (a0 : Nat) (h : AH) : Option (Int32 × AH) :=
  G (xc h a0 = 15) <|
  G (xc h (xR h a0 4) = 12) <|
  some (xI h (xR h a0 4) 6, h)
theorem jX15_things_B9 (x : CT) (a0 : Nat) (h : AH) : J x qX15_things ZI 9 [(0, rv (zx x) a0)] [] h (X15_things_B9 a0 h) := by
  unfold X15_things_B9
  refine J_aload_n 0 dX15_things_9 rv_is rfl ?_
  refine J_G (fun g1 => ?_)
  refine J_getR kc_15 4 (by decide) rfl rfl kw_6_214 dX15_things_10 g1 ?_
  refine J_G (fun g2 => ?_)
  refine J_getIN kc_12 6 (by decide) rfl rfl kn_30 dX15_things_13 g2 ?_
  refine J_goto (tgt := 26) dX15_things_16 rfl ?_
  exact J_iret dX15_things_26
def X15_things_f (a0 : Nat) (i1 : Int32) (h : AH) : Option (Int32 × AH) :=
  if i1 = 0 then (
    X15_things_B9 a0 h
  ) else (
    if i1 = (nI 3) then (
      X15_things_B9 a0 h
    ) else (
      G (xc h a0 = 15) <|
      G (xc h (xR h a0 4) = 12) <|
      some (xI h (xR h a0 4) 1, h)
    )
  )
theorem jX15_things (x : CT) (a0 : Nat) (i1 : Int32) (h : AH) : J x qX15_things ZI 0 [(0, rv (zx x) a0), (1, .int i1)] [] h (X15_things_f a0 i1 h) := by
  unfold X15_things_f
  refine J_iload_n 1 dX15_things_0 rfl ?_
  refine J_if_eq (tgt := 9) dX15_things_1 rfl ?_ ?_
  · exact J_sub [0] rfl (jX15_things_B9 x a0 h)
  · refine J_iload_n 1 dX15_things_4 rfl ?_
    refine J_iconst (v := nI 3) dX15_things_5 rfl ?_
    refine J_icmp_ne (tgt := 19) dX15_things_6 rfl ?_ ?_
    · refine J_aload_n 0 dX15_things_19 rv_is rfl ?_
      refine J_G (fun g1 => ?_)
      refine J_getR kc_15 4 (by decide) rfl rfl kw_6_214 dX15_things_20 g1 ?_
      refine J_G (fun g2 => ?_)
      refine J_getIN kc_12 1 (by decide) rfl rfl kn_25 dX15_things_23 g2 ?_
      exact J_iret dX15_things_26
    · exact J_sub [0] rfl (jX15_things_B9 x a0 h)
theorem ctX15_things (l : Launch) (w : WT) (a0 : Nat) (i1 : Int32) (h : AH) : CM l w yX15_things cX15_things 2 (some .int) 0 0 KI [rv (w.1) a0, .int i1] h (X15_things_f a0 i1 h) :=
  CM.of (by decide +kernel) (by simp [lg_sl, rv_cat, cat_I, cat_L, cat_S]) (lv := [(0, rv (w.1) a0), (1, .int i1)]) (by simp [lv_args, rv_cat, cat_I, cat_L, cat_S]) (fun x hx => by subst hx; exact jX15_things x a0 i1 h)
-- FallTrialsModel.clear()I
abbrev qX15_clear : MT := (cX15_clear, RX15, "clear", (some .int), 0, 0, 2)
def X15_clear_f (a0 : Nat) (h : AH) : Option (Int32 × AH) :=
  G (xc h a0 = 15) <|
  LT (pI h a0 0 (nI 0)) fun h2 =>
  G (xc h2 a0 = 15) <|
  LT (xI h2 a0 16) fun v4 =>
  LT (pI h2 a0 16 (nI 0)) fun h5 =>
  some (v4, h5)
theorem jX15_clear (x : CT) (a0 : Nat) (h : AH) : J x qX15_clear ZI 0 [(0, rv (zx x) a0)] [] h (X15_clear_f a0 h) := by
  unfold X15_clear_f
  refine J_aload_n 0 dX15_clear_0 rv_is rfl ?_
  refine J_iconst (v := nI 0) dX15_clear_1 rfl ?_
  refine J_G (fun g1 => ?_)
  refine J_putI kc_15 0 (by decide) rfl rfl rfl rfl (Or.inl rfl) kw_6_210 dX15_clear_2 g1 ?_
  refine J_LTh (fun h2 => ?_)
  refine J_aload_n 0 dX15_clear_5 rv_is rfl ?_
  refine J_G (fun g3 => ?_)
  refine J_getI kc_15 16 (by decide) rfl rfl kw_6_226 dX15_clear_6 g3 ?_
  refine J_LTi (fun v4 => ?_)
  refine J_istore_n dX15_clear_9 (by decide) (SD.c (lvr := [(0, rv (zx x) a0)]) [0] rfl rfl 0 rfl rfl rv_cat) ?_
  refine J_aload_n 1 dX15_clear_10 rv_is rfl ?_
  refine J_iconst (v := nI 0) dX15_clear_11 rfl ?_
  refine J_putI kc_15 16 (by decide) rfl rfl rfl rfl (Or.inl rfl) kw_6_226 dX15_clear_12 g3 ?_
  refine J_LTh (fun h5 => ?_)
  refine J_iload_n 0 dX15_clear_15 rfl ?_
  exact J_iret dX15_clear_16
theorem ctX15_clear (l : Launch) (w : WT) (a0 : Nat) (h : AH) : CM l w yX15_clear cX15_clear 2 (some .int) 0 0 KI [rv (w.1) a0] h (X15_clear_f a0 h) :=
  CM.of (by decide +kernel) (by simp [lg_sl, rv_cat, cat_I, cat_L, cat_S]) (lv := [(0, rv (w.1) a0)]) (by simp [lv_args, rv_cat, cat_I, cat_L, cat_S]) (fun x hx => by subst hx; exact jX15_clear x a0 h)
-- FallTrialsModel.isDown(III)Z
abbrev qX15_isDown : MT := (cX15_isDown, RX15, "isDown", (some .boolean), 0, 0, 4)
def X15_isDown_f (a0 : Nat) (i1 : Int32) (i2 : Int32) (i3 : Int32) (h : AH) : Option (Int32 × AH) :=
  G (xc h a0 = 15) <|
  G (xc h (xR h a0 29) = 16) <|
  G (gx (((nI 7) * i1) + i2) (xz h (xR h a0 29))) <|
  if (((xI h (xR h a0 29) (((nI 7) * i1) + i2).toNatClampNeg) >>> (i3 &&& 31)) &&& (nI 1)) = (nI 1) then (
    some (nI 1, h)
  ) else (
    some (nI 0, h)
  )
theorem jX15_isDown (x : CT) (a0 : Nat) (i1 : Int32) (i2 : Int32) (i3 : Int32) (h : AH) : J x qX15_isDown ZI 0 [(0, rv (zx x) a0), (1, .int i1), (2, .int i2), (3, .int i3)] [] h (X15_isDown_f a0 i1 i2 i3 h) := by
  unfold X15_isDown_f
  refine J_aload_n 0 dX15_isDown_0 rv_is rfl ?_
  refine J_G (fun g1 => ?_)
  refine J_getR kc_15 29 (by decide) rfl rfl kw_6_239 dX15_isDown_1 g1 ?_
  refine J_bipush (v := nI 7) dX15_isDown_4 rfl ?_
  refine J_iload_n 1 dX15_isDown_6 rfl ?_
  refine J_imul dX15_isDown_7 ?_
  refine J_iload_n 2 dX15_isDown_8 rfl ?_
  refine J_iadd dX15_isDown_9 ?_
  refine J_G (fun g2 => ?_)
  refine J_G (fun g3 => ?_)
  refine J_iald dX15_isDown_10 g2 g3 ?_
  refine J_iload_n 3 dX15_isDown_11 rfl ?_
  refine J_ishr dX15_isDown_12 ?_
  refine J_iconst (v := nI 1) dX15_isDown_13 rfl ?_
  refine J_iand dX15_isDown_14 ?_
  refine J_iconst (v := nI 1) dX15_isDown_15 rfl ?_
  refine J_icmp_ne (tgt := 23) dX15_isDown_16 rfl ?_ ?_
  · refine J_iconst (v := nI 0) dX15_isDown_23 rfl ?_
    exact J_zret dX15_isDown_24 (by decide)
  · refine J_iconst (v := nI 1) dX15_isDown_19 rfl ?_
    refine J_goto (tgt := 24) dX15_isDown_20 rfl ?_
    exact J_zret dX15_isDown_24 (by decide)
theorem ctX15_isDown (l : Launch) (w : WT) (a0 : Nat) (i1 : Int32) (i2 : Int32) (i3 : Int32) (h : AH) : CM l w yX15_isDown cX15_isDown 4 (some .boolean) 0 0 KI [rv (w.1) a0, .int i1, .int i2, .int i3] h (X15_isDown_f a0 i1 i2 i3 h) :=
  CM.of (by decide +kernel) (by simp [lg_sl, rv_cat, cat_I, cat_L, cat_S]) (lv := [(0, rv (w.1) a0), (1, .int i1), (2, .int i2), (3, .int i3)]) (by simp [lv_args, rv_cat, cat_I, cat_L, cat_S]) (fun x hx => by subst hx; exact jX15_isDown x a0 i1 i2 i3 h)
-- FallTrialsModel.has(II)Z
abbrev qX15_has : MT := (cX15_has, RX15, "has", (some .boolean), 0, 0, 2)
def X15_has_f (i0 : Int32) (i1 : Int32) (h : AH) : Option (Int32 × AH) :=
  if ((i0 >>> (i1 &&& 31)) &&& (nI 1)) = (nI 1) then (
    some (nI 1, h)
  ) else (
    some (nI 0, h)
  )
theorem jX15_has (x : CT) (i0 : Int32) (i1 : Int32) (h : AH) : J x qX15_has ZI 0 [(0, .int i0), (1, .int i1)] [] h (X15_has_f i0 i1 h) := by
  unfold X15_has_f
  refine J_iload_n 0 dX15_has_0 rfl ?_
  refine J_iload_n 1 dX15_has_1 rfl ?_
  refine J_ishr dX15_has_2 ?_
  refine J_iconst (v := nI 1) dX15_has_3 rfl ?_
  refine J_iand dX15_has_4 ?_
  refine J_iconst (v := nI 1) dX15_has_5 rfl ?_
  refine J_icmp_ne (tgt := 13) dX15_has_6 rfl ?_ ?_
  · refine J_iconst (v := nI 0) dX15_has_13 rfl ?_
    exact J_zret dX15_has_14 (by decide)
  · refine J_iconst (v := nI 1) dX15_has_9 rfl ?_
    refine J_goto (tgt := 14) dX15_has_10 rfl ?_
    exact J_zret dX15_has_14 (by decide)
theorem ctX15_has (l : Launch) (w : WT) (i0 : Int32) (i1 : Int32) (h : AH) : CM l w yX15_has cX15_has 2 (some .boolean) 0 0 KI [.int i0, .int i1] h (X15_has_f i0 i1 h) :=
  CM.of (by decide +kernel) (by simp [lg_sl, rv_cat, cat_I, cat_L, cat_S]) (lv := [(0, .int i0), (1, .int i1)]) (by simp [lv_args, rv_cat, cat_I, cat_L, cat_S]) (fun x hx => by subst hx; exact jX15_has x i0 i1 h)
-- FallTrialsModel.keptFrom(III)I
abbrev qX15_keptFrom : MT := (cX15_keptFrom, RX15, "keptFrom", (some .int), 1, 23, 5)
def X15_keptFrom_B5 : Nat → Nat → Int32 → Int32 → Int32 → AH → Option (Int32 × AH)
  | 0, _, _, _, _, _ => none
  | n + 1, a0, i1, i3, i4, h =>
    if i4 < 0 then (
      some ((-1), h)
    ) else (
      G (xc h a0 = 15) <|
      BN (X15_isDown_f a0 i1 i4 i3 h) fun v3 h2 =>
      if v3 = 0 then (
        some (i4, h2)
      ) else (
        LT (i4 + (-1)) fun v4 =>
        X15_keptFrom_B5 n a0 i1 i3 v4 h2
      )
    )
theorem jX15_keptFrom_B5 (x : CT) : ∀ (n : Nat) (a0 : Nat) (i1 : Int32) (i3 : Int32) (i4 : Int32) (h : AH), J x qX15_keptFrom ZI 5 [(0, rv (zx x) a0), (1, .int i1), (3, .int i3), (4, .int i4)] [] h (X15_keptFrom_B5 n a0 i1 i3 i4 h) := by
  intro n
  induction n with
  | zero => intro a0 i1 i3 i4 h; exact J_none
  | succ n ih =>
    intro a0 i1 i3 i4 h
    unfold X15_keptFrom_B5
    refine J_iload 3 dX15_keptFrom_5 rfl ?_
    refine J_if_lt (tgt := 30) dX15_keptFrom_7 rfl ?_ ?_
    · refine J_iconst (v := (-1)) dX15_keptFrom_30 rfl ?_
      exact J_iret dX15_keptFrom_31
    · refine J_aload_n 0 dX15_keptFrom_10 rv_is rfl ?_
      refine J_iload_n 1 dX15_keptFrom_11 rfl ?_
      refine J_iload 3 dX15_keptFrom_12 rfl ?_
      refine J_iload_n 2 dX15_keptFrom_14 rfl ?_
      refine J_G (fun g1 => ?_)
      refine J.callV (n := 3) (As := [.int i1, .int i4, .int i3]) kc_15 (ctX15_isDown (lx x) (wx x) a0 i1 i4 i3 h) kw_8_166 kw_8_163 kw_8_165 kp_31 kw_1_13 (by decide +kernel) rfl (by decide) (Nat.zero_le _) rfl dX15_keptFrom_15 g1 (fun v3 h2 => ?_)
      show J x _ _ 18 _ [.int v3] h2 _
      refine J_if_ne (tgt := 24) dX15_keptFrom_18 rfl ?_ ?_
      · refine J_iincL (u := i4 + (-1)) 3 dX15_keptFrom_24 rfl rfl (by decide) (SD.a (lvr := [(0, rv (zx x) a0), (1, .int i1), (3, .int i3)]) [0, 1, 2] rfl rfl) (fun v4 => ?_)
        refine J_goto (tgt := 5) dX15_keptFrom_27 rfl ?_
        exact J_sub [1, 2, 3, 0] rfl (ih a0 i1 i3 v4 h2)
      · refine J_iload 3 dX15_keptFrom_21 rfl ?_
        exact J_iret dX15_keptFrom_23
def X15_keptFrom_f (a0 : Nat) (i1 : Int32) (i2 : Int32) (i3 : Int32) (h : AH) : Option (Int32 × AH) :=
  LT (i2 - (nI 1)) fun v1 =>
  X15_keptFrom_B5 FU a0 i1 i3 v1 h
theorem jX15_keptFrom (x : CT) (a0 : Nat) (i1 : Int32) (i2 : Int32) (i3 : Int32) (h : AH) : J x qX15_keptFrom ZI 0 [(0, rv (zx x) a0), (1, .int i1), (2, .int i2), (3, .int i3)] [] h (X15_keptFrom_f a0 i1 i2 i3 h) := by
  unfold X15_keptFrom_f
  refine J_iload_n 2 dX15_keptFrom_0 rfl ?_
  refine J_iconst (v := nI 1) dX15_keptFrom_1 rfl ?_
  refine J_isub dX15_keptFrom_2 ?_
  refine J_LTi (fun v1 => ?_)
  refine J_istore dX15_keptFrom_3 (by decide) (SD.a (lvr := [(0, rv (zx x) a0), (1, .int i1), (3, .int i3)]) [0, 1, 3] rfl rfl) ?_
  exact J_sub [1, 2, 3, 0] rfl (jX15_keptFrom_B5 x FU a0 i1 i3 v1 h)
theorem ctX15_keptFrom (l : Launch) (w : WT) (a0 : Nat) (i1 : Int32) (i2 : Int32) (i3 : Int32) (h : AH) : CM l w yX15_keptFrom cX15_keptFrom 5 (some .int) 1 23 KI [rv (w.1) a0, .int i1, .int i2, .int i3] h (X15_keptFrom_f a0 i1 i2 i3 h) :=
  CM.of (by decide +kernel) (by simp [lg_sl, rv_cat, cat_I, cat_L, cat_S]) (lv := [(0, rv (w.1) a0), (1, .int i1), (2, .int i2), (3, .int i3)]) (by simp [lv_args, rv_cat, cat_I, cat_L, cat_S]) (fun x hx => by subst hx; exact jX15_keptFrom x a0 i1 i2 i3 h)
-- FallTrialsModel.rowsAt(III)I
abbrev qX15_rowsAt : MT := (cX15_rowsAt, RX15, "rowsAt", (some .int), 0, 0, 4)
def X15_rowsAt_f (a0 : Nat) (i1 : Int32) (i2 : Int32) (i3 : Int32) (h : AH) : Option (Int32 × AH) :=
  G (xc h a0 = 15) <|
  G (xc h (xR h a0 28) = 16) <|
  G (gx ((((nI 28) * i1) + ((nI 4) * i2)) + i3) (xz h (xR h a0 28))) <|
  some (xI h (xR h a0 28) ((((nI 28) * i1) + ((nI 4) * i2)) + i3).toNatClampNeg, h)
theorem jX15_rowsAt (x : CT) (a0 : Nat) (i1 : Int32) (i2 : Int32) (i3 : Int32) (h : AH) : J x qX15_rowsAt ZI 0 [(0, rv (zx x) a0), (1, .int i1), (2, .int i2), (3, .int i3)] [] h (X15_rowsAt_f a0 i1 i2 i3 h) := by
  unfold X15_rowsAt_f
  refine J_aload_n 0 dX15_rowsAt_0 rv_is rfl ?_
  refine J_G (fun g1 => ?_)
  refine J_getR kc_15 28 (by decide) rfl rfl kw_6_238 dX15_rowsAt_1 g1 ?_
  refine J_bipush (v := nI 28) dX15_rowsAt_4 rfl ?_
  refine J_iload_n 1 dX15_rowsAt_6 rfl ?_
  refine J_imul dX15_rowsAt_7 ?_
  refine J_iconst (v := nI 4) dX15_rowsAt_8 rfl ?_
  refine J_iload_n 2 dX15_rowsAt_9 rfl ?_
  refine J_imul dX15_rowsAt_10 ?_
  refine J_iadd dX15_rowsAt_11 ?_
  refine J_iload_n 3 dX15_rowsAt_12 rfl ?_
  refine J_iadd dX15_rowsAt_13 ?_
  refine J_G (fun g2 => ?_)
  refine J_G (fun g3 => ?_)
  refine J_iald dX15_rowsAt_14 g2 g3 ?_
  exact J_iret dX15_rowsAt_15
theorem ctX15_rowsAt (l : Launch) (w : WT) (a0 : Nat) (i1 : Int32) (i2 : Int32) (i3 : Int32) (h : AH) : CM l w yX15_rowsAt cX15_rowsAt 4 (some .int) 0 0 KI [rv (w.1) a0, .int i1, .int i2, .int i3] h (X15_rowsAt_f a0 i1 i2 i3 h) :=
  CM.of (by decide +kernel) (by simp [lg_sl, rv_cat, cat_I, cat_L, cat_S]) (lv := [(0, rv (w.1) a0), (1, .int i1), (2, .int i2), (3, .int i3)]) (by simp [lv_args, rv_cat, cat_I, cat_L, cat_S]) (fun x hx => by subst hx; exact jX15_rowsAt x a0 i1 i2 i3 h)
