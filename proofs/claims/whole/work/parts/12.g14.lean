-- FallTrials.count(I)I
abbrev qX11_count : MT := (cX11_count, RX11, "count", (some .int), 3, 70, 3)
def X11_count_f (a0 : Nat) (i1 : Int32) (h : AH) : Option (Int32 × AH) :=
  G (xc h a0 = 11) <|
  G (xc h (xR h a0 1) = 10) <|
  LT (xR h (xR h a0 1) 0) fun r3 =>
  if i1 = nI 0 then (
    G (xc h r3 = 0) <|
    some (xI h r3 0, h)
  ) else (
  if i1 = nI 1 then (
    G (xc h r3 = 0) <|
    some (xI h r3 1, h)
  ) else (
  if i1 = nI 2 then (
    G (xc h r3 = 0) <|
    some (xI h r3 2, h)
  ) else (
  if i1 = nI 3 then (
    G (xc h r3 = 0) <|
    some (xI h r3 3, h)
  ) else (
  if i1 = nI 4 then (
    G (xc h r3 = 0) <|
    some (xI h r3 4, h)
  ) else (
  if i1 = nI 5 then (
    G (xc h a0 = 11) <|
    G (xc h (xR h a0 1) = 10) <|
    some (xI h (xR h a0 1) 1, h)
  ) else (
  if i1 = nI 6 then (
    G (xc h a0 = 11) <|
    G (xc h (xR h a0 3) = 4) <|
    some (xI h (xR h a0 3) 1, h)
  ) else (
  if i1 = nI 7 then (
    G (xc h a0 = 11) <|
    G (xc h (xR h a0 6) = 4) <|
    some (xI h (xR h a0 6) 1, h)
  ) else (
  if i1 = nI 8 then (
    G (xc h a0 = 11) <|
    some (xI h a0 14, h)
  ) else (
  if i1 = nI 9 then (
    G (xc h a0 = 11) <|
    G (xc h (xR h a0 8) = 9) <|
    G (xc h (xR h (xR h a0 8) 0) = 5) <|
    BN (X5_fallCount_f (xR h (xR h a0 8) 0) (xR h a0 1) h) fun v29 h28 =>
    some (v29, h28)
  ) else (
  if i1 = nI 10 then (
    G (xc h a0 = 11) <|
    G (xc h (xR h a0 8) = 9) <|
    G (xc h (xR h (xR h a0 8) 0) = 5) <|
    BN (X5_setCount_f (xR h (xR h a0 8) 0) (xR h a0 1) h) fun v35 h34 =>
    some (v35, h34)
  ) else (
  if i1 = nI 11 then (
    G (xc h r3 = 0) <|
    some (xI h r3 5, h)
  ) else (
  if i1 = nI 12 then (
    G (xc h a0 = 11) <|
    G (xc h (xR h a0 1) = 10) <|
    some (xI h (xR h a0 1) 2, h)
  ) else (
  if i1 = nI 13 then (
    G (xc h a0 = 11) <|
    G (xc h (xR h a0 0) = 6) <|
    some (xI h (xR h a0 0) 4, h)
  ) else (
  some ((-1), h)
  ))))))))))))))
theorem jX11_count (x : CT) (a0 : Nat) (i1 : Int32) (h : AH) : J x qX11_count ZI 0 [(0, rv (zx x) a0), (1, .int i1)] [] h (X11_count_f a0 i1 h) := by
  unfold X11_count_f
  refine J_aload_n 0 dX11_count_0 rv_is rfl ?_
  refine J_G (fun g1 => ?_)
  refine J_getR kc_11 1 (by decide) rfl rfl kw_3_43 dX11_count_1 g1 ?_
  refine J_G (fun g2 => ?_)
  refine J_getR kc_10 0 (by decide) rfl rfl kw_2_13 dX11_count_4 g2 ?_
  refine J_LTr (fun r3 => ?_)
  refine J_astore_n rv_is dX11_count_7 (by decide) (SD.a (lvr := [(0, rv (zx x) a0), (1, .int i1)]) [0, 1] rfl rfl) ?_
  refine J_iload_n 2 dX11_count_8 rfl ?_
  refine J_tcase (c0 := nI 0) (tgt := 80) dX11_count_9 (by decide) (by decide) rfl rfl ?_ (fun n5 => ?_)
  · refine J_aload_n 0 dX11_count_80 rv_is rfl ?_
    refine J_G (fun g4 => ?_)
    refine J_getI kc_0 0 (by decide) rfl rfl kw_1_107 dX11_count_81 g4 ?_
    exact J_iret dX11_count_84
  refine J_tcase (c0 := nI 1) (tgt := 85) dX11_count_9 (by decide) (by decide) rfl rfl ?_ (fun n7 => ?_)
  · refine J_aload_n 0 dX11_count_85 rv_is rfl ?_
    refine J_G (fun g6 => ?_)
    refine J_getI kc_0 1 (by decide) rfl rfl kw_1_114 dX11_count_86 g6 ?_
    exact J_iret dX11_count_89
  refine J_tcase (c0 := nI 2) (tgt := 90) dX11_count_9 (by decide) (by decide) rfl rfl ?_ (fun n9 => ?_)
  · refine J_aload_n 0 dX11_count_90 rv_is rfl ?_
    refine J_G (fun g8 => ?_)
    refine J_getI kc_0 2 (by decide) rfl rfl kw_1_117 dX11_count_91 g8 ?_
    exact J_iret dX11_count_94
  refine J_tcase (c0 := nI 3) (tgt := 95) dX11_count_9 (by decide) (by decide) rfl rfl ?_ (fun n11 => ?_)
  · refine J_aload_n 0 dX11_count_95 rv_is rfl ?_
    refine J_G (fun g10 => ?_)
    refine J_getI kc_0 3 (by decide) rfl rfl kw_1_119 dX11_count_96 g10 ?_
    exact J_iret dX11_count_99
  refine J_tcase (c0 := nI 4) (tgt := 100) dX11_count_9 (by decide) (by decide) rfl rfl ?_ (fun n13 => ?_)
  · refine J_aload_n 0 dX11_count_100 rv_is rfl ?_
    refine J_G (fun g12 => ?_)
    refine J_getI kc_0 4 (by decide) rfl rfl kw_1_127 dX11_count_101 g12 ?_
    exact J_iret dX11_count_104
  refine J_tcase (c0 := nI 5) (tgt := 105) dX11_count_9 (by decide) (by decide) rfl rfl ?_ (fun n16 => ?_)
  · refine J_aload_n 1 dX11_count_105 rv_is rfl ?_
    refine J_G (fun g14 => ?_)
    refine J_getR kc_11 1 (by decide) rfl rfl kw_3_43 dX11_count_106 g14 ?_
    refine J_G (fun g15 => ?_)
    refine J_getI kc_10 1 (by decide) rfl rfl kw_2_22 dX11_count_109 g15 ?_
    exact J_iret dX11_count_112
  refine J_tcase (c0 := nI 6) (tgt := 113) dX11_count_9 (by decide) (by decide) rfl rfl ?_ (fun n19 => ?_)
  · refine J_aload_n 1 dX11_count_113 rv_is rfl ?_
    refine J_G (fun g17 => ?_)
    refine J_getR kc_11 3 (by decide) rfl rfl kw_3_45 dX11_count_114 g17 ?_
    refine J_G (fun g18 => ?_)
    refine J_getI kc_4 1 (by decide) rfl rfl kw_2_58 dX11_count_117 g18 ?_
    exact J_iret dX11_count_120
  refine J_tcase (c0 := nI 7) (tgt := 121) dX11_count_9 (by decide) (by decide) rfl rfl ?_ (fun n22 => ?_)
  · refine J_aload_n 1 dX11_count_121 rv_is rfl ?_
    refine J_G (fun g20 => ?_)
    refine J_getR kc_11 6 (by decide) rfl rfl kw_3_48 dX11_count_122 g20 ?_
    refine J_G (fun g21 => ?_)
    refine J_getI kc_4 1 (by decide) rfl rfl kw_2_58 dX11_count_125 g21 ?_
    exact J_iret dX11_count_128
  refine J_tcase (c0 := nI 8) (tgt := 129) dX11_count_9 (by decide) (by decide) rfl rfl ?_ (fun n24 => ?_)
  · refine J_aload_n 1 dX11_count_129 rv_is rfl ?_
    refine J_G (fun g23 => ?_)
    refine J_getI kc_11 14 (by decide) rfl rfl kw_3_56 dX11_count_130 g23 ?_
    exact J_iret dX11_count_133
  refine J_tcase (c0 := nI 9) (tgt := 134) dX11_count_9 (by decide) (by decide) rfl rfl ?_ (fun n30 => ?_)
  · refine J_aload_n 1 dX11_count_134 rv_is rfl ?_
    refine J_G (fun g25 => ?_)
    refine J_getR kc_11 8 (by decide) rfl rfl kw_3_50 dX11_count_135 g25 ?_
    refine J_G (fun g26 => ?_)
    refine J_getR kc_9 0 (by decide) rfl rfl kw_2_234 dX11_count_138 g26 ?_
    refine J_aload_n 1 dX11_count_141 rv_is rfl ?_
    refine J_getR kc_11 1 (by decide) rfl rfl kw_3_43 dX11_count_142 g25 ?_
    refine J_G (fun g27 => ?_)
    refine J.callV (n := 1) (As := [rv (zx x) (xR h a0 1)]) kc_5 (ctX5_fallCount (lx x) (wx x) (xR h (xR h a0 8) 0) (xR h a0 1) h) kw_5_106 kw_6_48 kw_5_104 kw_5_105 kw_1_8 (by decide +kernel) rfl (by decide) (Nat.zero_le _) rfl dX11_count_145 g27 (fun v29 h28 => ?_)
    show J x _ _ 148 _ [.int v29] h28 _
    exact J_iret dX11_count_148
  refine J_tcase (c0 := nI 10) (tgt := 149) dX11_count_9 (by decide) (by decide) rfl rfl ?_ (fun n36 => ?_)
  · refine J_aload_n 1 dX11_count_149 rv_is rfl ?_
    refine J_G (fun g31 => ?_)
    refine J_getR kc_11 8 (by decide) rfl rfl kw_3_50 dX11_count_150 g31 ?_
    refine J_G (fun g32 => ?_)
    refine J_getR kc_9 0 (by decide) rfl rfl kw_2_234 dX11_count_153 g32 ?_
    refine J_aload_n 1 dX11_count_156 rv_is rfl ?_
    refine J_getR kc_11 1 (by decide) rfl rfl kw_3_43 dX11_count_157 g31 ?_
    refine J_G (fun g33 => ?_)
    refine J.callV (n := 1) (As := [rv (zx x) (xR h a0 1)]) kc_5 (ctX5_setCount (lx x) (wx x) (xR h (xR h a0 8) 0) (xR h a0 1) h) kw_6_52 kw_6_49 kw_6_50 kw_6_51 kw_1_8 (by decide +kernel) rfl (by decide) (Nat.zero_le _) rfl dX11_count_160 g33 (fun v35 h34 => ?_)
    show J x _ _ 163 _ [.int v35] h34 _
    exact J_iret dX11_count_163
  refine J_tcase (c0 := nI 11) (tgt := 164) dX11_count_9 (by decide) (by decide) rfl rfl ?_ (fun n38 => ?_)
  · refine J_aload_n 0 dX11_count_164 rv_is rfl ?_
    refine J_G (fun g37 => ?_)
    refine J_getI kc_0 5 (by decide) rfl rfl kw_1_133 dX11_count_165 g37 ?_
    exact J_iret dX11_count_168
  refine J_tcase (c0 := nI 12) (tgt := 169) dX11_count_9 (by decide) (by decide) rfl rfl ?_ (fun n41 => ?_)
  · refine J_aload_n 1 dX11_count_169 rv_is rfl ?_
    refine J_G (fun g39 => ?_)
    refine J_getR kc_11 1 (by decide) rfl rfl kw_3_43 dX11_count_170 g39 ?_
    refine J_G (fun g40 => ?_)
    refine J_getI kc_10 2 (by decide) rfl rfl kw_2_28 dX11_count_173 g40 ?_
    exact J_iret dX11_count_176
  refine J_tcase (c0 := nI 13) (tgt := 177) dX11_count_9 (by decide) (by decide) rfl rfl ?_ (fun n44 => ?_)
  · refine J_aload_n 1 dX11_count_177 rv_is rfl ?_
    refine J_G (fun g42 => ?_)
    refine J_getR kc_11 0 (by decide) rfl rfl kw_3_42 dX11_count_178 g42 ?_
    refine J_G (fun g43 => ?_)
    refine J_getI kc_6 4 (by decide) rfl rfl kw_1_209 dX11_count_181 g43 ?_
    exact J_iret dX11_count_184
  refine J_tdef (tgt := 185) dX11_count_9 (by have := sw_ne (by decide : (nI 0 : Int32).toInt = 0) n5; have := sw_ne (by decide : (nI 1 : Int32).toInt = 1) n7; have := sw_ne (by decide : (nI 2 : Int32).toInt = 2) n9; have := sw_ne (by decide : (nI 3 : Int32).toInt = 3) n11; have := sw_ne (by decide : (nI 4 : Int32).toInt = 4) n13; have := sw_ne (by decide : (nI 5 : Int32).toInt = 5) n16; have := sw_ne (by decide : (nI 6 : Int32).toInt = 6) n19; have := sw_ne (by decide : (nI 7 : Int32).toInt = 7) n22; have := sw_ne (by decide : (nI 8 : Int32).toInt = 8) n24; have := sw_ne (by decide : (nI 9 : Int32).toInt = 9) n30; have := sw_ne (by decide : (nI 10 : Int32).toInt = 10) n36; have := sw_ne (by decide : (nI 11 : Int32).toInt = 11) n38; have := sw_ne (by decide : (nI 12 : Int32).toInt = 12) n41; have := sw_ne (by decide : (nI 13 : Int32).toInt = 13) n44; omega) rfl ?_
  refine J_iconst (v := (-1)) dX11_count_185 rfl ?_
  exact J_iret dX11_count_186
theorem ctX11_count (l : Launch) (w : WT) (a0 : Nat) (i1 : Int32) (h : AH) : CM l w yX11_count cX11_count 3 (some .int) 3 70 KI [rv (w.1) a0, .int i1] h (X11_count_f a0 i1 h) :=
  CM.of (by decide +kernel) (by simp [lg_sl, rv_cat, cat_I, cat_L, cat_S]) (lv := [(0, rv (w.1) a0), (1, .int i1)]) (by simp [lv_args, rv_cat, cat_I, cat_L, cat_S]) (fun x hx => by subst hx; exact jX11_count x a0 i1 h)
-- FallTrialsModel.next()V
abbrev qX15_next : MT := (cX15_next, RX15, "next", none, 1, 21, 3)
def X15_next_B138 (a0 : Nat) (i2 : Int32) (h : AH) : Option (Unit × AH) :=
  if (nI 8) < i2 then (
    some ((), h)
  ) else (
    G (xc h a0 = 15) <|
    LT (pI h a0 11 (nI 2)) fun h2 =>
    some ((), h2)
  )
theorem jX15_next_B138 (x : CT) (a0 : Nat) (i2 : Int32) (h : AH) : J x qX15_next ZV 138 [(0, rv (zx x) a0), (2, .int i2)] [] h (X15_next_B138 a0 i2 h) := by
  unfold X15_next_B138
  refine J_iload_n 1 dX15_next_138 rfl ?_
  refine J_bipush (v := nI 8) dX15_next_139 rfl ?_
  refine J_icmp_gt (tgt := 173) dX15_next_141 rfl ?_ ?_
  · exact J_vret dX15_next_173
  · refine J_aload_n 0 dX15_next_144 rv_is rfl ?_
    refine J_iconst (v := nI 2) dX15_next_145 rfl ?_
    refine J_G (fun g1 => ?_)
    refine J_putI kc_15 11 (by decide) rfl rfl rfl rfl (Or.inl rfl) kw_6_221 dX15_next_146 g1 ?_
    refine J_LTh (fun h2 => ?_)
    refine J_goto (tgt := 173) dX15_next_149 rfl ?_
    exact J_vret dX15_next_173
def X15_next_B122 (k75 : (Nat → Int32 → AH → Option (Unit × AH))) (a0 : Nat) (i2 : Int32) (h : AH) : Option (Unit × AH) :=
  LT (i2 + nI 1) fun v1 =>
  G (xc h a0 = 15) <|
  LT (pI h a0 10 ((xI h a0 10) + (nI 1))) fun h3 =>
  k75 a0 v1 h3
theorem jX15_next_B122 (x : CT) (k75 : (Nat → Int32 → AH → Option (Unit × AH))) (hk75 : ∀ (a0 : Nat) (i2 : Int32) (h : AH), J x qX15_next ZV 75 [(0, rv (zx x) a0), (2, .int i2)] [] h (k75 a0 i2 h)) (a0 : Nat) (i2 : Int32) (h : AH) : J x qX15_next ZV 122 [(0, rv (zx x) a0), (2, .int i2)] [] h (X15_next_B122 k75 a0 i2 h) := by
  unfold X15_next_B122
  refine J_iincL (u := i2 + nI 1) 1 dX15_next_122 rfl rfl (by decide) (SD.a (lvr := [(0, rv (zx x) a0)]) [0] rfl rfl) (fun v1 => ?_)
  refine J_aload_n 1 dX15_next_125 rv_is rfl ?_
  refine J_dup dX15_next_126 rv_cat ?_
  refine J_G (fun g2 => ?_)
  refine J_getI kc_15 10 (by decide) rfl rfl kw_6_220 dX15_next_127 g2 ?_
  refine J_iconst (v := nI 1) dX15_next_130 rfl ?_
  refine J_iadd dX15_next_131 ?_
  refine J_putI kc_15 10 (by decide) rfl rfl rfl rfl (Or.inl rfl) kw_6_220 dX15_next_132 g2 ?_
  refine J_LTh (fun h3 => ?_)
  refine J_goto (tgt := 75) dX15_next_135 rfl ?_
  exact J_sub [1, 0] rfl (hk75 a0 v1 h3)
def X15_next_B75 : Nat → Nat → Int32 → AH → Option (Unit × AH)
  | 0, _, _, _ => none
  | n + 1, a0, i2, h =>
    G (xc h a0 = 15) <|
    BN (X15_byteAt_f a0 (xI h a0 10) h) fun v3 h2 =>
    BN (X15_isLetter_f v3 h2) fun v5 h4 =>
    if v5 = 0 then (
      X15_next_B138 a0 i2 h4
    ) else (
      if (nI 8) ≤ i2 then (
        X15_next_B122 (X15_next_B75 n) a0 i2 h4
      ) else (
        G (xc h4 a0 = 15) <|
        BN (X15_byteAt_f a0 (xI h4 a0 10) h4) fun v8 h7 =>
        G (xc h7 a0 = 15) <|
        LT (pL h7 a0 13 (((32) * (xL h4 a0 13)) + (((v8 - (nI 97)) + (nI 1)).toInt64))) fun h10 =>
        X15_next_B122 (X15_next_B75 n) a0 i2 h10
      )
    )
theorem jX15_next_B75 (x : CT) : ∀ (n : Nat) (a0 : Nat) (i2 : Int32) (h : AH), J x qX15_next ZV 75 [(0, rv (zx x) a0), (2, .int i2)] [] h (X15_next_B75 n a0 i2 h) := by
  intro n
  induction n with
  | zero => intro a0 i2 h; exact J_none
  | succ n ih =>
    intro a0 i2 h
    unfold X15_next_B75
    refine J_aload_n 0 dX15_next_75 rv_is rfl ?_
    refine J_aload_n 0 dX15_next_76 rv_is rfl ?_
    refine J_G (fun g1 => ?_)
    refine J_getI kc_15 10 (by decide) rfl rfl kw_6_220 dX15_next_77 g1 ?_
    refine J.callV (n := 1) (As := [.int (xI h a0 10)]) kc_15 (ctX15_byteAt (lx x) (wx x) a0 (xI h a0 10) h) kw_8_17 kw_8_14 kw_8_16 kp_10 kw_1_13 (by decide +kernel) rfl (by decide) (Nat.zero_le _) rfl dX15_next_80 g1 (fun v3 h2 => ?_)
    show J x _ _ 83 _ [.int v3] h2 _
    refine J.callS (n := 1) (As := [.int v3]) (ctX15_isLetter (lx x) (wx x) v3 h2) kw_8_20 kw_8_18 kw_8_19 kw_1_13 (by decide +kernel) rfl (by decide) (Nat.zero_le _) rfl dX15_next_83 (fun v5 h4 => ?_)
    show J x _ _ 86 _ [.int v5] h4 _
    refine J_if_eq (tgt := 138) dX15_next_86 rfl ?_ ?_
    · exact (jX15_next_B138 x a0 i2 h4)
    · refine J_iload_n 1 dX15_next_89 rfl ?_
      refine J_bipush (v := nI 8) dX15_next_90 rfl ?_
      refine J_icmp_ge (tgt := 122) dX15_next_92 rfl ?_ ?_
      · exact (jX15_next_B122 x (X15_next_B75 n) ih a0 i2 h4)
      · refine J_aload_n 0 dX15_next_95 rv_is rfl ?_
        refine J_ldc2 (v := (32)) dX15_next_96 kw_8_21 ?_
        refine J_aload_n 0 dX15_next_99 rv_is rfl ?_
        refine J_G (fun g6 => ?_)
        refine J_getL kc_15 13 (by decide) rfl rfl kw_6_223 dX15_next_100 g6 ?_
        refine J_lmul dX15_next_103 ?_
        refine J_aload_n 0 dX15_next_104 rv_is rfl ?_
        refine J_aload_n 0 dX15_next_105 rv_is rfl ?_
        refine J_getI kc_15 10 (by decide) rfl rfl kw_6_220 dX15_next_106 g6 ?_
        refine J.callV (n := 1) (As := [.int (xI h4 a0 10)]) kc_15 (ctX15_byteAt (lx x) (wx x) a0 (xI h4 a0 10) h4) kw_8_17 kw_8_14 kw_8_16 kp_10 kw_1_13 (by decide +kernel) rfl (by decide) (by simp [rv_cat, cat_I, cat_L, cat_S]) rfl dX15_next_109 g6 (fun v8 h7 => ?_)
        show J x _ _ 112 _ [.int v8, .long ((32) * (xL h4 a0 13)), rv (zx x) a0] h7 _
        refine J_bipush (v := nI 97) dX15_next_112 rfl ?_
        refine J_isub dX15_next_114 ?_
        refine J_iconst (v := nI 1) dX15_next_115 rfl ?_
        refine J_iadd dX15_next_116 ?_
        refine J_i2l dX15_next_117 ?_
        refine J_ladd dX15_next_118 ?_
        refine J_G (fun g9 => ?_)
        refine J_putL kc_15 13 (by decide) rfl rfl rfl (Or.inl rfl) kw_6_223 dX15_next_119 g9 ?_
        refine J_LTh (fun h10 => ?_)
        exact (jX15_next_B122 x (X15_next_B75 n) ih a0 i2 h10)
def X15_next_B26 (a0 : Nat) (h : AH) : Option (Unit × AH) :=
  G (xc h a0 = 15) <|
  LT (pI h a0 12 (xI h a0 10)) fun h2 =>
  G (xc h2 a0 = 15) <|
  LT (pI h2 a0 11 (nI 0)) fun h4 =>
  G (xc h4 a0 = 15) <|
  BN (X15_byteAt_f a0 (xI h4 a0 10) h4) fun v7 h6 =>
  if v7 = (-1) then (
    G (xc h6 a0 = 15) <|
    LT (pI h6 a0 11 (nI 1)) fun h17 =>
    some ((), h17)
  ) else (
    BN (X15_isLetter_f v7 h6) fun v9 h8 =>
    if v9 = 0 then (
      if v7 = (nI 59) then (
        G (xc h8 a0 = 15) <|
        LT (pI h8 a0 11 (nI 3)) fun h11 =>
        G (xc h11 a0 = 15) <|
        LT (pI h11 a0 10 ((xI h11 a0 10) + (nI 1))) fun h13 =>
        some ((), h13)
      ) else (
        some ((), h8)
      )
    ) else (
      G (xc h8 a0 = 15) <|
      LT (pL h8 a0 13 (lN 0)) fun h15 =>
      X15_next_B75 FU a0 (nI 0) h15
    )
  )
theorem jX15_next_B26 (x : CT) (a0 : Nat) (h : AH) : J x qX15_next ZV 26 [(0, rv (zx x) a0)] [] h (X15_next_B26 a0 h) := by
  unfold X15_next_B26
  refine J_aload_n 0 dX15_next_26 rv_is rfl ?_
  refine J_aload_n 0 dX15_next_27 rv_is rfl ?_
  refine J_G (fun g1 => ?_)
  refine J_getI kc_15 10 (by decide) rfl rfl kw_6_220 dX15_next_28 g1 ?_
  refine J_putI kc_15 12 (by decide) rfl rfl rfl rfl (Or.inl rfl) kw_6_222 dX15_next_31 g1 ?_
  refine J_LTh (fun h2 => ?_)
  refine J_aload_n 0 dX15_next_34 rv_is rfl ?_
  refine J_iconst (v := nI 0) dX15_next_35 rfl ?_
  refine J_G (fun g3 => ?_)
  refine J_putI kc_15 11 (by decide) rfl rfl rfl rfl (Or.inl rfl) kw_6_221 dX15_next_36 g3 ?_
  refine J_LTh (fun h4 => ?_)
  refine J_aload_n 0 dX15_next_39 rv_is rfl ?_
  refine J_aload_n 0 dX15_next_40 rv_is rfl ?_
  refine J_G (fun g5 => ?_)
  refine J_getI kc_15 10 (by decide) rfl rfl kw_6_220 dX15_next_41 g5 ?_
  refine J.callV (n := 1) (As := [.int (xI h4 a0 10)]) kc_15 (ctX15_byteAt (lx x) (wx x) a0 (xI h4 a0 10) h4) kw_8_17 kw_8_14 kw_8_16 kp_10 kw_1_13 (by decide +kernel) rfl (by decide) (Nat.zero_le _) rfl dX15_next_44 g5 (fun v7 h6 => ?_)
  show J x _ _ 47 _ [.int v7] h6 _
  refine J_istore_n dX15_next_47 (by decide) (SD.c (lvr := [(0, rv (zx x) a0)]) [0] rfl rfl 0 rfl rfl rv_cat) ?_
  refine J_iconst (v := nI 0) dX15_next_48 rfl ?_
  refine J_istore_n dX15_next_49 (by decide) (SD.a (lvr := [(1, .int v7), (0, rv (zx x) a0)]) [0, 1] rfl rfl) ?_
  refine J_iload_n 1 dX15_next_50 rfl ?_
  refine J_iconst (v := (-1)) dX15_next_51 rfl ?_
  refine J_icmp_ne (tgt := 63) dX15_next_52 rfl ?_ ?_
  · refine J_iload_n 1 dX15_next_63 rfl ?_
    refine J.callS (n := 1) (As := [.int v7]) (ctX15_isLetter (lx x) (wx x) v7 h6) kw_8_20 kw_8_18 kw_8_19 kw_1_13 (by decide +kernel) rfl (by decide) (Nat.zero_le _) rfl dX15_next_64 (fun v9 h8 => ?_)
    show J x _ _ 67 _ [.int v9] h8 _
    refine J_if_eq (tgt := 152) dX15_next_67 rfl ?_ ?_
    · refine J_iload_n 1 dX15_next_152 rfl ?_
      refine J_bipush (v := nI 59) dX15_next_153 rfl ?_
      refine J_icmp_ne (tgt := 173) dX15_next_155 rfl ?_ ?_
      · exact J_vret dX15_next_173
      · refine J_aload_n 2 dX15_next_158 rv_is rfl ?_
        refine J_iconst (v := nI 3) dX15_next_159 rfl ?_
        refine J_G (fun g10 => ?_)
        refine J_putI kc_15 11 (by decide) rfl rfl rfl rfl (Or.inl rfl) kw_6_221 dX15_next_160 g10 ?_
        refine J_LTh (fun h11 => ?_)
        refine J_aload_n 2 dX15_next_163 rv_is rfl ?_
        refine J_dup dX15_next_164 rv_cat ?_
        refine J_G (fun g12 => ?_)
        refine J_getI kc_15 10 (by decide) rfl rfl kw_6_220 dX15_next_165 g12 ?_
        refine J_iconst (v := nI 1) dX15_next_168 rfl ?_
        refine J_iadd dX15_next_169 ?_
        refine J_putI kc_15 10 (by decide) rfl rfl rfl rfl (Or.inl rfl) kw_6_220 dX15_next_170 g12 ?_
        refine J_LTh (fun h13 => ?_)
        exact J_vret dX15_next_173
    · refine J_aload_n 2 dX15_next_70 rv_is rfl ?_
      refine J_lconst (v := lN 0) dX15_next_71 rfl ?_
      refine J_G (fun g14 => ?_)
      refine J_putL kc_15 13 (by decide) rfl rfl rfl (Or.inl rfl) kw_6_223 dX15_next_72 g14 ?_
      refine J_LTh (fun h15 => ?_)
      exact J_sub [2, 0] rfl (jX15_next_B75 x FU a0 (nI 0) h15)
  · refine J_aload_n 2 dX15_next_55 rv_is rfl ?_
    refine J_iconst (v := nI 1) dX15_next_56 rfl ?_
    refine J_G (fun g16 => ?_)
    refine J_putI kc_15 11 (by decide) rfl rfl rfl rfl (Or.inl rfl) kw_6_221 dX15_next_57 g16 ?_
    refine J_LTh (fun h17 => ?_)
    refine J_goto (tgt := 173) dX15_next_60 rfl ?_
    exact J_vret dX15_next_173
def X15_next_B0 : Nat → Nat → AH → Option (Unit × AH)
  | 0, _, _ => none
  | n + 1, a0, h =>
    G (xc h a0 = 15) <|
    BN (X15_byteAt_f a0 (xI h a0 10) h) fun v3 h2 =>
    if v3 = (nI 32) then (
      G (xc h2 a0 = 15) <|
      LT (pI h2 a0 10 ((xI h2 a0 10) + (nI 1))) fun h5 =>
      X15_next_B0 n a0 h5
    ) else (
      X15_next_B26 a0 h2
    )
theorem jX15_next_B0 (x : CT) : ∀ (n : Nat) (a0 : Nat) (h : AH), J x qX15_next ZV 0 [(0, rv (zx x) a0)] [] h (X15_next_B0 n a0 h) := by
  intro n
  induction n with
  | zero => intro a0 h; exact J_none
  | succ n ih =>
    intro a0 h
    unfold X15_next_B0
    refine J_aload_n 0 dX15_next_0 rv_is rfl ?_
    refine J_aload_n 0 dX15_next_1 rv_is rfl ?_
    refine J_G (fun g1 => ?_)
    refine J_getI kc_15 10 (by decide) rfl rfl kw_6_220 dX15_next_2 g1 ?_
    refine J.callV (n := 1) (As := [.int (xI h a0 10)]) kc_15 (ctX15_byteAt (lx x) (wx x) a0 (xI h a0 10) h) kw_8_17 kw_8_14 kw_8_16 kp_10 kw_1_13 (by decide +kernel) rfl (by decide) (Nat.zero_le _) rfl dX15_next_5 g1 (fun v3 h2 => ?_)
    show J x _ _ 8 _ [.int v3] h2 _
    refine J_bipush (v := nI 32) dX15_next_8 rfl ?_
    refine J_icmp_ne (tgt := 26) dX15_next_10 rfl ?_ ?_
    · exact (jX15_next_B26 x a0 h2)
    · refine J_aload_n 0 dX15_next_13 rv_is rfl ?_
      refine J_dup dX15_next_14 rv_cat ?_
      refine J_G (fun g4 => ?_)
      refine J_getI kc_15 10 (by decide) rfl rfl kw_6_220 dX15_next_15 g4 ?_
      refine J_iconst (v := nI 1) dX15_next_18 rfl ?_
      refine J_iadd dX15_next_19 ?_
      refine J_putI kc_15 10 (by decide) rfl rfl rfl rfl (Or.inl rfl) kw_6_220 dX15_next_20 g4 ?_
      refine J_LTh (fun h5 => ?_)
      refine J_goto (tgt := 0) dX15_next_23 rfl ?_
      exact (ih a0 h5)
def X15_next_f (a0 : Nat) (h : AH) : Option (Unit × AH) :=
  X15_next_B0 FU a0 h
theorem jX15_next (x : CT) (a0 : Nat) (h : AH) : J x qX15_next ZV 0 [(0, rv (zx x) a0)] [] h (X15_next_f a0 h) := by
  unfold X15_next_f
  exact (jX15_next_B0 x FU a0 h)
theorem ctX15_next (l : Launch) (w : WT) (a0 : Nat) (h : AH) : CM l w yX15_next cX15_next 3 none 1 21 KV [rv (w.1) a0] h (X15_next_f a0 h) :=
  CM.of (by decide +kernel) (by simp [lg_sl, rv_cat, cat_I, cat_L, cat_S]) (lv := [(0, rv (w.1) a0)]) (by simp [lv_args, rv_cat, cat_I, cat_L, cat_S]) (fun x hx => by subst hx; exact jX15_next x a0 h)
-- FallTrialsModel.isWord(Ljava/lang/String;)Z
abbrev qX15_isWord : MT := (cX15_isWord, RX15, "isWord", (some .boolean), 5, 108, 2)
def X15_isWord_f (a0 : Nat) (s1 : Nat) (h : AH) : Option (Int32 × AH) :=
  G (xc h a0 = 15) <|
  if (xI h a0 11) = (nI 2) then (
    G (xc h a0 = 15) <|
    BN (X15_wordOf_f s1 h) fun w4 h3 =>
    if (lg_cmp (xL h a0 13) w4) = 0 then (
      some (nI 1, h3)
    ) else (
      some (nI 0, h3)
    )
  ) else (
    some (nI 0, h)
  )
theorem jX15_isWord (x : CT) (a0 : Nat) (s1 : Nat) (h : AH) : J x qX15_isWord ZI 0 [(0, rv (zx x) a0), (1, sv (wx x) s1)] [] h (X15_isWord_f a0 s1 h) := by
  unfold X15_isWord_f
  refine J_aload_n 0 dX15_isWord_0 rv_is rfl ?_
  refine J_G (fun g1 => ?_)
  refine J_getI kc_15 11 (by decide) rfl rfl kw_6_221 dX15_isWord_1 g1 ?_
  refine J_iconst (v := nI 2) dX15_isWord_4 rfl ?_
  refine J_icmp_ne (tgt := 24) dX15_isWord_5 rfl ?_ ?_
  · refine J_iconst (v := nI 0) dX15_isWord_24 rfl ?_
    exact J_zret dX15_isWord_25 (by decide)
  · refine J_aload_n 0 dX15_isWord_8 rv_is rfl ?_
    refine J_G (fun g2 => ?_)
    refine J_getL kc_15 13 (by decide) rfl rfl kw_6_223 dX15_isWord_9 g2 ?_
    refine J_aload_n 1 dX15_isWord_12 sv_is rfl ?_
    refine J.callS (n := 1) (As := [sv (wx x) s1]) (ctX15_wordOf (lx x) (wx x) s1 h) kw_8_33 kw_8_31 kw_8_32 kw_1_13 (by decide +kernel) rfl (by decide) (by simp [rv_cat, cat_I, cat_L, cat_S]) rfl dX15_isWord_13 (fun w4 h3 => ?_)
    show J x _ _ 16 _ [.long w4, .long (xL h a0 13)] h3 _
    refine J_lcmp dX15_isWord_16 ?_
    refine J_if_ne (tgt := 24) dX15_isWord_17 rfl ?_ ?_
    · refine J_iconst (v := nI 0) dX15_isWord_24 rfl ?_
      exact J_zret dX15_isWord_25 (by decide)
    · refine J_iconst (v := nI 1) dX15_isWord_20 rfl ?_
      refine J_goto (tgt := 25) dX15_isWord_21 rfl ?_
      exact J_zret dX15_isWord_25 (by decide)
theorem ctX15_isWord (l : Launch) (w : WT) (a0 : Nat) (s1 : Nat) (h : AH) : CM l w yX15_isWord cX15_isWord 2 (some .boolean) 5 108 KI [rv (w.1) a0, sv (w) s1] h (X15_isWord_f a0 s1 h) :=
  CM.of (by decide +kernel) (by simp [lg_sl, rv_cat, cat_I, cat_L, cat_S]) (lv := [(0, rv (w.1) a0), (1, sv (w) s1)]) (by simp [lv_args, rv_cat, cat_I, cat_L, cat_S]) (fun x hx => by subst hx; exact jX15_isWord x a0 s1 h)
-- FallTrialsModel.isName()Z
abbrev qX15_isName : MT := (cX15_isName, RX15, "isName", (some .boolean), 6, 129, 1)
def X15_isName_f (a0 : Nat) (h : AH) : Option (Int32 × AH) :=
  G (xc h a0 = 15) <|
  if (xI h a0 11) = (nI 2) then (
    G (xc h a0 = 15) <|
    BN (X15_isWord_f a0 6 h) fun v4 h3 =>
    if v4 = 0 then (
      G (xc h3 a0 = 15) <|
      BN (X15_isWord_f a0 13 h3) fun v7 h6 =>
      if v7 = 0 then (
        G (xc h6 a0 = 15) <|
        BN (X15_isWord_f a0 2 h6) fun v10 h9 =>
        if v10 = 0 then (
          G (xc h9 a0 = 15) <|
          BN (X15_isWord_f a0 14 h9) fun v13 h12 =>
          if v13 = 0 then (
            G (xc h12 a0 = 15) <|
            BN (X15_isWord_f a0 15 h12) fun v16 h15 =>
            if v16 = 0 then (
              G (xc h15 a0 = 15) <|
              BN (X15_isWord_f a0 12 h15) fun v19 h18 =>
              if v19 = 0 then (
                G (xc h18 a0 = 15) <|
                BN (X15_isWord_f a0 9 h18) fun v22 h21 =>
                if v22 = 0 then (
                  G (xc h21 a0 = 15) <|
                  BN (X15_isWord_f a0 0 h21) fun v25 h24 =>
                  if v25 = 0 then (
                    G (xc h24 a0 = 15) <|
                    BN (X15_isWord_f a0 11 h24) fun v28 h27 =>
                    if v28 = 0 then (
                      G (xc h27 a0 = 15) <|
                      BN (X15_isWord_f a0 1 h27) fun v31 h30 =>
                      if v31 = 0 then (
                        G (xc h30 a0 = 15) <|
                        BN (X15_isWord_f a0 4 h30) fun v34 h33 =>
                        if v34 = 0 then (
                          some (nI 1, h33)
                        ) else (
                          some (nI 0, h33)
                        )
                      ) else (
                        some (nI 0, h30)
                      )
                    ) else (
                      some (nI 0, h27)
                    )
                  ) else (
                    some (nI 0, h24)
                  )
                ) else (
                  some (nI 0, h21)
                )
              ) else (
                some (nI 0, h18)
              )
            ) else (
              some (nI 0, h15)
            )
          ) else (
            some (nI 0, h12)
          )
        ) else (
          some (nI 0, h9)
        )
      ) else (
        some (nI 0, h6)
      )
    ) else (
      some (nI 0, h3)
    )
  ) else (
    some (nI 0, h)
  )
theorem jX15_isName (x : CT) (a0 : Nat) (h : AH) : J x qX15_isName ZI 0 [(0, rv (zx x) a0)] [] h (X15_isName_f a0 h) := by
  unfold X15_isName_f
  refine J_aload_n 0 dX15_isName_0 rv_is rfl ?_
  refine J_G (fun g1 => ?_)
  refine J_getI kc_15 11 (by decide) rfl rfl kw_6_221 dX15_isName_1 g1 ?_
  refine J_iconst (v := nI 2) dX15_isName_4 rfl ?_
  refine J_icmp_ne (tgt := 111) dX15_isName_5 rfl ?_ ?_
  · refine J_iconst (v := nI 0) dX15_isName_111 rfl ?_
    exact J_zret dX15_isName_112 (by decide)
  · refine J_aload_n 0 dX15_isName_8 rv_is rfl ?_
    refine J_ldcS (i := 6) (tx := "machine") (index := 158) (by decide +kernel) dX15_isName_9 ?_
    refine J_G (fun g2 => ?_)
    refine J.callV (n := 1) (As := [sv (wx x) 6]) kc_15 (ctX15_isWord (lx x) (wx x) a0 6 h) kw_8_30 kw_8_27 kw_8_29 kp_12 kw_1_13 (by decide +kernel) rfl (by decide) (Nat.zero_le _) rfl dX15_isName_11 g2 (fun v4 h3 => ?_)
    show J x _ _ 14 _ [.int v4] h3 _
    refine J_if_ne (tgt := 111) dX15_isName_14 rfl ?_ ?_
    · refine J_iconst (v := nI 0) dX15_isName_111 rfl ?_
      exact J_zret dX15_isName_112 (by decide)
    · refine J_aload_n 0 dX15_isName_17 rv_is rfl ?_
      refine J_ldcS (i := 13) (tx := "row") (index := 164) (by decide +kernel) dX15_isName_18 ?_
      refine J_G (fun g5 => ?_)
      refine J.callV (n := 1) (As := [sv (wx x) 13]) kc_15 (ctX15_isWord (lx x) (wx x) a0 13 h3) kw_8_30 kw_8_27 kw_8_29 kp_12 kw_1_13 (by decide +kernel) rfl (by decide) (Nat.zero_le _) rfl dX15_isName_20 g5 (fun v7 h6 => ?_)
      show J x _ _ 23 _ [.int v7] h6 _
      refine J_if_ne (tgt := 111) dX15_isName_23 rfl ?_ ?_
      · refine J_iconst (v := nI 0) dX15_isName_111 rfl ?_
        exact J_zret dX15_isName_112 (by decide)
      · refine J_aload_n 0 dX15_isName_26 rv_is rfl ?_
        refine J_ldcS (i := 2) (tx := "fact") (index := 166) (by decide +kernel) dX15_isName_27 ?_
        refine J_G (fun g8 => ?_)
        refine J.callV (n := 1) (As := [sv (wx x) 2]) kc_15 (ctX15_isWord (lx x) (wx x) a0 2 h6) kw_8_30 kw_8_27 kw_8_29 kp_12 kw_1_13 (by decide +kernel) rfl (by decide) (Nat.zero_le _) rfl dX15_isName_29 g8 (fun v10 h9 => ?_)
        show J x _ _ 32 _ [.int v10] h9 _
        refine J_if_ne (tgt := 111) dX15_isName_32 rfl ?_ ?_
        · refine J_iconst (v := nI 0) dX15_isName_111 rfl ?_
          exact J_zret dX15_isName_112 (by decide)
        · refine J_aload_n 0 dX15_isName_35 rv_is rfl ?_
          refine J_ldcS (i := 14) (tx := "rule") (index := 168) (by decide +kernel) dX15_isName_36 ?_
          refine J_G (fun g11 => ?_)
          refine J.callV (n := 1) (As := [sv (wx x) 14]) kc_15 (ctX15_isWord (lx x) (wx x) a0 14 h9) kw_8_30 kw_8_27 kw_8_29 kp_12 kw_1_13 (by decide +kernel) rfl (by decide) (Nat.zero_le _) rfl dX15_isName_38 g11 (fun v13 h12 => ?_)
          show J x _ _ 41 _ [.int v13] h12 _
          refine J_if_ne (tgt := 111) dX15_isName_41 rfl ?_ ?_
          · refine J_iconst (v := nI 0) dX15_isName_111 rfl ?_
            exact J_zret dX15_isName_112 (by decide)
          · refine J_aload_n 0 dX15_isName_44 rv_is rfl ?_
            refine J_ldcS (i := 15) (tx := "send") (index := 170) (by decide +kernel) dX15_isName_45 ?_
            refine J_G (fun g14 => ?_)
            refine J.callV (n := 1) (As := [sv (wx x) 15]) kc_15 (ctX15_isWord (lx x) (wx x) a0 15 h12) kw_8_30 kw_8_27 kw_8_29 kp_12 kw_1_13 (by decide +kernel) rfl (by decide) (Nat.zero_le _) rfl dX15_isName_47 g14 (fun v16 h15 => ?_)
            show J x _ _ 50 _ [.int v16] h15 _
            refine J_if_ne (tgt := 111) dX15_isName_50 rfl ?_ ?_
            · refine J_iconst (v := nI 0) dX15_isName_111 rfl ?_
              exact J_zret dX15_isName_112 (by decide)
            · refine J_aload_n 0 dX15_isName_53 rv_is rfl ?_
              refine J_ldcS (i := 12) (tx := "promise") (index := 172) (by decide +kernel) dX15_isName_54 ?_
              refine J_G (fun g17 => ?_)
              refine J.callV (n := 1) (As := [sv (wx x) 12]) kc_15 (ctX15_isWord (lx x) (wx x) a0 12 h15) kw_8_30 kw_8_27 kw_8_29 kp_12 kw_1_13 (by decide +kernel) rfl (by decide) (Nat.zero_le _) rfl dX15_isName_56 g17 (fun v19 h18 => ?_)
              show J x _ _ 59 _ [.int v19] h18 _
              refine J_if_ne (tgt := 111) dX15_isName_59 rfl ?_ ?_
              · refine J_iconst (v := nI 0) dX15_isName_111 rfl ?_
                exact J_zret dX15_isName_112 (by decide)
              · refine J_aload_n 0 dX15_isName_62 rv_is rfl ?_
                refine J_ldcS (i := 9) (tx := "not") (index := 174) (by decide +kernel) dX15_isName_63 ?_
                refine J_G (fun g20 => ?_)
                refine J.callV (n := 1) (As := [sv (wx x) 9]) kc_15 (ctX15_isWord (lx x) (wx x) a0 9 h18) kw_8_30 kw_8_27 kw_8_29 kp_12 kw_1_13 (by decide +kernel) rfl (by decide) (Nat.zero_le _) rfl dX15_isName_65 g20 (fun v22 h21 => ?_)
                show J x _ _ 68 _ [.int v22] h21 _
                refine J_if_ne (tgt := 111) dX15_isName_68 rfl ?_ ?_
                · refine J_iconst (v := nI 0) dX15_isName_111 rfl ?_
                  exact J_zret dX15_isName_112 (by decide)
                · refine J_aload_n 0 dX15_isName_71 rv_is rfl ?_
                  refine J_ldcS (i := 0) (tx := "and") (index := 176) (by decide +kernel) dX15_isName_72 ?_
                  refine J_G (fun g23 => ?_)
                  refine J.callV (n := 1) (As := [sv (wx x) 0]) kc_15 (ctX15_isWord (lx x) (wx x) a0 0 h21) kw_8_30 kw_8_27 kw_8_29 kp_12 kw_1_13 (by decide +kernel) rfl (by decide) (Nat.zero_le _) rfl dX15_isName_74 g23 (fun v25 h24 => ?_)
                  show J x _ _ 77 _ [.int v25] h24 _
                  refine J_if_ne (tgt := 111) dX15_isName_77 rfl ?_ ?_
                  · refine J_iconst (v := nI 0) dX15_isName_111 rfl ?_
                    exact J_zret dX15_isName_112 (by decide)
                  · refine J_aload_n 0 dX15_isName_80 rv_is rfl ?_
                    refine J_ldcS (i := 11) (tx := "or") (index := 178) (by decide +kernel) dX15_isName_81 ?_
                    refine J_G (fun g26 => ?_)
                    refine J.callV (n := 1) (As := [sv (wx x) 11]) kc_15 (ctX15_isWord (lx x) (wx x) a0 11 h24) kw_8_30 kw_8_27 kw_8_29 kp_12 kw_1_13 (by decide +kernel) rfl (by decide) (Nat.zero_le _) rfl dX15_isName_83 g26 (fun v28 h27 => ?_)
                    show J x _ _ 86 _ [.int v28] h27 _
                    refine J_if_ne (tgt := 111) dX15_isName_86 rfl ?_ ?_
                    · refine J_iconst (v := nI 0) dX15_isName_111 rfl ?_
                      exact J_zret dX15_isName_112 (by decide)
                    · refine J_aload_n 0 dX15_isName_89 rv_is rfl ?_
                      refine J_ldcS (i := 1) (tx := "at") (index := 180) (by decide +kernel) dX15_isName_90 ?_
                      refine J_G (fun g29 => ?_)
                      refine J.callV (n := 1) (As := [sv (wx x) 1]) kc_15 (ctX15_isWord (lx x) (wx x) a0 1 h27) kw_8_30 kw_8_27 kw_8_29 kp_12 kw_1_13 (by decide +kernel) rfl (by decide) (Nat.zero_le _) rfl dX15_isName_92 g29 (fun v31 h30 => ?_)
                      show J x _ _ 95 _ [.int v31] h30 _
                      refine J_if_ne (tgt := 111) dX15_isName_95 rfl ?_ ?_
                      · refine J_iconst (v := nI 0) dX15_isName_111 rfl ?_
                        exact J_zret dX15_isName_112 (by decide)
                      · refine J_aload_n 0 dX15_isName_98 rv_is rfl ?_
                        refine J_ldcS (i := 4) (tx := "if") (index := 181) (by decide +kernel) dX15_isName_99 ?_
                        refine J_G (fun g32 => ?_)
                        refine J.callV (n := 1) (As := [sv (wx x) 4]) kc_15 (ctX15_isWord (lx x) (wx x) a0 4 h30) kw_8_30 kw_8_27 kw_8_29 kp_12 kw_1_13 (by decide +kernel) rfl (by decide) (Nat.zero_le _) rfl dX15_isName_101 g32 (fun v34 h33 => ?_)
                        show J x _ _ 104 _ [.int v34] h33 _
                        refine J_if_ne (tgt := 111) dX15_isName_104 rfl ?_ ?_
                        · refine J_iconst (v := nI 0) dX15_isName_111 rfl ?_
                          exact J_zret dX15_isName_112 (by decide)
                        · refine J_iconst (v := nI 1) dX15_isName_107 rfl ?_
                          refine J_goto (tgt := 112) dX15_isName_108 rfl ?_
                          exact J_zret dX15_isName_112 (by decide)
theorem ctX15_isName (l : Launch) (w : WT) (a0 : Nat) (h : AH) : CM l w yX15_isName cX15_isName 1 (some .boolean) 6 129 KI [rv (w.1) a0] h (X15_isName_f a0 h) :=
  CM.of (by decide +kernel) (by simp [lg_sl, rv_cat, cat_I, cat_L, cat_S]) (lv := [(0, rv (w.1) a0)]) (by simp [lv_args, rv_cat, cat_I, cat_L, cat_S]) (fun x hx => by subst hx; exact jX15_isName x a0 h)
-- FallTrialsModel.readTold(Z)I
abbrev qX15_readTold : MT := (cX15_readTold, RX15, "readTold", (some .int), 7, 149, 3)
def X15_readTold_B43 (a0 : Nat) (h : AH) : Option ((Int32 ⊕ Nat) × AH) :=
  G (xc h a0 = 15) <|
  BN (X15_stop_f a0 (nI 2) h) fun r3 h2 =>
  G (xc h2 r3 = 14) <|
  some (.inr r3, h2)
theorem jX15_readTold_B43 (x : CT) (a0 : Nat) (h : AH) : J x qX15_readTold YI 43 [(0, rv (zx x) a0)] [] h (X15_readTold_B43 a0 h) := by
  unfold X15_readTold_B43
  refine J_aload_n 0 dX15_readTold_43 rv_is rfl ?_
  refine J_iconst (v := nI 2) dX15_readTold_44 rfl ?_
  refine J_G (fun g1 => ?_)
  refine J.callV (n := 1) (As := [.int (nI 2)]) kc_15 (ctX15_stop (lx x) (wx x) a0 (nI 2) h) kw_8_44 kw_8_41 kw_8_43 kp_14 kw_1_13 (by decide +kernel) rfl (by decide) (Nat.zero_le _) rfl dX15_readTold_45 g1 (fun r3 h2 => ?_)
  show J x _ _ 48 _ [rv (zx x) r3] h2 _
  refine J_G (fun g4 => ?_)
  exact J_athrow (by decide +kernel) dX15_readTold_48 g4
def X15_readTold_f (a0 : Nat) (i1 : Int32) (h : AH) : Option ((Int32 ⊕ Nat) × AH) :=
  G (xc h a0 = 15) <|
  BN (X15_isName_f a0 h) fun v3 h2 =>
  if v3 = 0 then (
    G (xc h2 a0 = 15) <|
    BN (X15_stop_f a0 (nI 1) h2) fun r20 h19 =>
    G (xc h19 r20 = 14) <|
    some (.inr r20, h19)
  ) else (
    G (xc h2 a0 = 15) <|
    G (xc h2 (xR h2 a0 5) = 12) <|
    BN (X12_find_f (xR h2 a0 5) (xL h2 a0 13) h2) fun v7 h6 =>
    if v7 = (-1) then (
      X15_readTold_B43 a0 h6
    ) else (
      G (xc h6 a0 = 15) <|
      G (xc h6 (xR h6 a0 5) = 12) <|
      G (xc h6 (xR h6 (xR h6 a0 5) 9) = 19) <|
      G (gx v7 (xz h6 (xR h6 (xR h6 a0 5) 9))) <|
      if (xI h6 (xR h6 (xR h6 a0 5) 9) v7.toNatClampNeg) = i1 then (
        G (xc h6 a0 = 15) <|
        BN (X15_next_f a0 h6) fun _ h13 =>
        G (xc h13 a0 = 15) <|
        G (xc h13 (xR h13 a0 5) = 12) <|
        G (xc h13 (xR h13 (xR h13 a0 5) 10) = 16) <|
        G (gx v7 (xz h13 (xR h13 (xR h13 a0 5) 10))) <|
        some (.inl (xI h13 (xR h13 (xR h13 a0 5) 10) v7.toNatClampNeg), h13)
      ) else (
        X15_readTold_B43 a0 h6
      )
    )
  )
theorem jX15_readTold (x : CT) (a0 : Nat) (i1 : Int32) (h : AH) : J x qX15_readTold YI 0 [(0, rv (zx x) a0), (1, .int i1)] [] h (X15_readTold_f a0 i1 h) := by
  unfold X15_readTold_f
  refine J_aload_n 0 dX15_readTold_0 rv_is rfl ?_
  refine J_G (fun g1 => ?_)
  refine J.callV (n := 0) (As := []) kc_15 (ctX15_isName (lx x) (wx x) a0 h) kw_8_48 kw_8_45 kw_8_47 kp_15 kw_1_13 (by decide +kernel) rfl (by decide) (Nat.zero_le _) rfl dX15_readTold_1 g1 (fun v3 h2 => ?_)
  show J x _ _ 4 _ [.int v3] h2 _
  refine J_if_ne (tgt := 13) dX15_readTold_4 rfl ?_ ?_
  · refine J_aload_n 0 dX15_readTold_13 rv_is rfl ?_
    refine J_G (fun g4 => ?_)
    refine J_getR kc_15 5 (by decide) rfl rfl kw_6_215 dX15_readTold_14 g4 ?_
    refine J_aload_n 0 dX15_readTold_17 rv_is rfl ?_
    refine J_getL kc_15 13 (by decide) rfl rfl kw_6_223 dX15_readTold_18 g4 ?_
    refine J_G (fun g5 => ?_)
    refine J.callV (n := 1) (As := [.long (xL h2 a0 13)]) kc_12 (ctX12_find (lx x) (wx x) (xR h2 a0 5) (xL h2 a0 13) h2) kw_8_61 kw_8_58 kw_8_59 kw_8_60 kw_1_24 (by decide +kernel) rfl (by decide) (Nat.zero_le _) rfl dX15_readTold_21 g5 (fun v7 h6 => ?_)
    show J x _ _ 24 _ [.int v7] h6 _
    refine J_istore_n dX15_readTold_24 (by decide) (SD.a (lvr := [(0, rv (zx x) a0), (1, .int i1)]) [0, 1] rfl rfl) ?_
    refine J_iload_n 0 dX15_readTold_25 rfl ?_
    refine J_iconst (v := (-1)) dX15_readTold_26 rfl ?_
    refine J_icmp_eq (tgt := 43) dX15_readTold_27 rfl ?_ ?_
    · exact J_sub [1] rfl (jX15_readTold_B43 x a0 h6)
    · refine J_aload_n 1 dX15_readTold_30 rv_is rfl ?_
      refine J_G (fun g8 => ?_)
      refine J_getR kc_15 5 (by decide) rfl rfl kw_6_215 dX15_readTold_31 g8 ?_
      refine J_G (fun g9 => ?_)
      refine J_getRN kc_12 9 (by decide) rfl rfl kn_33 dX15_readTold_34 g9 ?_
      refine J_iload_n 0 dX15_readTold_37 rfl ?_
      refine J_G (fun g10 => ?_)
      refine J_G (fun g11 => ?_)
      refine J_zald dX15_readTold_38 g10 g11 ?_
      refine J_iload_n 2 dX15_readTold_39 rfl ?_
      refine J_icmp_eq (tgt := 49) dX15_readTold_40 rfl ?_ ?_
      · refine J_aload_n 1 dX15_readTold_49 rv_is rfl ?_
        refine J_G (fun g12 => ?_)
        refine J.callV (n := 0) (As := []) kc_15 (ctX15_next (lx x) (wx x) a0 h6) kw_8_13 kw_8_10 kw_8_12 kp_9 kw_1_13 (by decide +kernel) rfl (by decide) (Nat.zero_le _) rfl dX15_readTold_50 g12 (fun _ h13 => ?_)
        show J x _ _ 53 _ [] h13 _
        refine J_aload_n 1 dX15_readTold_53 rv_is rfl ?_
        refine J_G (fun g14 => ?_)
        refine J_getR kc_15 5 (by decide) rfl rfl kw_6_215 dX15_readTold_54 g14 ?_
        refine J_G (fun g15 => ?_)
        refine J_getRN kc_12 10 (by decide) rfl rfl kn_34 dX15_readTold_57 g15 ?_
        refine J_iload_n 0 dX15_readTold_60 rfl ?_
        refine J_G (fun g16 => ?_)
        refine J_G (fun g17 => ?_)
        refine J_iald dX15_readTold_61 g16 g17 ?_
        exact J_iretY dX15_readTold_62
      · exact J_sub [1] rfl (jX15_readTold_B43 x a0 h6)
  · refine J_aload_n 0 dX15_readTold_7 rv_is rfl ?_
    refine J_iconst (v := nI 1) dX15_readTold_8 rfl ?_
    refine J_G (fun g18 => ?_)
    refine J.callV (n := 1) (As := [.int (nI 1)]) kc_15 (ctX15_stop (lx x) (wx x) a0 (nI 1) h2) kw_8_44 kw_8_41 kw_8_43 kp_14 kw_1_13 (by decide +kernel) rfl (by decide) (Nat.zero_le _) rfl dX15_readTold_9 g18 (fun r20 h19 => ?_)
    show J x _ _ 12 _ [rv (zx x) r20] h19 _
    refine J_G (fun g21 => ?_)
    exact J_athrow (by decide +kernel) dX15_readTold_12 g21
theorem ctX15_readTold (l : Launch) (w : WT) (a0 : Nat) (i1 : Int32) (h : AH) : CX l w yX15_readTold cX15_readTold 3 (some .int) 7 149 KI [rv (w.1) a0, .int i1] h (X15_readTold_f a0 i1 h) :=
  CX.of (by decide +kernel) (by simp [lg_sl, rv_cat, cat_I, cat_L, cat_S]) (lv := [(0, rv (w.1) a0), (1, .int i1)]) (by simp [lv_args, rv_cat, cat_I, cat_L, cat_S]) (fun x hx => by subst hx; exact jX15_readTold x a0 i1 h)
-- FallTrialsModel.needWord(Ljava/lang/String;)V
abbrev qX15_needWord : MT := (cX15_needWord, RX15, "needWord", none, 6, 129, 2)
def X15_needWord_f (a0 : Nat) (s1 : Nat) (h : AH) : Option ((Unit ⊕ Nat) × AH) :=
  G (xc h a0 = 15) <|
  BN (X15_isWord_f a0 s1 h) fun v3 h2 =>
  if v3 = 0 then (
    G (xc h2 a0 = 15) <|
    BN (X15_stop_f a0 (nI 1) h2) fun r8 h7 =>
    G (xc h7 r8 = 14) <|
    some (.inr r8, h7)
  ) else (
    G (xc h2 a0 = 15) <|
    BN (X15_next_f a0 h2) fun _ h5 =>
    some (.inl (), h5)
  )
theorem jX15_needWord (x : CT) (a0 : Nat) (s1 : Nat) (h : AH) : J x qX15_needWord YV 0 [(0, rv (zx x) a0), (1, sv (wx x) s1)] [] h (X15_needWord_f a0 s1 h) := by
  unfold X15_needWord_f
  refine J_aload_n 0 dX15_needWord_0 rv_is rfl ?_
  refine J_aload_n 1 dX15_needWord_1 sv_is rfl ?_
  refine J_G (fun g1 => ?_)
  refine J.callV (n := 1) (As := [sv (wx x) s1]) kc_15 (ctX15_isWord (lx x) (wx x) a0 s1 h) kw_8_30 kw_8_27 kw_8_29 kp_12 kw_1_13 (by decide +kernel) rfl (by decide) (Nat.zero_le _) rfl dX15_needWord_2 g1 (fun v3 h2 => ?_)
  show J x _ _ 5 _ [.int v3] h2 _
  refine J_if_ne (tgt := 14) dX15_needWord_5 rfl ?_ ?_
  · refine J_aload_n 0 dX15_needWord_14 rv_is rfl ?_
    refine J_G (fun g4 => ?_)
    refine J.callV (n := 0) (As := []) kc_15 (ctX15_next (lx x) (wx x) a0 h2) kw_8_13 kw_8_10 kw_8_12 kp_9 kw_1_13 (by decide +kernel) rfl (by decide) (Nat.zero_le _) rfl dX15_needWord_15 g4 (fun _ h5 => ?_)
    show J x _ _ 18 _ [] h5 _
    exact J_vretY dX15_needWord_18
  · refine J_aload_n 0 dX15_needWord_8 rv_is rfl ?_
    refine J_iconst (v := nI 1) dX15_needWord_9 rfl ?_
    refine J_G (fun g6 => ?_)
    refine J.callV (n := 1) (As := [.int (nI 1)]) kc_15 (ctX15_stop (lx x) (wx x) a0 (nI 1) h2) kw_8_44 kw_8_41 kw_8_43 kp_14 kw_1_13 (by decide +kernel) rfl (by decide) (Nat.zero_le _) rfl dX15_needWord_10 g6 (fun r8 h7 => ?_)
    show J x _ _ 13 _ [rv (zx x) r8] h7 _
    refine J_G (fun g9 => ?_)
    exact J_athrow (by decide +kernel) dX15_needWord_13 g9
theorem ctX15_needWord (l : Launch) (w : WT) (a0 : Nat) (s1 : Nat) (h : AH) : CX l w yX15_needWord cX15_needWord 2 none 6 129 KV [rv (w.1) a0, sv (w) s1] h (X15_needWord_f a0 s1 h) :=
  CX.of (by decide +kernel) (by simp [lg_sl, rv_cat, cat_I, cat_L, cat_S]) (lv := [(0, rv (w.1) a0), (1, sv (w) s1)]) (by simp [lv_args, rv_cat, cat_I, cat_L, cat_S]) (fun x hx => by subst hx; exact jX15_needWord x a0 s1 h)
